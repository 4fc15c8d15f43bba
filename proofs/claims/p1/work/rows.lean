section
-- ===== PART A: goes FIRST, ahead of the names: the tables' words, and 'selects' of the private methods out of them =====
/-- a private method of a class that the tables say can be made, by its rows of tables_1 -/
def lw_okq (q : MethodName × Nat) : Prop := (q.1.cls ≠ "java/lang/invoke/MethodHandle" ∧ q.1.cls ≠ "java/lang/invoke/VarHandle") ∧ Cond.instantiable q.1.cls q.2 ∈ tables_1 ∧ Cond.privateMethod q.1 ∈ tables_1 ∧ Cond.instanceMethod q.1 ∈ tables_1
theorem lw_p0 : lw_okq (⟨"OathTill", "deny", "(I)Z"⟩, 18) := ⟨⟨by decide +kernel, by decide +kernel⟩, List.mem_of_getElem? (i := 22) (by decide +kernel), List.mem_of_getElem? (i := 672) (by decide +kernel), List.mem_of_getElem? (i := 673) (by decide +kernel)⟩
theorem lw_p1 : lw_okq (⟨"OathTill", "agree", "()Z"⟩, 18) := ⟨⟨by decide +kernel, by decide +kernel⟩, List.mem_of_getElem? (i := 22) (by decide +kernel), List.mem_of_getElem? (i := 680) (by decide +kernel), List.mem_of_getElem? (i := 681) (by decide +kernel)⟩
theorem lw_p2 : lw_okq (⟨"OathTill", "placeTrouble", "(II)I"⟩, 18) := ⟨⟨by decide +kernel, by decide +kernel⟩, List.mem_of_getElem? (i := 22) (by decide +kernel), List.mem_of_getElem? (i := 688) (by decide +kernel), List.mem_of_getElem? (i := 689) (by decide +kernel)⟩
theorem lw_p3 : lw_okq (⟨"OathTill", "refuse", "(I)I"⟩, 18) := ⟨⟨by decide +kernel, by decide +kernel⟩, List.mem_of_getElem? (i := 22) (by decide +kernel), List.mem_of_getElem? (i := 700) (by decide +kernel), List.mem_of_getElem? (i := 701) (by decide +kernel)⟩
theorem lw_p4 : lw_okq (⟨"OathTill", "pourTrouble", "(IIIII)I"⟩, 18) := ⟨⟨by decide +kernel, by decide +kernel⟩, List.mem_of_getElem? (i := 22) (by decide +kernel), List.mem_of_getElem? (i := 708) (by decide +kernel), List.mem_of_getElem? (i := 709) (by decide +kernel)⟩
theorem lw_p5 : lw_okq (⟨"OathTill", "append", "(I)V"⟩, 18) := ⟨⟨by decide +kernel, by decide +kernel⟩, List.mem_of_getElem? (i := 22) (by decide +kernel), List.mem_of_getElem? (i := 719) (by decide +kernel), List.mem_of_getElem? (i := 720) (by decide +kernel)⟩
theorem lw_p6 : lw_okq (⟨"OathTill$Reader", "takePart", "()Z"⟩, 7) := ⟨⟨by decide +kernel, by decide +kernel⟩, List.mem_of_getElem? (i := 388) (by decide +kernel), List.mem_of_getElem? (i := 750) (by decide +kernel), List.mem_of_getElem? (i := 751) (by decide +kernel)⟩
theorem lw_p7 : lw_okq (⟨"OathTill$Reader", "takePlace", "()Z"⟩, 7) := ⟨⟨by decide +kernel, by decide +kernel⟩, List.mem_of_getElem? (i := 388) (by decide +kernel), List.mem_of_getElem? (i := 754) (by decide +kernel), List.mem_of_getElem? (i := 755) (by decide +kernel)⟩
theorem lw_p8 : lw_okq (⟨"OathTill$Reader", "isNewName", "()Z"⟩, 7) := ⟨⟨by decide +kernel, by decide +kernel⟩, List.mem_of_getElem? (i := 388) (by decide +kernel), List.mem_of_getElem? (i := 763) (by decide +kernel), List.mem_of_getElem? (i := 764) (by decide +kernel)⟩
theorem lw_p9 : lw_okq (⟨"OathTill$Reader", "takePerson", "()Z"⟩, 7) := ⟨⟨by decide +kernel, by decide +kernel⟩, List.mem_of_getElem? (i := 388) (by decide +kernel), List.mem_of_getElem? (i := 788) (by decide +kernel), List.mem_of_getElem? (i := 789) (by decide +kernel)⟩
theorem lw_p10 : lw_okq (⟨"OathTill$Reader", "takeTwins", "()Z"⟩, 7) := ⟨⟨by decide +kernel, by decide +kernel⟩, List.mem_of_getElem? (i := 388) (by decide +kernel), List.mem_of_getElem? (i := 800) (by decide +kernel), List.mem_of_getElem? (i := 801) (by decide +kernel)⟩
theorem lw_p11 : lw_okq (⟨"OathTill$Reader", "passUntwinned", "()I"⟩, 7) := ⟨⟨by decide +kernel, by decide +kernel⟩, List.mem_of_getElem? (i := 388) (by decide +kernel), List.mem_of_getElem? (i := 804) (by decide +kernel), List.mem_of_getElem? (i := 805) (by decide +kernel)⟩
theorem lw_p12 : lw_okq (⟨"OathTill$Reader", "takeKnows", "()Z"⟩, 7) := ⟨⟨by decide +kernel, by decide +kernel⟩, List.mem_of_getElem? (i := 388) (by decide +kernel), List.mem_of_getElem? (i := 817) (by decide +kernel), List.mem_of_getElem? (i := 818) (by decide +kernel)⟩
theorem lw_p13 : lw_okq (⟨"OathTill$Reader", "takeWas", "()Z"⟩, 7) := ⟨⟨by decide +kernel, by decide +kernel⟩, List.mem_of_getElem? (i := 388) (by decide +kernel), List.mem_of_getElem? (i := 825) (by decide +kernel), List.mem_of_getElem? (i := 826) (by decide +kernel)⟩
theorem lw_p14 : lw_okq (⟨"OathTill$Reader", "takeRate", "(II)Z"⟩, 7) := ⟨⟨by decide +kernel, by decide +kernel⟩, List.mem_of_getElem? (i := 388) (by decide +kernel), List.mem_of_getElem? (i := 834) (by decide +kernel), List.mem_of_getElem? (i := 835) (by decide +kernel)⟩
theorem lw_p15 : lw_okq (⟨"OathTill", "give", "(I)I"⟩, 18) := ⟨⟨by decide +kernel, by decide +kernel⟩, List.mem_of_getElem? (i := 22) (by decide +kernel), List.mem_of_getElem? (i := 861) (by decide +kernel), List.mem_of_getElem? (i := 862) (by decide +kernel)⟩
def lw_privs_1 : List (MethodName × Nat) := [(⟨"OathTill", "deny", "(I)Z"⟩, 18), (⟨"OathTill", "agree", "()Z"⟩, 18), (⟨"OathTill", "placeTrouble", "(II)I"⟩, 18), (⟨"OathTill", "refuse", "(I)I"⟩, 18), (⟨"OathTill", "pourTrouble", "(IIIII)I"⟩, 18), (⟨"OathTill", "append", "(I)V"⟩, 18), (⟨"OathTill$Reader", "takePart", "()Z"⟩, 7), (⟨"OathTill$Reader", "takePlace", "()Z"⟩, 7), (⟨"OathTill$Reader", "isNewName", "()Z"⟩, 7), (⟨"OathTill$Reader", "takePerson", "()Z"⟩, 7), (⟨"OathTill$Reader", "takeTwins", "()Z"⟩, 7), (⟨"OathTill$Reader", "passUntwinned", "()I"⟩, 7), (⟨"OathTill$Reader", "takeKnows", "()Z"⟩, 7), (⟨"OathTill$Reader", "takeWas", "()Z"⟩, 7), (⟨"OathTill$Reader", "takeRate", "(II)Z"⟩, 7), (⟨"OathTill", "give", "(I)I"⟩, 18)]
theorem lw_r1 : ∀ q ∈ lw_privs_1, lw_okq q := List.forall_mem_cons.mpr ⟨lw_p0, List.forall_mem_cons.mpr ⟨lw_p1, List.forall_mem_cons.mpr ⟨lw_p2, List.forall_mem_cons.mpr ⟨lw_p3, List.forall_mem_cons.mpr ⟨lw_p4, List.forall_mem_cons.mpr ⟨lw_p5, List.forall_mem_cons.mpr ⟨lw_p6, List.forall_mem_cons.mpr ⟨lw_p7, List.forall_mem_cons.mpr ⟨lw_p8, List.forall_mem_cons.mpr ⟨lw_p9, List.forall_mem_cons.mpr ⟨lw_p10, List.forall_mem_cons.mpr ⟨lw_p11, List.forall_mem_cons.mpr ⟨lw_p12, List.forall_mem_cons.mpr ⟨lw_p13, List.forall_mem_cons.mpr ⟨lw_p14, List.forall_mem_cons.mpr ⟨lw_p15, fun _ h => absurd h List.not_mem_nil⟩⟩⟩⟩⟩⟩⟩⟩⟩⟩⟩⟩⟩⟩⟩⟩
theorem lw_p16 : lw_okq (⟨"OathTill$Reader", "takeEnd", "()Z"⟩, 7) := ⟨⟨by decide +kernel, by decide +kernel⟩, List.mem_of_getElem? (i := 388) (by decide +kernel), List.mem_of_getElem? (i := 874) (by decide +kernel), List.mem_of_getElem? (i := 875) (by decide +kernel)⟩
theorem lw_p17 : lw_okq (⟨"OathTill$Reader", "takeStep", "()Z"⟩, 7) := ⟨⟨by decide +kernel, by decide +kernel⟩, List.mem_of_getElem? (i := 388) (by decide +kernel), List.mem_of_getElem? (i := 878) (by decide +kernel), List.mem_of_getElem? (i := 879) (by decide +kernel)⟩
theorem lw_p18 : lw_okq (⟨"OathTill$Reader", "mayBegin", "(I)Z"⟩, 7) := ⟨⟨by decide +kernel, by decide +kernel⟩, List.mem_of_getElem? (i := 388) (by decide +kernel), List.mem_of_getElem? (i := 882) (by decide +kernel), List.mem_of_getElem? (i := 883) (by decide +kernel)⟩
theorem lw_p19 : lw_okq (⟨"OathTill$Reader", "newRow", "(I)I"⟩, 7) := ⟨⟨by decide +kernel, by decide +kernel⟩, List.mem_of_getElem? (i := 388) (by decide +kernel), List.mem_of_getElem? (i := 889) (by decide +kernel), List.mem_of_getElem? (i := 890) (by decide +kernel)⟩
theorem lw_p20 : lw_okq (⟨"OathTill$Reader", "takeWitness", "(I)Z"⟩, 7) := ⟨⟨by decide +kernel, by decide +kernel⟩, List.mem_of_getElem? (i := 388) (by decide +kernel), List.mem_of_getElem? (i := 893) (by decide +kernel), List.mem_of_getElem? (i := 894) (by decide +kernel)⟩
theorem lw_p21 : lw_okq (⟨"OathTill$Reader", "takeWhere", "(I)Z"⟩, 7) := ⟨⟨by decide +kernel, by decide +kernel⟩, List.mem_of_getElem? (i := 388) (by decide +kernel), List.mem_of_getElem? (i := 897) (by decide +kernel), List.mem_of_getElem? (i := 898) (by decide +kernel)⟩
theorem lw_p22 : lw_okq (⟨"OathTill$Reader", "takeSubject", "(I)Z"⟩, 7) := ⟨⟨by decide +kernel, by decide +kernel⟩, List.mem_of_getElem? (i := 388) (by decide +kernel), List.mem_of_getElem? (i := 901) (by decide +kernel), List.mem_of_getElem? (i := 902) (by decide +kernel)⟩
theorem lw_p23 : lw_okq (⟨"OathTill$Reader", "takeTest", "(I)Z"⟩, 7) := ⟨⟨by decide +kernel, by decide +kernel⟩, List.mem_of_getElem? (i := 388) (by decide +kernel), List.mem_of_getElem? (i := 905) (by decide +kernel), List.mem_of_getElem? (i := 906) (by decide +kernel)⟩
theorem lw_p24 : lw_okq (⟨"OathTill", "isCouple", "(II)Z"⟩, 18) := ⟨⟨by decide +kernel, by decide +kernel⟩, List.mem_of_getElem? (i := 22) (by decide +kernel), List.mem_of_getElem? (i := 966) (by decide +kernel), List.mem_of_getElem? (i := 967) (by decide +kernel)⟩
theorem lw_p25 : lw_okq (⟨"OathTill", "isAsked", "(IIII)Z"⟩, 18) := ⟨⟨by decide +kernel, by decide +kernel⟩, List.mem_of_getElem? (i := 22) (by decide +kernel), List.mem_of_getElem? (i := 1001) (by decide +kernel), List.mem_of_getElem? (i := 1002) (by decide +kernel)⟩
theorem lw_p26 : lw_okq (⟨"OathTill$Stand", "hear", "(LOathTill$Oath;)V"⟩, 9) := ⟨⟨by decide +kernel, by decide +kernel⟩, List.mem_of_getElem? (i := 416) (by decide +kernel), List.mem_of_getElem? (i := 1022) (by decide +kernel), List.mem_of_getElem? (i := 1023) (by decide +kernel)⟩
theorem lw_p27 : lw_okq (⟨"OathTill$Court", "refund", "(LOathTill$Oath;)V"⟩, 12) := ⟨⟨by decide +kernel, by decide +kernel⟩, List.mem_of_getElem? (i := 32) (by decide +kernel), List.mem_of_getElem? (i := 1102) (by decide +kernel), List.mem_of_getElem? (i := 1103) (by decide +kernel)⟩
theorem lw_p28 : lw_okq (⟨"OathTill", "isPersonsHour", "(II)Z"⟩, 18) := ⟨⟨by decide +kernel, by decide +kernel⟩, List.mem_of_getElem? (i := 22) (by decide +kernel), List.mem_of_getElem? (i := 1150) (by decide +kernel), List.mem_of_getElem? (i := 1151) (by decide +kernel)⟩
theorem lw_p29 : lw_okq (⟨"OathTill$Whereabouts", "fitsTruth", "(III)Z"⟩, 5) := ⟨⟨by decide +kernel, by decide +kernel⟩, List.mem_of_getElem? (i := 501) (by decide +kernel), List.mem_of_getElem? (i := 1158) (by decide +kernel), List.mem_of_getElem? (i := 1159) (by decide +kernel)⟩
theorem lw_p30 : lw_okq (⟨"OathTill$Whereabouts", "fitsOaths", "(III)Z"⟩, 5) := ⟨⟨by decide +kernel, by decide +kernel⟩, List.mem_of_getElem? (i := 501) (by decide +kernel), List.mem_of_getElem? (i := 1163) (by decide +kernel), List.mem_of_getElem? (i := 1164) (by decide +kernel)⟩
theorem lw_p31 : lw_okq (⟨"OathTill$Whereabouts", "narrow", "(IZ)V"⟩, 5) := ⟨⟨by decide +kernel, by decide +kernel⟩, List.mem_of_getElem? (i := 501) (by decide +kernel), List.mem_of_getElem? (i := 1176) (by decide +kernel), List.mem_of_getElem? (i := 1177) (by decide +kernel)⟩
def lw_privs_2 : List (MethodName × Nat) := [(⟨"OathTill$Reader", "takeEnd", "()Z"⟩, 7), (⟨"OathTill$Reader", "takeStep", "()Z"⟩, 7), (⟨"OathTill$Reader", "mayBegin", "(I)Z"⟩, 7), (⟨"OathTill$Reader", "newRow", "(I)I"⟩, 7), (⟨"OathTill$Reader", "takeWitness", "(I)Z"⟩, 7), (⟨"OathTill$Reader", "takeWhere", "(I)Z"⟩, 7), (⟨"OathTill$Reader", "takeSubject", "(I)Z"⟩, 7), (⟨"OathTill$Reader", "takeTest", "(I)Z"⟩, 7), (⟨"OathTill", "isCouple", "(II)Z"⟩, 18), (⟨"OathTill", "isAsked", "(IIII)Z"⟩, 18), (⟨"OathTill$Stand", "hear", "(LOathTill$Oath;)V"⟩, 9), (⟨"OathTill$Court", "refund", "(LOathTill$Oath;)V"⟩, 12), (⟨"OathTill", "isPersonsHour", "(II)Z"⟩, 18), (⟨"OathTill$Whereabouts", "fitsTruth", "(III)Z"⟩, 5), (⟨"OathTill$Whereabouts", "fitsOaths", "(III)Z"⟩, 5), (⟨"OathTill$Whereabouts", "narrow", "(IZ)V"⟩, 5)]
theorem lw_r2 : ∀ q ∈ lw_privs_2, lw_okq q := List.forall_mem_cons.mpr ⟨lw_p16, List.forall_mem_cons.mpr ⟨lw_p17, List.forall_mem_cons.mpr ⟨lw_p18, List.forall_mem_cons.mpr ⟨lw_p19, List.forall_mem_cons.mpr ⟨lw_p20, List.forall_mem_cons.mpr ⟨lw_p21, List.forall_mem_cons.mpr ⟨lw_p22, List.forall_mem_cons.mpr ⟨lw_p23, List.forall_mem_cons.mpr ⟨lw_p24, List.forall_mem_cons.mpr ⟨lw_p25, List.forall_mem_cons.mpr ⟨lw_p26, List.forall_mem_cons.mpr ⟨lw_p27, List.forall_mem_cons.mpr ⟨lw_p28, List.forall_mem_cons.mpr ⟨lw_p29, List.forall_mem_cons.mpr ⟨lw_p30, List.forall_mem_cons.mpr ⟨lw_p31, fun _ h => absurd h List.not_mem_nil⟩⟩⟩⟩⟩⟩⟩⟩⟩⟩⟩⟩⟩⟩⟩⟩
theorem lw_p32 : lw_okq (⟨"OathTill$Whereabouts", "waysInto", "(I)I"⟩, 5) := ⟨⟨by decide +kernel, by decide +kernel⟩, List.mem_of_getElem? (i := 501) (by decide +kernel), List.mem_of_getElem? (i := 1180) (by decide +kernel), List.mem_of_getElem? (i := 1181) (by decide +kernel)⟩
theorem lw_p33 : lw_okq (⟨"OathTill$Whereabouts", "neighbours", "(I)I"⟩, 5) := ⟨⟨by decide +kernel, by decide +kernel⟩, List.mem_of_getElem? (i := 501) (by decide +kernel), List.mem_of_getElem? (i := 1193) (by decide +kernel), List.mem_of_getElem? (i := 1194) (by decide +kernel)⟩
theorem lw_p34 : lw_okq (⟨"OathTill$Whereabouts", "saying", "(III)I"⟩, 5) := ⟨⟨by decide +kernel, by decide +kernel⟩, List.mem_of_getElem? (i := 501) (by decide +kernel), List.mem_of_getElem? (i := 1205) (by decide +kernel), List.mem_of_getElem? (i := 1206) (by decide +kernel)⟩
theorem lw_p35 : lw_okq (⟨"OathTill$Whereabouts", "bestAhead", "(II)I"⟩, 5) := ⟨⟨by decide +kernel, by decide +kernel⟩, List.mem_of_getElem? (i := 501) (by decide +kernel), List.mem_of_getElem? (i := 1210) (by decide +kernel), List.mem_of_getElem? (i := 1211) (by decide +kernel)⟩
theorem lw_p36 : lw_okq (⟨"OathTill$Plan", "tryAlibi", "(IIII)I"⟩, 11) := ⟨⟨by decide +kernel, by decide +kernel⟩, List.mem_of_getElem? (i := 452) (by decide +kernel), List.mem_of_getElem? (i := 1264) (by decide +kernel), List.mem_of_getElem? (i := 1265) (by decide +kernel)⟩
theorem lw_p37 : lw_okq (⟨"OathTill$Plan", "allStand", "(I)Z"⟩, 11) := ⟨⟨by decide +kernel, by decide +kernel⟩, List.mem_of_getElem? (i := 452) (by decide +kernel), List.mem_of_getElem? (i := 1276) (by decide +kernel), List.mem_of_getElem? (i := 1277) (by decide +kernel)⟩
theorem lw_p38 : lw_okq (⟨"OathTill$Plan", "othersStruck", "(IIII)I"⟩, 11) := ⟨⟨by decide +kernel, by decide +kernel⟩, List.mem_of_getElem? (i := 452) (by decide +kernel), List.mem_of_getElem? (i := 1292) (by decide +kernel), List.mem_of_getElem? (i := 1293) (by decide +kernel)⟩
theorem lw_p39 : lw_okq (⟨"OathTill", "tellFraction", "(JJ)V"⟩, 18) := ⟨⟨by decide +kernel, by decide +kernel⟩, List.mem_of_getElem? (i := 22) (by decide +kernel), List.mem_of_getElem? (i := 1341) (by decide +kernel), List.mem_of_getElem? (i := 1342) (by decide +kernel)⟩
theorem lw_p40 : lw_okq (⟨"OathTill", "bidTrouble", "(II)I"⟩, 18) := ⟨⟨by decide +kernel, by decide +kernel⟩, List.mem_of_getElem? (i := 22) (by decide +kernel), List.mem_of_getElem? (i := 1368) (by decide +kernel), List.mem_of_getElem? (i := 1369) (by decide +kernel)⟩
theorem lw_p41 : lw_okq (⟨"OathTill$Runner", "behindLoopEnd", "(I)I"⟩, 12) := ⟨⟨by decide +kernel, by decide +kernel⟩, List.mem_of_getElem? (i := 523) (by decide +kernel), List.mem_of_getElem? (i := 1402) (by decide +kernel), List.mem_of_getElem? (i := 1403) (by decide +kernel)⟩
theorem lw_p42 : lw_okq (⟨"OathTill$Runner", "behindStep", "(I)I"⟩, 12) := ⟨⟨by decide +kernel, by decide +kernel⟩, List.mem_of_getElem? (i := 523) (by decide +kernel), List.mem_of_getElem? (i := 1406) (by decide +kernel), List.mem_of_getElem? (i := 1407) (by decide +kernel)⟩
theorem lw_p43 : lw_okq (⟨"OathTill$Runner", "swearTold", "(I)V"⟩, 12) := ⟨⟨by decide +kernel, by decide +kernel⟩, List.mem_of_getElem? (i := 523) (by decide +kernel), List.mem_of_getElem? (i := 1410) (by decide +kernel), List.mem_of_getElem? (i := 1411) (by decide +kernel)⟩
theorem lw_p44 : lw_okq (⟨"OathTill$Runner", "note", "(I)V"⟩, 12) := ⟨⟨by decide +kernel, by decide +kernel⟩, List.mem_of_getElem? (i := 523) (by decide +kernel), List.mem_of_getElem? (i := 1418) (by decide +kernel), List.mem_of_getElem? (i := 1419) (by decide +kernel)⟩
theorem lw_p45 : lw_okq (⟨"OathTill$Runner", "swearAny", "(I)V"⟩, 12) := ⟨⟨by decide +kernel, by decide +kernel⟩, List.mem_of_getElem? (i := 523) (by decide +kernel), List.mem_of_getElem? (i := 1423) (by decide +kernel), List.mem_of_getElem? (i := 1424) (by decide +kernel)⟩
theorem lw_p46 : lw_okq (⟨"OathTill$Runner", "draw", "(I)I"⟩, 12) := ⟨⟨by decide +kernel, by decide +kernel⟩, List.mem_of_getElem? (i := 523) (by decide +kernel), List.mem_of_getElem? (i := 1427) (by decide +kernel), List.mem_of_getElem? (i := 1428) (by decide +kernel)⟩
theorem lw_p47 : lw_okq (⟨"OathTill$Runner", "recantLatest", "(I)V"⟩, 12) := ⟨⟨by decide +kernel, by decide +kernel⟩, List.mem_of_getElem? (i := 523) (by decide +kernel), List.mem_of_getElem? (i := 1433) (by decide +kernel), List.mem_of_getElem? (i := 1434) (by decide +kernel)⟩
def lw_privs_3 : List (MethodName × Nat) := [(⟨"OathTill$Whereabouts", "waysInto", "(I)I"⟩, 5), (⟨"OathTill$Whereabouts", "neighbours", "(I)I"⟩, 5), (⟨"OathTill$Whereabouts", "saying", "(III)I"⟩, 5), (⟨"OathTill$Whereabouts", "bestAhead", "(II)I"⟩, 5), (⟨"OathTill$Plan", "tryAlibi", "(IIII)I"⟩, 11), (⟨"OathTill$Plan", "allStand", "(I)Z"⟩, 11), (⟨"OathTill$Plan", "othersStruck", "(IIII)I"⟩, 11), (⟨"OathTill", "tellFraction", "(JJ)V"⟩, 18), (⟨"OathTill", "bidTrouble", "(II)I"⟩, 18), (⟨"OathTill$Runner", "behindLoopEnd", "(I)I"⟩, 12), (⟨"OathTill$Runner", "behindStep", "(I)I"⟩, 12), (⟨"OathTill$Runner", "swearTold", "(I)V"⟩, 12), (⟨"OathTill$Runner", "note", "(I)V"⟩, 12), (⟨"OathTill$Runner", "swearAny", "(I)V"⟩, 12), (⟨"OathTill$Runner", "draw", "(I)I"⟩, 12), (⟨"OathTill$Runner", "recantLatest", "(I)V"⟩, 12)]
theorem lw_r3 : ∀ q ∈ lw_privs_3, lw_okq q := List.forall_mem_cons.mpr ⟨lw_p32, List.forall_mem_cons.mpr ⟨lw_p33, List.forall_mem_cons.mpr ⟨lw_p34, List.forall_mem_cons.mpr ⟨lw_p35, List.forall_mem_cons.mpr ⟨lw_p36, List.forall_mem_cons.mpr ⟨lw_p37, List.forall_mem_cons.mpr ⟨lw_p38, List.forall_mem_cons.mpr ⟨lw_p39, List.forall_mem_cons.mpr ⟨lw_p40, List.forall_mem_cons.mpr ⟨lw_p41, List.forall_mem_cons.mpr ⟨lw_p42, List.forall_mem_cons.mpr ⟨lw_p43, List.forall_mem_cons.mpr ⟨lw_p44, List.forall_mem_cons.mpr ⟨lw_p45, List.forall_mem_cons.mpr ⟨lw_p46, List.forall_mem_cons.mpr ⟨lw_p47, fun _ h => absurd h List.not_mem_nil⟩⟩⟩⟩⟩⟩⟩⟩⟩⟩⟩⟩⟩⟩⟩⟩
theorem lw_p48 : lw_okq (⟨"OathTill$Runner", "intoLoop", "(I)I"⟩, 12) := ⟨⟨by decide +kernel, by decide +kernel⟩, List.mem_of_getElem? (i := 523) (by decide +kernel), List.mem_of_getElem? (i := 1441) (by decide +kernel), List.mem_of_getElem? (i := 1442) (by decide +kernel)⟩
theorem lw_p49 : lw_okq (⟨"OathTill$Runner", "holds", "(I)Z"⟩, 12) := ⟨⟨by decide +kernel, by decide +kernel⟩, List.mem_of_getElem? (i := 523) (by decide +kernel), List.mem_of_getElem? (i := 1445) (by decide +kernel), List.mem_of_getElem? (i := 1446) (by decide +kernel)⟩
theorem lw_p50 : lw_okq (⟨"OathTill$Runner", "compares", "(II)Z"⟩, 12) := ⟨⟨by decide +kernel, by decide +kernel⟩, List.mem_of_getElem? (i := 523) (by decide +kernel), List.mem_of_getElem? (i := 1449) (by decide +kernel), List.mem_of_getElem? (i := 1450) (by decide +kernel)⟩
theorem lw_p51 : lw_okq (⟨"OathTillModel", "plain", "(I)V"⟩, 40) := ⟨⟨by decide +kernel, by decide +kernel⟩, List.mem_of_getElem? (i := 1475) (by decide +kernel), List.mem_of_getElem? (i := 1481) (by decide +kernel), List.mem_of_getElem? (i := 1482) (by decide +kernel)⟩
theorem lw_p52 : lw_okq (⟨"OathTillModel", "is", "(I)Z"⟩, 40) := ⟨⟨by decide +kernel, by decide +kernel⟩, List.mem_of_getElem? (i := 1475) (by decide +kernel), List.mem_of_getElem? (i := 1625) (by decide +kernel), List.mem_of_getElem? (i := 1626) (by decide +kernel)⟩
theorem lw_p53 : lw_okq (⟨"OathTillModel", "wrongPlace", "(II)I"⟩, 40) := ⟨⟨by decide +kernel, by decide +kernel⟩, List.mem_of_getElem? (i := 1475) (by decide +kernel), List.mem_of_getElem? (i := 1633) (by decide +kernel), List.mem_of_getElem? (i := 1634) (by decide +kernel)⟩
theorem lw_p54 : lw_okq (⟨"OathTillModel", "four", "(I)V"⟩, 40) := ⟨⟨by decide +kernel, by decide +kernel⟩, List.mem_of_getElem? (i := 1475) (by decide +kernel), List.mem_of_getElem? (i := 1653) (by decide +kernel), List.mem_of_getElem? (i := 1654) (by decide +kernel)⟩
theorem lw_p55 : lw_okq (⟨"OathTillModel", "begins", "(II)Z"⟩, 40) := ⟨⟨by decide +kernel, by decide +kernel⟩, List.mem_of_getElem? (i := 1475) (by decide +kernel), List.mem_of_getElem? (i := 1665) (by decide +kernel), List.mem_of_getElem? (i := 1666) (by decide +kernel)⟩
theorem lw_p56 : lw_okq (⟨"OathTillModel", "ahead", "()V"⟩, 40) := ⟨⟨by decide +kernel, by decide +kernel⟩, List.mem_of_getElem? (i := 1475) (by decide +kernel), List.mem_of_getElem? (i := 1669) (by decide +kernel), List.mem_of_getElem? (i := 1670) (by decide +kernel)⟩
theorem lw_p57 : lw_okq (⟨"OathTillModel", "byteAt", "(I)I"⟩, 40) := ⟨⟨by decide +kernel, by decide +kernel⟩, List.mem_of_getElem? (i := 1475) (by decide +kernel), List.mem_of_getElem? (i := 1673) (by decide +kernel), List.mem_of_getElem? (i := 1674) (by decide +kernel)⟩
theorem lw_p58 : lw_okq (⟨"OathTillModel", "refuse", "(I)I"⟩, 40) := ⟨⟨by decide +kernel, by decide +kernel⟩, List.mem_of_getElem? (i := 1475) (by decide +kernel), List.mem_of_getElem? (i := 1685) (by decide +kernel), List.mem_of_getElem? (i := 1686) (by decide +kernel)⟩
theorem lw_p59 : lw_okq (⟨"OathTillModel", "courtPart", "()Z"⟩, 40) := ⟨⟨by decide +kernel, by decide +kernel⟩, List.mem_of_getElem? (i := 1475) (by decide +kernel), List.mem_of_getElem? (i := 1689) (by decide +kernel), List.mem_of_getElem? (i := 1690) (by decide +kernel)⟩
theorem lw_p60 : lw_okq (⟨"OathTillModel", "inWords", "(Ljava/lang/String;)I"⟩, 40) := ⟨⟨by decide +kernel, by decide +kernel⟩, List.mem_of_getElem? (i := 1475) (by decide +kernel), List.mem_of_getElem? (i := 1694) (by decide +kernel), List.mem_of_getElem? (i := 1695) (by decide +kernel)⟩
theorem lw_p61 : lw_okq (⟨"OathTillModel", "aPlace", "()Z"⟩, 40) := ⟨⟨by decide +kernel, by decide +kernel⟩, List.mem_of_getElem? (i := 1475) (by decide +kernel), List.mem_of_getElem? (i := 1700) (by decide +kernel), List.mem_of_getElem? (i := 1701) (by decide +kernel)⟩
theorem lw_p62 : lw_okq (⟨"OathTillModel", "newOne", "(III)Z"⟩, 40) := ⟨⟨by decide +kernel, by decide +kernel⟩, List.mem_of_getElem? (i := 1475) (by decide +kernel), List.mem_of_getElem? (i := 1704) (by decide +kernel), List.mem_of_getElem? (i := 1705) (by decide +kernel)⟩
theorem lw_p63 : lw_okq (⟨"OathTillModel", "fails", "(I)Z"⟩, 40) := ⟨⟨by decide +kernel, by decide +kernel⟩, List.mem_of_getElem? (i := 1475) (by decide +kernel), List.mem_of_getElem? (i := 1708) (by decide +kernel), List.mem_of_getElem? (i := 1709) (by decide +kernel)⟩
def lw_privs_4 : List (MethodName × Nat) := [(⟨"OathTill$Runner", "intoLoop", "(I)I"⟩, 12), (⟨"OathTill$Runner", "holds", "(I)Z"⟩, 12), (⟨"OathTill$Runner", "compares", "(II)Z"⟩, 12), (⟨"OathTillModel", "plain", "(I)V"⟩, 40), (⟨"OathTillModel", "is", "(I)Z"⟩, 40), (⟨"OathTillModel", "wrongPlace", "(II)I"⟩, 40), (⟨"OathTillModel", "four", "(I)V"⟩, 40), (⟨"OathTillModel", "begins", "(II)Z"⟩, 40), (⟨"OathTillModel", "ahead", "()V"⟩, 40), (⟨"OathTillModel", "byteAt", "(I)I"⟩, 40), (⟨"OathTillModel", "refuse", "(I)I"⟩, 40), (⟨"OathTillModel", "courtPart", "()Z"⟩, 40), (⟨"OathTillModel", "inWords", "(Ljava/lang/String;)I"⟩, 40), (⟨"OathTillModel", "aPlace", "()Z"⟩, 40), (⟨"OathTillModel", "newOne", "(III)Z"⟩, 40), (⟨"OathTillModel", "fails", "(I)Z"⟩, 40)]
theorem lw_r4 : ∀ q ∈ lw_privs_4, lw_okq q := List.forall_mem_cons.mpr ⟨lw_p48, List.forall_mem_cons.mpr ⟨lw_p49, List.forall_mem_cons.mpr ⟨lw_p50, List.forall_mem_cons.mpr ⟨lw_p51, List.forall_mem_cons.mpr ⟨lw_p52, List.forall_mem_cons.mpr ⟨lw_p53, List.forall_mem_cons.mpr ⟨lw_p54, List.forall_mem_cons.mpr ⟨lw_p55, List.forall_mem_cons.mpr ⟨lw_p56, List.forall_mem_cons.mpr ⟨lw_p57, List.forall_mem_cons.mpr ⟨lw_p58, List.forall_mem_cons.mpr ⟨lw_p59, List.forall_mem_cons.mpr ⟨lw_p60, List.forall_mem_cons.mpr ⟨lw_p61, List.forall_mem_cons.mpr ⟨lw_p62, List.forall_mem_cons.mpr ⟨lw_p63, fun _ h => absurd h List.not_mem_nil⟩⟩⟩⟩⟩⟩⟩⟩⟩⟩⟩⟩⟩⟩⟩⟩
theorem lw_p64 : lw_okq (⟨"OathTillModel", "isName", "(Ljava/lang/String;)Z"⟩, 40) := ⟨⟨by decide +kernel, by decide +kernel⟩, List.mem_of_getElem? (i := 1475) (by decide +kernel), List.mem_of_getElem? (i := 1712) (by decide +kernel), List.mem_of_getElem? (i := 1713) (by decide +kernel)⟩
theorem lw_p65 : lw_okq (⟨"OathTillModel", "findHere", "(II)I"⟩, 40) := ⟨⟨by decide +kernel, by decide +kernel⟩, List.mem_of_getElem? (i := 1475) (by decide +kernel), List.mem_of_getElem? (i := 1716) (by decide +kernel), List.mem_of_getElem? (i := 1717) (by decide +kernel)⟩
theorem lw_p66 : lw_okq (⟨"OathTillModel", "nameHere", "()J"⟩, 40) := ⟨⟨by decide +kernel, by decide +kernel⟩, List.mem_of_getElem? (i := 1475) (by decide +kernel), List.mem_of_getElem? (i := 1720) (by decide +kernel), List.mem_of_getElem? (i := 1721) (by decide +kernel)⟩
theorem lw_p67 : lw_okq (⟨"OathTillModel", "wantWord", "(Ljava/lang/String;I)Z"⟩, 40) := ⟨⟨by decide +kernel, by decide +kernel⟩, List.mem_of_getElem? (i := 1475) (by decide +kernel), List.mem_of_getElem? (i := 1724) (by decide +kernel), List.mem_of_getElem? (i := 1725) (by decide +kernel)⟩
theorem lw_p68 : lw_okq (⟨"OathTillModel", "number", "(III)Z"⟩, 40) := ⟨⟨by decide +kernel, by decide +kernel⟩, List.mem_of_getElem? (i := 1475) (by decide +kernel), List.mem_of_getElem? (i := 1728) (by decide +kernel), List.mem_of_getElem? (i := 1729) (by decide +kernel)⟩
theorem lw_p69 : lw_okq (⟨"OathTillModel", "aPerson", "()Z"⟩, 40) := ⟨⟨by decide +kernel, by decide +kernel⟩, List.mem_of_getElem? (i := 1475) (by decide +kernel), List.mem_of_getElem? (i := 1732) (by decide +kernel), List.mem_of_getElem? (i := 1733) (by decide +kernel)⟩
theorem lw_p70 : lw_okq (⟨"OathTillModel", "isThere", "(I)Z"⟩, 40) := ⟨⟨by decide +kernel, by decide +kernel⟩, List.mem_of_getElem? (i := 1475) (by decide +kernel), List.mem_of_getElem? (i := 1736) (by decide +kernel), List.mem_of_getElem? (i := 1737) (by decide +kernel)⟩
theorem lw_p71 : lw_okq (⟨"OathTillModel", "aCouple", "(Z)Z"⟩, 40) := ⟨⟨by decide +kernel, by decide +kernel⟩, List.mem_of_getElem? (i := 1475) (by decide +kernel), List.mem_of_getElem? (i := 1740) (by decide +kernel), List.mem_of_getElem? (i := 1741) (by decide +kernel)⟩
theorem lw_p72 : lw_okq (⟨"OathTillModel", "oneOf", "(IIZ)Z"⟩, 40) := ⟨⟨by decide +kernel, by decide +kernel⟩, List.mem_of_getElem? (i := 1475) (by decide +kernel), List.mem_of_getElem? (i := 1744) (by decide +kernel), List.mem_of_getElem? (i := 1745) (by decide +kernel)⟩
theorem lw_p73 : lw_okq (⟨"OathTillModel", "newPerson", "(I)Z"⟩, 40) := ⟨⟨by decide +kernel, by decide +kernel⟩, List.mem_of_getElem? (i := 1475) (by decide +kernel), List.mem_of_getElem? (i := 1748) (by decide +kernel), List.mem_of_getElem? (i := 1749) (by decide +kernel)⟩
theorem lw_p74 : lw_okq (⟨"OathTillModel", "oldOne", "(III)Z"⟩, 40) := ⟨⟨by decide +kernel, by decide +kernel⟩, List.mem_of_getElem? (i := 1475) (by decide +kernel), List.mem_of_getElem? (i := 1752) (by decide +kernel), List.mem_of_getElem? (i := 1753) (by decide +kernel)⟩
theorem lw_p75 : lw_okq (⟨"OathTillModel", "aTruth", "()Z"⟩, 40) := ⟨⟨by decide +kernel, by decide +kernel⟩, List.mem_of_getElem? (i := 1475) (by decide +kernel), List.mem_of_getElem? (i := 1756) (by decide +kernel), List.mem_of_getElem? (i := 1757) (by decide +kernel)⟩
theorem lw_p76 : lw_okq (⟨"OathTillModel", "once", "(I)Z"⟩, 40) := ⟨⟨by decide +kernel, by decide +kernel⟩, List.mem_of_getElem? (i := 1475) (by decide +kernel), List.mem_of_getElem? (i := 1760) (by decide +kernel), List.mem_of_getElem? (i := 1761) (by decide +kernel)⟩
theorem lw_p77 : lw_okq (⟨"OathTillModel", "wantSign", "(I)Z"⟩, 40) := ⟨⟨by decide +kernel, by decide +kernel⟩, List.mem_of_getElem? (i := 1475) (by decide +kernel), List.mem_of_getElem? (i := 1764) (by decide +kernel), List.mem_of_getElem? (i := 1765) (by decide +kernel)⟩
theorem lw_p78 : lw_okq (⟨"OathTillModel", "isSign", "(I)Z"⟩, 40) := ⟨⟨by decide +kernel, by decide +kernel⟩, List.mem_of_getElem? (i := 1475) (by decide +kernel), List.mem_of_getElem? (i := 1768) (by decide +kernel), List.mem_of_getElem? (i := 1769) (by decide +kernel)⟩
theorem lw_p79 : lw_okq (⟨"OathTillModel", "taken", "(I)I"⟩, 40) := ⟨⟨by decide +kernel, by decide +kernel⟩, List.mem_of_getElem? (i := 1475) (by decide +kernel), List.mem_of_getElem? (i := 1772) (by decide +kernel), List.mem_of_getElem? (i := 1773) (by decide +kernel)⟩
def lw_privs_5 : List (MethodName × Nat) := [(⟨"OathTillModel", "isName", "(Ljava/lang/String;)Z"⟩, 40), (⟨"OathTillModel", "findHere", "(II)I"⟩, 40), (⟨"OathTillModel", "nameHere", "()J"⟩, 40), (⟨"OathTillModel", "wantWord", "(Ljava/lang/String;I)Z"⟩, 40), (⟨"OathTillModel", "number", "(III)Z"⟩, 40), (⟨"OathTillModel", "aPerson", "()Z"⟩, 40), (⟨"OathTillModel", "isThere", "(I)Z"⟩, 40), (⟨"OathTillModel", "aCouple", "(Z)Z"⟩, 40), (⟨"OathTillModel", "oneOf", "(IIZ)Z"⟩, 40), (⟨"OathTillModel", "newPerson", "(I)Z"⟩, 40), (⟨"OathTillModel", "oldOne", "(III)Z"⟩, 40), (⟨"OathTillModel", "aTruth", "()Z"⟩, 40), (⟨"OathTillModel", "once", "(I)Z"⟩, 40), (⟨"OathTillModel", "wantSign", "(I)Z"⟩, 40), (⟨"OathTillModel", "isSign", "(I)Z"⟩, 40), (⟨"OathTillModel", "taken", "(I)I"⟩, 40)]
theorem lw_r5 : ∀ q ∈ lw_privs_5, lw_okq q := List.forall_mem_cons.mpr ⟨lw_p64, List.forall_mem_cons.mpr ⟨lw_p65, List.forall_mem_cons.mpr ⟨lw_p66, List.forall_mem_cons.mpr ⟨lw_p67, List.forall_mem_cons.mpr ⟨lw_p68, List.forall_mem_cons.mpr ⟨lw_p69, List.forall_mem_cons.mpr ⟨lw_p70, List.forall_mem_cons.mpr ⟨lw_p71, List.forall_mem_cons.mpr ⟨lw_p72, List.forall_mem_cons.mpr ⟨lw_p73, List.forall_mem_cons.mpr ⟨lw_p74, List.forall_mem_cons.mpr ⟨lw_p75, List.forall_mem_cons.mpr ⟨lw_p76, List.forall_mem_cons.mpr ⟨lw_p77, List.forall_mem_cons.mpr ⟨lw_p78, List.forall_mem_cons.mpr ⟨lw_p79, fun _ h => absurd h List.not_mem_nil⟩⟩⟩⟩⟩⟩⟩⟩⟩⟩⟩⟩⟩⟩⟩⟩
theorem lw_p80 : lw_okq (⟨"OathTillModel", "gives", "(I)I"⟩, 40) := ⟨⟨by decide +kernel, by decide +kernel⟩, List.mem_of_getElem? (i := 1475) (by decide +kernel), List.mem_of_getElem? (i := 1776) (by decide +kernel), List.mem_of_getElem? (i := 1777) (by decide +kernel)⟩
theorem lw_p81 : lw_okq (⟨"OathTillModel", "trialStep", "()Z"⟩, 40) := ⟨⟨by decide +kernel, by decide +kernel⟩, List.mem_of_getElem? (i := 1475) (by decide +kernel), List.mem_of_getElem? (i := 1784) (by decide +kernel), List.mem_of_getElem? (i := 1785) (by decide +kernel)⟩
theorem lw_p82 : lw_okq (⟨"OathTillModel", "trialOrder", "(II)Z"⟩, 40) := ⟨⟨by decide +kernel, by decide +kernel⟩, List.mem_of_getElem? (i := 1475) (by decide +kernel), List.mem_of_getElem? (i := 1788) (by decide +kernel), List.mem_of_getElem? (i := 1789) (by decide +kernel)⟩
theorem lw_p83 : lw_okq (⟨"OathTillModel", "personTo", "(I)Z"⟩, 40) := ⟨⟨by decide +kernel, by decide +kernel⟩, List.mem_of_getElem? (i := 1475) (by decide +kernel), List.mem_of_getElem? (i := 1792) (by decide +kernel), List.mem_of_getElem? (i := 1793) (by decide +kernel)⟩
theorem lw_p84 : lw_okq (⟨"OathTillModel", "whereTo", "(I)Z"⟩, 40) := ⟨⟨by decide +kernel, by decide +kernel⟩, List.mem_of_getElem? (i := 1475) (by decide +kernel), List.mem_of_getElem? (i := 1796) (by decide +kernel), List.mem_of_getElem? (i := 1797) (by decide +kernel)⟩
theorem lw_p85 : lw_okq (⟨"OathTillModel", "placeTo", "(I)Z"⟩, 40) := ⟨⟨by decide +kernel, by decide +kernel⟩, List.mem_of_getElem? (i := 1475) (by decide +kernel), List.mem_of_getElem? (i := 1800) (by decide +kernel), List.mem_of_getElem? (i := 1801) (by decide +kernel)⟩
theorem lw_p86 : lw_okq (⟨"OathTillModel", "test", "(I)Z"⟩, 40) := ⟨⟨by decide +kernel, by decide +kernel⟩, List.mem_of_getElem? (i := 1475) (by decide +kernel), List.mem_of_getElem? (i := 1804) (by decide +kernel), List.mem_of_getElem? (i := 1805) (by decide +kernel)⟩
theorem lw_p87 : lw_okq (⟨"OathTillModel", "isLie", "(I)Z"⟩, 40) := ⟨⟨by decide +kernel, by decide +kernel⟩, List.mem_of_getElem? (i := 1475) (by decide +kernel), List.mem_of_getElem? (i := 1815) (by decide +kernel), List.mem_of_getElem? (i := 1816) (by decide +kernel)⟩
theorem lw_p88 : lw_okq (⟨"OathTillModel", "doesStand", "(I)Z"⟩, 40) := ⟨⟨by decide +kernel, by decide +kernel⟩, List.mem_of_getElem? (i := 1475) (by decide +kernel), List.mem_of_getElem? (i := 1819) (by decide +kernel), List.mem_of_getElem? (i := 1820) (by decide +kernel)⟩
theorem lw_p89 : lw_okq (⟨"OathTillModel", "isTrue", "(I)Z"⟩, 40) := ⟨⟨by decide +kernel, by decide +kernel⟩, List.mem_of_getElem? (i := 1475) (by decide +kernel), List.mem_of_getElem? (i := 1823) (by decide +kernel), List.mem_of_getElem? (i := 1824) (by decide +kernel)⟩
theorem lw_p90 : lw_okq (⟨"OathTillModel", "personOf", "(I)I"⟩, 40) := ⟨⟨by decide +kernel, by decide +kernel⟩, List.mem_of_getElem? (i := 1475) (by decide +kernel), List.mem_of_getElem? (i := 1827) (by decide +kernel), List.mem_of_getElem? (i := 1828) (by decide +kernel)⟩
theorem lw_p91 : lw_okq (⟨"OathTillModel", "hourOf", "(I)I"⟩, 40) := ⟨⟨by decide +kernel, by decide +kernel⟩, List.mem_of_getElem? (i := 1475) (by decide +kernel), List.mem_of_getElem? (i := 1831) (by decide +kernel), List.mem_of_getElem? (i := 1832) (by decide +kernel)⟩
theorem lw_p92 : lw_okq (⟨"OathTillModel", "whereOf", "(II)I"⟩, 40) := ⟨⟨by decide +kernel, by decide +kernel⟩, List.mem_of_getElem? (i := 1475) (by decide +kernel), List.mem_of_getElem? (i := 1835) (by decide +kernel), List.mem_of_getElem? (i := 1836) (by decide +kernel)⟩
theorem lw_p93 : lw_okq (⟨"OathTillModel", "placeOf", "(I)I"⟩, 40) := ⟨⟨by decide +kernel, by decide +kernel⟩, List.mem_of_getElem? (i := 1475) (by decide +kernel), List.mem_of_getElem? (i := 1839) (by decide +kernel), List.mem_of_getElem? (i := 1840) (by decide +kernel)⟩
theorem lw_p94 : lw_okq (⟨"OathTillModel", "isPlace", "(I)Z"⟩, 40) := ⟨⟨by decide +kernel, by decide +kernel⟩, List.mem_of_getElem? (i := 1475) (by decide +kernel), List.mem_of_getElem? (i := 1847) (by decide +kernel), List.mem_of_getElem? (i := 1848) (by decide +kernel)⟩
theorem lw_p95 : lw_okq (⟨"OathTillModel", "isPerson", "(I)Z"⟩, 40) := ⟨⟨by decide +kernel, by decide +kernel⟩, List.mem_of_getElem? (i := 1475) (by decide +kernel), List.mem_of_getElem? (i := 1855) (by decide +kernel), List.mem_of_getElem? (i := 1856) (by decide +kernel)⟩
def lw_privs_6 : List (MethodName × Nat) := [(⟨"OathTillModel", "gives", "(I)I"⟩, 40), (⟨"OathTillModel", "trialStep", "()Z"⟩, 40), (⟨"OathTillModel", "trialOrder", "(II)Z"⟩, 40), (⟨"OathTillModel", "personTo", "(I)Z"⟩, 40), (⟨"OathTillModel", "whereTo", "(I)Z"⟩, 40), (⟨"OathTillModel", "placeTo", "(I)Z"⟩, 40), (⟨"OathTillModel", "test", "(I)Z"⟩, 40), (⟨"OathTillModel", "isLie", "(I)Z"⟩, 40), (⟨"OathTillModel", "doesStand", "(I)Z"⟩, 40), (⟨"OathTillModel", "isTrue", "(I)Z"⟩, 40), (⟨"OathTillModel", "personOf", "(I)I"⟩, 40), (⟨"OathTillModel", "hourOf", "(I)I"⟩, 40), (⟨"OathTillModel", "whereOf", "(II)I"⟩, 40), (⟨"OathTillModel", "placeOf", "(I)I"⟩, 40), (⟨"OathTillModel", "isPlace", "(I)Z"⟩, 40), (⟨"OathTillModel", "isPerson", "(I)Z"⟩, 40)]
theorem lw_r6 : ∀ q ∈ lw_privs_6, lw_okq q := List.forall_mem_cons.mpr ⟨lw_p80, List.forall_mem_cons.mpr ⟨lw_p81, List.forall_mem_cons.mpr ⟨lw_p82, List.forall_mem_cons.mpr ⟨lw_p83, List.forall_mem_cons.mpr ⟨lw_p84, List.forall_mem_cons.mpr ⟨lw_p85, List.forall_mem_cons.mpr ⟨lw_p86, List.forall_mem_cons.mpr ⟨lw_p87, List.forall_mem_cons.mpr ⟨lw_p88, List.forall_mem_cons.mpr ⟨lw_p89, List.forall_mem_cons.mpr ⟨lw_p90, List.forall_mem_cons.mpr ⟨lw_p91, List.forall_mem_cons.mpr ⟨lw_p92, List.forall_mem_cons.mpr ⟨lw_p93, List.forall_mem_cons.mpr ⟨lw_p94, List.forall_mem_cons.mpr ⟨lw_p95, fun _ h => absurd h List.not_mem_nil⟩⟩⟩⟩⟩⟩⟩⟩⟩⟩⟩⟩⟩⟩⟩⟩
theorem lw_p96 : lw_okq (⟨"OathTillModel", "orNone", "(I)I"⟩, 40) := ⟨⟨by decide +kernel, by decide +kernel⟩, List.mem_of_getElem? (i := 1475) (by decide +kernel), List.mem_of_getElem? (i := 1862) (by decide +kernel), List.mem_of_getElem? (i := 1863) (by decide +kernel)⟩
theorem lw_p97 : lw_okq (⟨"OathTillModel", "witnessOf", "(I)I"⟩, 40) := ⟨⟨by decide +kernel, by decide +kernel⟩, List.mem_of_getElem? (i := 1475) (by decide +kernel), List.mem_of_getElem? (i := 1866) (by decide +kernel), List.mem_of_getElem? (i := 1867) (by decide +kernel)⟩
theorem lw_p98 : lw_okq (⟨"OathTillModel", "feeOf", "(I)I"⟩, 40) := ⟨⟨by decide +kernel, by decide +kernel⟩, List.mem_of_getElem? (i := 1475) (by decide +kernel), List.mem_of_getElem? (i := 1870) (by decide +kernel), List.mem_of_getElem? (i := 1871) (by decide +kernel)⟩
theorem lw_p99 : lw_okq (⟨"OathTillModel", "areTwo", "(II)Z"⟩, 40) := ⟨⟨by decide +kernel, by decide +kernel⟩, List.mem_of_getElem? (i := 1475) (by decide +kernel), List.mem_of_getElem? (i := 1878) (by decide +kernel), List.mem_of_getElem? (i := 1879) (by decide +kernel)⟩
theorem lw_p100 : lw_okq (⟨"OathTillModel", "doKnow", "(II)Z"⟩, 40) := ⟨⟨by decide +kernel, by decide +kernel⟩, List.mem_of_getElem? (i := 1475) (by decide +kernel), List.mem_of_getElem? (i := 1882) (by decide +kernel), List.mem_of_getElem? (i := 1883) (by decide +kernel)⟩
theorem lw_p101 : lw_okq (⟨"OathTillModel", "isIn", "(II)Z"⟩, 40) := ⟨⟨by decide +kernel, by decide +kernel⟩, List.mem_of_getElem? (i := 1475) (by decide +kernel), List.mem_of_getElem? (i := 1886) (by decide +kernel), List.mem_of_getElem? (i := 1887) (by decide +kernel)⟩
theorem lw_p102 : lw_okq (⟨"OathTillModel", "isOath", "(I)Z"⟩, 40) := ⟨⟨by decide +kernel, by decide +kernel⟩, List.mem_of_getElem? (i := 1475) (by decide +kernel), List.mem_of_getElem? (i := 1905) (by decide +kernel), List.mem_of_getElem? (i := 1906) (by decide +kernel)⟩
theorem lw_p103 : lw_okq (⟨"OathTillModel", "isSworn", "(IIII)Z"⟩, 40) := ⟨⟨by decide +kernel, by decide +kernel⟩, List.mem_of_getElem? (i := 1475) (by decide +kernel), List.mem_of_getElem? (i := 1913) (by decide +kernel), List.mem_of_getElem? (i := 1914) (by decide +kernel)⟩
theorem lw_p104 : lw_okq (⟨"OathTillModel", "isSpot", "(III)Z"⟩, 40) := ⟨⟨by decide +kernel, by decide +kernel⟩, List.mem_of_getElem? (i := 1475) (by decide +kernel), List.mem_of_getElem? (i := 1917) (by decide +kernel), List.mem_of_getElem? (i := 1918) (by decide +kernel)⟩
theorem lw_p105 : lw_okq (⟨"OathTillModel", "whyNot", "(IIII)I"⟩, 40) := ⟨⟨by decide +kernel, by decide +kernel⟩, List.mem_of_getElem? (i := 1475) (by decide +kernel), List.mem_of_getElem? (i := 1921) (by decide +kernel), List.mem_of_getElem? (i := 1922) (by decide +kernel)⟩
theorem lw_p106 : lw_okq (⟨"OathTillModel", "isOf", "(III)Z"⟩, 40) := ⟨⟨by decide +kernel, by decide +kernel⟩, List.mem_of_getElem? (i := 1475) (by decide +kernel), List.mem_of_getElem? (i := 1925) (by decide +kernel), List.mem_of_getElem? (i := 1926) (by decide +kernel)⟩
theorem lw_p107 : lw_okq (⟨"OathTillModel", "doubtOf", "(I)I"⟩, 40) := ⟨⟨by decide +kernel, by decide +kernel⟩, List.mem_of_getElem? (i := 1475) (by decide +kernel), List.mem_of_getElem? (i := 1929) (by decide +kernel), List.mem_of_getElem? (i := 1930) (by decide +kernel)⟩
theorem lw_p108 : lw_okq (⟨"OathTillModel", "feeFor", "(IIII)I"⟩, 40) := ⟨⟨by decide +kernel, by decide +kernel⟩, List.mem_of_getElem? (i := 1475) (by decide +kernel), List.mem_of_getElem? (i := 1936) (by decide +kernel), List.mem_of_getElem? (i := 1937) (by decide +kernel)⟩
theorem lw_p109 : lw_okq (⟨"OathTillModel", "against", "(IIII)I"⟩, 40) := ⟨⟨by decide +kernel, by decide +kernel⟩, List.mem_of_getElem? (i := 1475) (by decide +kernel), List.mem_of_getElem? (i := 1940) (by decide +kernel), List.mem_of_getElem? (i := 1941) (by decide +kernel)⟩
theorem lw_p110 : lw_okq (⟨"OathTillModel", "backedBy", "(IIII)I"⟩, 40) := ⟨⟨by decide +kernel, by decide +kernel⟩, List.mem_of_getElem? (i := 1475) (by decide +kernel), List.mem_of_getElem? (i := 1944) (by decide +kernel), List.mem_of_getElem? (i := 1945) (by decide +kernel)⟩
theorem lw_p111 : lw_okq (⟨"OathTillModel", "keeps", "()V"⟩, 40) := ⟨⟨by decide +kernel, by decide +kernel⟩, List.mem_of_getElem? (i := 1475) (by decide +kernel), List.mem_of_getElem? (i := 1964) (by decide +kernel), List.mem_of_getElem? (i := 1965) (by decide +kernel)⟩
def lw_privs_7 : List (MethodName × Nat) := [(⟨"OathTillModel", "orNone", "(I)I"⟩, 40), (⟨"OathTillModel", "witnessOf", "(I)I"⟩, 40), (⟨"OathTillModel", "feeOf", "(I)I"⟩, 40), (⟨"OathTillModel", "areTwo", "(II)Z"⟩, 40), (⟨"OathTillModel", "doKnow", "(II)Z"⟩, 40), (⟨"OathTillModel", "isIn", "(II)Z"⟩, 40), (⟨"OathTillModel", "isOath", "(I)Z"⟩, 40), (⟨"OathTillModel", "isSworn", "(IIII)Z"⟩, 40), (⟨"OathTillModel", "isSpot", "(III)Z"⟩, 40), (⟨"OathTillModel", "whyNot", "(IIII)I"⟩, 40), (⟨"OathTillModel", "isOf", "(III)Z"⟩, 40), (⟨"OathTillModel", "doubtOf", "(I)I"⟩, 40), (⟨"OathTillModel", "feeFor", "(IIII)I"⟩, 40), (⟨"OathTillModel", "against", "(IIII)I"⟩, 40), (⟨"OathTillModel", "backedBy", "(IIII)I"⟩, 40), (⟨"OathTillModel", "keeps", "()V"⟩, 40)]
theorem lw_r7 : ∀ q ∈ lw_privs_7, lw_okq q := List.forall_mem_cons.mpr ⟨lw_p96, List.forall_mem_cons.mpr ⟨lw_p97, List.forall_mem_cons.mpr ⟨lw_p98, List.forall_mem_cons.mpr ⟨lw_p99, List.forall_mem_cons.mpr ⟨lw_p100, List.forall_mem_cons.mpr ⟨lw_p101, List.forall_mem_cons.mpr ⟨lw_p102, List.forall_mem_cons.mpr ⟨lw_p103, List.forall_mem_cons.mpr ⟨lw_p104, List.forall_mem_cons.mpr ⟨lw_p105, List.forall_mem_cons.mpr ⟨lw_p106, List.forall_mem_cons.mpr ⟨lw_p107, List.forall_mem_cons.mpr ⟨lw_p108, List.forall_mem_cons.mpr ⟨lw_p109, List.forall_mem_cons.mpr ⟨lw_p110, List.forall_mem_cons.mpr ⟨lw_p111, fun _ h => absurd h List.not_mem_nil⟩⟩⟩⟩⟩⟩⟩⟩⟩⟩⟩⟩⟩⟩⟩⟩
theorem lw_p112 : lw_okq (⟨"OathTillModel", "swears", "(IIII)V"⟩, 40) := ⟨⟨by decide +kernel, by decide +kernel⟩, List.mem_of_getElem? (i := 1475) (by decide +kernel), List.mem_of_getElem? (i := 1968) (by decide +kernel), List.mem_of_getElem? (i := 1969) (by decide +kernel)⟩
theorem lw_p113 : lw_okq (⟨"OathTillModel", "voids0", "(I)V"⟩, 40) := ⟨⟨by decide +kernel, by decide +kernel⟩, List.mem_of_getElem? (i := 1475) (by decide +kernel), List.mem_of_getElem? (i := 1972) (by decide +kernel), List.mem_of_getElem? (i := 1973) (by decide +kernel)⟩
theorem lw_p114 : lw_okq (⟨"OathTillModel", "areFit", "(II)Z"⟩, 40) := ⟨⟨by decide +kernel, by decide +kernel⟩, List.mem_of_getElem? (i := 1475) (by decide +kernel), List.mem_of_getElem? (i := 1976) (by decide +kernel), List.mem_of_getElem? (i := 1977) (by decide +kernel)⟩
theorem lw_p115 : lw_okq (⟨"OathTillModel", "doFit", "(IIII)Z"⟩, 40) := ⟨⟨by decide +kernel, by decide +kernel⟩, List.mem_of_getElem? (i := 1475) (by decide +kernel), List.mem_of_getElem? (i := 1980) (by decide +kernel), List.mem_of_getElem? (i := 1981) (by decide +kernel)⟩
theorem lw_p116 : lw_okq (⟨"OathTillModel", "fallen", "(I)I"⟩, 40) := ⟨⟨by decide +kernel, by decide +kernel⟩, List.mem_of_getElem? (i := 1475) (by decide +kernel), List.mem_of_getElem? (i := 1985) (by decide +kernel), List.mem_of_getElem? (i := 1986) (by decide +kernel)⟩
theorem lw_p117 : lw_okq (⟨"OathTillModel", "restores", "()V"⟩, 40) := ⟨⟨by decide +kernel, by decide +kernel⟩, List.mem_of_getElem? (i := 1475) (by decide +kernel), List.mem_of_getElem? (i := 1989) (by decide +kernel), List.mem_of_getElem? (i := 1990) (by decide +kernel)⟩
theorem lw_p118 : lw_okq (⟨"OathTillModel", "finds", "(III)I"⟩, 40) := ⟨⟨by decide +kernel, by decide +kernel⟩, List.mem_of_getElem? (i := 1475) (by decide +kernel), List.mem_of_getElem? (i := 2001) (by decide +kernel), List.mem_of_getElem? (i := 2002) (by decide +kernel)⟩
theorem lw_p119 : lw_okq (⟨"OathTillModel", "standing", "()I"⟩, 40) := ⟨⟨by decide +kernel, by decide +kernel⟩, List.mem_of_getElem? (i := 1475) (by decide +kernel), List.mem_of_getElem? (i := 2009) (by decide +kernel), List.mem_of_getElem? (i := 2010) (by decide +kernel)⟩
theorem lw_p120 : lw_okq (⟨"OathTillModel", "canHaveBeen", "(III)Z"⟩, 40) := ⟨⟨by decide +kernel, by decide +kernel⟩, List.mem_of_getElem? (i := 1475) (by decide +kernel), List.mem_of_getElem? (i := 2042) (by decide +kernel), List.mem_of_getElem? (i := 2043) (by decide +kernel)⟩
theorem lw_p121 : lw_okq (⟨"OathTillModel", "laysWays", "(IZ)I"⟩, 40) := ⟨⟨by decide +kernel, by decide +kernel⟩, List.mem_of_getElem? (i := 1475) (by decide +kernel), List.mem_of_getElem? (i := 2050) (by decide +kernel), List.mem_of_getElem? (i := 2051) (by decide +kernel)⟩
theorem lw_p122 : lw_okq (⟨"OathTillModel", "isMeant", "(IIIZ)Z"⟩, 40) := ⟨⟨by decide +kernel, by decide +kernel⟩, List.mem_of_getElem? (i := 1475) (by decide +kernel), List.mem_of_getElem? (i := 2054) (by decide +kernel), List.mem_of_getElem? (i := 2055) (by decide +kernel)⟩
theorem lw_p123 : lw_okq (⟨"OathTillModel", "mostTrueOf", "(I)I"⟩, 40) := ⟨⟨by decide +kernel, by decide +kernel⟩, List.mem_of_getElem? (i := 1475) (by decide +kernel), List.mem_of_getElem? (i := 2066) (by decide +kernel), List.mem_of_getElem? (i := 2067) (by decide +kernel)⟩
theorem lw_p124 : lw_okq (⟨"OathTillModel", "costs", "(IIII)I"⟩, 40) := ⟨⟨by decide +kernel, by decide +kernel⟩, List.mem_of_getElem? (i := 1475) (by decide +kernel), List.mem_of_getElem? (i := 2091) (by decide +kernel), List.mem_of_getElem? (i := 2092) (by decide +kernel)⟩
theorem lw_p125 : lw_okq (⟨"OathTillModel", "sayableOf", "(II)I"⟩, 40) := ⟨⟨by decide +kernel, by decide +kernel⟩, List.mem_of_getElem? (i := 1475) (by decide +kernel), List.mem_of_getElem? (i := 2112) (by decide +kernel), List.mem_of_getElem? (i := 2113) (by decide +kernel)⟩
theorem lw_p126 : lw_okq (⟨"OathTillModel", "wordsOf", "(II)I"⟩, 40) := ⟨⟨by decide +kernel, by decide +kernel⟩, List.mem_of_getElem? (i := 1475) (by decide +kernel), List.mem_of_getElem? (i := 2125) (by decide +kernel), List.mem_of_getElem? (i := 2126) (by decide +kernel)⟩
theorem lw_p127 : lw_okq (⟨"OathTillModel", "tellsBy", "(JJ)Z"⟩, 40) := ⟨⟨by decide +kernel, by decide +kernel⟩, List.mem_of_getElem? (i := 1475) (by decide +kernel), List.mem_of_getElem? (i := 2137) (by decide +kernel), List.mem_of_getElem? (i := 2138) (by decide +kernel)⟩
def lw_privs_8 : List (MethodName × Nat) := [(⟨"OathTillModel", "swears", "(IIII)V"⟩, 40), (⟨"OathTillModel", "voids0", "(I)V"⟩, 40), (⟨"OathTillModel", "areFit", "(II)Z"⟩, 40), (⟨"OathTillModel", "doFit", "(IIII)Z"⟩, 40), (⟨"OathTillModel", "fallen", "(I)I"⟩, 40), (⟨"OathTillModel", "restores", "()V"⟩, 40), (⟨"OathTillModel", "finds", "(III)I"⟩, 40), (⟨"OathTillModel", "standing", "()I"⟩, 40), (⟨"OathTillModel", "canHaveBeen", "(III)Z"⟩, 40), (⟨"OathTillModel", "laysWays", "(IZ)I"⟩, 40), (⟨"OathTillModel", "isMeant", "(IIIZ)Z"⟩, 40), (⟨"OathTillModel", "mostTrueOf", "(I)I"⟩, 40), (⟨"OathTillModel", "costs", "(IIII)I"⟩, 40), (⟨"OathTillModel", "sayableOf", "(II)I"⟩, 40), (⟨"OathTillModel", "wordsOf", "(II)I"⟩, 40), (⟨"OathTillModel", "tellsBy", "(JJ)Z"⟩, 40)]
theorem lw_r8 : ∀ q ∈ lw_privs_8, lw_okq q := List.forall_mem_cons.mpr ⟨lw_p112, List.forall_mem_cons.mpr ⟨lw_p113, List.forall_mem_cons.mpr ⟨lw_p114, List.forall_mem_cons.mpr ⟨lw_p115, List.forall_mem_cons.mpr ⟨lw_p116, List.forall_mem_cons.mpr ⟨lw_p117, List.forall_mem_cons.mpr ⟨lw_p118, List.forall_mem_cons.mpr ⟨lw_p119, List.forall_mem_cons.mpr ⟨lw_p120, List.forall_mem_cons.mpr ⟨lw_p121, List.forall_mem_cons.mpr ⟨lw_p122, List.forall_mem_cons.mpr ⟨lw_p123, List.forall_mem_cons.mpr ⟨lw_p124, List.forall_mem_cons.mpr ⟨lw_p125, List.forall_mem_cons.mpr ⟨lw_p126, List.forall_mem_cons.mpr ⟨lw_p127, fun _ h => absurd h List.not_mem_nil⟩⟩⟩⟩⟩⟩⟩⟩⟩⟩⟩⟩⟩⟩⟩⟩
theorem lw_p128 : lw_okq (⟨"OathTillModel", "wrongBids", "(II)I"⟩, 40) := ⟨⟨by decide +kernel, by decide +kernel⟩, List.mem_of_getElem? (i := 1475) (by decide +kernel), List.mem_of_getElem? (i := 2153) (by decide +kernel), List.mem_of_getElem? (i := 2154) (by decide +kernel)⟩
theorem lw_p129 : lw_okq (⟨"OathTillModel", "greatest", "(III)I"⟩, 40) := ⟨⟨by decide +kernel, by decide +kernel⟩, List.mem_of_getElem? (i := 1475) (by decide +kernel), List.mem_of_getElem? (i := 2158) (by decide +kernel), List.mem_of_getElem? (i := 2159) (by decide +kernel)⟩
theorem lw_p130 : lw_okq (⟨"OathTillModel", "secondBid", "(II)I"⟩, 40) := ⟨⟨by decide +kernel, by decide +kernel⟩, List.mem_of_getElem? (i := 1475) (by decide +kernel), List.mem_of_getElem? (i := 2162) (by decide +kernel), List.mem_of_getElem? (i := 2163) (by decide +kernel)⟩
theorem lw_p131 : lw_okq (⟨"OathTillModel", "lives", "(I)V"⟩, 40) := ⟨⟨by decide +kernel, by decide +kernel⟩, List.mem_of_getElem? (i := 1475) (by decide +kernel), List.mem_of_getElem? (i := 2175) (by decide +kernel), List.mem_of_getElem? (i := 2176) (by decide +kernel)⟩
theorem lw_p132 : lw_okq (⟨"OathTillModel", "does", "(I)Z"⟩, 40) := ⟨⟨by decide +kernel, by decide +kernel⟩, List.mem_of_getElem? (i := 1475) (by decide +kernel), List.mem_of_getElem? (i := 2179) (by decide +kernel), List.mem_of_getElem? (i := 2180) (by decide +kernel)⟩
theorem lw_p133 : lw_okq (⟨"OathTillModel", "swearsBy", "(IIII)Z"⟩, 40) := ⟨⟨by decide +kernel, by decide +kernel⟩, List.mem_of_getElem? (i := 1475) (by decide +kernel), List.mem_of_getElem? (i := 2183) (by decide +kernel), List.mem_of_getElem? (i := 2184) (by decide +kernel)⟩
theorem lw_p134 : lw_okq (⟨"OathTillModel", "swearsAny", "(II)Z"⟩, 40) := ⟨⟨by decide +kernel, by decide +kernel⟩, List.mem_of_getElem? (i := 1475) (by decide +kernel), List.mem_of_getElem? (i := 2187) (by decide +kernel), List.mem_of_getElem? (i := 2188) (by decide +kernel)⟩
theorem lw_p135 : lw_okq (⟨"OathTillModel", "draw", "(I)I"⟩, 40) := ⟨⟨by decide +kernel, by decide +kernel⟩, List.mem_of_getElem? (i := 1475) (by decide +kernel), List.mem_of_getElem? (i := 2191) (by decide +kernel), List.mem_of_getElem? (i := 2192) (by decide +kernel)⟩
theorem lw_p136 : lw_okq (⟨"OathTillModel", "recants", "(I)Z"⟩, 40) := ⟨⟨by decide +kernel, by decide +kernel⟩, List.mem_of_getElem? (i := 1475) (by decide +kernel), List.mem_of_getElem? (i := 2196) (by decide +kernel), List.mem_of_getElem? (i := 2197) (by decide +kernel)⟩
theorem lw_p137 : lw_okq (⟨"OathTillModel", "holds", "(I)Z"⟩, 40) := ⟨⟨by decide +kernel, by decide +kernel⟩, List.mem_of_getElem? (i := 1475) (by decide +kernel), List.mem_of_getElem? (i := 2200) (by decide +kernel), List.mem_of_getElem? (i := 2201) (by decide +kernel)⟩
theorem lw_p138 : lw_okq (⟨"OathTillModel", "behindEnds", "(I)I"⟩, 40) := ⟨⟨by decide +kernel, by decide +kernel⟩, List.mem_of_getElem? (i := 1475) (by decide +kernel), List.mem_of_getElem? (i := 2204) (by decide +kernel), List.mem_of_getElem? (i := 2205) (by decide +kernel)⟩
theorem lw_p139 : lw_okq (⟨"OathTillModel", "moves", "(II)V"⟩, 40) := ⟨⟨by decide +kernel, by decide +kernel⟩, List.mem_of_getElem? (i := 1475) (by decide +kernel), List.mem_of_getElem? (i := 2221) (by decide +kernel), List.mem_of_getElem? (i := 2222) (by decide +kernel)⟩
def lw_privs_9 : List (MethodName × Nat) := [(⟨"OathTillModel", "wrongBids", "(II)I"⟩, 40), (⟨"OathTillModel", "greatest", "(III)I"⟩, 40), (⟨"OathTillModel", "secondBid", "(II)I"⟩, 40), (⟨"OathTillModel", "lives", "(I)V"⟩, 40), (⟨"OathTillModel", "does", "(I)Z"⟩, 40), (⟨"OathTillModel", "swearsBy", "(IIII)Z"⟩, 40), (⟨"OathTillModel", "swearsAny", "(II)Z"⟩, 40), (⟨"OathTillModel", "draw", "(I)I"⟩, 40), (⟨"OathTillModel", "recants", "(I)Z"⟩, 40), (⟨"OathTillModel", "holds", "(I)Z"⟩, 40), (⟨"OathTillModel", "behindEnds", "(I)I"⟩, 40), (⟨"OathTillModel", "moves", "(II)V"⟩, 40)]
theorem lw_r9 : ∀ q ∈ lw_privs_9, lw_okq q := List.forall_mem_cons.mpr ⟨lw_p128, List.forall_mem_cons.mpr ⟨lw_p129, List.forall_mem_cons.mpr ⟨lw_p130, List.forall_mem_cons.mpr ⟨lw_p131, List.forall_mem_cons.mpr ⟨lw_p132, List.forall_mem_cons.mpr ⟨lw_p133, List.forall_mem_cons.mpr ⟨lw_p134, List.forall_mem_cons.mpr ⟨lw_p135, List.forall_mem_cons.mpr ⟨lw_p136, List.forall_mem_cons.mpr ⟨lw_p137, List.forall_mem_cons.mpr ⟨lw_p138, List.forall_mem_cons.mpr ⟨lw_p139, fun _ h => absurd h List.not_mem_nil⟩⟩⟩⟩⟩⟩⟩⟩⟩⟩⟩⟩
def lw_privs : List (MethodName × Nat) := lw_privs_1 ++ (lw_privs_2 ++ (lw_privs_3 ++ (lw_privs_4 ++ (lw_privs_5 ++ (lw_privs_6 ++ (lw_privs_7 ++ (lw_privs_8 ++ (lw_privs_9))))))))
def lw_tbl : List Cond := k2_sels lw_privs ++ tables_1
theorem lw_privs_ok : ∀ q ∈ lw_privs, lw_okq q := by
  show ∀ q ∈ lw_privs_1 ++ (lw_privs_2 ++ (lw_privs_3 ++ (lw_privs_4 ++ (lw_privs_5 ++ (lw_privs_6 ++ (lw_privs_7 ++ (lw_privs_8 ++ (lw_privs_9)))))))), lw_okq q
  exact List.forall_mem_append.mpr ⟨lw_r1, List.forall_mem_append.mpr ⟨lw_r2, List.forall_mem_append.mpr ⟨lw_r3, List.forall_mem_append.mpr ⟨lw_r4, List.forall_mem_append.mpr ⟨lw_r5, List.forall_mem_append.mpr ⟨lw_r6, List.forall_mem_append.mpr ⟨lw_r7, List.forall_mem_append.mpr ⟨lw_r8, lw_r9⟩⟩⟩⟩⟩⟩⟩⟩
-- ===== end of PART A; then your names; then what follows =====
end
section
/-! trees: a leaf keeps its own number, so that reading behind a write needs no order -/
noncomputable def xg {α : Type} (t : Lean.RArray (Nat × α)) (k : Nat) : Option α :=
  Lean.RArray.rec (motive := fun _ => Option α) (fun q => cond (Nat.beq q.1 k) (some q.2) none) (fun p _ _ gl gr => cond (Nat.ble p k) gr gl) t
theorem xg_leaf {α : Type} (q : Nat × α) (k : Nat) : xg (.leaf q) k = cond (Nat.beq q.1 k) (some q.2) none := rfl
theorem xg_branch {α : Type} (p : Nat) (a b : Lean.RArray (Nat × α)) (k : Nat) : xg (.branch p a b) k = cond (Nat.ble p k) (xg b k) (xg a k) := rfl
noncomputable def xw {α : Type} (t : Lean.RArray (Nat × α)) (k : Nat) (v : α) : Lean.RArray (Nat × α) :=
  Lean.RArray.rec (motive := fun _ => Lean.RArray (Nat × α)) (fun q => .leaf (cond (Nat.beq q.1 k) (k, v) q)) (fun p a b sa sb => cond (Nat.ble p k) (.branch p a sb) (.branch p sa b)) t
theorem xw_leaf {α : Type} (q : Nat × α) (k : Nat) (v : α) : xw (.leaf q) k v = .leaf (cond (Nat.beq q.1 k) (k, v) q) := rfl
theorem xw_branch {α : Type} (p : Nat) (a b : Lean.RArray (Nat × α)) (k : Nat) (v : α) : xw (.branch p a b) k v = cond (Nat.ble p k) (.branch p a (xw b k v)) (.branch p (xw a k v) b) := rfl
/-- the same by a continuation: what it is given is written out -/
noncomputable def xsK {α β : Type} (t : Lean.RArray (Nat × α)) (k : Nat) (v : α) (c : Lean.RArray (Nat × α) → β) : β :=
  Lean.RArray.rec (motive := fun _ => (Lean.RArray (Nat × α) → β) → β) (fun q c => c (.leaf (cond (Nat.beq q.1 k) (k, v) q))) (fun p a b sa sb c => cond (Nat.ble p k) (sb (fun b' => c (.branch p a b'))) (sa (fun a' => c (.branch p a' b)))) t c
theorem xsK_eq {α β : Type} (t : Lean.RArray (Nat × α)) (k : Nat) (v : α) : ∀ (c : Lean.RArray (Nat × α) → β), xsK t k v c = c (xw t k v) := by
  induction t with
  | leaf q => intro c; rfl
  | branch p a b iha ihb =>
    intro c
    rw [xw_branch]
    show cond (Nat.ble p k) (xsK b k v (fun b' => c (.branch p a b'))) (xsK a k v (fun a' => c (.branch p a' b))) = _
    rw [iha, ihb]
    cases Nat.ble p k <;> rfl
theorem xg_self {α : Type} (t : Lean.RArray (Nat × α)) (k : Nat) (v w : α) (h : xg t k = some w) : xg (xw t k v) k = some v := by
  induction t with
  | leaf q =>
    rw [xg_leaf] at h
    rw [xw_leaf, xg_leaf]
    cases hb : Nat.beq q.1 k with
    | false => rw [hb] at h; cases h
    | true => simp
  | branch p a b iha ihb =>
    rw [xg_branch] at h
    rw [xw_branch]
    cases hb : Nat.ble p k with
    | true => rw [hb] at h; simp only [cond_true] at h ⊢; rw [xg_branch, hb]; exact ihb h
    | false => rw [hb] at h; simp only [cond_false] at h ⊢; rw [xg_branch, hb]; exact iha h
theorem xg_other {α : Type} (t : Lean.RArray (Nat × α)) (k j : Nat) (v : α) (h : j ≠ k) : xg (xw t k v) j = xg t j := by
  induction t with
  | leaf q =>
    rw [xw_leaf, xg_leaf, xg_leaf]
    cases hb : Nat.beq q.1 k with
    | false => rfl
    | true =>
      have e : q.1 = k := Nat.eq_of_beq_eq_true hb
      have n1 : Nat.beq k j = false := by
        cases hx : Nat.beq k j with
        | false => rfl
        | true => exact absurd (Nat.eq_of_beq_eq_true hx).symm h
      simp only [cond_true, e, n1, cond_false]
  | branch p a b iha ihb =>
    rw [xw_branch]
    cases hb : Nat.ble p k with
    | true =>
      simp only [cond_true]
      rw [xg_branch, xg_branch, ihb]
    | false =>
      simp only [cond_false]
      rw [xg_branch, xg_branch, iha]
/-- all leaves -/
noncomputable def xall {α : Type} (t : Lean.RArray (Nat × α)) (f : Nat → α → Bool) : Bool :=
  Lean.RArray.rec (motive := fun _ => Bool) (fun q => f q.1 q.2) (fun _ _ _ a b => cond a b false) t
theorem xall_get {α : Type} (t : Lean.RArray (Nat × α)) (f : Nat → α → Bool) (h : xall t f = true) (k : Nat) (v : α) (hg : xg t k = some v) : f k v = true := by
  induction t with
  | leaf q =>
    rw [xg_leaf] at hg
    cases hb : Nat.beq q.1 k with
    | false => rw [hb] at hg; cases hg
    | true =>
      rw [hb] at hg
      have e : q.1 = k := Nat.eq_of_beq_eq_true hb
      have e2 : q.2 = v := Option.some.inj hg
      rw [← e, ← e2]
      exact h
  | branch p a b iha ihb =>
    have h' : cond (xall a f) (xall b f) false = true := h
    rw [xg_branch] at hg
    cases ha : xall a f with
    | false => rw [ha] at h'; cases h'
    | true =>
      rw [ha] at h'
      cases hb : Nat.ble p k with
      | true => rw [hb] at hg; exact ihb h' hg
      | false => rw [hb] at hg; exact iha ha hg
/-- a tree of n places from lo on, all v -/
def xmk {α : Type} (v : α) : Nat → Nat → Nat → Lean.RArray (Nat × α)
  | 0, lo, _ => .leaf (lo, v)
  | f + 1, lo, n => cond (Nat.ble n 1) (.leaf (lo, v)) (.branch (lo + n / 2) (xmk v f lo (n / 2)) (xmk v f (lo + n / 2) (n - n / 2)))
theorem xmk_get {α : Type} (v : α) : ∀ (f lo n k : Nat), n ≤ 2 ^ f → lo ≤ k → k < lo + n → xg (xmk v f lo n) k = some v
  | 0, lo, n, k, hn, h1, h2 => by
    have e : lo = k := by simp at hn; omega
    show cond (Nat.beq lo k) (some v) none = some v
    rw [e, Nat.beq_refl]; rfl
  | f + 1, lo, n, k, hn, h1, h2 => by
    show xg (cond (Nat.ble n 1) (.leaf (lo, v)) (.branch (lo + n / 2) (xmk v f lo (n / 2)) (xmk v f (lo + n / 2) (n - n / 2)))) k = some v
    have hp : 2 ^ (f + 1) = 2 ^ f + 2 ^ f := by rw [Nat.pow_succ]; omega
    cases hb : Nat.ble n 1 with
    | true =>
      have : n ≤ 1 := Nat.le_of_ble_eq_true hb
      have e : lo = k := by omega
      show cond (Nat.beq lo k) (some v) none = some v
      rw [e, Nat.beq_refl]; rfl
    | false =>
      have hn1 : ¬ n ≤ 1 := fun q => by rw [Nat.ble_eq_true_of_le q] at hb; cases hb
      simp only [cond_false]
      rw [xg_branch]
      cases hc : Nat.ble (lo + n / 2) k with
      | true =>
        have := Nat.le_of_ble_eq_true hc
        exact xmk_get v f (lo + n / 2) (n - n / 2) k (by omega) (by omega) (by omega)
      | false =>
        have : ¬ lo + n / 2 ≤ k := fun q => by rw [Nat.ble_eq_true_of_le q] at hc; cases hc
        exact xmk_get v f lo (n / 2) k (by omega) h1 (by omega)
end
section
/-! The path explorer: one frame at a time, ints of the script by intervals, all else concrete.
A value is a tag and a number. 0: int constant; 1: the script's int at that place; 2: long constant; 3: the script's int, widened; 4: a cell of ours; 5: null; 6: a cell that was there before; 7: some int; 8: some long; 10: a reference or null. -/
abbrev xv : Type := Nat × Nat
abbrev xct : Type := Lean.RArray (Nat × xv)
abbrev xcell : Type := Nat × Nat × xct
abbrev xheap : Type := Lean.RArray (Nat × xcell)
abbrev xbox : Type := List (Nat × Nat)
/-- instruction, next pc, target, two numbers -/
abbrev xins : Type := Instr × Nat × Nat × Nat × Nat
abbrev xleaf : Type := xbox × xheap × Nat × Option xv
abbrev xR : Type := Option (List xleaf)
/-- method, depth, pc, locals, stack, box, heap, cells in it, cells and slots made -/
abbrev xF : Type := Nat → Nat → Nat → List (Nat × xv) → List xv → xbox → xheap → Nat → Nat → Nat → xR
noncomputable def xfrc {β : Type} (n : Nat) (c : Nat → β) : β := Nat.rec (motive := fun _ => β) (c 0) (fun m _ => c (Nat.succ m)) n
theorem xfrc_eq {β : Type} (n : Nat) (c : Nat → β) : xfrc n c = c n := by cases n <;> rfl
/-- 0 int, 1 long, 2 a reference, 3 null -/
def xkd : Nat → Nat
  | 0 => 0
  | 1 => 0
  | 2 => 1
  | 3 => 1
  | 4 => 2
  | 5 => 3
  | 6 => 2
  | 7 => 0
  | 8 => 1
  | 10 => 4
  | _ => 9
/-- the number of an int, 2^63 added -/
def xoi (n : Nat) : Nat := cond (Nat.ble 2147483648 (n % 4294967296)) (n % 4294967296 + 9223372032559808512) (n % 4294967296 + 9223372036854775808)
def xol (n : Nat) : Nat := (n + 9223372036854775808) % 18446744073709551616
def xbg : xbox → Nat → Nat × Nat
  | [], _ => (0, 18446744073709551616)
  | q :: _, 0 => q
  | _ :: l, i + 1 => xbg l i
def xbs : xbox → Nat → Nat → Nat → xbox
  | [], _, _, _ => []
  | _ :: l, 0, lo, hi => (lo, hi) :: l
  | q :: l, i + 1, lo, hi => q :: xbs l i lo hi
def xrg (bx : xbox) (w : xv) : Nat × Nat :=
  match w.1 with
  | 0 => (xoi w.2, xoi w.2)
  | 1 => xbg bx w.2
  | 2 => (xol w.2, xol w.2)
  | 3 => xbg bx w.2
  | _ => (0, 18446744073709551616)
/-- an int that is known -/
def xci (bx : xbox) (w : xv) : Option Nat :=
  match w.1 with
  | 0 => some w.2
  | 1 => cond (Nat.beq (xbg bx w.2).1 (xbg bx w.2).2) (some ((xbg bx w.2).1 % 4294967296)) none
  | _ => none
def xcl (bx : xbox) (w : xv) : Option Nat :=
  match w.1 with
  | 2 => some w.2
  | 3 => cond (Nat.beq (xbg bx w.2).1 (xbg bx w.2).2) (some (((xbg bx w.2).1 + 9223372036854775808) % 18446744073709551616)) none
  | _ => none
def xapp (a b : xR) : xR :=
  match a with
  | none => none
  | some x => match b with
    | none => none
    | some y => some (x ++ y)
def xbind (k : xleaf → xR) : List xleaf → xR
  | [] => some []
  | q :: l => xapp (k q) (xbind k l)
/-- the place i of the script is below o, o, or above -/
def xspl (k : xbox → xR) (bx : xbox) (i o : Nat) : xR :=
  xapp (cond (Nat.ble o (xbg bx i).1) (some []) (k (xbs bx i (xbg bx i).1 (o - 1))))
    (xapp (k (xbs bx i o o)) (cond (Nat.ble (xbg bx i).2 o) (some []) (k (xbs bx i (o + 1) (xbg bx i).2))))
/-- what a compare of two intervals says -/
def xdec (o : Jvm.ClassFile.Cond) (a b : Nat × Nat) : Option Bool :=
  match o with
  | .eq => cond (Nat.beq a.1 a.2 && Nat.beq b.1 b.2 && Nat.beq a.1 b.1) (some true) (cond (Nat.blt a.2 b.1 || Nat.blt b.2 a.1) (some false) none)
  | .ne => cond (Nat.beq a.1 a.2 && Nat.beq b.1 b.2 && Nat.beq a.1 b.1) (some false) (cond (Nat.blt a.2 b.1 || Nat.blt b.2 a.1) (some true) none)
  | .lt => cond (Nat.blt a.2 b.1) (some true) (cond (Nat.ble b.2 a.1) (some false) none)
  | .ge => cond (Nat.blt a.2 b.1) (some false) (cond (Nat.ble b.2 a.1) (some true) none)
  | .gt => cond (Nat.blt b.2 a.1) (some true) (cond (Nat.ble a.2 b.1) (some false) none)
  | .le => cond (Nat.blt b.2 a.1) (some false) (cond (Nat.ble a.2 b.1) (some true) none)
/-- where to cut -/
def xpt (bx : xbox) (a b : xv) : Option (Nat × Nat) :=
  cond ((Nat.beq a.1 1 || Nat.beq a.1 3) && Nat.beq (xrg bx b).1 (xrg bx b).2) (some (a.2, (xrg bx b).1))
    (cond ((Nat.beq b.1 1 || Nat.beq b.1 3) && Nat.beq (xrg bx a).1 (xrg bx a).2) (some (b.2, (xrg bx a).1)) none)
/-- a branch: k of 'taken' -/
def xbr (o : Jvm.ClassFile.Cond) (bx : xbox) (a b : xv) (k : Bool → xR) (again : xbox → xR) : xR :=
  match xdec o (xrg bx a) (xrg bx b) with
  | some t => k t
  | none => match xpt bx a b with
    | some q => xspl again bx q.1 q.2
    | none => xapp (k true) (k false)
/-- a local -/
def xlk : List (Nat × xv) → Nat → Option xv
  | [], _ => none
  | q :: l, i => cond (Nat.beq q.1 i) (some q.2) (xlk l i)
/-- what is left of the locals when a word, or two, are stored at i -/
def xk1 (i : Nat) (q : Nat × xv) : Bool := !(Nat.beq q.1 i) && !(Nat.beq (q.1 + 1) i && Nat.beq (xkd q.2.1) 1)
def xk2 (i : Nat) (q : Nat × xv) : Bool := !(Nat.beq q.1 i) && (!(Nat.beq q.1 (i + 1)) && !(Nat.beq (q.1 + 1) i && Nat.beq (xkd q.2.1) 1))
def xfl {β : Type} (f : Nat × xv → Bool) : List (Nat × xv) → (List (Nat × xv) → β) → β
  | [], c => c []
  | q :: l, c => cond (f q) (xfl f l (fun m => c (q :: m))) (xfl f l c)
theorem xfl_eq {β : Type} (f : Nat × xv → Bool) : ∀ (l : List (Nat × xv)) (c : List (Nat × xv) → β), xfl f l c = c (l.filter f)
  | [], c => rfl
  | q :: l, c => by
    show cond (f q) (xfl f l (fun m => c (q :: m))) (xfl f l c) = _
    rw [xfl_eq f l, xfl_eq f l, List.filter_cons]
    cases f q <;> rfl
/-- the last n of the stack, in their order, and the rest -/
def xpop : Nat → List xv → List xv → Option (List xv × List xv)
  | 0, acc, st => some (acc, st)
  | _ + 1, _, [] => none
  | n + 1, acc, w :: st => xpop n (w :: acc) st
def xarg : Nat → List xv → List (Nat × xv)
  | _, [] => []
  | i, w :: l => (i, w) :: xarg (cond (Nat.beq (xkd w.1) 1) (i + 2) (i + 1)) l
def xwds : List xv → Nat
  | [] => 0
  | w :: l => cond (Nat.beq (xkd w.1) 1) 2 1 + xwds l
def xnu (x : Int32) : Nat := x.toBitVec.toNat
def xnl (x : Int64) : Nat := x.toBitVec.toNat
/-- a cell of n places, all of the type's first value: 0 int, 1 long, 2 reference -/
def xd0 : Nat → xv
  | 0 => (0, 0)
  | 1 => (2, 0)
  | _ => (5, 0)
/-- contents by a list -/
noncomputable def xsl {β : Type} : List xv → Nat → xct → (xct → β) → β
  | [], _, t, c => c t
  | w :: l, i, t, c => xsK t i w (fun t' => xsl l (i + 1) t' c)
/-- n places of t1 from sp on into t2 from dp on -/
noncomputable def xcp {β : Type} (t1 : xct) : Nat → Nat → Nat → xct → (xct → Option β) → Option β
  | 0, _, _, t2, c => c t2
  | n + 1, sp, dp, t2, c => match xg t1 sp with
    | none => none
    | some w => xsK t2 dp w (fun t => xcp t1 n (sp + 1) (dp + 1) t c)
end
section
/-! The step. cd: the code by method; mi: a method's cells, slots, arguments (without the receiver), receiver's kind, kind of answer (0 void, 1 int, 2 long, 3 boolean, 4 char, 5 byte), words of locals; df: a fresh object of a kind; el: lengths of arrays that were there before; eb: bytes of the text. -/
abbrev xmi : Type := Lean.RArray (Nat × (Nat × Nat × Nat × Nat × Nat × Nat))
abbrev xcd : Type := Lean.RArray (Nat × Lean.RArray (Nat × xins))
abbrev xdf : Type := Lean.RArray (Nat × (Nat × xct))
def xfit (tc : Nat) (w : xv) : Bool :=
  match tc with
  | 0 => Nat.beq (xkd w.1) 0
  | 1 => Nat.beq (xkd w.1) 1
  | 2 => Nat.beq (xkd w.1) 2 || Nat.beq (xkd w.1) 3
  | 3 => Nat.beq w.1 0 && Nat.ble w.2 1
  | _ => false
def xrok (rt : Nat) (w : xv) : Bool :=
  match rt with
  | 1 => Nat.beq (xkd w.1) 0
  | 3 => Nat.beq w.1 0 && Nat.ble w.2 1
  | 4 => Nat.beq w.1 0 && Nat.blt w.2 65536
  | 5 => Nat.beq w.1 0 && Nat.blt w.2 128
  | _ => false
section Step
variable (mi : xmi) (df : xdf) (el : Nat → Nat) (eb : List Nat) (rec : xF)
variable (nx tg r1 r2 y d pc : Nat) (ls : List (Nat × xv)) (st : List xv) (bx : xbox) (h : xheap) (n c s : Nat)
noncomputable def x_ld (k1 k2 : Nat) : xR :=
  match xlk ls r1 with
  | none => none
  | some w => cond (Nat.beq (xkd w.1) k1 || Nat.beq (xkd w.1) k2) (rec y d nx ls (w :: st) bx h n c s) none
noncomputable def x_st (k1 k2 : Nat) (f : Nat → Nat × xv → Bool) : xR :=
  match st with
  | [] => none
  | w :: r => cond (Nat.beq (xkd w.1) k1 || Nat.beq (xkd w.1) k2) (xfl (f r1) ls (fun m => rec y d nx ((r1, w) :: m) r bx h n c s)) none
noncomputable def x_inc : xR :=
  match xlk ls r1 with
  | none => none
  | some w => match xci bx w with
    | none => none
    | some x => xfl (xk1 r1) ls (fun m => xfrc ((x + r2) % 4294967296) (fun z => rec y d nx ((r1, (0, z)) :: m) st bx h n c s))
noncomputable def x_bi (f : Nat → Nat → Nat) : xR :=
  match st with
  | b :: a :: r => cond (Nat.beq (xkd b.1) 0 && Nat.beq (xkd a.1) 0)
      (match xci bx a with
        | none => rec y d nx ls ((7, 0) :: r) bx h n c s
        | some x => match xci bx b with
          | none => rec y d nx ls ((7, 0) :: r) bx h n c s
          | some z => xfrc (f x z) (fun q => rec y d nx ls ((0, q) :: r) bx h n c s)) none
  | _ => none
/-- a divisor that is known, and isn't 0 -/
noncomputable def x_dv (f : Nat → Nat → Nat) : xR :=
  match st with
  | b :: a :: r => match xci bx a with
    | none => none
    | some x => match xci bx b with
      | none => none
      | some z => cond (Nat.beq (z % 4294967296) 0) none (xfrc (f x z) (fun q => rec y d nx ls ((0, q) :: r) bx h n c s))
  | _ => none
noncomputable def x_bl (f : Nat → Nat → Nat) : xR :=
  match st with
  | b :: a :: r => cond (Nat.beq (xkd b.1) 1 && Nat.beq (xkd a.1) 1)
      (match xcl bx a with
        | none => rec y d nx ls ((8, 0) :: r) bx h n c s
        | some x => match xcl bx b with
          | none => rec y d nx ls ((8, 0) :: r) bx h n c s
          | some z => xfrc (f x z) (fun q => rec y d nx ls ((2, q) :: r) bx h n c s)) none
  | _ => none
noncomputable def x_dl (f : Nat → Nat → Nat) : xR :=
  match st with
  | b :: a :: r => match xcl bx a with
    | none => none
    | some x => match xcl bx b with
      | none => none
      | some z => cond (Nat.beq (z % 18446744073709551616) 0) none (xfrc (f x z) (fun q => rec y d nx ls ((2, q) :: r) bx h n c s))
  | _ => none
/-- a long shifted by an int -/
noncomputable def x_sl (f : Nat → Nat → Nat) : xR :=
  match st with
  | b :: a :: r => cond (Nat.beq (xkd b.1) 0 && Nat.beq (xkd a.1) 1)
      (match xcl bx a with
        | none => rec y d nx ls ((8, 0) :: r) bx h n c s
        | some x => match xci bx b with
          | none => rec y d nx ls ((8, 0) :: r) bx h n c s
          | some z => xfrc (f x z) (fun q => rec y d nx ls ((2, q) :: r) bx h n c s)) none
  | _ => none
noncomputable def x_ui (f : Nat → Nat) : xR :=
  match st with
  | a :: r => cond (Nat.beq (xkd a.1) 0)
      (match xci bx a with
        | none => rec y d nx ls ((7, 0) :: r) bx h n c s
        | some x => xfrc (f x) (fun q => rec y d nx ls ((0, q) :: r) bx h n c s)) none
  | _ => none
noncomputable def x_i2l : xR :=
  match st with
  | a :: r => match a.1 with
    | 0 => xfrc (xnl (nI a.2).toInt64) (fun q => rec y d nx ls ((2, q) :: r) bx h n c s)
    | 1 => rec y d nx ls ((3, a.2) :: r) bx h n c s
    | 7 => rec y d nx ls ((8, 0) :: r) bx h n c s
    | _ => none
  | _ => none
noncomputable def x_l2i : xR :=
  match st with
  | a :: r => cond (Nat.beq (xkd a.1) 1)
      (match xcl bx a with
        | none => rec y d nx ls ((7, 0) :: r) bx h n c s
        | some x => xfrc (x % 4294967296) (fun q => rec y d nx ls ((0, q) :: r) bx h n c s)) none
  | _ => none
noncomputable def x_dup : xR :=
  match st with
  | a :: r => cond (Nat.beq (xkd a.1) 1) none (rec y d nx ls (a :: a :: r) bx h n c s)
  | _ => none
noncomputable def x_pop : xR :=
  match st with
  | a :: r => cond (Nat.beq (xkd a.1) 1) none (rec y d nx ls r bx h n c s)
  | _ => none
noncomputable def x_dup2 : xR :=
  match st with
  | a :: r => cond (Nat.beq (xkd a.1) 1) (rec y d nx ls (a :: a :: r) bx h n c s)
      (match r with
        | b :: r' => cond (Nat.beq (xkd b.1) 1) none (rec y d nx ls (a :: b :: a :: b :: r') bx h n c s)
        | _ => none)
  | _ => none
noncomputable def x_icmp (o : Jvm.ClassFile.Cond) : xR :=
  match st with
  | b :: a :: r => cond (Nat.beq (xkd b.1) 0 && Nat.beq (xkd a.1) 0)
      (xbr o bx a b (fun t => rec y d (cond t tg nx) ls r bx h n c s) (fun bx' => rec y d pc ls st bx' h n c s)) none
  | _ => none
noncomputable def x_if (o : Jvm.ClassFile.Cond) : xR :=
  match st with
  | a :: r => cond (Nat.beq (xkd a.1) 0)
      (xbr o bx a (0, 0) (fun t => rec y d (cond t tg nx) ls r bx h n c s) (fun bx' => rec y d pc ls st bx' h n c s)) none
  | _ => none
noncomputable def x_nul (t : Bool) : xR :=
  match st with
  | a :: r => match xkd a.1 with
    | 2 => rec y d (cond t nx tg) ls r bx h n c s
    | 3 => rec y d (cond t tg nx) ls r bx h n c s
    | _ => none
  | _ => none
noncomputable def x_lcmp : xR :=
  match st with
  | b :: a :: r => cond (Nat.beq (xkd b.1) 1 && Nat.beq (xkd a.1) 1)
      (match xdec .lt (xrg bx a) (xrg bx b) with
        | some true => rec y d nx ls ((0, 4294967295) :: r) bx h n c s
        | some false => (match xdec .gt (xrg bx a) (xrg bx b) with
          | some true => rec y d nx ls ((0, 1) :: r) bx h n c s
          | some false => rec y d nx ls ((0, 0) :: r) bx h n c s
          | none => (match xpt bx a b with
            | some q => xspl (fun bx' => rec y d pc ls st bx' h n c s) bx q.1 q.2
            | none => rec y d nx ls ((7, 0) :: r) bx h n c s))
        | none => (match xpt bx a b with
          | some q => xspl (fun bx' => rec y d pc ls st bx' h n c s) bx q.1 q.2
          | none => rec y d nx ls ((7, 0) :: r) bx h n c s)) none
  | _ => none
/-- where a table goes -/
def xts (dflt lo hi : Int) (offs : Array Int) (pc : Nat) (z : Int) : Option Nat :=
  if z < lo ∨ hi < z then (if 0 ≤ (pc : Int) + dflt then some ((pc : Int) + dflt).toNat else none)
  else match offs[(z - lo).toNat]? with
    | none => none
    | some o => if 0 ≤ (pc : Int) + o then some ((pc : Int) + o).toNat else none
def xz (x : Nat) : Int := (nI x).toInt
noncomputable def x_tab (dflt lo hi : Int) (offs : Array Int) : xR :=
  match st with
  | a :: r => match xci bx a with
    | some x => (match xts dflt lo hi offs pc (xz x) with
      | some t => rec y d t ls r bx h n c s
      | none => none)
    | none => cond (Nat.beq a.1 1)
        (cond (Nat.blt (xbg bx a.2).2 (lo + 9223372036854775808).toNat || Nat.blt (hi + 9223372036854775808).toNat (xbg bx a.2).1)
          (if 0 ≤ (pc : Int) + dflt then rec y d ((pc : Int) + dflt).toNat ls r bx h n c s else none)
          (xspl (fun bx' => rec y d pc ls st bx' h n c s) bx a.2 (cond (Nat.blt (xbg bx a.2).1 (lo + 9223372036854775808).toNat) (lo + 9223372036854775808).toNat (xbg bx a.2).1))) none
  | _ => none
noncomputable def x_get : xR :=
  match st with
  | w :: r => cond (Nat.beq w.1 4)
      (match xg h w.2 with
        | none => none
        | some q => cond (Nat.beq q.1 r1 && Nat.blt r1 13)
            (match xg q.2.2 r2 with
              | none => none
              | some v => rec y d nx ls (v :: r) bx h n c s) none)
      (cond (Nat.beq w.1 6 && Nat.beq w.2 1 && Nat.beq r1 98) (rec y d nx ls ((cond (Nat.beq r2 0) (6, 2) (0, 0)) :: r) bx h n c s) none)
  | _ => none
noncomputable def x_put : xR :=
  match st with
  | v :: w :: r => cond (Nat.beq w.1 4 && xfit tg v)
      (match xg h w.2 with
        | none => none
        | some q => cond (Nat.beq q.1 r1 && Nat.blt r2 q.2.1)
            (match xg q.2.2 r2 with
              | none => none
              | some _ => xsK q.2.2 r2 v (fun t => xsK h w.2 (q.1, q.2.1, t) (fun h' => rec y d nx ls r bx h' n c s))) none) none
  | _ => none
/-- a new cell -/
noncomputable def x_cell (k m : Nat) (t : xct) (r : List xv) : xR :=
  match xg mi y with
  | none => none
  | some q => cond (Nat.blt c q.1 && Nat.ble (s + m) q.2.1)
      (match xg h n with
        | none => none
        | some _ => xsK h n (k, m, t) (fun h' => xfrc (n + 1) (fun n' => xfrc (c + 1) (fun c' => xfrc (s + m) (fun s' => rec y d nx ls ((4, n) :: r) bx h' n' c' s'))))) none
noncomputable def x_new : xR :=
  match xg df r1 with
  | none => none
  | some q => x_cell mi rec nx y d ls bx h n c s r1 q.1 q.2 st
noncomputable def x_arr (dk : Nat) : xR :=
  match st with
  | w :: r => match xci bx w with
    | none => none
    | some m => cond (Nat.ble m 1048576) (x_cell mi rec nx y d ls bx h n c s r1 m (xmk (xd0 dk) 20 0 m) r) none
  | _ => none
noncomputable def x_len : xR :=
  match st with
  | w :: r => cond (Nat.beq w.1 4)
      (match xg h w.2 with
        | none => none
        | some q => cond (Nat.ble 13 q.1) (rec y d nx ls ((0, q.2.1) :: r) bx h n c s) none)
      (cond (Nat.beq w.1 6 && (Nat.beq w.2 0 || Nat.beq w.2 2)) (rec y d nx ls ((0, el w.2) :: r) bx h n c s) none)
  | _ => none
/-- an index that must be known: else the script's place is cut -/
noncomputable def x_ix (i : xv) (k : Nat → xR) : xR :=
  match xci bx i with
  | some x => cond (Nat.blt x 2147483648) (k x) none
  | none => cond (Nat.beq i.1 1) (xspl (fun bx' => rec y d pc ls st bx' h n c s) bx i.2 (xbg bx i.2).1) none
noncomputable def x_ald (kd : Nat) : xR :=
  match st with
  | i :: w :: r => x_ix rec y d pc ls st bx h n c s i (fun x =>
      cond (Nat.beq w.1 4)
        (match xg h w.2 with
          | none => none
          | some q => cond ((Nat.beq q.1 kd || (Nat.beq kd 20 && Nat.ble 20 q.1)) && Nat.blt x q.2.1)
              (match xg q.2.2 x with
                | none => none
                | some v => rec y d nx ls (v :: r) bx h n c s) none)
        (cond (Nat.beq w.1 6 && Nat.beq w.2 0 && Nat.beq kd 13 && Nat.blt x (el 0)) (rec y d nx ls ((1, x) :: r) bx h n c s)
          (cond (Nat.beq w.1 6 && Nat.beq w.2 2 && Nat.beq kd 15 && Nat.blt x (el 2)) (rec y d nx ls ((0, eb.getD x 0) :: r) bx h n c s) none)))
  | _ => none
noncomputable def x_ast (kd : Nat) : xR :=
  match st with
  | v :: i :: w :: r => x_ix rec y d pc ls st bx h n c s i (fun x =>
      cond (Nat.beq w.1 4 && xfit (cond (Nat.beq kd 14) 1 0) v)
        (match xg h w.2 with
          | none => none
          | some q => cond (Nat.beq q.1 kd && Nat.blt x q.2.1)
              (xsK q.2.2 x (cond (Nat.beq kd 15) (7, 0) v) (fun t => xsK h w.2 (q.1, q.2.1, t) (fun h' => rec y d nx ls r bx h' n c s))) none) none)
  | _ => none
noncomputable def x_aas : xR :=
  match st with
  | v :: i :: w :: r => x_ix rec y d pc ls st bx h n c s i (fun x =>
      cond (Nat.beq w.1 4 && Nat.beq v.1 4)
        (match xg h w.2 with
          | none => none
          | some q => match xg h v.2 with
            | none => none
            | some e => cond (Nat.blt e.1 13 && Nat.beq q.1 (20 + e.1) && Nat.blt x q.2.1)
              (xsK q.2.2 x v (fun t => xsK h w.2 (q.1, q.2.1, t) (fun h' => rec y d nx ls r bx h' n c s))) none) none)
  | _ => none
/-- a call -/
noncomputable def x_go (z : Nat) (args rest : List xv) : xR :=
  match d with
  | 0 => none
  | d' + 1 => match xg mi y with
    | none => none
    | some q => match xg mi z with
      | none => none
      | some u => cond (Nat.ble (xwds rest) 8 && Nat.ble (xwds args) u.2.2.2.2.2 && Nat.ble (c + u.1) q.1 && Nat.ble (s + u.2.1) q.2.1)
          (match rec z d' 0 (xarg 0 args) [] bx h n 0 0 with
            | none => none
            | some L => xfrc (c + u.1) (fun c' => xfrc (s + u.2.1) (fun s' => xbind (fun l => rec y d nx ls (match l.2.2.2 with
                | none => rest
                | some w => w :: rest) l.1 l.2.1 l.2.2.1 c' s') L))) none
/-- is the receiver of kind k -/
noncomputable def xrcv (k : Nat) (h : xheap) (w : xv) : Bool :=
  cond (Nat.beq w.1 4)
    (match xg h w.2 with
      | none => false
      | some q => Nat.beq q.1 k && Nat.blt k 13)
    (Nat.beq w.1 6 && Nat.beq w.2 1 && Nat.beq k 98)
noncomputable def x_call (inst virt : Bool) : xR :=
  match xg mi r1 with
  | none => none
  | some u => match xpop (cond inst (u.2.2.1 + 1) u.2.2.1) [] st with
    | none => none
    | some q => match q.1 with
      | [] => cond inst none (x_go mi rec nx y d ls bx h n c s r1 [] q.2)
      | w :: l => cond (!inst || cond virt (xrcv u.2.2.2.1 h w) (Nat.beq w.1 4)) (x_go mi rec nx y d ls bx h n c s r1 (w :: l) q.2) none
noncomputable def x_oin : xR :=
  match st with
  | w :: r => cond (Nat.beq w.1 4 && Nat.ble (xwds r) 8 && Nat.ble 1 d) (rec y d nx ls r bx h n c s) none
  | _ => none
noncomputable def x_cpy : xR :=
  match st with
  | m :: dp :: b :: sp :: a :: r => match xci bx m with
    | none => none
    | some m => match xci bx dp with
      | none => none
      | some dp => match xci bx sp with
        | none => none
        | some sp => cond (Nat.beq a.1 4 && Nat.beq b.1 4 && Nat.ble (xwds r) 8 && Nat.ble 1 d)
            (match xg h a.2 with
              | none => none
              | some qa => match xg h b.2 with
                | none => none
                | some qb => cond ((Nat.beq qa.1 13 || Nat.beq qa.1 14) && Nat.beq qb.1 qa.1 && Nat.ble (sp + m) qa.2.1 && Nat.ble (dp + m) qb.2.1 && Nat.blt (sp + m) 2147483648 && Nat.blt (dp + m) 2147483648)
                    (xcp qa.2.2 m sp dp qb.2.2 (fun t => xsK h b.2 (qb.1, qb.2.1, t) (fun h' => rec y d nx ls r bx h' n c s))) none) none
  | _ => none
noncomputable def x_ret : xR :=
  match xg mi y with
  | none => none
  | some q => match q.2.2.2.2.1 with
    | 0 => match st with
      | [] => some [(bx, h, n, none)]
      | _ => none
    | _ => none
noncomputable def x_iret : xR :=
  match xg mi y with
  | none => none
  | some q => match st with
    | [w] => cond (xrok q.2.2.2.2.1 w) (some [(bx, h, n, some w)]) none
    | _ => none
noncomputable def x_lret : xR :=
  match xg mi y with
  | none => none
  | some q => match q.2.2.2.2.1 with
    | 2 => match st with
      | [w] => cond (Nat.beq (xkd w.1) 1) (some [(bx, h, n, some w)]) none
      | _ => none
    | _ => none
end Step
noncomputable def xex (mi : xmi) (df : xdf) (el : Nat → Nat) (eb : List Nat) (rec : xF) (ins : Instr) (nx tg r1 r2 y d pc : Nat) (ls : List (Nat × xv)) (st : List xv) (bx : xbox) (h : xheap) (n c s : Nat) : xR :=
  match ins with
  | .iconst _ => rec y d nx ls ((0, r1) :: st) bx h n c s
  | .bipush _ => rec y d nx ls ((0, r1) :: st) bx h n c s
  | .sipush _ => rec y d nx ls ((0, r1) :: st) bx h n c s
  | .lconst _ => rec y d nx ls ((2, r1) :: st) bx h n c s
  | .ldc _ => cond (Nat.beq r2 0) (rec y d nx ls ((0, r1) :: st) bx h n c s) (cond (Nat.beq r2 1) (rec y d nx ls ((6, 1) :: st) bx h n c s) none)
  | .ldc_w _ => rec y d nx ls ((0, r1) :: st) bx h n c s
  | .ldc2_w _ => rec y d nx ls ((2, r1) :: st) bx h n c s
  | .aconst_null => rec y d nx ls ((5, 0) :: st) bx h n c s
  | .iload _ => x_ld rec nx r1 y d ls st bx h n c s 0 0
  | .iload_n _ => x_ld rec nx r1 y d ls st bx h n c s 0 0
  | .lload _ => x_ld rec nx r1 y d ls st bx h n c s 1 1
  | .lload_n _ => x_ld rec nx r1 y d ls st bx h n c s 1 1
  | .aload _ => x_ld rec nx r1 y d ls st bx h n c s 2 3
  | .aload_n _ => x_ld rec nx r1 y d ls st bx h n c s 2 3
  | .istore _ => x_st rec nx r1 y d ls st bx h n c s 0 0 xk1
  | .istore_n _ => x_st rec nx r1 y d ls st bx h n c s 0 0 xk1
  | .lstore _ => x_st rec nx r1 y d ls st bx h n c s 1 1 xk2
  | .lstore_n _ => x_st rec nx r1 y d ls st bx h n c s 1 1 xk2
  | .astore _ => x_st rec nx r1 y d ls st bx h n c s 2 2 xk1
  | .astore_n _ => x_st rec nx r1 y d ls st bx h n c s 2 2 xk1
  | .iinc _ _ => x_inc rec nx r1 r2 y d ls st bx h n c s
  | .iadd => x_bi rec nx y d ls st bx h n c s (fun a b => (a + b) % 4294967296)
  | .isub => x_bi rec nx y d ls st bx h n c s (fun a b => (a + (4294967296 - b % 4294967296)) % 4294967296)
  | .imul => x_bi rec nx y d ls st bx h n c s (fun a b => (a * b) % 4294967296)
  | .iand => x_bi rec nx y d ls st bx h n c s (fun a b => xnu (nI a &&& nI b))
  | .ior => x_bi rec nx y d ls st bx h n c s (fun a b => xnu (nI a ||| nI b))
  | .ishl => x_bi rec nx y d ls st bx h n c s (fun a b => xnu (nI a <<< (nI b &&& 31)))
  | .ishr => x_bi rec nx y d ls st bx h n c s (fun a b => xnu (nI a >>> (nI b &&& 31)))
  | .idiv => x_dv rec nx y d ls st bx h n c s (fun a b => xnu (nI a / nI b))
  | .irem => x_dv rec nx y d ls st bx h n c s (fun a b => xnu (nI a - nI a / nI b * nI b))
  | .ladd => x_bl rec nx y d ls st bx h n c s (fun a b => xnl (lN a + lN b))
  | .lsub => x_bl rec nx y d ls st bx h n c s (fun a b => xnl (lN a - lN b))
  | .lmul => x_bl rec nx y d ls st bx h n c s (fun a b => xnl (lN a * lN b))
  | .land => x_bl rec nx y d ls st bx h n c s (fun a b => xnl (lN a &&& lN b))
  | .lor => x_bl rec nx y d ls st bx h n c s (fun a b => xnl (lN a ||| lN b))
  | .ldiv => x_dl rec nx y d ls st bx h n c s (fun a b => xnl (lN a / lN b))
  | .lrem => x_dl rec nx y d ls st bx h n c s (fun a b => xnl (lN a - lN a / lN b * lN b))
  | .lshl => x_sl rec nx y d ls st bx h n c s (fun a b => xnl (lN a <<< ((nI b).toInt64 &&& 63)))
  | .lshr => x_sl rec nx y d ls st bx h n c s (fun a b => xnl (lN a >>> ((nI b).toInt64 &&& 63)))
  | .i2l => x_i2l rec nx y d ls st bx h n c s
  | .l2i => x_l2i rec nx y d ls st bx h n c s
  | .i2b => x_ui rec nx y d ls st bx h n c s (fun a => xnu (nI a).toInt8.toInt32)
  | .i2s => x_ui rec nx y d ls st bx h n c s (fun a => xnu (nI a).toInt16.toInt32)
  | .i2c => x_ui rec nx y d ls st bx h n c s (fun a => a % 65536)
  | .dup => x_dup rec nx y d ls st bx h n c s
  | .pop => x_pop rec nx y d ls st bx h n c s
  | .dup2 => x_dup2 rec nx y d ls st bx h n c s
  | .goto _ => rec y d tg ls st bx h n c s
  | .if_icmp o _ => x_icmp rec nx tg y d pc ls st bx h n c s o
  | .ifCond o _ => x_if rec nx tg y d pc ls st bx h n c s o
  | .ifnull _ => x_nul rec nx tg y d ls st bx h n c s true
  | .ifnonnull _ => x_nul rec nx tg y d ls st bx h n c s false
  | .lcmp => x_lcmp rec nx y d pc ls st bx h n c s
  | .tableswitch a b e f => x_tab rec y d pc ls st bx h n c s a b e f
  | .getfield _ => x_get rec nx r1 r2 y d ls st bx h n c s
  | .putfield _ => x_put rec nx tg r1 r2 y d ls st bx h n c s
  | .getstatic _ => cond (Nat.beq r1 0) (rec y d nx ls ((0, 1) :: st) bx h n c s) (rec y d nx ls ((10, 0) :: st) bx h n c s)
  | .new _ => x_new mi df rec nx r1 y d ls st bx h n c s
  | .newarray _ => x_arr mi rec nx r1 y d ls st bx h n c s r2
  | .anewarray _ => x_arr mi rec nx r1 y d ls st bx h n c s 2
  | .arraylength => x_len el rec nx y d ls st bx h n c s
  | .iaload => x_ald el eb rec nx y d pc ls st bx h n c s 13
  | .laload => x_ald el eb rec nx y d pc ls st bx h n c s 14
  | .baload => x_ald el eb rec nx y d pc ls st bx h n c s 15
  | .aaload => x_ald el eb rec nx y d pc ls st bx h n c s 20
  | .iastore => x_ast rec nx y d pc ls st bx h n c s 13
  | .lastore => x_ast rec nx y d pc ls st bx h n c s 14
  | .bastore => x_ast rec nx y d pc ls st bx h n c s 15
  | .aastore => x_aas rec nx y d pc ls st bx h n c s
  | .invokevirtual _ => x_call mi rec nx r1 y d ls st bx h n c s true true
  | .invokestatic _ => cond (Nat.beq r2 8) (x_cpy rec nx y d ls st bx h n c s) (x_call mi rec nx r1 y d ls st bx h n c s false false)
  | .invokespecial _ => cond (Nat.beq r2 6) (x_oin rec nx y d ls st bx h n c s) (x_call mi rec nx r1 y d ls st bx h n c s true false)
  | .return_ => x_ret mi y st bx h n
  | .ireturn => x_iret mi y st bx h n
  | .lreturn => x_lret mi y st bx h n
  | _ => none
noncomputable def xstep (cd : xcd) (mi : xmi) (df : xdf) (el : Nat → Nat) (eb : List Nat) (rec : xF) : xF := fun y d pc ls st bx h n c s =>
  match xg cd y with
  | none => none
  | some t => match xg t pc with
    | none => none
    | some e => xex mi df el eb rec e.1 e.2.1 e.2.2.1 e.2.2.2.1 e.2.2.2.2 y d pc ls st bx h n c s
noncomputable def xrun (cd : xcd) (mi : xmi) (df : xdf) (el : Nat → Nat) (eb : List Nat) (f : Nat) : xF :=
  Nat.rec (motive := fun _ => xF) (fun _ _ _ _ _ _ _ _ _ _ => none) (fun _ r => xstep cd mi df el eb r) f
end
section
/-! What the explorer's values, cells and frames say of the machine's -/
section Rel
variable (sv : Nat → Int32) (ex : Nat → Nat)
def xoff (z : Int) : Nat := (z + 9223372036854775808).toNat
def xden (as : List Nat) (w : xv) (v : Value) : Prop :=
  match w.1 with
  | 0 => v = .int (nI w.2)
  | 1 => v = .int (sv w.2)
  | 2 => v = .long (lN w.2)
  | 3 => v = .long (sv w.2).toInt64
  | 4 => ∃ a, as[w.2]? = some a ∧ v = .ref a
  | 5 => v = .null
  | 6 => v = .ref (ex w.2)
  | 7 => ∃ x, v = .int x
  | 8 => ∃ x, v = .long x
  | 10 => v = .null ∨ ∃ a, v = .ref a
  | _ => False
def xle (as as' : List Nat) : Prop := ∀ (k a : Nat), as[k]? = some a → as'[k]? = some a
theorem xle.rf (as : List Nat) : xle as as := fun _ _ h => h
theorem xle.tr {a b c : List Nat} (h : xle a b) (k : xle b c) : xle a c := fun i x q => k i x (h i x q)
theorem xle.push (as : List Nat) (q : Nat) : xle as (as ++ [q]) := fun i x h => by
  have hl := (List.getElem?_eq_some_iff.mp h).1
  rw [List.getElem?_append_left hl]; exact h
theorem xden.mono {as as' : List Nat} (hl : xle as as') : ∀ {w : xv} {v : Value}, xden sv ex as w v → xden sv ex as' w v
  | (0, _), _, h => h
  | (1, _), _, h => h
  | (2, _), _, h => h
  | (3, _), _, h => h
  | (4, n), v, h => by
    obtain ⟨a, h1, h2⟩ : ∃ a : Nat, as[n]? = some a ∧ v = .ref a := h
    exact ⟨a, hl _ _ h1, h2⟩
  | (5, _), _, h => h
  | (6, _), _, h => h
  | (7, _), _, h => h
  | (8, _), _, h => h
  | (9, _), _, h => h.elim
  | (10, _), _, h => h
  | (_ + 11, _), _, h => h.elim
theorem xden.int {as : List Nat} : ∀ {w : xv} {v : Value}, xden sv ex as w v → xkd w.1 = 0 → ∃ x, v = .int x
  | (0, _), _, h, _ => ⟨_, h⟩
  | (1, _), _, h, _ => ⟨_, h⟩
  | (2, _), _, _, k => by cases k
  | (3, _), _, _, k => by cases k
  | (4, _), _, _, k => by cases k
  | (5, _), _, _, k => by cases k
  | (6, _), _, _, k => by cases k
  | (7, _), _, h, _ => h
  | (8, _), _, _, k => by cases k
  | (9, _), _, h, _ => h.elim
  | (10, _), _, _, k => by cases k
  | (_ + 11, _), _, h, _ => h.elim
theorem xden.long {as : List Nat} : ∀ {w : xv} {v : Value}, xden sv ex as w v → xkd w.1 = 1 → ∃ x, v = .long x
  | (0, _), _, _, k => by cases k
  | (1, _), _, _, k => by cases k
  | (2, _), _, h, _ => ⟨_, h⟩
  | (3, _), _, h, _ => ⟨_, h⟩
  | (4, _), _, _, k => by cases k
  | (5, _), _, _, k => by cases k
  | (6, _), _, _, k => by cases k
  | (7, _), _, _, k => by cases k
  | (8, _), _, h, _ => h
  | (9, _), _, h, _ => h.elim
  | (10, _), _, _, k => by cases k
  | (_ + 11, _), _, h, _ => h.elim
theorem xden.ref {as : List Nat} : ∀ {w : xv} {v : Value}, xden sv ex as w v → xkd w.1 = 2 → ∃ x, v = .ref x
  | (0, _), _, _, k => by cases k
  | (1, _), _, _, k => by cases k
  | (2, _), _, _, k => by cases k
  | (3, _), _, _, k => by cases k
  | (4, n), v, h, _ => by
    obtain ⟨a, h1, h2⟩ : ∃ a : Nat, as[n]? = some a ∧ v = .ref a := h
    exact ⟨a, h2⟩
  | (5, _), _, _, k => by cases k
  | (6, _), _, h, _ => ⟨_, h⟩
  | (7, _), _, _, k => by cases k
  | (8, _), _, _, k => by cases k
  | (9, _), _, h, _ => h.elim
  | (10, _), _, _, k => by cases k
  | (_ + 11, _), _, h, _ => h.elim
theorem xden.nul {as : List Nat} : ∀ {w : xv} {v : Value}, xden sv ex as w v → xkd w.1 = 3 → v = .null
  | (0, _), _, _, k => by cases k
  | (1, _), _, _, k => by cases k
  | (2, _), _, _, k => by cases k
  | (3, _), _, _, k => by cases k
  | (4, _), _, _, k => by cases k
  | (5, _), _, h, _ => h
  | (6, _), _, _, k => by cases k
  | (7, _), _, _, k => by cases k
  | (8, _), _, _, k => by cases k
  | (9, _), _, h, _ => h.elim
  | (10, _), _, _, k => by cases k
  | (_ + 11, _), _, h, _ => h.elim
theorem xden.cat {as : List Nat} : ∀ {w : xv} {v : Value}, xden sv ex as w v → v.category = cond (Nat.beq (xkd w.1) 1) 2 1
  | (0, _), _, h => by rw [show _ = _ from h]; rfl
  | (1, _), _, h => by rw [show _ = _ from h]; rfl
  | (2, _), _, h => by rw [show _ = _ from h]; rfl
  | (3, _), _, h => by rw [show _ = _ from h]; rfl
  | (4, n), v, h => by
    obtain ⟨a, h1, h2⟩ : ∃ a : Nat, as[n]? = some a ∧ v = .ref a := h
    rw [h2]; rfl
  | (5, _), _, h => by rw [show _ = _ from h]; rfl
  | (6, _), _, h => by rw [show _ = _ from h]; rfl
  | (7, n), v, h => by
    obtain ⟨x, h⟩ : ∃ x : Int32, v = .int x := h
    rw [h]; rfl
  | (8, n), v, h => by
    obtain ⟨x, h⟩ : ∃ x : Int64, v = .long x := h
    rw [h]; rfl
  | (9, _), _, h => h.elim
  | (10, n), v, h => by
    rcases (show v = .null ∨ ∃ a, v = .ref a from h) with h | ⟨a, h⟩ <;> rw [h] <;> rfl
  | (_ + 11, _), _, h => h.elim
theorem xden.own {as : List Nat} {w : xv} {v : Value} (h : xden sv ex as w v) (hw : w.1 = 4) : ∃ a, as[w.2]? = some a ∧ v = .ref a := by
  obtain ⟨t, n⟩ := w
  cases hw
  exact h
theorem xden.ext {as : List Nat} {w : xv} {v : Value} (h : xden sv ex as w v) (hw : w.1 = 6) : v = .ref (ex w.2) := by
  obtain ⟨t, n⟩ := w
  cases hw
  exact h
/-! numbers -/
theorem x32 (n : Nat) : nI (n % 4294967296) = nI n := by
  apply Int32.toBitVec_inj.mp
  show BitVec.ofNat 32 (n % 4294967296) = BitVec.ofNat 32 n
  apply BitVec.eq_of_toNat_eq
  simp
theorem x64 (n : Nat) : lN (n % 18446744073709551616) = lN n := by
  apply Int64.toBitVec_inj.mp
  show BitVec.ofNat 64 (n % 18446744073709551616) = BitVec.ofNat 64 n
  apply BitVec.eq_of_toNat_eq
  simp
theorem nI_xnu (x : Int32) : nI (xnu x) = x := by
  apply Int32.toBitVec_inj.mp
  show BitVec.ofNat 32 x.toBitVec.toNat = x.toBitVec
  simp
theorem lN_xnl (x : Int64) : lN (xnl x) = x := by
  apply Int64.toBitVec_inj.mp
  show BitVec.ofNat 64 x.toBitVec.toNat = x.toBitVec
  simp
theorem nI_int (n : Nat) : (nI n).toInt = if n % 4294967296 < 2147483648 then ((n % 4294967296 : Nat) : Int) else ((n % 4294967296 : Nat) : Int) - 4294967296 := by
  show (BitVec.ofNat 32 n).toInt = _
  rw [BitVec.toInt_eq_toNat_cond, BitVec.toNat_ofNat]
  simp only [show (2 : Nat) ^ 32 = 4294967296 from rfl]
  split <;> split <;> omega
theorem lN_int (n : Nat) : (lN n).toInt = if n % 18446744073709551616 < 9223372036854775808 then ((n % 18446744073709551616 : Nat) : Int) else ((n % 18446744073709551616 : Nat) : Int) - 18446744073709551616 := by
  show (BitVec.ofNat 64 n).toInt = _
  rw [BitVec.toInt_eq_toNat_cond, BitVec.toNat_ofNat]
  simp only [show (2 : Nat) ^ 64 = 18446744073709551616 from rfl]
  split <;> split <;> omega
theorem xoi_ok (n : Nat) : xoi n = xoff (nI n).toInt := by
  rw [nI_int]
  unfold xoi xoff
  have h := Nat.mod_lt n (show 0 < 4294967296 by decide)
  generalize n % 4294967296 = k at h ⊢
  cases hb : Nat.ble 2147483648 k with
  | true =>
    have := Nat.le_of_ble_eq_true hb
    simp only [cond_true]
    rw [if_neg (by omega)]; omega
  | false =>
    have : ¬ 2147483648 ≤ k := fun q => by rw [Nat.ble_eq_true_of_le q] at hb; cases hb
    simp only [cond_false]
    rw [if_pos (by omega)]; omega
theorem xol_ok (n : Nat) : xol n = xoff (lN n).toInt := by
  rw [lN_int]
  unfold xol xoff
  split <;> omega
theorem i32_lo (x : Int32) : -2147483648 ≤ x.toInt ∧ x.toInt < 2147483648 := by
  have h1 := x.toBitVec.toInt_lt
  have h2 := x.toBitVec.le_toInt
  simp at h1 h2
  exact ⟨h2, h1⟩
theorem i64_lo (x : Int64) : -9223372036854775808 ≤ x.toInt ∧ x.toInt < 9223372036854775808 := by
  have h1 := x.toBitVec.toInt_lt
  have h2 := x.toBitVec.le_toInt
  simp at h1 h2
  exact ⟨h2, h1⟩
theorem xoff_int (x : Int32) : (xoff x.toInt : Int) = x.toInt + 9223372036854775808 := by
  have := i32_lo x
  unfold xoff; omega
theorem xoff_long (x : Int64) : (xoff x.toInt : Int) = x.toInt + 9223372036854775808 := by
  have := i64_lo x
  unfold xoff; omega
theorem xoff_wide (x : Int32) : xoff x.toInt ≤ 18446744073709551616 := by
  have := i32_lo x
  have := xoff_int x
  omega
theorem xoff_wideL (x : Int64) : xoff x.toInt ≤ 18446744073709551616 := by
  have := i64_lo x
  have := xoff_long x
  omega
theorem x_i2lI (x : Int32) : x.toInt64.toInt = x.toInt := by simp
def xbf (f : Nat → Nat) (bx : xbox) : Prop := ∀ i, (xbg bx i).1 ≤ f i ∧ f i ≤ (xbg bx i).2
def xbxo (bx : xbox) : Prop := xbf (fun i => xoff (sv i).toInt) bx
theorem xbf_set : ∀ (bx : xbox) (f : Nat → Nat) (i lo hi : Nat), xbf f bx → lo ≤ f i → f i ≤ hi → xbf f (xbs bx i lo hi)
  | [], f, i, lo, hi, h, _, _ => h
  | q :: l, f, 0, lo, hi, h, h1, h2 => fun j => by
    cases j with
    | zero => exact ⟨h1, h2⟩
    | succ j => exact h (j + 1)
  | q :: l, f, i + 1, lo, hi, h, h1, h2 => fun j => by
    cases j with
    | zero => exact h 0
    | succ j => exact xbf_set l (fun k => f (k + 1)) i lo hi (fun k => h (k + 1)) h1 h2 j
theorem xrg_int {as : List Nat} {bx : xbox} (hb : xbxo sv bx) : ∀ {w : xv} {x : Int32}, xden sv ex as w (.int x) → (xrg bx w).1 ≤ xoff x.toInt ∧ xoff x.toInt ≤ (xrg bx w).2
  | (0, n), x, h => by
    have e : x = nI n := Value.int.inj h
    rw [e, ← xoi_ok]; exact ⟨Nat.le_refl _, Nat.le_refl _⟩
  | (1, n), x, h => by
    have e : x = sv n := Value.int.inj h
    rw [e]; exact hb n
  | (2, n), x, h => by cases h
  | (3, n), x, h => by cases h
  | (4, n), x, h => by
    obtain ⟨a, _, h2⟩ := h
    cases h2
  | (5, n), x, h => by cases h
  | (6, n), x, h => by cases h
  | (7, n), x, _ => ⟨Nat.zero_le _, xoff_wide x⟩
  | (8, n), x, _ => ⟨Nat.zero_le _, xoff_wide x⟩
  | (9, n), x, h => h.elim
  | (10, n), x, h => by
    rcases h with h | ⟨a, h⟩ <;> cases h
  | (_ + 11, n), x, h => h.elim
theorem xrg_long {as : List Nat} {bx : xbox} (hb : xbxo sv bx) : ∀ {w : xv} {x : Int64}, xden sv ex as w (.long x) → (xrg bx w).1 ≤ xoff x.toInt ∧ xoff x.toInt ≤ (xrg bx w).2
  | (0, n), x, h => by cases h
  | (1, n), x, h => by cases h
  | (2, n), x, h => by
    have e : x = lN n := Value.long.inj h
    rw [e, ← xol_ok]; exact ⟨Nat.le_refl _, Nat.le_refl _⟩
  | (3, n), x, h => by
    have e : x = (sv n).toInt64 := Value.long.inj h
    rw [e, x_i2lI]; exact hb n
  | (4, n), x, h => by
    obtain ⟨a, _, h2⟩ := h
    cases h2
  | (5, n), x, h => by cases h
  | (6, n), x, h => by cases h
  | (7, n), x, _ => ⟨Nat.zero_le _, xoff_wideL x⟩
  | (8, n), x, _ => ⟨Nat.zero_le _, xoff_wideL x⟩
  | (9, n), x, h => h.elim
  | (10, n), x, h => by
    rcases h with h | ⟨a, h⟩ <;> cases h
  | (_ + 11, n), x, h => h.elim
theorem x_one (x : Int32) {o : Nat} (h1 : o ≤ xoff x.toInt) (h2 : xoff x.toInt ≤ o) : x = nI (o % 4294967296) := by
  apply Int32.toInt_inj.mp
  have hb := i32_lo x
  have := xoff_int x
  rw [nI_int]
  split <;> omega
theorem x_oneL (x : Int32) {o : Nat} (h1 : o ≤ xoff x.toInt) (h2 : xoff x.toInt ≤ o) : x.toInt64 = lN ((o + 9223372036854775808) % 18446744073709551616) := by
  apply Int64.toInt_inj.mp
  have hb := i32_lo x
  have := xoff_int x
  rw [x_i2lI, lN_int]
  split <;> omega
theorem xci_ok {as : List Nat} {bx : xbox} (hb : xbxo sv bx) : ∀ {w : xv} {v : Value} {n : Nat}, xden sv ex as w v → xci bx w = some n → v = .int (nI n)
  | (0, _), v, n, h, k => by cases k; exact h
  | (1, i), v, n, h, k => by
    have k' : cond (Nat.beq (xbg bx i).1 (xbg bx i).2) (some ((xbg bx i).1 % 4294967296)) none = some n := k
    cases hq : Nat.beq (xbg bx i).1 (xbg bx i).2 with
    | false => rw [hq] at k'; cases k'
    | true =>
      rw [hq] at k'
      have e := Nat.eq_of_beq_eq_true hq
      have hr := hb i
      rw [show v = _ from h, x_one (sv i) (o := (xbg bx i).1) hr.1 (by rw [e]; exact hr.2)]
      rw [← Option.some.inj k']
  | (2, _), v, n, h, k => by cases k
  | (3, _), v, n, h, k => by cases k
  | (4, _), v, n, h, k => by cases k
  | (5, _), v, n, h, k => by cases k
  | (6, _), v, n, h, k => by cases k
  | (7, _), v, n, h, k => by cases k
  | (8, _), v, n, h, k => by cases k
  | (9, _), v, n, h, k => by cases k
  | (10, _), v, n, h, k => by cases k
  | (_ + 11, _), v, n, h, k => by cases k
theorem xcl_ok {as : List Nat} {bx : xbox} (hb : xbxo sv bx) : ∀ {w : xv} {v : Value} {n : Nat}, xden sv ex as w v → xcl bx w = some n → v = .long (lN n)
  | (0, _), v, n, h, k => by cases k
  | (1, _), v, n, h, k => by cases k
  | (2, _), v, n, h, k => by cases k; exact h
  | (3, i), v, n, h, k => by
    have k' : cond (Nat.beq (xbg bx i).1 (xbg bx i).2) (some (((xbg bx i).1 + 9223372036854775808) % 18446744073709551616)) none = some n := k
    cases hq : Nat.beq (xbg bx i).1 (xbg bx i).2 with
    | false => rw [hq] at k'; cases k'
    | true =>
      rw [hq] at k'
      have e := Nat.eq_of_beq_eq_true hq
      have hr := hb i
      rw [show v = _ from h, x_oneL (sv i) (o := (xbg bx i).1) hr.1 (by rw [e]; exact hr.2)]
      rw [← Option.some.inj k']
  | (4, _), v, n, h, k => by cases k
  | (5, _), v, n, h, k => by cases k
  | (6, _), v, n, h, k => by cases k
  | (7, _), v, n, h, k => by cases k
  | (8, _), v, n, h, k => by cases k
  | (9, _), v, n, h, k => by cases k
  | (10, _), v, n, h, k => by cases k
  | (_ + 11, _), v, n, h, k => by cases k
/-! stacks and locals -/
def xstR (as : List Nat) : List xv → List Value → Prop
  | [], [] => True
  | w :: l, v :: m => xden sv ex as w v ∧ xstR as l m
  | _, _ => False
def xlsR (as : List Nat) : List (Nat × xv) → List (Nat × Value) → Prop
  | [], [] => True
  | q :: l, r :: m => r.1 = q.1 ∧ xden sv ex as q.2 r.2 ∧ xlsR as l m
  | _, _ => False
theorem xstR.mono {as as' : List Nat} (hl : xle as as') : ∀ {a : List xv} {b : List Value}, xstR sv ex as a b → xstR sv ex as' a b
  | [], [], _ => trivial
  | _ :: _, _ :: _, h => ⟨xden.mono sv ex hl h.1, xstR.mono hl h.2⟩
  | [], _ :: _, h => h.elim
  | _ :: _, [], h => h.elim
theorem xlsR.mono {as as' : List Nat} (hl : xle as as') : ∀ {a : List (Nat × xv)} {b : List (Nat × Value)}, xlsR sv ex as a b → xlsR sv ex as' a b
  | [], [], _ => trivial
  | _ :: _, _ :: _, h => ⟨h.1, xden.mono sv ex hl h.2.1, xlsR.mono hl h.2.2⟩
  | [], _ :: _, h => h.elim
  | _ :: _, [], h => h.elim
theorem xlk_ok {as : List Nat} {i : Nat} {w : xv} : ∀ {a : List (Nat × xv)} {b : List (Nat × Value)}, xlsR sv ex as a b → xlk a i = some w → ∃ (k : Nat) (v : Value), b[k]? = some (i, v) ∧ xden sv ex as w v
  | [], _, _, h => by cases h
  | _ :: _, [], h, _ => h.elim
  | q :: l, r :: m, h, hk => by
    have hk' : cond (Nat.beq q.1 i) (some q.2) (xlk l i) = some w := hk
    cases hb : Nat.beq q.1 i with
    | true =>
      rw [hb] at hk'
      have e := Nat.eq_of_beq_eq_true hb
      have e2 : q.2 = w := Option.some.inj hk'
      refine ⟨0, r.2, ?_, by rw [← e2]; exact h.2.1⟩
      show some r = some (i, r.2)
      rw [← e, ← h.1]
    | false =>
      rw [hb] at hk'
      obtain ⟨k, v, h1, h2⟩ := xlk_ok h.2.2 hk'
      exact ⟨k + 1, v, h1, h2⟩
theorem xlsR.filter {as : List Nat} {f : Nat × xv → Bool} {g : Nat × Value → Bool} (hfg : ∀ (i : Nat) (w : xv) (v : Value), xden sv ex as w v → f (i, w) = g (i, v)) : ∀ {a : List (Nat × xv)} {b : List (Nat × Value)}, xlsR sv ex as a b → xlsR sv ex as (a.filter f) (b.filter g)
  | [], [], _ => trivial
  | [], _ :: _, h => h.elim
  | _ :: _, [], h => h.elim
  | (i, w) :: l, (j, v) :: m, h => by
    obtain ⟨h1, h2, h3⟩ := h
    have h1' : j = i := h1
    subst h1'
    have e := hfg j w v h2
    rw [List.filter_cons, List.filter_cons, e]
    cases g (j, v) with
    | true => exact ⟨rfl, h2, xlsR.filter hfg h3⟩
    | false => exact xlsR.filter hfg h3
theorem xnb (a b : Nat) : Nat.beq a b = (a == b) := by
  rw [Bool.eq_iff_iff, beq_iff_eq]
  exact ⟨Nat.eq_of_beq_eq_true, fun h => by rw [h]; exact Nat.beq_refl b⟩
theorem xk1_ok {as : List Nat} (i : Nat) : ∀ (j : Nat) (w : xv) (v : Value), xden sv ex as w v → xk1 i (j, w) = (fun q : Nat × Value => !(q.1 == i) && !(q.1 + 1 == i && q.2.category == 2)) (j, v) := by
  intro j w v h
  have hc := xden.cat sv ex h
  show (!(Nat.beq j i) && !(Nat.beq (j + 1) i && Nat.beq (xkd w.1) 1)) = (!(j == i) && !(j + 1 == i && v.category == 2))
  rw [hc, xnb j i, xnb (j + 1) i]
  cases Nat.beq (xkd w.1) 1 <;> rfl
theorem xk2_ok {as : List Nat} (i : Nat) : ∀ (j : Nat) (w : xv) (v : Value), xden sv ex as w v → xk2 i (j, w) = (fun q : Nat × Value => !(q.1 == i) && (!(q.1 == i + 1) && !(q.1 + 1 == i && q.2.category == 2))) (j, v) := by
  intro j w v h
  have hc := xden.cat sv ex h
  show (!(Nat.beq j i) && (!(Nat.beq j (i + 1)) && !(Nat.beq (j + 1) i && Nat.beq (xkd w.1) 1))) = (!(j == i) && (!(j == i + 1) && !(j + 1 == i && v.category == 2)))
  rw [hc, xnb j i, xnb (j + 1) i, xnb j (i + 1)]
  cases Nat.beq (xkd w.1) 1 <;> rfl
theorem xwds_ok {as : List Nat} : ∀ {a : List xv} {b : List Value}, xstR sv ex as a b → (b.map fun v => v.category).sum = xwds a
  | [], [], _ => rfl
  | [], _ :: _, h => h.elim
  | _ :: _, [], h => h.elim
  | w :: l, v :: m, h => by
    rw [List.map_cons, List.sum_cons, xwds_ok h.2, xden.cat sv ex h.1]
    rfl
theorem xarg_ok {as : List Nat} : ∀ {a : List xv} {b : List Value} (i : Nat), xstR sv ex as a b → xlsR sv ex as (xarg i a) (lv_args i b)
  | [], [], _, _ => trivial
  | [], _ :: _, _, h => h.elim
  | _ :: _, [], _, h => h.elim
  | w :: l, v :: m, i, h => by
    refine ⟨rfl, h.1, ?_⟩
    have hc := xden.cat sv ex h.1
    have e : (if v.category = 2 then i + 2 else i + 1) = cond (Nat.beq (xkd w.1) 1) (i + 2) (i + 1) := by
      rw [hc]; cases Nat.beq (xkd w.1) 1 <;> rfl
    show xlsR sv ex as (xarg (cond (Nat.beq (xkd w.1) 1) (i + 2) (i + 1)) l) (lv_args (if v.category = 2 then i + 2 else i + 1) m)
    rw [e]
    exact xarg_ok _ h.2
theorem xsl_len {as : List Nat} : ∀ {a : List xv} {b : List Value}, xstR sv ex as a b → (lg_sl b).length = xwds a
  | [], [], _ => rfl
  | [], _ :: _, h => h.elim
  | _ :: _, [], h => h.elim
  | w :: l, v :: m, h => by
    have hc := xden.cat sv ex h.1
    have ih := xsl_len h.2
    unfold lg_sl at ih ⊢
    rw [List.flatMap_cons, List.length_append, ih, hc]
    show _ = cond (Nat.beq (xkd w.1) 1) 2 1 + xwds l
    cases Nat.beq (xkd w.1) 1 <;> rfl
theorem xpop_ok {as : List Nat} : ∀ (k : Nat) {acc st : List xv} {accV stV : List Value} {q : List xv × List xv}, xstR sv ex as acc accV → xstR sv ex as st stV → xpop k acc st = some q →
    ∃ aV rV, xstR sv ex as q.1 aV ∧ xstR sv ex as q.2 rV ∧ aV.reverse ++ rV = accV.reverse ++ stV ∧ aV.length = k + accV.length
  | 0, acc, st, accV, stV, q, h1, h2, h => by
    cases h
    exact ⟨accV, stV, h1, h2, rfl, by omega⟩
  | k + 1, acc, [], accV, stV, q, h1, h2, h => by cases h
  | k + 1, acc, w :: l, accV, [], q, h1, h2, h => h2.elim
  | k + 1, acc, w :: l, accV, v :: m, q, h1, h2, h => by
    obtain ⟨aV, rV, e1, e2, e3, e4⟩ := xpop_ok k (acc := w :: acc) (accV := v :: accV) ⟨h2.1, h1⟩ h2.2 h
    refine ⟨aV, rV, e1, e2, ?_, ?_⟩
    · rw [e3, List.reverse_cons, List.append_assoc]; rfl
    · rw [e4, List.length_cons]; omega
end Rel
end
section
/-! Cells, heaps, frames; what is known of the tables -/
section World
variable (D : va_G) (cl : List vw_C) (A : Nat → Prop) (sv : Nat → Int32) (ex : Nat → Nat)
def xaT (U : State) (cA : ClassId) (ty : FieldType) : Prop := ArrOfT U cA ty ∧ va_RA U cA ty
def xcR (U : State) (as : List Nat) (c : xcell) (e : va_E) : Prop :=
  (c.1 < 13 ∧ (∃ r : vw_C, cl[c.1]? = some r ∧ r.2.2 = c.2.1) ∧ ∃ fs : List Value, e = .inr (c.1, fs) ∧ fs.length = c.2.1 ∧ ∀ j : Nat, j < c.2.1 → ∃ (w : xv) (v : Value), xg c.2.2 j = some w ∧ fs[j]? = some v ∧ xden sv ex as w v)
  ∨ (c.1 = 13 ∧ ∃ (cA : ClassId) (f : Nat → Int32), e = .inl (cA, c.2.1, .inl f) ∧ xaT U cA .int ∧ ∀ j : Nat, j < c.2.1 → ∃ w : xv, xg c.2.2 j = some w ∧ xden sv ex as w (.int (f j)))
  ∨ (c.1 = 14 ∧ ∃ (cA : ClassId) (f : Nat → Int64), e = .inl (cA, c.2.1, .inr (.inl f)) ∧ xaT U cA .long ∧ ∀ j : Nat, j < c.2.1 → ∃ w : xv, xg c.2.2 j = some w ∧ xden sv ex as w (.long (f j)))
  ∨ (c.1 = 15 ∧ ∃ (cA : ClassId) (f : Nat → Int32), e = .inl (cA, c.2.1, .inl f) ∧ xaT U cA .byte ∧ ∀ j : Nat, j < c.2.1 → ∃ w : xv, xg c.2.2 j = some w ∧ xden sv ex as w (.int (f j)))
  ∨ (20 ≤ c.1 ∧ ∃ (cA : ClassId) (r : vw_C) (f : Nat → Option Nat), cl[c.1 - 20]? = some r ∧ e = .inl (cA, c.2.1, .inr (.inr (.inr (.inr f)))) ∧ xaT U cA (.object r.1) ∧ ∀ j : Nat, j < c.2.1 → ∃ w : xv, xg c.2.2 j = some w ∧ xden sv ex as w (va_rf (f j)))
theorem xaT.moved {u U : State} (hvm : u.vm.Alike U.vm) {cA : ClassId} {ty : FieldType} (h : xaT u cA ty) : xaT U cA ty := ⟨arrOfT_moved hvm h.1, h.2.moved hvm⟩
theorem xcR.moved {u U : State} (hvm : u.vm.Alike U.vm) {as : List Nat} {c : xcell} {e : va_E} (h : xcR cl sv ex u as c e) : xcR cl sv ex U as c e := by
  rcases h with h | ⟨h0, cA, f, h1, h2, h3⟩ | ⟨h0, cA, f, h1, h2, h3⟩ | ⟨h0, cA, f, h1, h2, h3⟩ | ⟨h0, cA, r, f, h1, h2, h3, h4⟩
  · exact Or.inl h
  · exact Or.inr (Or.inl ⟨h0, cA, f, h1, h2.moved hvm, h3⟩)
  · exact Or.inr (Or.inr (Or.inl ⟨h0, cA, f, h1, h2.moved hvm, h3⟩))
  · exact Or.inr (Or.inr (Or.inr (Or.inl ⟨h0, cA, f, h1, h2.moved hvm, h3⟩)))
  · exact Or.inr (Or.inr (Or.inr (Or.inr ⟨h0, cA, r, f, h1, h2, h3.moved hvm, h4⟩)))
theorem xcR.mono {U : State} {as as' : List Nat} (hl : xle as as') {c : xcell} {e : va_E} (h : xcR cl sv ex U as c e) : xcR cl sv ex U as' c e := by
  rcases h with ⟨h0, h1, fs, h2, h3, h4⟩ | ⟨h0, cA, f, h1, h2, h3⟩ | ⟨h0, cA, f, h1, h2, h3⟩ | ⟨h0, cA, f, h1, h2, h3⟩ | ⟨h0, cA, r, f, h1, h2, h3, h4⟩
  · refine Or.inl ⟨h0, h1, fs, h2, h3, fun j hj => ?_⟩
    obtain ⟨w, v, q1, q2, q3⟩ := h4 j hj
    exact ⟨w, v, q1, q2, xden.mono sv ex hl q3⟩
  · refine Or.inr (Or.inl ⟨h0, cA, f, h1, h2, fun j hj => ?_⟩)
    obtain ⟨w, q1, q3⟩ := h3 j hj
    exact ⟨w, q1, xden.mono sv ex hl q3⟩
  · refine Or.inr (Or.inr (Or.inl ⟨h0, cA, f, h1, h2, fun j hj => ?_⟩))
    obtain ⟨w, q1, q3⟩ := h3 j hj
    exact ⟨w, q1, xden.mono sv ex hl q3⟩
  · refine Or.inr (Or.inr (Or.inr (Or.inl ⟨h0, cA, f, h1, h2, fun j hj => ?_⟩)))
    obtain ⟨w, q1, q3⟩ := h3 j hj
    exact ⟨w, q1, xden.mono sv ex hl q3⟩
  · refine Or.inr (Or.inr (Or.inr (Or.inr ⟨h0, cA, r, f, h1, h2, h3, fun j hj => ?_⟩)))
    obtain ⟨w, q1, q3⟩ := h4 j hj
    exact ⟨w, q1, xden.mono sv ex hl q3⟩
theorem xcR.obj {U : State} {as : List Nat} {c : xcell} {e : va_E} (h : xcR cl sv ex U as c e) (hc : c.1 < 13) : (∃ r : vw_C, cl[c.1]? = some r ∧ r.2.2 = c.2.1) ∧ ∃ fs : List Value, e = .inr (c.1, fs) ∧ fs.length = c.2.1 ∧ ∀ j : Nat, j < c.2.1 → ∃ (w : xv) (v : Value), xg c.2.2 j = some w ∧ fs[j]? = some v ∧ xden sv ex as w v := by
  rcases h with h | h | h | h | h
  · exact h.2
  · have := h.1; omega
  · have := h.1; omega
  · have := h.1; omega
  · have := h.1; omega
theorem xcR.a13 {U : State} {as : List Nat} {c : xcell} {e : va_E} (h : xcR cl sv ex U as c e) (hc : c.1 = 13) : ∃ (cA : ClassId) (f : Nat → Int32), e = .inl (cA, c.2.1, .inl f) ∧ xaT U cA .int ∧ ∀ j : Nat, j < c.2.1 → ∃ w : xv, xg c.2.2 j = some w ∧ xden sv ex as w (.int (f j)) := by
  rcases h with h | h | h | h | h
  · have := h.1; omega
  · exact h.2
  · have := h.1; omega
  · have := h.1; omega
  · have := h.1; omega
theorem xcR.a14 {U : State} {as : List Nat} {c : xcell} {e : va_E} (h : xcR cl sv ex U as c e) (hc : c.1 = 14) : ∃ (cA : ClassId) (f : Nat → Int64), e = .inl (cA, c.2.1, .inr (.inl f)) ∧ xaT U cA .long ∧ ∀ j : Nat, j < c.2.1 → ∃ w : xv, xg c.2.2 j = some w ∧ xden sv ex as w (.long (f j)) := by
  rcases h with h | h | h | h | h
  · have := h.1; omega
  · have := h.1; omega
  · exact h.2
  · have := h.1; omega
  · have := h.1; omega
theorem xcR.a15 {U : State} {as : List Nat} {c : xcell} {e : va_E} (h : xcR cl sv ex U as c e) (hc : c.1 = 15) : ∃ (cA : ClassId) (f : Nat → Int32), e = .inl (cA, c.2.1, .inl f) ∧ xaT U cA .byte ∧ ∀ j : Nat, j < c.2.1 → ∃ w : xv, xg c.2.2 j = some w ∧ xden sv ex as w (.int (f j)) := by
  rcases h with h | h | h | h | h
  · have := h.1; omega
  · have := h.1; omega
  · have := h.1; omega
  · exact h.2
  · have := h.1; omega
theorem xcR.a20 {U : State} {as : List Nat} {c : xcell} {e : va_E} (h : xcR cl sv ex U as c e) (hc : 20 ≤ c.1) : ∃ (cA : ClassId) (r : vw_C) (f : Nat → Option Nat), cl[c.1 - 20]? = some r ∧ e = .inl (cA, c.2.1, .inr (.inr (.inr (.inr f)))) ∧ xaT U cA (.object r.1) ∧ ∀ j : Nat, j < c.2.1 → ∃ w : xv, xg c.2.2 j = some w ∧ xden sv ex as w (va_rf (f j)) := by
  rcases h with h | h | h | h | h
  · have := h.1; omega
  · have := h.1; omega
  · have := h.1; omega
  · have := h.1; omega
  · exact h.2
/-- any array: its length and class -/
theorem xcR.arr {U : State} {as : List Nat} {c : xcell} {e : va_E} (h : xcR cl sv ex U as c e) (hc : 13 ≤ c.1) : ∃ (cA : ClassId) (x : vp_A) (ty : FieldType), e = .inl (cA, x) ∧ x.1 = c.2.1 ∧ xaT U cA ty := by
  rcases h with h | ⟨h0, cA, f, h1, h2, h3⟩ | ⟨h0, cA, f, h1, h2, h3⟩ | ⟨h0, cA, f, h1, h2, h3⟩ | ⟨h0, cA, r, f, h1, h2, h3, h4⟩
  · have := h.1; omega
  · exact ⟨cA, _, _, h1, rfl, h2⟩
  · exact ⟨cA, _, _, h1, rfl, h2⟩
  · exact ⟨cA, _, _, h1, rfl, h2⟩
  · exact ⟨cA, _, _, h2, rfl, h3⟩
def xhR (U : State) (as : List Nat) (h : xheap) (n : Nat) (ws : va_W) : Prop :=
  as.length = n ∧ ws.length = n ∧ ∀ k : Nat, k < n → ∃ (a : Nat) (c : xcell) (e : va_E), as[k]? = some a ∧ xg h k = some c ∧ ws[k]? = some (a, e) ∧ xcR cl sv ex U as c e
theorem xhR.moved {u U : State} (hvm : u.vm.Alike U.vm) {as : List Nat} {h : xheap} {n : Nat} {ws : va_W} (hh : xhR cl sv ex u as h n ws) : xhR cl sv ex U as h n ws := by
  obtain ⟨h1, h2, h3⟩ := hh
  refine ⟨h1, h2, fun k hk => ?_⟩
  obtain ⟨a, c, e, q1, q2, q3, q4⟩ := h3 k hk
  exact ⟨a, c, e, q1, q2, q3, xcR.moved cl sv ex hvm q4⟩
theorem xhR.at {U : State} {as : List Nat} {h : xheap} {n : Nat} {ws : va_W} (hh : xhR cl sv ex U as h n ws) {k a : Nat} {q : xcell} (ha : as[k]? = some a) (hq : xg h k = some q) : ∃ e : va_E, ws[k]? = some (a, e) ∧ xcR cl sv ex U as q e := by
  obtain ⟨h1, h2, h3⟩ := hh
  have hk : k < n := by rw [← h1]; exact (List.getElem?_eq_some_iff.mp ha).1
  obtain ⟨a', c, e, q1, q2, q3, q4⟩ := h3 k hk
  have e1 : a' = a := Option.some.inj (q1.symm.trans ha)
  have e2 : c = q := Option.some.inj (q2.symm.trans hq)
  subst e1; subst e2
  exact ⟨e, q3, q4⟩
theorem xhR.set {U : State} {as : List Nat} {h : xheap} {n : Nat} {ws : va_W} (hh : xhR cl sv ex U as h n ws) {k a : Nat} {q q' : xcell} {e' : va_E} (ha : as[k]? = some a) (hq : xg h k = some q) (he : xcR cl sv ex U as q' e') : xhR cl sv ex U as (xw h k q') n (ws.set k (a, e')) := by
  obtain ⟨h1, h2, h3⟩ := hh
  refine ⟨h1, by rw [List.length_set]; exact h2, fun j hj => ?_⟩
  by_cases hjk : j = k
  · subst hjk
    exact ⟨a, q', e', ha, xg_self h j q' q hq, List.getElem?_set_self (by rw [h2]; exact hj), he⟩
  · obtain ⟨a', c, e, q1, q2, q3, q4⟩ := h3 j hj
    exact ⟨a', c, e, q1, by rw [xg_other h k j q' hjk]; exact q2, by rw [List.getElem?_set_ne (Ne.symm hjk)]; exact q3, q4⟩
theorem xhR.push {U : State} {as : List Nat} {h : xheap} {n : Nat} {ws : va_W} (hh : xhR cl sv ex U as h n ws) {a : Nat} {q q' : xcell} {e' : va_E} (hq : xg h n = some q) (he : xcR cl sv ex U (as ++ [a]) q' e') : xhR cl sv ex U (as ++ [a]) (xw h n q') (n + 1) (ws ++ [(a, e')]) := by
  obtain ⟨h1, h2, h3⟩ := hh
  refine ⟨by rw [List.length_append, h1]; rfl, by rw [List.length_append, h2]; rfl, fun j hj => ?_⟩
  by_cases hjk : j = n
  · subst hjk
    refine ⟨a, q', e', ?_, xg_self h j q' q hq, ?_, he⟩
    · rw [← h1, List.getElem?_append_right (Nat.le_refl _), Nat.sub_self]; rfl
    · rw [← h2, List.getElem?_append_right (Nat.le_refl _), Nat.sub_self]; rfl
  · obtain ⟨a', c, e, q1, q2, q3, q4⟩ := h3 j (by omega)
    refine ⟨a', c, e, xle.push as a j a' q1, by rw [xg_other h n j q' hjk]; exact q2, ?_, xcR.mono cl sv ex (xle.push as a) q4⟩
    rw [List.getElem?_append_left (by omega)]; exact q3
def xWorld (s : State) (as : List Nat) (bx : xbox) (h : xheap) (n : Nat) (ws : va_W) (H : Heap) (locs : List Loc) : Prop :=
  xbxo sv bx ∧ xhR cl sv ex s as h n ws ∧ va_P D cl ws H ∧ va_D A ws ∧ va_S A s.heap H locs
def xFrm (as : List Nat) (nL : Nat) (ls : List (Nat × xv)) (st : List xv) (la : Array Slot) (stv : List Value) : Prop :=
  (∃ lv : List (Nat × Value), lv_has la nL lv ∧ xlsR sv ex as ls lv) ∧ xstR sv ex as st stv
/-- what was there before and is read: the script, two statics, a text -/
def xEX (el : Nat → Nat) (eb : List Nat) (nest : List (String × Nat × MethodName × String)) (txt : String × Nat × String) (ovr : List String) (s : State) : Prop :=
  (va_X (ex 0) (el 0) sv s s.heap ∧ ex 0 < s.heap.size ∧ ¬ A (ex 0)) ∧
  va_Z "java/lang/String" "COMPACT_STRINGS" "Z" (.int 1) A s s.heap ∧
  va_Zq "jdk/internal/util/Preconditions" "SIOOBE_FORMATTER" "Ljava/util/function/BiFunction;" A s s.heap ∧
  (va_O "java/lang/String" (ex 1) A s s.heap ∧ va_OF "java/lang/String" "coder" "B" (.int 0) (ex 1) A s s.heap ∧ va_OF "java/lang/String" "value" "[B" (.ref (ex 2)) (ex 1) A s s.heap ∧ va_T .byte (ex 2) (el 2) (fun j => .int (nI (eb.getD j 0))) A s s.heap) ∧
  vk_R txt.1 txt.2.1 txt.2.2 (ex 1) s ∧
  (∀ q ∈ nest, va_Nw (.methodLinkNest q.1 q.2.1 q.2.2.1 q.2.2.2) s) ∧ ∀ C ∈ ovr, va_AO C s
theorem xEX.moved {el : Nat → Nat} {eb : List Nat} {nest : List (String × Nat × MethodName × String)} {txt : String × Nat × String} {ovr : List String} {s U : State} (hW : s.WarmedH U.vm) (hz : s.heap.size ≤ U.heap.size) (hk : ∀ a : Nat, a < s.heap.size → ¬ A a → U.heap[a]? = s.heap[a]?) (h : xEX A sv ex el eb nest txt ovr s) : xEX A sv ex el eb nest txt ovr U := by
  obtain ⟨⟨a1, a2, a3⟩, b, c, ⟨d1, d2, d3, d4⟩, e, f, g⟩ := h
  have hv := hW.alike
  refine ⟨⟨(a1.moved hv).kept (hk _ a2 a3), Nat.lt_of_lt_of_le a2 hz, a3⟩, (b.moved hv).kept hk, ?_, ⟨(va_O.moved hv d1).kept hk, (va_OF.moved hv d2).kept hk, (va_OF.moved hv d3).kept hk, (va_T.moved hv d4).kept hk⟩, vk_R.warm hW e, fun q hq => va_Nw.warmM hW (f q hq), fun C hC => va_AO.moved hv (g C hC)⟩
  rcases c with c | ⟨t, c⟩
  · exact Or.inl ((c.moved hv).kept hk)
  · exact Or.inr ⟨t, (c.moved hv).kept hk⟩
theorem xEX.same {el : Nat → Nat} {eb : List Nat} {nest : List (String × Nat × MethodName × String)} {txt : String × Nat × String} {ovr : List String} {s U : State} (hv : U.vm = s.vm) (hh : U.heap = s.heap) (h : xEX A sv ex el eb nest txt ovr s) : xEX A sv ex el eb nest txt ovr U := by
  obtain ⟨⟨a1, a2, a3⟩, b, c, ⟨d1, d2, d3, d4⟩, e, f, g⟩ := h
  have hva : s.vm.Alike U.vm := by rw [hv]; exact Vm.Alike.refl _
  unfold xEX
  rw [hh]
  refine ⟨⟨a1.moved hva, a2, a3⟩, b.moved hva, ?_, ⟨va_O.moved hva d1, va_OF.moved hva d2, va_OF.moved hva d3, va_T.moved hva d4⟩, vk_R.same hv e, fun q hq => va_Nw.same rfl hv.symm (f q hq), fun C hC => va_AO.moved hva (g C hC)⟩
  rcases c with c | ⟨t, c⟩
  · exact Or.inl (c.moved hva)
  · exact Or.inr ⟨t, c.moved hva⟩
end World
end
section
/-! What it means that a step ends well -/
theorem xcnd {α : Type} {b : Bool} {x : Option α} {L : α} (h : cond b x none = some L) : b = true ∧ x = some L := by
  cases b with
  | true => exact ⟨rfl, h⟩
  | false => cases h
theorem xcndn {α : Type} {b : Bool} {x : Option α} {L : α} (h : cond b none x = some L) : b = false ∧ x = some L := by
  cases b with
  | false => exact ⟨rfl, h⟩
  | true => cases h
theorem xand {a b : Bool} (h : (a && b) = true) : a = true ∧ b = true := by cases a <;> cases b <;> simp_all
theorem xor2 {a b : Bool} (h : (a || b) = true) : a = true ∨ b = true := by cases a <;> cases b <;> simp_all
theorem xeqb {a b : Nat} (h : Nat.beq a b = true) : a = b := Nat.eq_of_beq_eq_true h
theorem xneb {a b : Nat} (h : Nat.beq a b = false) : a ≠ b := fun e => by rw [e, Nat.beq_refl] at h; cases h
theorem xleb {a b : Nat} (h : Nat.ble a b = true) : a ≤ b := Nat.le_of_ble_eq_true h
theorem xltb {a b : Nat} (h : Nat.blt a b = true) : a < b := Nat.le_of_ble_eq_true h
theorem xnleb {a b : Nat} (h : Nat.ble a b = false) : b < a := Nat.lt_of_not_le fun q => by rw [Nat.ble_eq_true_of_le q] at h; cases h
theorem xnltb {a b : Nat} (h : Nat.blt a b = false) : b ≤ a := Nat.le_of_lt_succ (xnleb (a := a + 1) (b := b) h)
theorem xapp_ok {a b : xR} {L : List xleaf} (h : xapp a b = some L) : ∃ x y, a = some x ∧ b = some y ∧ L = x ++ y := by
  cases a with
  | none => cases h
  | some x =>
    cases b with
    | none => cases h
    | some y => exact ⟨x, y, rfl, rfl, (Option.some.inj h).symm⟩
theorem xbind_ok {k : xleaf → xR} : ∀ {M L : List xleaf}, xbind k M = some L → ∀ q ∈ M, ∃ L', k q = some L' ∧ ∀ x ∈ L', x ∈ L
  | [], L, _, q, hq => by cases hq
  | r :: M, L, h, q, hq => by
    obtain ⟨x, y, h1, h2, h3⟩ := xapp_ok h
    subst h3
    rcases List.mem_cons.mp hq with e | e
    · subst e
      exact ⟨x, h1, fun z hz => List.mem_append_left _ hz⟩
    · obtain ⟨L', g1, g2⟩ := xbind_ok h2 q e
      exact ⟨L', g1, fun z hz => List.mem_append_right _ (g2 z hz)⟩
section Inv
variable {sv : Nat → Int32} {ex : Nat → Nat}
theorem xspl_ok {k : xbox → xR} {bx : xbox} {i o : Nat} {L : List xleaf} (hb : xbxo sv bx) (h : xspl k bx i o = some L) : ∃ bx' L', xbxo sv bx' ∧ k bx' = some L' ∧ ∀ q ∈ L', q ∈ L := by
  obtain ⟨x, y, h1, h2, h3⟩ := xapp_ok h
  obtain ⟨u, v, h4, h5, h6⟩ := xapp_ok h2
  subst h3; subst h6
  have hr := hb i
  rcases Nat.lt_trichotomy (xoff (sv i).toInt) o with q | q | q
  · have hf : Nat.ble o (xbg bx i).1 = false := by
      cases hq : Nat.ble o (xbg bx i).1 with
      | false => rfl
      | true => have := xleb hq; have := hr.1; dsimp only at this; omega
    rw [hf] at h1
    exact ⟨_, x, xbf_set bx _ i _ _ hb hr.1 (by omega), h1, fun z hz => List.mem_append_left _ hz⟩
  · exact ⟨_, u, xbf_set bx _ i _ _ hb (by omega) (by omega), h4, fun z hz => List.mem_append_right _ (List.mem_append_left _ hz)⟩
  · have hf : Nat.ble (xbg bx i).2 o = false := by
      cases hq : Nat.ble (xbg bx i).2 o with
      | false => rfl
      | true => have := xleb hq; have := hr.2; dsimp only at this; omega
    rw [hf] at h5
    exact ⟨_, v, xbf_set bx _ i _ _ hb (by omega) hr.2, h5, fun z hz => List.mem_append_right _ (List.mem_append_right _ hz)⟩
def xrel (o : Jvm.ClassFile.Cond) (x y : Nat) : Prop :=
  match o with
  | .eq => x = y
  | .ne => ¬ x = y
  | .lt => x < y
  | .ge => y ≤ x
  | .gt => y < x
  | .le => x ≤ y
theorem xdec_ok {o : Jvm.ClassFile.Cond} {a b : Nat × Nat} {t : Bool} (h : xdec o a b = some t) {x y : Nat} (h1 : a.1 ≤ x) (h2 : x ≤ a.2) (h3 : b.1 ≤ y) (h4 : y ≤ b.2) : t = true ↔ xrel o x y := by
  cases o with
  | eq =>
    have h : cond (Nat.beq a.1 a.2 && Nat.beq b.1 b.2 && Nat.beq a.1 b.1) (some true) (cond (Nat.blt a.2 b.1 || Nat.blt b.2 a.1) (some false) none) = some t := h
    show t = true ↔ x = y
    cases hc : (Nat.beq a.1 a.2 && Nat.beq b.1 b.2 && Nat.beq a.1 b.1) with
    | true =>
      rw [hc] at h; cases h
      obtain ⟨g1, g2⟩ := xand hc
      obtain ⟨g3, g4⟩ := xand g1
      have := xeqb g2; have := xeqb g3; have := xeqb g4
      exact ⟨fun _ => by omega, fun _ => rfl⟩
    | false =>
      rw [hc] at h
      obtain ⟨g1, g2⟩ := xcnd h
      cases g2
      rcases xor2 g1 with g | g
      · have := xltb g; exact ⟨fun q => (by cases q), fun q => by omega⟩
      · have := xltb g; exact ⟨fun q => (by cases q), fun q => by omega⟩
  | ne =>
    have h : cond (Nat.beq a.1 a.2 && Nat.beq b.1 b.2 && Nat.beq a.1 b.1) (some false) (cond (Nat.blt a.2 b.1 || Nat.blt b.2 a.1) (some true) none) = some t := h
    show t = true ↔ ¬ x = y
    cases hc : (Nat.beq a.1 a.2 && Nat.beq b.1 b.2 && Nat.beq a.1 b.1) with
    | true =>
      rw [hc] at h; cases h
      obtain ⟨g1, g2⟩ := xand hc
      obtain ⟨g3, g4⟩ := xand g1
      have := xeqb g2; have := xeqb g3; have := xeqb g4
      exact ⟨fun q => (by cases q), fun q => by omega⟩
    | false =>
      rw [hc] at h
      obtain ⟨g1, g2⟩ := xcnd h
      cases g2
      rcases xor2 g1 with g | g
      · have := xltb g; exact ⟨fun _ => by omega, fun _ => rfl⟩
      · have := xltb g; exact ⟨fun _ => by omega, fun _ => rfl⟩
  | lt =>
    have h : cond (Nat.blt a.2 b.1) (some true) (cond (Nat.ble b.2 a.1) (some false) none) = some t := h
    show t = true ↔ x < y
    cases hc : Nat.blt a.2 b.1 with
    | true => rw [hc] at h; cases h; have := xltb hc; exact ⟨fun _ => by omega, fun _ => rfl⟩
    | false =>
      rw [hc] at h
      obtain ⟨g1, g2⟩ := xcnd h
      cases g2
      have := xleb g1
      exact ⟨fun q => (by cases q), fun q => by omega⟩
  | ge =>
    have h : cond (Nat.blt a.2 b.1) (some false) (cond (Nat.ble b.2 a.1) (some true) none) = some t := h
    show t = true ↔ y ≤ x
    cases hc : Nat.blt a.2 b.1 with
    | true => rw [hc] at h; cases h; have := xltb hc; exact ⟨fun q => (by cases q), fun q => by omega⟩
    | false =>
      rw [hc] at h
      obtain ⟨g1, g2⟩ := xcnd h
      cases g2
      have := xleb g1
      exact ⟨fun _ => by omega, fun _ => rfl⟩
  | gt =>
    have h : cond (Nat.blt b.2 a.1) (some true) (cond (Nat.ble a.2 b.1) (some false) none) = some t := h
    show t = true ↔ y < x
    cases hc : Nat.blt b.2 a.1 with
    | true => rw [hc] at h; cases h; have := xltb hc; exact ⟨fun _ => by omega, fun _ => rfl⟩
    | false =>
      rw [hc] at h
      obtain ⟨g1, g2⟩ := xcnd h
      cases g2
      have := xleb g1
      exact ⟨fun q => (by cases q), fun q => by omega⟩
  | le =>
    have h : cond (Nat.blt b.2 a.1) (some false) (cond (Nat.ble a.2 b.1) (some true) none) = some t := h
    show t = true ↔ x ≤ y
    cases hc : Nat.blt b.2 a.1 with
    | true => rw [hc] at h; cases h; have := xltb hc; exact ⟨fun q => (by cases q), fun q => by omega⟩
    | false =>
      rw [hc] at h
      obtain ⟨g1, g2⟩ := xcnd h
      cases g2
      have := xleb g1
      exact ⟨fun _ => by omega, fun _ => rfl⟩
theorem xbr_ok {o : Jvm.ClassFile.Cond} {bx : xbox} {a b : xv} {k : Bool → xR} {again : xbox → xR} {L : List xleaf} (h : xbr o bx a b k again = some L) :
    (∃ t, xdec o (xrg bx a) (xrg bx b) = some t ∧ k t = some L) ∨ (∃ i q, xspl again bx i q = some L) ∨ (∃ L1 L2, k true = some L1 ∧ k false = some L2 ∧ L = L1 ++ L2) := by
  unfold xbr at h
  cases hd : xdec o (xrg bx a) (xrg bx b) with
  | some t => rw [hd] at h; exact Or.inl ⟨t, rfl, h⟩
  | none =>
    rw [hd] at h
    cases hp : xpt bx a b with
    | some q => rw [hp] at h; exact Or.inr (Or.inl ⟨q.1, q.2, h⟩)
    | none =>
      rw [hp] at h
      obtain ⟨x, y, h1, h2, h3⟩ := xapp_ok h
      exact Or.inr (Or.inr ⟨x, y, h1, h2, h3⟩)
variable {mi : xmi} {df : xdf} {el : Nat → Nat} {eb : List Nat} {rec : xF} {nx tg r1 r2 y d pc : Nat} {ls : List (Nat × xv)} {st : List xv} {bx : xbox} {h : xheap} {n c s : Nat} {L : List xleaf}
theorem x_ld_ok {k1 k2 : Nat} (hx : x_ld rec nx r1 y d ls st bx h n c s k1 k2 = some L) : ∃ w, xlk ls r1 = some w ∧ (xkd w.1 = k1 ∨ xkd w.1 = k2) ∧ rec y d nx ls (w :: st) bx h n c s = some L := by
  unfold x_ld at hx
  cases hl : xlk ls r1 with
  | none => rw [hl] at hx; cases hx
  | some w =>
    rw [hl] at hx
    obtain ⟨h1, h2⟩ := xcnd hx
    exact ⟨w, rfl, (xor2 h1).imp xeqb xeqb, h2⟩
theorem x_st_ok {k1 k2 : Nat} {f : Nat → Nat × xv → Bool} (hx : x_st rec nx r1 y d ls st bx h n c s k1 k2 f = some L) : ∃ w r, st = w :: r ∧ (xkd w.1 = k1 ∨ xkd w.1 = k2) ∧ rec y d nx ((r1, w) :: ls.filter (f r1)) r bx h n c s = some L := by
  unfold x_st at hx
  cases st with
  | nil => cases hx
  | cons w r =>
    obtain ⟨h1, h2⟩ := xcnd hx
    rw [xfl_eq] at h2
    exact ⟨w, r, rfl, (xor2 h1).imp xeqb xeqb, h2⟩
theorem x_inc_ok (hx : x_inc rec nx r1 r2 y d ls st bx h n c s = some L) : ∃ w x, xlk ls r1 = some w ∧ xci bx w = some x ∧ rec y d nx ((r1, (0, (x + r2) % 4294967296)) :: ls.filter (xk1 r1)) st bx h n c s = some L := by
  unfold x_inc at hx
  cases hl : xlk ls r1 with
  | none => rw [hl] at hx; cases hx
  | some w =>
    rw [hl] at hx
    dsimp only at hx
    cases hc : xci bx w with
    | none => rw [hc] at hx; cases hx
    | some x =>
      rw [hc] at hx
      dsimp only at hx
      rw [xfl_eq, xfrc_eq] at hx
      exact ⟨w, x, rfl, hc, hx⟩
theorem x_bi_ok {f : Nat → Nat → Nat} (hx : x_bi rec nx y d ls st bx h n c s f = some L) : ∃ b a r, st = b :: a :: r ∧ xkd b.1 = 0 ∧ xkd a.1 = 0 ∧
    ((∃ x z, xci bx a = some x ∧ xci bx b = some z ∧ rec y d nx ls ((0, f x z) :: r) bx h n c s = some L) ∨ rec y d nx ls ((7, 0) :: r) bx h n c s = some L) := by
  unfold x_bi at hx
  match st, hx with
  | [], hx => cases hx
  | [_], hx => cases hx
  | b :: a :: r, hx =>
    obtain ⟨h1, h2⟩ := xcnd hx
    obtain ⟨g1, g2⟩ := xand h1
    refine ⟨b, a, r, rfl, xeqb g1, xeqb g2, ?_⟩
    cases ha : xci bx a with
    | none => rw [ha] at h2; exact Or.inr h2
    | some x =>
      rw [ha] at h2
      dsimp only at h2
      cases hb : xci bx b with
      | none => rw [hb] at h2; exact Or.inr h2
      | some z =>
        rw [hb] at h2
        dsimp only at h2
        rw [xfrc_eq] at h2
        exact Or.inl ⟨x, z, rfl, rfl, h2⟩
theorem x_dv_ok {f : Nat → Nat → Nat} (hx : x_dv rec nx y d ls st bx h n c s f = some L) : ∃ b a r x z, st = b :: a :: r ∧ xci bx a = some x ∧ xci bx b = some z ∧ z % 4294967296 ≠ 0 ∧ rec y d nx ls ((0, f x z) :: r) bx h n c s = some L := by
  unfold x_dv at hx
  match st, hx with
  | [], hx => cases hx
  | [_], hx => cases hx
  | b :: a :: r, hx =>
    dsimp only at hx
    cases ha : xci bx a with
    | none => rw [ha] at hx; cases hx
    | some x =>
      rw [ha] at hx
      dsimp only at hx
      cases hb : xci bx b with
      | none => rw [hb] at hx; cases hx
      | some z =>
        rw [hb] at hx
        dsimp only at hx
        obtain ⟨h1, h2⟩ := xcndn hx
        rw [xfrc_eq] at h2
        exact ⟨b, a, r, x, z, rfl, ha, hb, xneb h1, h2⟩
theorem x_bl_ok {f : Nat → Nat → Nat} (hx : x_bl rec nx y d ls st bx h n c s f = some L) : ∃ b a r, st = b :: a :: r ∧ xkd b.1 = 1 ∧ xkd a.1 = 1 ∧
    ((∃ x z, xcl bx a = some x ∧ xcl bx b = some z ∧ rec y d nx ls ((2, f x z) :: r) bx h n c s = some L) ∨ rec y d nx ls ((8, 0) :: r) bx h n c s = some L) := by
  unfold x_bl at hx
  match st, hx with
  | [], hx => cases hx
  | [_], hx => cases hx
  | b :: a :: r, hx =>
    obtain ⟨h1, h2⟩ := xcnd hx
    obtain ⟨g1, g2⟩ := xand h1
    refine ⟨b, a, r, rfl, xeqb g1, xeqb g2, ?_⟩
    cases ha : xcl bx a with
    | none => rw [ha] at h2; exact Or.inr h2
    | some x =>
      rw [ha] at h2
      dsimp only at h2
      cases hb : xcl bx b with
      | none => rw [hb] at h2; exact Or.inr h2
      | some z =>
        rw [hb] at h2
        dsimp only at h2
        rw [xfrc_eq] at h2
        exact Or.inl ⟨x, z, rfl, rfl, h2⟩
theorem x_dl_ok {f : Nat → Nat → Nat} (hx : x_dl rec nx y d ls st bx h n c s f = some L) : ∃ b a r x z, st = b :: a :: r ∧ xcl bx a = some x ∧ xcl bx b = some z ∧ z % 18446744073709551616 ≠ 0 ∧ rec y d nx ls ((2, f x z) :: r) bx h n c s = some L := by
  unfold x_dl at hx
  match st, hx with
  | [], hx => cases hx
  | [_], hx => cases hx
  | b :: a :: r, hx =>
    dsimp only at hx
    cases ha : xcl bx a with
    | none => rw [ha] at hx; cases hx
    | some x =>
      rw [ha] at hx
      dsimp only at hx
      cases hb : xcl bx b with
      | none => rw [hb] at hx; cases hx
      | some z =>
        rw [hb] at hx
        dsimp only at hx
        obtain ⟨h1, h2⟩ := xcndn hx
        rw [xfrc_eq] at h2
        exact ⟨b, a, r, x, z, rfl, ha, hb, xneb h1, h2⟩
theorem x_sl_ok {f : Nat → Nat → Nat} (hx : x_sl rec nx y d ls st bx h n c s f = some L) : ∃ b a r, st = b :: a :: r ∧ xkd b.1 = 0 ∧ xkd a.1 = 1 ∧
    ((∃ x z, xcl bx a = some x ∧ xci bx b = some z ∧ rec y d nx ls ((2, f x z) :: r) bx h n c s = some L) ∨ rec y d nx ls ((8, 0) :: r) bx h n c s = some L) := by
  unfold x_sl at hx
  match st, hx with
  | [], hx => cases hx
  | [_], hx => cases hx
  | b :: a :: r, hx =>
    obtain ⟨h1, h2⟩ := xcnd hx
    obtain ⟨g1, g2⟩ := xand h1
    refine ⟨b, a, r, rfl, xeqb g1, xeqb g2, ?_⟩
    cases ha : xcl bx a with
    | none => rw [ha] at h2; exact Or.inr h2
    | some x =>
      rw [ha] at h2
      dsimp only at h2
      cases hb : xci bx b with
      | none => rw [hb] at h2; exact Or.inr h2
      | some z =>
        rw [hb] at h2
        dsimp only at h2
        rw [xfrc_eq] at h2
        exact Or.inl ⟨x, z, rfl, rfl, h2⟩
theorem x_ui_ok {f : Nat → Nat} (hx : x_ui rec nx y d ls st bx h n c s f = some L) : ∃ a r, st = a :: r ∧ xkd a.1 = 0 ∧
    ((∃ x, xci bx a = some x ∧ rec y d nx ls ((0, f x) :: r) bx h n c s = some L) ∨ rec y d nx ls ((7, 0) :: r) bx h n c s = some L) := by
  unfold x_ui at hx
  match st, hx with
  | [], hx => cases hx
  | a :: r, hx =>
    obtain ⟨h1, h2⟩ := xcnd hx
    refine ⟨a, r, rfl, xeqb h1, ?_⟩
    cases ha : xci bx a with
    | none => rw [ha] at h2; exact Or.inr h2
    | some x =>
      rw [ha] at h2
      dsimp only at h2
      rw [xfrc_eq] at h2
      exact Or.inl ⟨x, rfl, h2⟩
theorem x_l2i_ok (hx : x_l2i rec nx y d ls st bx h n c s = some L) : ∃ a r, st = a :: r ∧ xkd a.1 = 1 ∧
    ((∃ x, xcl bx a = some x ∧ rec y d nx ls ((0, x % 4294967296) :: r) bx h n c s = some L) ∨ rec y d nx ls ((7, 0) :: r) bx h n c s = some L) := by
  unfold x_l2i at hx
  match st, hx with
  | [], hx => cases hx
  | a :: r, hx =>
    obtain ⟨h1, h2⟩ := xcnd hx
    refine ⟨a, r, rfl, xeqb h1, ?_⟩
    cases ha : xcl bx a with
    | none => rw [ha] at h2; exact Or.inr h2
    | some x =>
      rw [ha] at h2
      dsimp only at h2
      rw [xfrc_eq] at h2
      exact Or.inl ⟨x, rfl, h2⟩
/-- widening: the value that comes stands for the widened one -/
theorem x_i2l_ok (hx : x_i2l rec nx y d ls st bx h n c s = some L) : ∃ a r w, st = a :: r ∧ rec y d nx ls (w :: r) bx h n c s = some L ∧ ∀ (as : List Nat) (v : Value), xden sv ex as a v → ∃ x, v = .int x ∧ xden sv ex as w (.long x.toInt64) := by
  unfold x_i2l at hx
  match st, hx with
  | [], hx => cases hx
  | (0, k) :: r, hx =>
    dsimp only at hx
    rw [xfrc_eq] at hx
    exact ⟨_, r, _, rfl, hx, fun as v hv => ⟨nI k, hv, by show Value.long _ = Value.long _; rw [lN_xnl]⟩⟩
  | (1, k) :: r, hx => exact ⟨_, r, _, rfl, hx, fun as v hv => ⟨sv k, hv, rfl⟩⟩
  | (2, k) :: r, hx => cases hx
  | (3, k) :: r, hx => cases hx
  | (4, k) :: r, hx => cases hx
  | (5, k) :: r, hx => cases hx
  | (6, k) :: r, hx => cases hx
  | (7, k) :: r, hx =>
    refine ⟨_, r, _, rfl, hx, fun as v hv => ?_⟩
    obtain ⟨x, hv⟩ : ∃ x : Int32, v = .int x := hv
    exact ⟨x, hv, x.toInt64, rfl⟩
  | (_ + 8, k) :: r, hx => cases hx
theorem x_dup_ok (hx : x_dup rec nx y d ls st bx h n c s = some L) : ∃ a r, st = a :: r ∧ Nat.beq (xkd a.1) 1 = false ∧ rec y d nx ls (a :: a :: r) bx h n c s = some L := by
  unfold x_dup at hx
  match st, hx with
  | [], hx => cases hx
  | a :: r, hx =>
    obtain ⟨h1, h2⟩ := xcndn hx
    exact ⟨a, r, rfl, h1, h2⟩
theorem x_pop_ok (hx : x_pop rec nx y d ls st bx h n c s = some L) : ∃ a r, st = a :: r ∧ Nat.beq (xkd a.1) 1 = false ∧ rec y d nx ls r bx h n c s = some L := by
  unfold x_pop at hx
  match st, hx with
  | [], hx => cases hx
  | a :: r, hx =>
    obtain ⟨h1, h2⟩ := xcndn hx
    exact ⟨a, r, rfl, h1, h2⟩
theorem x_dup2_ok (hx : x_dup2 rec nx y d ls st bx h n c s = some L) : (∃ a r, st = a :: r ∧ Nat.beq (xkd a.1) 1 = true ∧ rec y d nx ls (a :: a :: r) bx h n c s = some L) ∨ (∃ a b r, st = a :: b :: r ∧ Nat.beq (xkd a.1) 1 = false ∧ Nat.beq (xkd b.1) 1 = false ∧ rec y d nx ls (a :: b :: a :: b :: r) bx h n c s = some L) := by
  unfold x_dup2 at hx
  match st, hx with
  | [], hx => cases hx
  | a :: r, hx =>
    dsimp only at hx
    cases hb : Nat.beq (xkd a.1) 1 with
    | true => rw [hb] at hx; exact Or.inl ⟨a, r, rfl, hb, hx⟩
    | false =>
      rw [hb] at hx
      dsimp only [cond_false] at hx
      match r, hx with
      | [], hx => cases hx
      | b :: r', hx =>
        obtain ⟨h1, h2⟩ := xcndn hx
        exact Or.inr ⟨a, b, r', rfl, hb, h1, h2⟩
theorem x_icmp_ok {o : Jvm.ClassFile.Cond} (hx : x_icmp rec nx tg y d pc ls st bx h n c s o = some L) : ∃ b a r, st = b :: a :: r ∧ xkd b.1 = 0 ∧ xkd a.1 = 0 ∧ xbr o bx a b (fun t => rec y d (cond t tg nx) ls r bx h n c s) (fun bx' => rec y d pc ls st bx' h n c s) = some L := by
  unfold x_icmp at hx
  match st, hx with
  | [], hx => cases hx
  | [_], hx => cases hx
  | b :: a :: r, hx =>
    obtain ⟨h1, h2⟩ := xcnd hx
    obtain ⟨g1, g2⟩ := xand h1
    exact ⟨b, a, r, rfl, xeqb g1, xeqb g2, h2⟩
theorem x_if_ok {o : Jvm.ClassFile.Cond} (hx : x_if rec nx tg y d pc ls st bx h n c s o = some L) : ∃ a r, st = a :: r ∧ xkd a.1 = 0 ∧ xbr o bx a (0, 0) (fun t => rec y d (cond t tg nx) ls r bx h n c s) (fun bx' => rec y d pc ls st bx' h n c s) = some L := by
  unfold x_if at hx
  match st, hx with
  | [], hx => cases hx
  | a :: r, hx =>
    obtain ⟨h1, h2⟩ := xcnd hx
    exact ⟨a, r, rfl, xeqb h1, h2⟩
theorem x_nul_ok {t : Bool} (hx : x_nul rec nx tg y d ls st bx h n c s t = some L) : ∃ a r, st = a :: r ∧ ((xkd a.1 = 2 ∧ rec y d (cond t nx tg) ls r bx h n c s = some L) ∨ (xkd a.1 = 3 ∧ rec y d (cond t tg nx) ls r bx h n c s = some L)) := by
  unfold x_nul at hx
  match st, hx with
  | [], hx => cases hx
  | a :: r, hx =>
    dsimp only at hx
    refine ⟨a, r, rfl, ?_⟩
    split at hx
    · rename_i e; exact Or.inl ⟨e, hx⟩
    · rename_i e; exact Or.inr ⟨e, hx⟩
    · cases hx
theorem x_ix_ok {i : xv} {k : Nat → xR} (hx : x_ix rec y d pc ls st bx h n c s i k = some L) : (∃ x, xci bx i = some x ∧ x < 2147483648 ∧ k x = some L) ∨ (∃ j q, xspl (fun bx' => rec y d pc ls st bx' h n c s) bx j q = some L) := by
  unfold x_ix at hx
  cases hc : xci bx i with
  | some x => rw [hc] at hx; exact Or.inl ⟨x, rfl, xltb (xcnd hx).1, (xcnd hx).2⟩
  | none =>
    rw [hc] at hx
    exact Or.inr ⟨_, _, (xcnd hx).2⟩
theorem x_cell_ok {k m : Nat} {t : xct} {r : List xv} (hx : x_cell mi rec nx y d ls bx h n c s k m t r = some L) : ∃ q q0, xg mi y = some q ∧ c < q.1 ∧ s + m ≤ q.2.1 ∧ xg h n = some q0 ∧ rec y d nx ls ((4, n) :: r) bx (xw h n (k, m, t)) (n + 1) (c + 1) (s + m) = some L := by
  unfold x_cell at hx
  cases hq : xg mi y with
  | none => rw [hq] at hx; cases hx
  | some q =>
    rw [hq] at hx
    obtain ⟨h1, h2⟩ := xcnd hx
    obtain ⟨g1, g2⟩ := xand h1
    cases hn : xg h n with
    | none => rw [hn] at h2; cases h2
    | some q0 =>
      rw [hn] at h2
      dsimp only at h2
      rw [xsK_eq, xfrc_eq, xfrc_eq, xfrc_eq] at h2
      exact ⟨q, q0, rfl, xltb g1, xleb g2, rfl, h2⟩
theorem x_go_ok {z : Nat} {args rest : List xv} (hx : x_go mi rec nx y d ls bx h n c s z args rest = some L) : ∃ d' q u M, d = d' + 1 ∧ xg mi y = some q ∧ xg mi z = some u ∧ xwds rest ≤ 8 ∧ xwds args ≤ u.2.2.2.2.2 ∧ c + u.1 ≤ q.1 ∧ s + u.2.1 ≤ q.2.1 ∧ rec z d' 0 (xarg 0 args) [] bx h n 0 0 = some M ∧
    ∀ l ∈ M, ∃ L', rec y d nx ls (match l.2.2.2 with
      | none => rest
      | some w => w :: rest) l.1 l.2.1 l.2.2.1 (c + u.1) (s + u.2.1) = some L' ∧ ∀ x ∈ L', x ∈ L := by
  unfold x_go at hx
  match d, hx with
  | 0, hx => cases hx
  | d' + 1, hx =>
    dsimp only at hx
    cases hq : xg mi y with
    | none => rw [hq] at hx; cases hx
    | some q =>
      rw [hq] at hx
      dsimp only at hx
      cases hu : xg mi z with
      | none => rw [hu] at hx; cases hx
      | some u =>
        rw [hu] at hx
        obtain ⟨h1, h2⟩ := xcnd hx
        obtain ⟨g1, g2⟩ := xand h1
        obtain ⟨g3, g4⟩ := xand g1
        obtain ⟨g5, g6⟩ := xand g3
        cases hM : rec z d' 0 (xarg 0 args) [] bx h n 0 0 with
        | none => rw [hM] at h2; cases h2
        | some M =>
          rw [hM] at h2
          dsimp only at h2
          rw [xfrc_eq, xfrc_eq] at h2
          exact ⟨d', q, u, M, rfl, rfl, rfl, xleb g5, xleb g6, xleb g4, xleb g2, hM, fun l hl => xbind_ok h2 l hl⟩
theorem x_call_ok {inst virt : Bool} (hx : x_call mi rec nx r1 y d ls st bx h n c s inst virt = some L) : ∃ u q, xg mi r1 = some u ∧ xpop (cond inst (u.2.2.1 + 1) u.2.2.1) [] st = some q ∧ x_go mi rec nx y d ls bx h n c s r1 q.1 q.2 = some L ∧ (inst = true → ∃ w l, q.1 = w :: l ∧ (cond virt (xrcv u.2.2.2.1 h w) (Nat.beq w.1 4) = true)) := by
  unfold x_call at hx
  cases hu : xg mi r1 with
  | none => rw [hu] at hx; cases hx
  | some u =>
    rw [hu] at hx
    dsimp only at hx
    cases hq : xpop (cond inst (u.2.2.1 + 1) u.2.2.1) [] st with
    | none => rw [hq] at hx; cases hx
    | some q =>
      rw [hq] at hx
      dsimp only at hx
      obtain ⟨q1, q2⟩ := q
      refine ⟨u, (q1, q2), rfl, hq, ?_⟩
      match q1, hx with
      | [], hx =>
        obtain ⟨h1, h2⟩ := xcndn hx
        exact ⟨h2, fun e => by rw [e] at h1; cases h1⟩
      | w :: l, hx =>
        obtain ⟨h1, h2⟩ := xcnd hx
        refine ⟨h2, fun e => ⟨w, l, rfl, ?_⟩⟩
        rw [e] at h1
        exact h1
end Inv
end
section
/-! Rows of the kit in the explorer's words -/
theorem xoff_ii {x z : Int32} : xoff x.toInt = xoff z.toInt ↔ x = z := by
  have h1 := xoff_int x
  have h2 := xoff_int z
  exact ⟨fun q => Int32.toInt_inj.mp (by omega), fun q => by rw [q]⟩
theorem xoff_lt {x z : Int32} : xoff x.toInt < xoff z.toInt ↔ x < z := by
  have h1 := xoff_int x
  have h2 := xoff_int z
  rw [Int32.lt_iff_toInt_lt]
  omega
theorem xoff_le {x z : Int32} : xoff x.toInt ≤ xoff z.toInt ↔ x ≤ z := by
  have h1 := xoff_int x
  have h2 := xoff_int z
  rw [Int32.le_iff_toInt_le]
  omega
theorem xoff_ll {x z : Int64} : xoff x.toInt = xoff z.toInt ↔ x = z := by
  have h1 := xoff_long x
  have h2 := xoff_long z
  exact ⟨fun q => Int64.toInt_inj.mp (by omega), fun q => by rw [q]⟩
theorem xoff_ltL {x z : Int64} : xoff x.toInt < xoff z.toInt ↔ x < z := by
  have h1 := xoff_long x
  have h2 := xoff_long z
  rw [Int64.lt_iff_toInt_lt]
  omega
section XR
variable {p : Program} {l : Launch} {e : Env} {R : Room} {s : State} {m : MethodId} {args : Array Value} {below : List Frame} {meth : Method} {c : Code} {H : Heap} {locs : List Loc} {cells slots : Nat} {Q : State → Prop}
variable {cc : ByteArray} {pc : Nat} {ls : Array Slot} {rest : List Value}
theorem xicmp {o : Jvm.ClassFile.Cond} (hexec : p.tables.exec = Jvm.exec) (hb : c.code = cc) {x z : Int32} {off : Int} {tgt : Nat} (hdg : decode cc pc = .ok (.if_icmp o off, 3)) (ht : (pc : Int) + off = (tgt : Int))
    (kt : xrel o (xoff x.toInt) (xoff z.toInt) → W p l e R s m args below meth c H locs cells slots Q (F0 m tgt ls rest)) (kf : ¬ xrel o (xoff x.toInt) (xoff z.toInt) → W p l e R s m args below meth c H locs cells slots Q (F0 m (pc + 3) ls rest)) : W p l e R s m args below meth c H locs cells slots Q (F0 m pc ls (.int z :: .int x :: rest)) := by
  cases o with
  | eq => exact lv_icmp_eq hexec hb hdg ht (fun q => kt (xoff_ii.mpr q)) (fun q => kf (fun r => q (xoff_ii.mp r)))
  | ne => exact lv_icmp_ne hexec hb hdg ht (fun q => kt (fun r => absurd (xoff_ii.mp r) q)) (fun q => kf (fun r => r (xoff_ii.mpr q)))
  | lt => exact lv_icmp_lt hexec hb hdg ht (fun q => kt (xoff_lt.mpr q)) (fun q => kf (fun r => q (xoff_lt.mp r)))
  | ge => exact lv_icmp_ge hexec hb hdg ht (fun q => kt (xoff_le.mpr q)) (fun q => kf (fun r => q (xoff_le.mp r)))
  | gt => exact lv_icmp_gt hexec hb hdg ht (fun q => kt (xoff_lt.mpr q)) (fun q => kf (fun r => q (xoff_lt.mp r)))
  | le => exact lv_icmp_le hexec hb hdg ht (fun q => kt (xoff_le.mpr q)) (fun q => kf (fun r => q (xoff_le.mp r)))
theorem xifc {o : Jvm.ClassFile.Cond} (hexec : p.tables.exec = Jvm.exec) (hb : c.code = cc) {x : Int32} {off : Int} {tgt : Nat} (hdg : decode cc pc = .ok (.ifCond o off, 3)) (ht : (pc : Int) + off = (tgt : Int))
    (kt : xrel o (xoff x.toInt) (xoff (nI 0).toInt) → W p l e R s m args below meth c H locs cells slots Q (F0 m tgt ls rest)) (kf : ¬ xrel o (xoff x.toInt) (xoff (nI 0).toInt) → W p l e R s m args below meth c H locs cells slots Q (F0 m (pc + 3) ls rest)) : W p l e R s m args below meth c H locs cells slots Q (F0 m pc ls (.int x :: rest)) := by
  rw [nI_0] at kt kf
  cases o with
  | eq => exact lv_if_eq hexec hb hdg ht (fun q => kt (xoff_ii.mpr q)) (fun q => kf (fun r => q (xoff_ii.mp r)))
  | ne => exact lv_if_ne hexec hb hdg ht (fun q => kt (fun r => absurd (xoff_ii.mp r) q)) (fun q => kf (fun r => r (xoff_ii.mpr q)))
  | lt => exact lv_if_lt hexec hb hdg ht (fun q => kt (xoff_lt.mpr q)) (fun q => kf (fun r => q (xoff_lt.mp r)))
  | ge => exact lv_if_ge hexec hb hdg ht (fun q => kt (xoff_le.mpr q)) (fun q => kf (fun r => q (xoff_le.mp r)))
  | gt => exact lv_if_gt hexec hb hdg ht (fun q => kt (xoff_lt.mpr q)) (fun q => kf (fun r => q (xoff_lt.mp r)))
  | le => exact lv_if_le hexec hb hdg ht (fun q => kt (xoff_le.mpr q)) (fun q => kf (fun r => q (xoff_le.mp r)))
theorem xcallW {A : Nat → Prop} {mc ms : Nat} {st0 : List Value} {Qa : State → Outcome → State → Prop} {free : Addr → Prop} (hr : va_Run p l e R s m args below meth c H locs cells slots mc ms (F0 m pc ls st0) rest Qa free) (hL0 : ∀ q ∈ locs, A q.base) (hf : ∀ q, free q → A q)
    (kk : ∀ (v : Option Value) (st₀ t : State) (H1 : Heap) (locs1 : List Loc), st₀.heap = H → t.heap = H1 → s.vm.Alike t.vm → Qa st₀ (.returned v) t → (∀ q ∈ locs1, A q.base) → W p l e R s m args below meth c H1 locs1 (cells + mc) (slots + ms) Q (F0 m (pc + 3) ls (v.toList ++ rest))) : W p l e R s m args below meth c H locs cells slots Q (F0 m pc ls st0) := by
  intro T hT X
  obtain ⟨v, st₀, t, T', L, h0, X', hL, e1, e2, hq, st⟩ := hr T hT X
  obtain ⟨t2, a1, b1⟩ := kk v st₀ t T'.heap (locs ++ L) h0 e1.symm (by rw [← e2]; exact X'.warmed.alike) hq (fun q hq' => (List.mem_append.mp hq').elim (hL0 q) (fun z => hf _ (hL q z))) T' rfl X'
  exact ⟨t2, st t2 a1, b1⟩
end XR
def xtc : FieldType → Nat
  | .int => 0
  | .long => 1
  | .object _ => 2
  | .array _ => 2
  | .boolean => 3
  | _ => 9
theorem nI_bool {n : Nat} (h : n ≤ 1) : nI n = 0 ∨ nI n = 1 := by
  have : n = 0 ∨ n = 1 := by omega
  rcases this with rfl | rfl
  · exact Or.inl rfl
  · exact Or.inr rfl
theorem xfit_ok {sv : Nat → Int32} {ex : Nat → Nat} {as : List Nat} {ty : FieldType} {w : xv} {v : Value} (h : xden sv ex as w v) (hf : xfit (xtc ty) w = true) : narrow ty v = v ∧ fits ty v = true := by
  cases ty with
  | int => obtain ⟨x, rfl⟩ := xden.int sv ex h (xeqb hf); exact ⟨rfl, rfl⟩
  | long => obtain ⟨x, rfl⟩ := xden.long sv ex h (xeqb hf); exact ⟨rfl, rfl⟩
  | object C =>
    rcases xor2 (show (Nat.beq (xkd w.1) 2 || Nat.beq (xkd w.1) 3) = true from hf) with q | q
    · obtain ⟨x, rfl⟩ := xden.ref sv ex h (xeqb q); exact ⟨rfl, rfl⟩
    · rw [xden.nul sv ex h (xeqb q)]; exact ⟨rfl, rfl⟩
  | array C =>
    rcases xor2 (show (Nat.beq (xkd w.1) 2 || Nat.beq (xkd w.1) 3) = true from hf) with q | q
    · obtain ⟨x, rfl⟩ := xden.ref sv ex h (xeqb q); exact ⟨rfl, rfl⟩
    · rw [xden.nul sv ex h (xeqb q)]; exact ⟨rfl, rfl⟩
  | boolean =>
    obtain ⟨q1, q2⟩ := xand (show (Nat.beq w.1 0 && Nat.ble w.2 1) = true from hf)
    obtain ⟨t, n⟩ := w
    have e : t = 0 := xeqb q1
    subst e
    rw [show v = .int (nI n) from h]
    rcases nI_bool (xleb q2) with q | q <;> rw [q] <;> exact ⟨rfl, rfl⟩
  | _ => cases hf
def xdv (ty : FieldType) (w : xv) : Bool :=
  match xtc ty with
  | 0 => Nat.beq w.1 0 && Nat.beq w.2 0
  | 1 => Nat.beq w.1 2 && Nat.beq w.2 0
  | 2 => Nat.beq w.1 5
  | 3 => Nat.beq w.1 0 && Nat.beq w.2 0
  | _ => false
theorem xdv_ok {sv : Nat → Int32} {ex : Nat → Nat} {as : List Nat} {ty : FieldType} {w : xv} (h : xdv ty w = true) : xden sv ex as w (defaultValue ty) := by
  obtain ⟨t, n⟩ := w
  cases ty with
  | int =>
    obtain ⟨q1, q2⟩ := xand (show (Nat.beq t 0 && Nat.beq n 0) = true from h)
    have e1 : t = 0 := xeqb q1
    have e2 : n = 0 := xeqb q2
    subst e1; subst e2; rfl
  | boolean =>
    obtain ⟨q1, q2⟩ := xand (show (Nat.beq t 0 && Nat.beq n 0) = true from h)
    have e1 : t = 0 := xeqb q1
    have e2 : n = 0 := xeqb q2
    subst e1; subst e2; rfl
  | long =>
    obtain ⟨q1, q2⟩ := xand (show (Nat.beq t 2 && Nat.beq n 0) = true from h)
    have e1 : t = 2 := xeqb q1
    have e2 : n = 0 := xeqb q2
    subst e1; subst e2; rfl
  | object C =>
    have e1 : t = 5 := xeqb h
    subst e1; rfl
  | array C =>
    have e1 : t = 5 := xeqb h
    subst e1; rfl
  | _ => cases h
theorem xstR_cons {sv : Nat → Int32} {ex : Nat → Nat} {as : List Nat} {w : xv} {r : List xv} {stv : List Value} (h : xstR sv ex as (w :: r) stv) : ∃ v m, stv = v :: m ∧ xden sv ex as w v ∧ xstR sv ex as r m := by
  match stv, h with
  | [], h => exact h.elim
  | v :: m, h => exact ⟨v, m, rfl, h.1, h.2⟩
theorem xstR_nil {sv : Nat → Int32} {ex : Nat → Nat} {as : List Nat} {stv : List Value} (h : xstR sv ex as [] stv) : stv = [] := by
  match stv, h with
  | [], _ => rfl
  | _ :: _, h => exact h.elim
theorem nI_sub (a b : Nat) : nI ((a + (4294967296 - b % 4294967296)) % 4294967296) = nI a - nI b := by
  rw [x32]
  apply Int32.toBitVec_inj.mp
  show BitVec.ofNat 32 (a + (4294967296 - b % 4294967296)) = BitVec.ofNat 32 a - BitVec.ofNat 32 b
  apply BitVec.eq_of_toNat_eq
  rw [BitVec.toNat_sub, BitVec.toNat_ofNat, BitVec.toNat_ofNat, BitVec.toNat_ofNat]
  simp only [show (2 : Nat) ^ 32 = 4294967296 from rfl]
  omega
theorem nI_c65 (x : Nat) : ((nI x).toUInt32 % 65536).toInt32 = nI (x % 65536) := by
  rw [pk_char]
  show nI ((BitVec.ofNat 32 x).toNat % 65536) = _
  rw [BitVec.toNat_ofNat]
  congr 1
  omega
theorem lN_l2i (n : Nat) : (lN n).toInt32 = nI n := lN_i n
theorem nI_z {n : Nat} (h : n % 4294967296 ≠ 0) : ¬ nI n = 0 := by
  intro q
  have := nI_int n
  rw [q, Int32.toInt_zero] at this
  split at this <;> omega
theorem lN_z {n : Nat} (h : n % 18446744073709551616 ≠ 0) : ¬ lN n = 0 := by
  intro q
  have := lN_int n
  rw [q] at this
  have e0 : (0 : Int64).toInt = 0 := rfl
  rw [e0] at this
  split at this <;> omega
theorem xr1 {n : Nat} (h : n < 65536) : narrow .char (.int (nI n)) = .int (nI n) := (pk_charN h).1
theorem xr2 {n : Nat} (h : n < 128) : narrow .byte (.int (nI n)) = .int (nI n) := by
  show Value.int (nI n).toInt8.toInt32 = _
  have e : (nI n).toInt8.toInt32 = nI n := by
    apply Int32.toInt_inj.mp
    rw [nI_toInt (by omega)]
    show ((nI n).toInt8).toInt32.toInt = _
    rw [Int8.toInt_toInt32, Int32.toInt_toInt8, nI_toInt (by omega)]
    rw [Int.bmod_eq_of_le (by omega) (by omega)]
  rw [e]
end
section
/-! What the tables must say, and what the explorer's end promises -/
section Snd
variable (l : Launch) (D : va_G) (cl : List vw_C) (A : Nat → Prop) (sv : Nat → Int32) (ex : Nat → Nat) (el : Nat → Nat) (eb : List Nat) (nest : List (String × Nat × MethodName × String)) (txt : String × Nat × String) (ovr : List String)
variable (cd : xcd) (mi : xmi) (df : xdf) (bys : Nat → ByteArray) (nm : Nat → MethodName) (rtt : Nat → Option FieldType) (gw : List Cond)
noncomputable def xu (y : Nat) : Nat × Nat × Nat × Nat × Nat × Nat := (xg mi y).getD (0, 0, 0, 0, 0, 0)
theorem xu_of {mi : xmi} {y : Nat} {q : Nat × Nat × Nat × Nat × Nat × Nat} (h : xg mi y = some q) : xu mi y = q := by unfold xu; rw [h]; rfl
/-- a method that is called -/
def xMok (z : Nat) : Prop := Cond.code (nm z) (bys z) (xu mi z).2.2.2.2.2 (rtt z) ∈ gw ∧ Cond.initialized (nm z).cls ∈ gw ∧ plainFor (nm z) = true ∧ (nm z).cls ≠ "java/lang/invoke/MethodHandle" ∧ (nm z).cls ≠ "java/lang/invoke/VarHandle" ∧ (parseMethodDescriptor (nm z).desc).map (fun d => d.parameters.length) = some (xu mi z).2.2.1 ∧ (xu mi z).2.2.2.2.2 ≤ 51
def xFok (y i ci k : Nat) : Prop := ∃ (C : String) (T : u_T) (N : Nat), cl[ci]? = some (C, T, N) ∧ k < N ∧ Cond.fieldLink (nm y).cls i (T k).1 (T k).2.1 (T k).2.2.1 ∈ gw ∧ ∀ w ∈ u_ws C T N, w ∈ gw
def xPok (y i ci k tc : Nat) : Prop := ∃ (C : String) (T : u_T) (N : Nat) (ty : Nat → FieldType), cl[ci]? = some (C, T, N) ∧ k < N ∧ Cond.fieldLink (nm y).cls i (T k).1 (T k).2.1 (T k).2.2.1 ∈ gw ∧ (∀ w ∈ u_ws C T N, w ∈ gw) ∧ (∀ j, j < N → parseFieldDescriptor (T j).2.2.1 = some (ty j)) ∧ (∀ a, a < N → ∀ b, b < N → a ≠ b → (T a).2.1 ≠ (T b).2.1) ∧ xtc (ty k) = tc ∧ ((T k).2.2.2 = true → (nm y).name = "<init>" ∧ (T k).1 = (nm y).cls)
def xNok (y i ci : Nat) : Prop := ∃ (C : String) (T : u_T) (N : Nat) (ty : Nat → FieldType) (q : Nat × xct), cl[ci]? = some (C, T, N) ∧ ci < 13 ∧ (∀ w ∈ u_ws C T N, w ∈ gw) ∧ (∀ j, j < N → parseFieldDescriptor (T j).2.2.1 = some (ty j)) ∧ Cond.classLink (nm y).cls i C ∈ gw ∧ Cond.instantiable C N ∈ gw ∧ Cond.initialized C ∈ gw ∧ xg df ci = some q ∧ q.1 = N ∧ ∀ j, j < N → ∃ w : xv, xg q.2 j = some w ∧ xdv (ty j) w = true
/-- what an instruction's row of the tables must say -/
def xI (y pc : Nat) (ins : Instr) (len tg r1 r2 : Nat) : Prop :=
  match ins with
  | .iconst k => len = 1 ∧ Int32.ofInt k = nI r1
  | .bipush k => len = 2 ∧ (Int8.ofInt k).toInt32 = nI r1
  | .sipush k => len = 3 ∧ (Int16.ofInt k).toInt32 = nI r1
  | .lconst k => len = 1 ∧ Int64.ofNat (k : Nat) = lN r1
  | .ldc i => len = 2 ∧ (r2 = 0 → Cond.constant (nm y).cls i (nI r1) ∈ gw) ∧ (r2 = 1 → (nm y).cls = txt.1 ∧ i = txt.2.1)
  | .ldc_w i => len = 3 ∧ Cond.constant (nm y).cls i (nI r1) ∈ gw
  | .ldc2_w i => len = 3 ∧ Cond.constantLong (nm y).cls i (lN r1) ∈ gw
  | .iload i => len = 2 ∧ i = r1
  | .lload i => len = 2 ∧ i = r1
  | .aload i => len = 2 ∧ i = r1
  | .iload_n k => len = 1 ∧ (k : Nat) = r1
  | .lload_n k => len = 1 ∧ (k : Nat) = r1
  | .aload_n k => len = 1 ∧ (k : Nat) = r1
  | .istore i => len = 2 ∧ i = r1 ∧ r1 < (xu mi y).2.2.2.2.2
  | .astore i => len = 2 ∧ i = r1 ∧ r1 < (xu mi y).2.2.2.2.2
  | .lstore i => len = 2 ∧ i = r1 ∧ r1 + 1 < (xu mi y).2.2.2.2.2
  | .istore_n k => len = 1 ∧ (k : Nat) = r1 ∧ r1 < (xu mi y).2.2.2.2.2
  | .astore_n k => len = 1 ∧ (k : Nat) = r1 ∧ r1 < (xu mi y).2.2.2.2.2
  | .lstore_n k => len = 1 ∧ (k : Nat) = r1 ∧ r1 + 1 < (xu mi y).2.2.2.2.2
  | .iinc i k => len = 3 ∧ i = r1 ∧ r1 < (xu mi y).2.2.2.2.2 ∧ Int32.ofInt k = nI r2
  | .goto off => len = 3 ∧ (pc : Int) + off = (tg : Int)
  | .if_icmp _ off => len = 3 ∧ (pc : Int) + off = (tg : Int)
  | .ifCond _ off => len = 3 ∧ (pc : Int) + off = (tg : Int)
  | .ifnull off => len = 3 ∧ (pc : Int) + off = (tg : Int)
  | .ifnonnull off => len = 3 ∧ (pc : Int) + off = (tg : Int)
  | .tableswitch _ lo hi _ => -2147483648 ≤ lo ∧ hi < 2147483648 ∧ lo ≤ hi
  | .getfield i => len = 3 ∧ (r1 < 13 → xFok cl nm gw y i r1 r2) ∧ (r1 = 98 → (r2 = 0 → Cond.fieldLink (nm y).cls i "java/lang/String" "value" "[B" ∈ gw) ∧ (r2 ≠ 0 → Cond.fieldLink (nm y).cls i "java/lang/String" "coder" "B" ∈ gw))
  | .putfield i => len = 3 ∧ r1 < 13 ∧ xPok cl nm gw y i r1 r2 tg
  | .getstatic i => len = 3 ∧ (r1 = 0 → Cond.fieldLink (nm y).cls i "java/lang/String" "COMPACT_STRINGS" "Z" ∈ gw) ∧ (r1 ≠ 0 → Cond.fieldLink (nm y).cls i "jdk/internal/util/Preconditions" "SIOOBE_FORMATTER" "Ljava/util/function/BiFunction;" ∈ gw)
  | .new i => len = 3 ∧ xNok cl df nm gw y i r1
  | .newarray ty => len = 2 ∧ Cond.arrayClass (newarray.typeOf ty) ∈ gw ∧ ((ty = .int ∧ r1 = 13 ∧ r2 = 0) ∨ (ty = .long ∧ r1 = 14 ∧ r2 = 1) ∨ (ty = .byte ∧ r1 = 15 ∧ r2 = 0))
  | .anewarray i => len = 3 ∧ 20 ≤ r1 ∧ ∃ r : vw_C, cl[r1 - 20]? = some r ∧ Cond.classLink (nm y).cls i r.1 ∈ gw ∧ r.1 ∈ ovr
  | .invokevirtual i => len = 3 ∧ xMok mi bys nm rtt gw r1 ∧ Cond.methodLink (nm y).cls i (nm r1) ∈ gw ∧ Cond.instanceMethod (nm r1) ∈ gw ∧ Cond.selects (nm r1).cls (nm r1) (nm r1) ∈ gw ∧ ((xu mi r1).2.2.2.1 < 13 → ∃ r : vw_C, cl[(xu mi r1).2.2.2.1]? = some r ∧ r.1 = (nm r1).cls) ∧ ((xu mi r1).2.2.2.1 = 98 → (nm r1).cls = "java/lang/String")
  | .invokespecial i => len = 3 ∧ (r2 = 6 → Cond.methodLink (nm y).cls i objectInit ∈ gw ∧ Cond.instanceMethod objectInit ∈ gw ∧ Cond.code objectInit ⟨#[0xb1]⟩ 1 none ∈ gw) ∧
      (r2 ≠ 6 → xMok mi bys nm rtt gw r1 ∧ rtt r1 = none ∧ (nm r1).name = "<init>" ∧ Cond.instanceMethod (nm r1) ∈ gw ∧ (r2 ≠ 5 → Cond.methodLink (nm y).cls i (nm r1) ∈ gw) ∧ (r2 = 5 → ∃ host : String, ((nm y).cls, i, nm r1, host) ∈ nest))
  | .invokestatic i => len = 3 ∧ (r2 = 8 → Cond.methodLink (nm y).cls i arraycopyName ∈ gw ∧ Cond.native arraycopyName ∈ gw ∧ Cond.static arraycopyName ∈ gw ∧ Cond.initialized "java/lang/System" ∈ gw) ∧
      (r2 ≠ 8 → xMok mi bys nm rtt gw r1 ∧ Cond.methodLink (nm y).cls i (nm r1) ∈ gw ∧ Cond.static (nm r1) ∈ gw)
  | .return_ => len = 1 ∧ ((xu mi y).2.2.2.2.1 = 0 → rtt y = none)
  | .ireturn => len = 1 ∧ ((xu mi y).2.2.2.2.1 = 1 → rtt y = some .int) ∧ ((xu mi y).2.2.2.2.1 = 3 → rtt y = some .boolean) ∧ ((xu mi y).2.2.2.2.1 = 4 → rtt y = some .char) ∧ ((xu mi y).2.2.2.2.1 = 5 → rtt y = some .byte)
  | .lreturn => len = 1 ∧ ((xu mi y).2.2.2.2.1 = 2 → rtt y = some .long)
  | _ => len = 1
def xOK : Prop := ∀ (y : Nat) (t : Lean.RArray (Nat × xins)) (pc : Nat) (e : xins), xg cd y = some t → xg t pc = some e → ∃ len, e.2.1 = pc + len ∧ decode (bys y) pc = .ok (e.1, len) ∧ xI cl nest txt ovr mi df bys nm rtt gw y pc e.1 len e.2.2.1 e.2.2.2.1 e.2.2.2.2
def xCtx (y d : Nat) (p : Program) (R : Room) (s : State) (m : MethodId) (args : Array Value) (meth : Method) (c : Code) : Prop :=
  p.tables.exec = Jvm.exec ∧ c.code = bys y ∧ c.maxLocals = (xu mi y).2.2.2.2.2 ∧ s.vm.findClass (nm y).cls = some m.cls ∧ (∀ w ∈ gw, w.before args s = true) ∧ va_K D cl [] s ∧ xEX A sv ex el eb nest txt ovr s ∧ (∀ q, s.heap.size ≤ q → A q) ∧ meth.name = (nm y).name ∧ d ≤ R.frames ∧ 70 * d ≤ R.locals ∧ (xu mi y).1 ≤ R.cells ∧ (xu mi y).2.1 ≤ R.slots
/-- an answer, at an instruction that gives it -/
def xrt (y pc : Nat) (as : List Nat) (lr : Option xv) (rv : Option Value) : Prop :=
  (rtt y = none ∧ lr = none ∧ rv = none ∧ decode (bys y) pc = .ok (.return_, 1)) ∨
  (∃ (w : xv) (x : Int32) (ty : FieldType), rtt y = some ty ∧ lr = some w ∧ rv = some (.int x) ∧ xden sv ex as w (.int x) ∧ narrow ty (.int x) = .int x ∧ decode (bys y) pc = .ok (.ireturn, 1)) ∨
  (∃ (w : xv) (x : Int64), rtt y = some .long ∧ lr = some w ∧ rv = some (.long x) ∧ xden sv ex as w (.long x) ∧ decode (bys y) pc = .ok (.lreturn, 1))
def xRet (y : Nat) (L : List xleaf) (p : Program) (e : Env) (R : Room) (s : State) (m : MethodId) (args : Array Value) (below : List Frame) (meth : Method) (c : Code) (Q : State → Prop) (as : List Nat) : Prop :=
  ∀ q ∈ L, ∀ (as' : List Nat) (ws : va_W) (H : Heap) (locs : List Loc) (cn sn pc : Nat) (la : Array Slot) (rv : Option Value), xle as as' → xWorld D cl A sv ex s as' q.1 q.2.1 q.2.2.1 ws H locs → cn ≤ (xu mi y).1 → sn ≤ (xu mi y).2.1 → xrt sv ex bys rtt y pc as' q.2.2.2 rv →
    W p l e R s m args below meth c H locs cn sn Q (F0 m pc la rv.toList)
def xGo (y d pc : Nat) (ls : List (Nat × xv)) (st : List xv) (bx : xbox) (h : xheap) (n cn sn : Nat) (L : List xleaf) : Prop :=
  ∀ (p : Program) (e : Env) (R : Room) (s : State) (m : MethodId) (args : Array Value) (below : List Frame) (meth : Method) (c : Code) (Q : State → Prop) (as : List Nat) (ws : va_W) (H : Heap) (locs : List Loc) (la : Array Slot) (stv : List Value),
    xCtx D cl A sv ex el eb nest txt ovr mi bys nm gw y d p R s m args meth c → cn ≤ (xu mi y).1 → sn ≤ (xu mi y).2.1 → xWorld D cl A sv ex s as bx h n ws H locs → xFrm sv ex as (xu mi y).2.2.2.2.2 ls st la stv →
    xRet l D cl A sv ex mi bys rtt y L p e R s m args below meth c Q as → W p l e R s m args below meth c H locs cn sn Q (F0 m pc la stv)
def xSnd (rec : xF) : Prop := ∀ (y d pc : Nat) (ls : List (Nat × xv)) (st : List xv) (bx : xbox) (h : xheap) (n cn sn : Nat) (L : List xleaf), rec y d pc ls st bx h n cn sn = some L → xGo l D cl A sv ex el eb nest txt ovr mi bys nm rtt gw y d pc ls st bx h n cn sn L
/-- a called method's start and end -/
def xPc (as : List Nat) (h : xheap) (n : Nat) (av : List Value) : Array Value → State → Prop := fun v U => v = av.toArray ∧ (∃ ws : va_W, xhR cl sv ex U as h n ws ∧ va_P D cl ws U.heap ∧ va_D A ws) ∧ va_K D cl [] U ∧ xEX A sv ex el eb nest txt ovr U ∧ ∀ q, U.heap.size ≤ q → A q
def xQc (as : List Nat) (L : List xleaf) : Array Value → State → Outcome → State → Prop := fun _ st oc t =>
  (∃ q ∈ L, ∃ (as' : List Nat) (ws : va_W) (rv : Option Value), xle as as' ∧ xbxo sv q.1 ∧ xhR cl sv ex t as' q.2.1 q.2.2.1 ws ∧ va_P D cl ws t.heap ∧ va_D A ws ∧ oc = .returned rv ∧ (match q.2.2.2 with
    | none => rv = none
    | some w => ∃ v, rv = some v ∧ xden sv ex as' w v)) ∧ va_F A st t
theorem xmet {rec : xF} (hrec : xSnd l D cl A sv ex el eb nest txt ovr mi bys nm rtt gw rec) {z d n : Nat} {bx : xbox} {h : xheap} {ar : List xv} {L : List xleaf} (hr : rec z d 0 (xarg 0 ar) [] bx h n 0 0 = some L) (mok : xMok mi bys nm rtt gw z) {as : List Nat} {av : List Value} (hav : xstR sv ex as ar av) (hwd : xwds ar ≤ (xu mi z).2.2.2.2.2) (hbx : xbxo sv bx) :
    Met l (nm z) (Cond.code (nm z) (bys z) (xu mi z).2.2.2.2.2 (rtt z) :: gw) ({ frames := d, cells := (xu mi z).1, slots := (xu mi z).2.1, locals := 70 * d }) (xPc D cl A sv ex el eb nest txt ovr as h n av) (xQc D cl A sv ex as L) (xu mi z).1 (xu mi z).2.1 A := by
  refine va_MetF (cc := bys z) (maxL := (xu mi z).2.2.2.2.2) (ret := rtt z) mok.2.2.1 rfl ?_
  intro p e s m args below meth c s₁ B hml hv
  obtain ⟨rfl, ⟨ws, hh, hP, hD⟩, hK, hEX, hA⟩ := hv
  have hts := atoms_spec (ws := Cond.code (nm z) (bys z) (xu mi z).2.2.2.2.2 (rtt z) :: gw) B.pre
  have hown : s.vm.findClass (nm z).cls = some m.cls := findClass_of_methodNamed B.named
  have hlocks := B.notSynchronized
  have hex := B.exec
  have hb := B.bytes
  have hret := B.returns
  have hl := lv_entry av (n := (xu mi z).2.2.2.2.2) (by rw [xsl_len sv ex hav]; exact hwd)
  rw [lg_entry_eq]
  refine hrec z d 0 (xarg 0 ar) [] bx h n 0 0 L hr p e _ s m _ below meth c _ as ws s.heap [] _ [] ⟨B.exec, B.bytes, hml, hown, fun w hw => hts w (List.mem_cons_of_mem _ hw), hK, hEX, hA, (name_of_methodNamed B.named B.method).1, Nat.le_refl _, Nat.le_refl _, Nat.le_refl _, Nat.le_refl _⟩ (Nat.zero_le _) (Nat.zero_le _) ⟨hbx, hh, hP, hD, va_S.rf⟩ ⟨⟨_, hl, xarg_ok sv ex 0 hav⟩, trivial⟩ ?_
  intro q hq as' ws' H locs cn sn pc la rv hle hw hc hs hrt
  obtain ⟨w1, w2, w3, w4, w5⟩ := hw
  refine W.widen hc hs ?_
  rcases hrt with ⟨r1, r2, r3, r4⟩ | ⟨w, x, ty, r1, r2, r3, r4, r5, r6⟩ | ⟨w, x, r1, r2, r3, r4, r5⟩
  · subst r3
    refine W.vret hex hb (hret.trans r1) (fun t ht hW => ?_) w5.2.2 r4 hlocks
    exact ⟨⟨q, hq, as', ws', none, hle, w1, xhR.moved cl sv ex hW.alike w2, by rw [ht]; exact w3, w4, rfl, by rw [r2]⟩, w5.F ht⟩
  · subst r3
    refine W.zret hex hb (hret.trans r1) r5 (fun t ht hW => ?_) w5.2.2 r6 hlocks
    exact ⟨⟨q, hq, as', ws', some (.int x), hle, w1, xhR.moved cl sv ex hW.alike w2, by rw [ht]; exact w3, w4, rfl, by rw [r2]; exact ⟨_, rfl, r4⟩⟩, w5.F ht⟩
  · subst r3
    refine W.lret hex hb (hret.trans r1) (fun t ht hW => ?_) w5.2.2 r5 hlocks
    exact ⟨⟨q, hq, as', ws', some (.long x), hle, w1, xhR.moved cl sv ex hW.alike w2, by rw [ht]; exact w3, w4, rfl, by rw [r2]; exact ⟨_, rfl, r4⟩⟩, w5.F ht⟩
end Snd
end
section
/-! The step keeps its promise: frames, arithmetic -/
section Go
variable {l : Launch} {D : va_G} {cl : List vw_C} {A : Nat → Prop} {sv : Nat → Int32} {ex : Nat → Nat} {el : Nat → Nat} {eb : List Nat} {nest : List (String × Nat × MethodName × String)} {txt : String × Nat × String} {ovr : List String}
variable {mi : xmi} {df : xdf} {bys : Nat → ByteArray} {nm : Nat → MethodName} {rtt : Nat → Option FieldType} {gw : List Cond}
variable {rec : xF} {y d pc : Nat} {ls : List (Nat × xv)} {st : List xv} {bx : xbox} {h : xheap} {n cn sn : Nat} {L : List xleaf}
variable {p : Program} {e : Env} {R : Room} {s : State} {m : MethodId} {args : Array Value} {below : List Frame} {meth : Method} {c : Code} {Q : State → Prop} {as : List Nat} {ws : va_W} {H : Heap} {locs : List Loc} {la : Array Slot} {stv : List Value}
def xStp (l : Launch) (D : va_G) (cl : List vw_C) (A : Nat → Prop) (sv : Nat → Int32) (ex : Nat → Nat) (el : Nat → Nat) (eb : List Nat) (nest : List (String × Nat × MethodName × String)) (txt : String × Nat × String) (ovr : List String) (mi : xmi) (bys : Nat → ByteArray) (nm : Nat → MethodName) (rtt : Nat → Option FieldType) (gw : List Cond) (rec : xF) (y d : Nat) (ls : List (Nat × xv)) (st : List xv) (bx : xbox) (h : xheap) (n cn sn : Nat) (L : List xleaf)
    (p : Program) (e : Env) (R : Room) (s : State) (m : MethodId) (args : Array Value) (below : List Frame) (meth : Method) (c : Code) (Q : State → Prop) (as : List Nat) (ws : va_W) (H : Heap) (locs : List Loc) (la : Array Slot) (stv : List Value) : Prop :=
  xSnd l D cl A sv ex el eb nest txt ovr mi bys nm rtt gw rec ∧ xCtx D cl A sv ex el eb nest txt ovr mi bys nm gw y d p R s m args meth c ∧ cn ≤ (xu mi y).1 ∧ sn ≤ (xu mi y).2.1 ∧ xWorld D cl A sv ex s as bx h n ws H locs ∧ xFrm sv ex as (xu mi y).2.2.2.2.2 ls st la stv ∧ xRet l D cl A sv ex mi bys rtt y L p e R s m args below meth c Q as
theorem xkk (E : xStp l D cl A sv ex el eb nest txt ovr mi bys nm rtt gw rec y d ls st bx h n cn sn L p e R s m args below meth c Q as ws H locs la stv) {pc' : Nat} {ls' : List (Nat × xv)} {st' : List xv} {bx' : xbox} {h' : xheap} {n' cn' sn' : Nat} {L' : List xleaf} (hr : rec y d pc' ls' st' bx' h' n' cn' sn' = some L') (hL : ∀ q ∈ L', q ∈ L) {as' : List Nat} {ws' : va_W} {H' : Heap} {locs' : List Loc} {la' : Array Slot} {stv' : List Value}
    (hle : xle as as') (hc : cn' ≤ (xu mi y).1) (hs : sn' ≤ (xu mi y).2.1) (hw : xWorld D cl A sv ex s as' bx' h' n' ws' H' locs') (hf : xFrm sv ex as' (xu mi y).2.2.2.2.2 ls' st' la' stv') : W p l e R s m args below meth c H' locs' cn' sn' Q (F0 m pc' la' stv') :=
  E.1 y d pc' ls' st' bx' h' n' cn' sn' L' hr p e R s m args below meth c Q as' ws' H' locs' la' stv' E.2.1 hc hs hw hf (fun q hq as2 ws2 H2 locs2 cn2 sn2 pc2 la2 rv2 hle2 => E.2.2.2.2.2.2 q (hL q hq) as2 ws2 H2 locs2 cn2 sn2 pc2 la2 rv2 (hle.tr hle2))
theorem xk0 (E : xStp l D cl A sv ex el eb nest txt ovr mi bys nm rtt gw rec y d ls st bx h n cn sn L p e R s m args below meth c Q as ws H locs la stv) {pc' : Nat} {ls' : List (Nat × xv)} {st' : List xv} (hr : rec y d pc' ls' st' bx h n cn sn = some L) {la' : Array Slot} {stv' : List Value}
    (hf : xFrm sv ex as (xu mi y).2.2.2.2.2 ls' st' la' stv') : W p l e R s m args below meth c H locs cn sn Q (F0 m pc' la' stv') :=
  xkk E hr (fun _ q => q) (xle.rf _) E.2.2.1 E.2.2.2.1 E.2.2.2.2.1 hf
theorem xksp (E : xStp l D cl A sv ex el eb nest txt ovr mi bys nm rtt gw rec y d ls st bx h n cn sn L p e R s m args below meth c Q as ws H locs la stv) {i q : Nat} (hx : xspl (fun bx' => rec y d pc ls st bx' h n cn sn) bx i q = some L) : W p l e R s m args below meth c H locs cn sn Q (F0 m pc la stv) := by
  obtain ⟨hbx, hh, hP, hD, hS⟩ := E.2.2.2.2.1
  obtain ⟨bx', L', g1, g2, g3⟩ := xspl_ok hbx hx
  exact xkk E g2 g3 (xle.rf _) E.2.2.1 E.2.2.2.1 ⟨g1, hh, hP, hD, hS⟩ E.2.2.2.2.2.1
/-- an int operation of two -/
theorem xbi_go (E : xStp l D cl A sv ex el eb nest txt ovr mi bys nm rtt gw rec y d ls st bx h n cn sn L p e R s m args below meth c Q as ws H locs la stv) {nx : Nat} {f : Nat → Nat → Nat} {F : Int32 → Int32 → Int32} (hx : x_bi rec nx y d ls st bx h n cn sn f = some L) (hF : ∀ a b, nI (f a b) = F (nI a) (nI b))
    (row : ∀ (x z : Int32) (rest : List Value), W p l e R s m args below meth c H locs cn sn Q (F0 m nx la (.int (F x z) :: rest)) → W p l e R s m args below meth c H locs cn sn Q (F0 m pc la (.int z :: .int x :: rest))) : W p l e R s m args below meth c H locs cn sn Q (F0 m pc la stv) := by
  obtain ⟨b, a, r, rfl, k1, k2, g⟩ := x_bi_ok hx
  have hbx := E.2.2.2.2.1.1
  obtain ⟨hl, hst⟩ := E.2.2.2.2.2.1
  obtain ⟨vb, m1, rfl, hvb, hst⟩ := xstR_cons hst
  obtain ⟨va, m2, rfl, hva, hr⟩ := xstR_cons hst
  obtain ⟨z, rfl⟩ := xden.int sv ex hvb k1
  obtain ⟨x, rfl⟩ := xden.int sv ex hva k2
  refine row x z m2 ?_
  rcases g with ⟨x', z', q1, q2, q3⟩ | g
  · have e1 : x = nI x' := Value.int.inj (xci_ok sv ex hbx hva q1)
    have e2 : z = nI z' := Value.int.inj (xci_ok sv ex hbx hvb q2)
    subst e1; subst e2
    exact xk0 E q3 ⟨hl, by show Value.int _ = Value.int _; rw [hF], hr⟩
  · exact xk0 E g ⟨hl, ⟨_, rfl⟩, hr⟩
theorem xdv_go (E : xStp l D cl A sv ex el eb nest txt ovr mi bys nm rtt gw rec y d ls st bx h n cn sn L p e R s m args below meth c Q as ws H locs la stv) {nx : Nat} {f : Nat → Nat → Nat} {F : Int32 → Int32 → Int32} (hx : x_dv rec nx y d ls st bx h n cn sn f = some L) (hF : ∀ a b, nI (f a b) = F (nI a) (nI b))
    (row : ∀ (x z : Int32) (rest : List Value), ¬ z = 0 → W p l e R s m args below meth c H locs cn sn Q (F0 m nx la (.int (F x z) :: rest)) → W p l e R s m args below meth c H locs cn sn Q (F0 m pc la (.int z :: .int x :: rest))) : W p l e R s m args below meth c H locs cn sn Q (F0 m pc la stv) := by
  obtain ⟨b, a, r, x, z, rfl, q1, q2, hz, g⟩ := x_dv_ok hx
  have hbx := E.2.2.2.2.1.1
  obtain ⟨hl, hst⟩ := E.2.2.2.2.2.1
  obtain ⟨vb, m1, rfl, hvb, hst⟩ := xstR_cons hst
  obtain ⟨va, m2, rfl, hva, hr⟩ := xstR_cons hst
  have e1 := xci_ok sv ex hbx hva q1
  have e2 := xci_ok sv ex hbx hvb q2
  subst e1; subst e2
  refine row _ _ m2 (nI_z hz) ?_
  exact xk0 E g ⟨hl, by show Value.int _ = Value.int _; rw [hF], hr⟩
theorem xbl_go (E : xStp l D cl A sv ex el eb nest txt ovr mi bys nm rtt gw rec y d ls st bx h n cn sn L p e R s m args below meth c Q as ws H locs la stv) {nx : Nat} {f : Nat → Nat → Nat} {F : Int64 → Int64 → Int64} (hx : x_bl rec nx y d ls st bx h n cn sn f = some L) (hF : ∀ a b, lN (f a b) = F (lN a) (lN b))
    (row : ∀ (x z : Int64) (rest : List Value), W p l e R s m args below meth c H locs cn sn Q (F0 m nx la (.long (F x z) :: rest)) → W p l e R s m args below meth c H locs cn sn Q (F0 m pc la (.long z :: .long x :: rest))) : W p l e R s m args below meth c H locs cn sn Q (F0 m pc la stv) := by
  obtain ⟨b, a, r, rfl, k1, k2, g⟩ := x_bl_ok hx
  have hbx := E.2.2.2.2.1.1
  obtain ⟨hl, hst⟩ := E.2.2.2.2.2.1
  obtain ⟨vb, m1, rfl, hvb, hst⟩ := xstR_cons hst
  obtain ⟨va, m2, rfl, hva, hr⟩ := xstR_cons hst
  obtain ⟨z, rfl⟩ := xden.long sv ex hvb k1
  obtain ⟨x, rfl⟩ := xden.long sv ex hva k2
  refine row x z m2 ?_
  rcases g with ⟨x', z', q1, q2, q3⟩ | g
  · have e1 : x = lN x' := Value.long.inj (xcl_ok sv ex hbx hva q1)
    have e2 : z = lN z' := Value.long.inj (xcl_ok sv ex hbx hvb q2)
    subst e1; subst e2
    exact xk0 E q3 ⟨hl, by show Value.long _ = Value.long _; rw [hF], hr⟩
  · exact xk0 E g ⟨hl, ⟨_, rfl⟩, hr⟩
theorem xdl_go (E : xStp l D cl A sv ex el eb nest txt ovr mi bys nm rtt gw rec y d ls st bx h n cn sn L p e R s m args below meth c Q as ws H locs la stv) {nx : Nat} {f : Nat → Nat → Nat} {F : Int64 → Int64 → Int64} (hx : x_dl rec nx y d ls st bx h n cn sn f = some L) (hF : ∀ a b, lN (f a b) = F (lN a) (lN b))
    (row : ∀ (x z : Int64) (rest : List Value), ¬ z = 0 → W p l e R s m args below meth c H locs cn sn Q (F0 m nx la (.long (F x z) :: rest)) → W p l e R s m args below meth c H locs cn sn Q (F0 m pc la (.long z :: .long x :: rest))) : W p l e R s m args below meth c H locs cn sn Q (F0 m pc la stv) := by
  obtain ⟨b, a, r, x, z, rfl, q1, q2, hz, g⟩ := x_dl_ok hx
  have hbx := E.2.2.2.2.1.1
  obtain ⟨hl, hst⟩ := E.2.2.2.2.2.1
  obtain ⟨vb, m1, rfl, hvb, hst⟩ := xstR_cons hst
  obtain ⟨va, m2, rfl, hva, hr⟩ := xstR_cons hst
  have e1 := xcl_ok sv ex hbx hva q1
  have e2 := xcl_ok sv ex hbx hvb q2
  subst e1; subst e2
  refine row _ _ m2 (lN_z hz) ?_
  exact xk0 E g ⟨hl, by show Value.long _ = Value.long _; rw [hF], hr⟩
theorem xsl_go (E : xStp l D cl A sv ex el eb nest txt ovr mi bys nm rtt gw rec y d ls st bx h n cn sn L p e R s m args below meth c Q as ws H locs la stv) {nx : Nat} {f : Nat → Nat → Nat} {F : Int64 → Int32 → Int64} (hx : x_sl rec nx y d ls st bx h n cn sn f = some L) (hF : ∀ a b, lN (f a b) = F (lN a) (nI b))
    (row : ∀ (x : Int64) (z : Int32) (rest : List Value), W p l e R s m args below meth c H locs cn sn Q (F0 m nx la (.long (F x z) :: rest)) → W p l e R s m args below meth c H locs cn sn Q (F0 m pc la (.int z :: .long x :: rest))) : W p l e R s m args below meth c H locs cn sn Q (F0 m pc la stv) := by
  obtain ⟨b, a, r, rfl, k1, k2, g⟩ := x_sl_ok hx
  have hbx := E.2.2.2.2.1.1
  obtain ⟨hl, hst⟩ := E.2.2.2.2.2.1
  obtain ⟨vb, m1, rfl, hvb, hst⟩ := xstR_cons hst
  obtain ⟨va, m2, rfl, hva, hr⟩ := xstR_cons hst
  obtain ⟨z, rfl⟩ := xden.int sv ex hvb k1
  obtain ⟨x, rfl⟩ := xden.long sv ex hva k2
  refine row x z m2 ?_
  rcases g with ⟨x', z', q1, q2, q3⟩ | g
  · have e1 : x = lN x' := Value.long.inj (xcl_ok sv ex hbx hva q1)
    have e2 : z = nI z' := Value.int.inj (xci_ok sv ex hbx hvb q2)
    subst e1; subst e2
    exact xk0 E q3 ⟨hl, by show Value.long _ = Value.long _; rw [hF], hr⟩
  · exact xk0 E g ⟨hl, ⟨_, rfl⟩, hr⟩
theorem xui_go (E : xStp l D cl A sv ex el eb nest txt ovr mi bys nm rtt gw rec y d ls st bx h n cn sn L p e R s m args below meth c Q as ws H locs la stv) {nx : Nat} {f : Nat → Nat} {F : Int32 → Int32} (hx : x_ui rec nx y d ls st bx h n cn sn f = some L) (hF : ∀ a, nI (f a) = F (nI a))
    (row : ∀ (x : Int32) (rest : List Value), W p l e R s m args below meth c H locs cn sn Q (F0 m nx la (.int (F x) :: rest)) → W p l e R s m args below meth c H locs cn sn Q (F0 m pc la (.int x :: rest))) : W p l e R s m args below meth c H locs cn sn Q (F0 m pc la stv) := by
  obtain ⟨a, r, rfl, k2, g⟩ := x_ui_ok hx
  have hbx := E.2.2.2.2.1.1
  obtain ⟨hl, hst⟩ := E.2.2.2.2.2.1
  obtain ⟨va, m2, rfl, hva, hr⟩ := xstR_cons hst
  obtain ⟨x, rfl⟩ := xden.int sv ex hva k2
  refine row x m2 ?_
  rcases g with ⟨x', q1, q3⟩ | g
  · have e1 : x = nI x' := Value.int.inj (xci_ok sv ex hbx hva q1)
    subst e1
    exact xk0 E q3 ⟨hl, by show Value.int _ = Value.int _; rw [hF], hr⟩
  · exact xk0 E g ⟨hl, ⟨_, rfl⟩, hr⟩
theorem xl2i_go (E : xStp l D cl A sv ex el eb nest txt ovr mi bys nm rtt gw rec y d ls st bx h n cn sn L p e R s m args below meth c Q as ws H locs la stv) {nx : Nat} (hx : x_l2i rec nx y d ls st bx h n cn sn = some L)
    (row : ∀ (x : Int64) (rest : List Value), W p l e R s m args below meth c H locs cn sn Q (F0 m nx la (.int x.toInt32 :: rest)) → W p l e R s m args below meth c H locs cn sn Q (F0 m pc la (.long x :: rest))) : W p l e R s m args below meth c H locs cn sn Q (F0 m pc la stv) := by
  obtain ⟨a, r, rfl, k2, g⟩ := x_l2i_ok hx
  have hbx := E.2.2.2.2.1.1
  obtain ⟨hl, hst⟩ := E.2.2.2.2.2.1
  obtain ⟨va, m2, rfl, hva, hr⟩ := xstR_cons hst
  obtain ⟨x, rfl⟩ := xden.long sv ex hva k2
  refine row x m2 ?_
  rcases g with ⟨x', q1, q3⟩ | g
  · have e1 : x = lN x' := Value.long.inj (xcl_ok sv ex hbx hva q1)
    subst e1
    exact xk0 E q3 ⟨hl, by show Value.int _ = Value.int _; rw [lN_l2i, x32], hr⟩
  · exact xk0 E g ⟨hl, ⟨_, rfl⟩, hr⟩
theorem xi2l_go (E : xStp l D cl A sv ex el eb nest txt ovr mi bys nm rtt gw rec y d ls st bx h n cn sn L p e R s m args below meth c Q as ws H locs la stv) {nx : Nat} (hx : x_i2l rec nx y d ls st bx h n cn sn = some L)
    (row : ∀ (x : Int32) (rest : List Value), W p l e R s m args below meth c H locs cn sn Q (F0 m nx la (.long x.toInt64 :: rest)) → W p l e R s m args below meth c H locs cn sn Q (F0 m pc la (.int x :: rest))) : W p l e R s m args below meth c H locs cn sn Q (F0 m pc la stv) := by
  obtain ⟨a, r, w, rfl, g, hw⟩ := x_i2l_ok (sv := sv) (ex := ex) hx
  obtain ⟨hl, hst⟩ := E.2.2.2.2.2.1
  obtain ⟨va, m2, rfl, hva, hr⟩ := xstR_cons hst
  obtain ⟨x, rfl, hx2⟩ := hw as va hva
  exact row x m2 (xk0 E g ⟨hl, hx2, hr⟩)
/-- loads -/
theorem xld_go (E : xStp l D cl A sv ex el eb nest txt ovr mi bys nm rtt gw rec y d ls st bx h n cn sn L p e R s m args below meth c Q as ws H locs la stv) {nx r1 k1 k2 : Nat} (hx : x_ld rec nx r1 y d ls st bx h n cn sn k1 k2 = some L)
    (row : ∀ (w : xv) (v : Value), la[r1]? = some (.val v) → xden sv ex as w v → (xkd w.1 = k1 ∨ xkd w.1 = k2) → W p l e R s m args below meth c H locs cn sn Q (F0 m nx la (v :: stv)) → W p l e R s m args below meth c H locs cn sn Q (F0 m pc la stv)) : W p l e R s m args below meth c H locs cn sn Q (F0 m pc la stv) := by
  obtain ⟨w, g1, g2, g3⟩ := x_ld_ok hx
  obtain ⟨⟨lv, hl, hls⟩, hst⟩ := E.2.2.2.2.2.1
  obtain ⟨k, v, g4, g5⟩ := xlk_ok sv ex hls g1
  exact row w v (lv_at hl k g4) g5 g2 (xk0 E g3 ⟨⟨lv, hl, hls⟩, g5, hst⟩)
end Go
end
section
/-! The step keeps its promise: constants, locals, stack, arithmetic; branches -/
section Inv2
variable {rec : xF} {nx y d pc : Nat} {ls : List (Nat × xv)} {st : List xv} {bx : xbox} {h : xheap} {n c s : Nat} {L : List xleaf}
theorem x_lcmp_ok (hx : x_lcmp rec nx y d pc ls st bx h n c s = some L) : ∃ b a r, st = b :: a :: r ∧ xkd b.1 = 1 ∧ xkd a.1 = 1 ∧
    ((xdec .lt (xrg bx a) (xrg bx b) = some true ∧ rec y d nx ls ((0, 4294967295) :: r) bx h n c s = some L) ∨
     (xdec .lt (xrg bx a) (xrg bx b) = some false ∧ xdec .gt (xrg bx a) (xrg bx b) = some true ∧ rec y d nx ls ((0, 1) :: r) bx h n c s = some L) ∨
     (xdec .lt (xrg bx a) (xrg bx b) = some false ∧ xdec .gt (xrg bx a) (xrg bx b) = some false ∧ rec y d nx ls ((0, 0) :: r) bx h n c s = some L) ∨
     (∃ i q, xspl (fun bx' => rec y d pc ls st bx' h n c s) bx i q = some L) ∨ rec y d nx ls ((7, 0) :: r) bx h n c s = some L) := by
  unfold x_lcmp at hx
  match st, hx with
  | [], hx => cases hx
  | [_], hx => cases hx
  | b :: a :: r, hx =>
    obtain ⟨h1, h2⟩ := xcnd hx
    obtain ⟨g1, g2⟩ := xand h1
    refine ⟨b, a, r, rfl, xeqb g1, xeqb g2, ?_⟩
    cases ha : xdec .lt (xrg bx a) (xrg bx b) with
    | none =>
      rw [ha] at h2
      dsimp only at h2
      cases hp : xpt bx a b with
      | some q => rw [hp] at h2; exact Or.inr (Or.inr (Or.inr (Or.inl ⟨_, _, h2⟩)))
      | none => rw [hp] at h2; exact Or.inr (Or.inr (Or.inr (Or.inr h2)))
    | some t =>
      rw [ha] at h2
      cases t with
      | true => exact Or.inl ⟨rfl, h2⟩
      | false =>
        dsimp only at h2
        cases hb : xdec .gt (xrg bx a) (xrg bx b) with
        | none =>
          rw [hb] at h2
          dsimp only at h2
          cases hp : xpt bx a b with
          | some q => rw [hp] at h2; exact Or.inr (Or.inr (Or.inr (Or.inl ⟨_, _, h2⟩)))
          | none => rw [hp] at h2; exact Or.inr (Or.inr (Or.inr (Or.inr h2)))
        | some t2 =>
          rw [hb] at h2
          cases t2 with
          | true => exact Or.inr (Or.inl ⟨rfl, rfl, h2⟩)
          | false => exact Or.inr (Or.inr (Or.inl ⟨rfl, rfl, h2⟩))
theorem x_tab_ok {dflt lo hi : Int} {offs : Array Int} (hx : x_tab rec y d pc ls st bx h n c s dflt lo hi offs = some L) : ∃ a r, st = a :: r ∧
    ((∃ x t, xci bx a = some x ∧ xts dflt lo hi offs pc (xz x) = some t ∧ rec y d t ls r bx h n c s = some L) ∨
     (a.1 = 1 ∧ ((xbg bx a.2).2 < (lo + 9223372036854775808).toNat ∨ (hi + 9223372036854775808).toNat < (xbg bx a.2).1) ∧ 0 ≤ (pc : Int) + dflt ∧ rec y d ((pc : Int) + dflt).toNat ls r bx h n c s = some L) ∨
     (∃ i q, xspl (fun bx' => rec y d pc ls st bx' h n c s) bx i q = some L)) := by
  unfold x_tab at hx
  match st, hx with
  | [], hx => cases hx
  | a :: r, hx =>
    dsimp only at hx
    refine ⟨a, r, rfl, ?_⟩
    cases hc : xci bx a with
    | some x =>
      rw [hc] at hx
      dsimp only at hx
      cases ht : xts dflt lo hi offs pc (xz x) with
      | none => rw [ht] at hx; cases hx
      | some t => rw [ht] at hx; exact Or.inl ⟨x, t, rfl, ht, hx⟩
    | none =>
      rw [hc] at hx
      obtain ⟨g1, g2⟩ := xcnd hx
      cases hb : (Nat.blt (xbg bx a.2).2 (lo + 9223372036854775808).toNat || Nat.blt (hi + 9223372036854775808).toNat (xbg bx a.2).1) with
      | true =>
        rw [hb] at g2
        simp only [cond_true] at g2
        split at g2
        · rename_i hz
          exact Or.inr (Or.inl ⟨xeqb g1, (xor2 hb).imp xltb xltb, hz, g2⟩)
        · cases g2
      | false =>
        rw [hb] at g2
        exact Or.inr (Or.inr ⟨_, _, g2⟩)
end Inv2
theorem xts_in {dflt lo hi : Int} {offs : Array Int} {pc t : Nat} {z : Int} (h : xts dflt lo hi offs pc z = some t) : ((z < lo ∨ hi < z) ∧ (pc : Int) + dflt = (t : Int)) ∨ (¬ z < lo ∧ ¬ hi < z ∧ ∃ o, offs[(z - lo).toNat]? = some o ∧ (pc : Int) + o = (t : Int)) := by
  unfold xts at h
  split at h
  · rename_i hz
    split at h
    · cases h; exact Or.inl ⟨hz, by omega⟩
    · cases h
  · rename_i hz
    split at h
    · cases h
    · rename_i o ho
      split at h
      · cases h; exact Or.inr ⟨fun q => hz (Or.inl q), fun q => hz (Or.inr q), o, ho, by omega⟩
      · cases h
section Go2
variable {l : Launch} {D : va_G} {cl : List vw_C} {A : Nat → Prop} {sv : Nat → Int32} {ex : Nat → Nat} {el : Nat → Nat} {eb : List Nat} {nest : List (String × Nat × MethodName × String)} {txt : String × Nat × String} {ovr : List String}
variable {mi : xmi} {df : xdf} {bys : Nat → ByteArray} {nm : Nat → MethodName} {rtt : Nat → Option FieldType} {gw : List Cond}
variable {rec : xF} {y d pc : Nat} {ls : List (Nat × xv)} {st : List xv} {bx : xbox} {h : xheap} {n cn sn : Nat} {L : List xleaf}
variable {p : Program} {e : Env} {R : Room} {s : State} {m : MethodId} {args : Array Value} {below : List Frame} {meth : Method} {c : Code} {Q : State → Prop} {as : List Nat} {ws : va_W} {H : Heap} {locs : List Loc} {la : Array Slot} {stv : List Value}
/-- the instructions of a frame alone -/
def xg1 : Instr → Bool
  | .iconst _ => true
  | .bipush _ => true
  | .sipush _ => true
  | .lconst _ => true
  | .ldc _ => true
  | .ldc_w _ => true
  | .ldc2_w _ => true
  | .aconst_null => true
  | .iload _ => true
  | .lload _ => true
  | .aload _ => true
  | .iload_n _ => true
  | .lload_n _ => true
  | .aload_n _ => true
  | .istore _ => true
  | .lstore _ => true
  | .astore _ => true
  | .istore_n _ => true
  | .lstore_n _ => true
  | .astore_n _ => true
  | .iinc _ _ => true
  | .dup => true
  | .pop => true
  | .dup2 => true
  | _ => false
set_option maxHeartbeats 4000000 in
theorem xf1 (E : xStp l D cl A sv ex el eb nest txt ovr mi bys nm rtt gw rec y d ls st bx h n cn sn L p e R s m args below meth c Q as ws H locs la stv) {ins : Instr} {len tg r1 r2 : Nat} (hg : xg1 ins = true) (hdec : decode (bys y) pc = .ok (ins, len)) (hI : xI cl nest txt ovr mi df bys nm rtt gw y pc ins len tg r1 r2)
    (hx : xex mi df el eb rec ins (pc + len) tg r1 r2 y d pc ls st bx h n cn sn = some L) : W p l e R s m args below meth c H locs cn sn Q (F0 m pc la stv) := by
  obtain ⟨hrec, ⟨hex, hb, hml, hown, hts, hK, hEX, hA, hnm, hRf, hRl, hRc, hRs⟩, hc, hs, ⟨hbx, hh, hP, hD, hS⟩, ⟨⟨lv, hl, hls⟩, hst⟩, hret⟩ := id E
  cases ins with
  | iconst k => obtain ⟨rfl, hv⟩ := hI; exact lv_iconst hex hb hdec hv (xk0 E hx ⟨⟨lv, hl, hls⟩, rfl, hst⟩)
  | bipush k => obtain ⟨rfl, hv⟩ := hI; exact lv_bipush hex hb hdec hv (xk0 E hx ⟨⟨lv, hl, hls⟩, rfl, hst⟩)
  | sipush k => obtain ⟨rfl, hv⟩ := hI; exact lv_sipush hex hb hdec hv (xk0 E hx ⟨⟨lv, hl, hls⟩, rfl, hst⟩)
  | lconst k => obtain ⟨rfl, hv⟩ := hI; exact lv_lconst hex hb hdec hv (xk0 E hx ⟨⟨lv, hl, hls⟩, rfl, hst⟩)
  | ldc i =>
    obtain ⟨rfl, hv1, hv2⟩ := hI
    have hx : cond (Nat.beq r2 0) (rec y d (pc + 2) ls ((0, r1) :: st) bx h n cn sn) (cond (Nat.beq r2 1) (rec y d (pc + 2) ls ((6, 1) :: st) bx h n cn sn) none) = some L := hx
    cases hq : Nat.beq r2 0 with
    | true => rw [hq] at hx; exact lv_ldc hex hb hown (hts _ (hv1 (xeqb hq))) hdec (xk0 E hx ⟨⟨lv, hl, hls⟩, rfl, hst⟩)
    | false =>
      rw [hq] at hx
      obtain ⟨g1, g2⟩ := xcnd hx
      obtain ⟨e1, e2⟩ := hv2 (xeqb g1)
      refine va_ldcS (own := (nm y).cls) (tx := txt.2.2) (q := ex 1) hex hb hown ?_ hdec (xk0 E g2 ⟨⟨lv, hl, hls⟩, rfl, hst⟩)
      rw [e1, e2]
      exact hEX.2.2.2.2.1
  | ldc_w i => obtain ⟨rfl, hv⟩ := hI; exact lv_ldcw hex hb hown (hts _ hv) hdec (xk0 E hx ⟨⟨lv, hl, hls⟩, rfl, hst⟩)
  | ldc2_w i => obtain ⟨rfl, hv⟩ := hI; exact lv_ldc2 hex hb hown (hts _ hv) hdec (xk0 E hx ⟨⟨lv, hl, hls⟩, rfl, hst⟩)
  | aconst_null => obtain rfl : len = 1 := hI; exact lv_null hex hb hdec (xk0 E hx ⟨⟨lv, hl, hls⟩, rfl, hst⟩)
  | iload i =>
    obtain ⟨rfl, rfl⟩ := hI
    exact xld_go E hx (fun w v q1 q2 q3 k => by obtain ⟨x, rfl⟩ := xden.int sv ex q2 (q3.elim id id); exact lv_iload hex hb hdec q1 k)
  | lload i =>
    obtain ⟨rfl, rfl⟩ := hI
    exact xld_go E hx (fun w v q1 q2 q3 k => by obtain ⟨x, rfl⟩ := xden.long sv ex q2 (q3.elim id id); exact lv_lload hex hb hdec q1 k)
  | aload i =>
    obtain ⟨rfl, rfl⟩ := hI
    refine xld_go E hx (fun w v q1 q2 q3 k => ?_)
    rcases q3 with q3 | q3
    · obtain ⟨x, rfl⟩ := xden.ref sv ex q2 q3; exact lv_aload hex hb hdec q1 k
    · have := xden.nul sv ex q2 q3; subst this; exact lv_aloadN hex hb hdec q1 k
  | iload_n i =>
    obtain ⟨rfl, hi⟩ := hI
    exact xld_go E hx (fun w v q1 q2 q3 k => by obtain ⟨x, rfl⟩ := xden.int sv ex q2 (q3.elim id id); exact lv_iload_n hex hb hdec hi q1 k)
  | lload_n i =>
    obtain ⟨rfl, hi⟩ := hI
    exact xld_go E hx (fun w v q1 q2 q3 k => by obtain ⟨x, rfl⟩ := xden.long sv ex q2 (q3.elim id id); exact lv_lload_n hex hb hdec hi q1 k)
  | aload_n i =>
    obtain ⟨rfl, hi⟩ := hI
    refine xld_go E hx (fun w v q1 q2 q3 k => ?_)
    rcases q3 with q3 | q3
    · obtain ⟨x, rfl⟩ := xden.ref sv ex q2 q3; exact lv_aload_n hex hb hdec hi q1 k
    · have := xden.nul sv ex q2 q3; subst this; exact lv_aload_nN hex hb hdec hi q1 k
  | istore i =>
    obtain ⟨rfl, rfl, hn⟩ := hI
    obtain ⟨w, r, rfl, g2, g3⟩ := x_st_ok hx
    obtain ⟨v, m1, rfl, hv, hr⟩ := xstR_cons hst
    obtain ⟨x, rfl⟩ := xden.int sv ex hv (g2.elim id id)
    exact lv_istore hex hb hdec hl hn rfl (fun la' hl' => xk0 E g3 ⟨⟨_, hl', rfl, hv, xlsR.filter sv ex (xk1_ok sv ex _) hls⟩, hr⟩)
  | lstore i =>
    obtain ⟨rfl, rfl, hn⟩ := hI
    obtain ⟨w, r, rfl, g2, g3⟩ := x_st_ok hx
    obtain ⟨v, m1, rfl, hv, hr⟩ := xstR_cons hst
    obtain ⟨x, rfl⟩ := xden.long sv ex hv (g2.elim id id)
    exact lv_lstore hex hb hdec hl hn rfl (fun la' hl' => xk0 E g3 ⟨⟨_, hl', rfl, hv, xlsR.filter sv ex (xk2_ok sv ex _) hls⟩, hr⟩)
  | astore i =>
    obtain ⟨rfl, rfl, hn⟩ := hI
    obtain ⟨w, r, rfl, g2, g3⟩ := x_st_ok hx
    obtain ⟨v, m1, rfl, hv, hr⟩ := xstR_cons hst
    obtain ⟨x, rfl⟩ := xden.ref sv ex hv (g2.elim id id)
    exact lv_astore hex hb hdec hl hn rfl (fun la' hl' => xk0 E g3 ⟨⟨_, hl', rfl, hv, xlsR.filter sv ex (xk1_ok sv ex _) hls⟩, hr⟩)
  | istore_n i =>
    obtain ⟨rfl, hi, hn⟩ := hI
    obtain ⟨w, r, rfl, g2, g3⟩ := x_st_ok hx
    obtain ⟨v, m1, rfl, hv, hr⟩ := xstR_cons hst
    obtain ⟨x, rfl⟩ := xden.int sv ex hv (g2.elim id id)
    exact lv_istore_n hex hb hdec hi hl hn rfl (fun la' hl' => xk0 E g3 ⟨⟨_, hl', rfl, hv, xlsR.filter sv ex (xk1_ok sv ex _) hls⟩, hr⟩)
  | lstore_n i =>
    obtain ⟨rfl, hi, hn⟩ := hI
    obtain ⟨w, r, rfl, g2, g3⟩ := x_st_ok hx
    obtain ⟨v, m1, rfl, hv, hr⟩ := xstR_cons hst
    obtain ⟨x, rfl⟩ := xden.long sv ex hv (g2.elim id id)
    exact lv_lstore_n hex hb hdec hi hl hn rfl (fun la' hl' => xk0 E g3 ⟨⟨_, hl', rfl, hv, xlsR.filter sv ex (xk2_ok sv ex _) hls⟩, hr⟩)
  | astore_n i =>
    obtain ⟨rfl, hi, hn⟩ := hI
    obtain ⟨w, r, rfl, g2, g3⟩ := x_st_ok hx
    obtain ⟨v, m1, rfl, hv, hr⟩ := xstR_cons hst
    obtain ⟨x, rfl⟩ := xden.ref sv ex hv (g2.elim id id)
    exact lv_astore_n hex hb hdec hi hl hn rfl (fun la' hl' => xk0 E g3 ⟨⟨_, hl', rfl, hv, xlsR.filter sv ex (xk1_ok sv ex _) hls⟩, hr⟩)
  | iinc i k =>
    obtain ⟨rfl, rfl, hn, hk⟩ := hI
    obtain ⟨w, x, g1, g2, g3⟩ := x_inc_ok hx
    obtain ⟨j, v, g4, g5⟩ := xlk_ok sv ex hls g1
    have e1 := xci_ok sv ex hbx g5 g2
    subst e1
    exact lv_iinc hex hb hdec hl g4 (v := nI ((x + r2) % 4294967296)) (by rw [hk, x32, nI_add]) hn rfl (fun la' hl' => xk0 E g3 ⟨⟨_, hl', rfl, rfl, xlsR.filter sv ex (xk1_ok sv ex _) hls⟩, hst⟩)
  | dup =>
    obtain rfl : len = 1 := hI
    obtain ⟨a, r, rfl, g1, g2⟩ := x_dup_ok hx
    obtain ⟨v, m1, rfl, hv, hr⟩ := xstR_cons hst
    exact lv_dup hex hb hdec (by rw [xden.cat sv ex hv, g1]; rfl) (xk0 E g2 ⟨⟨lv, hl, hls⟩, hv, hv, hr⟩)
  | pop =>
    obtain rfl : len = 1 := hI
    obtain ⟨a, r, rfl, g1, g2⟩ := x_pop_ok hx
    obtain ⟨v, m1, rfl, hv, hr⟩ := xstR_cons hst
    exact lv_pop hex hb hdec (by rw [xden.cat sv ex hv, g1]; rfl) (xk0 E g2 ⟨⟨lv, hl, hls⟩, hr⟩)
  | dup2 =>
    obtain rfl : len = 1 := hI
    rcases x_dup2_ok hx with ⟨a, r, rfl, g1, g2⟩ | ⟨a, b, r, rfl, g1, g3, g2⟩
    · obtain ⟨v, m1, rfl, hv, hr⟩ := xstR_cons hst
      exact lv_dup2_2 hex hb hdec (by rw [xden.cat sv ex hv, g1]; rfl) (xk0 E g2 ⟨⟨lv, hl, hls⟩, hv, hv, hr⟩)
    · obtain ⟨v, m1, rfl, hv, hr⟩ := xstR_cons hst
      obtain ⟨v2, m2, rfl, hv2, hr⟩ := xstR_cons hr
      exact lv_dup2_11 hex hb hdec (by rw [xden.cat sv ex hv, g1]; rfl) (by rw [xden.cat sv ex hv2, g3]; rfl) (xk0 E g2 ⟨⟨lv, hl, hls⟩, hv, hv2, hv, hv2, hr⟩)
  | _ => cases hg
def xg2 : Instr → Bool
  | .iadd => true
  | .isub => true
  | .imul => true
  | .iand => true
  | .ior => true
  | .ishl => true
  | .ishr => true
  | .idiv => true
  | .irem => true
  | .ladd => true
  | .lsub => true
  | .lmul => true
  | .land => true
  | .lor => true
  | .ldiv => true
  | .lrem => true
  | .lshl => true
  | .lshr => true
  | .i2l => true
  | .l2i => true
  | .i2b => true
  | .i2s => true
  | .i2c => true
  | _ => false
set_option maxHeartbeats 4000000 in
theorem xf2 (E : xStp l D cl A sv ex el eb nest txt ovr mi bys nm rtt gw rec y d ls st bx h n cn sn L p e R s m args below meth c Q as ws H locs la stv) {ins : Instr} {len tg r1 r2 : Nat} (hg : xg2 ins = true) (hdec : decode (bys y) pc = .ok (ins, len)) (hI : xI cl nest txt ovr mi df bys nm rtt gw y pc ins len tg r1 r2)
    (hx : xex mi df el eb rec ins (pc + len) tg r1 r2 y d pc ls st bx h n cn sn = some L) : W p l e R s m args below meth c H locs cn sn Q (F0 m pc la stv) := by
  have hex := E.2.1.1
  have hb := E.2.1.2.1
  cases ins with
  | iadd => obtain rfl : len = 1 := hI; exact xbi_go E hx (F := fun x z => x + z) (fun a b => by rw [x32, nI_add]) (fun x z rest k => lv_iadd hex hb hdec k)
  | isub => obtain rfl : len = 1 := hI; exact xbi_go E hx (F := fun x z => x - z) (fun a b => nI_sub a b) (fun x z rest k => lv_isub hex hb hdec k)
  | imul => obtain rfl : len = 1 := hI; exact xbi_go E hx (F := fun x z => x * z) (fun a b => by rw [x32, pk_mul]) (fun x z rest k => lv_imul hex hb hdec k)
  | iand => obtain rfl : len = 1 := hI; exact xbi_go E hx (F := fun x z => x &&& z) (fun a b => nI_xnu _) (fun x z rest k => lv_iand hex hb hdec k)
  | ior => obtain rfl : len = 1 := hI; exact xbi_go E hx (F := fun x z => x ||| z) (fun a b => nI_xnu _) (fun x z rest k => lv_ior hex hb hdec k)
  | ishl => obtain rfl : len = 1 := hI; exact xbi_go E hx (F := fun x z => x <<< (z &&& 31)) (fun a b => nI_xnu _) (fun x z rest k => lv_ishl hex hb hdec k)
  | ishr => obtain rfl : len = 1 := hI; exact xbi_go E hx (F := fun x z => x >>> (z &&& 31)) (fun a b => nI_xnu _) (fun x z rest k => lv_ishr hex hb hdec k)
  | idiv => obtain rfl : len = 1 := hI; exact xdv_go E hx (F := fun x z => x / z) (fun a b => nI_xnu _) (fun x z rest hz k => lv_idiv hex hb hdec hz k)
  | irem => obtain rfl : len = 1 := hI; exact xdv_go E hx (F := fun x z => x - x / z * z) (fun a b => nI_xnu _) (fun x z rest hz k => lv_irem hex hb hdec hz k)
  | ladd => obtain rfl : len = 1 := hI; exact xbl_go E hx (F := fun x z => x + z) (fun a b => lN_xnl _) (fun x z rest k => lv_ladd hex hb hdec k)
  | lsub => obtain rfl : len = 1 := hI; exact xbl_go E hx (F := fun x z => x - z) (fun a b => lN_xnl _) (fun x z rest k => lv_lsub hex hb hdec k)
  | lmul => obtain rfl : len = 1 := hI; exact xbl_go E hx (F := fun x z => x * z) (fun a b => lN_xnl _) (fun x z rest k => lv_lmul hex hb hdec k)
  | land => obtain rfl : len = 1 := hI; exact xbl_go E hx (F := fun x z => x &&& z) (fun a b => lN_xnl _) (fun x z rest k => lv_land hex hb hdec k)
  | lor => obtain rfl : len = 1 := hI; exact xbl_go E hx (F := fun x z => x ||| z) (fun a b => lN_xnl _) (fun x z rest k => lv_lor hex hb hdec k)
  | ldiv => obtain rfl : len = 1 := hI; exact xdl_go E hx (F := fun x z => x / z) (fun a b => lN_xnl _) (fun x z rest hz k => lv_ldiv hex hb hdec hz k)
  | lrem => obtain rfl : len = 1 := hI; exact xdl_go E hx (F := fun x z => x - x / z * z) (fun a b => lN_xnl _) (fun x z rest hz k => lv_lrem hex hb hdec hz k)
  | lshl => obtain rfl : len = 1 := hI; exact xsl_go E hx (F := fun x z => x <<< (z.toInt64 &&& 63)) (fun a b => lN_xnl _) (fun x z rest k => lv_lshl hex hb hdec rfl k)
  | lshr => obtain rfl : len = 1 := hI; exact xsl_go E hx (F := fun x z => x >>> (z.toInt64 &&& 63)) (fun a b => lN_xnl _) (fun x z rest k => lv_lshr hex hb hdec rfl k)
  | i2l => obtain rfl : len = 1 := hI; exact xi2l_go E hx (fun x rest k => lv_i2l hex hb hdec rfl k)
  | l2i => obtain rfl : len = 1 := hI; exact xl2i_go E hx (fun x rest k => lv_l2i hex hb hdec rfl k)
  | i2b => obtain rfl : len = 1 := hI; exact xui_go E hx (F := fun x => x.toInt8.toInt32) (fun a => nI_xnu _) (fun x rest k => lv_i2b hex hb hdec rfl k)
  | i2s => obtain rfl : len = 1 := hI; exact xui_go E hx (F := fun x => x.toInt16.toInt32) (fun a => nI_xnu _) (fun x rest k => lv_i2s hex hb hdec rfl k)
  | i2c => obtain rfl : len = 1 := hI; exact xui_go E hx (F := fun x => (x.toUInt32 % 65536).toInt32) (fun a => (nI_c65 a).symm) (fun x rest k => lv_i2c hex hb hdec rfl k)
  | _ => cases hg
def xg3 : Instr → Bool
  | .goto _ => true
  | .if_icmp _ _ => true
  | .ifCond _ _ => true
  | .ifnull _ => true
  | .ifnonnull _ => true
  | .lcmp => true
  | .tableswitch _ _ _ _ => true
  | _ => false
theorem xmapp1 {x : xleaf} {a b : List xleaf} (h : x ∈ a) : x ∈ a ++ b := List.mem_append_left _ h
theorem xmapp2 {x : xleaf} {a b : List xleaf} (h : x ∈ b) : x ∈ a ++ b := List.mem_append_right _ h
set_option maxHeartbeats 4000000 in
theorem xf3 (E : xStp l D cl A sv ex el eb nest txt ovr mi bys nm rtt gw rec y d ls st bx h n cn sn L p e R s m args below meth c Q as ws H locs la stv) {ins : Instr} {len tg r1 r2 : Nat} (hg : xg3 ins = true) (hdec : decode (bys y) pc = .ok (ins, len)) (hI : xI cl nest txt ovr mi df bys nm rtt gw y pc ins len tg r1 r2)
    (hx : xex mi df el eb rec ins (pc + len) tg r1 r2 y d pc ls st bx h n cn sn = some L) : W p l e R s m args below meth c H locs cn sn Q (F0 m pc la stv) := by
  obtain ⟨hrec, ⟨hex, hb, hml, hown, hts, hK, hEX, hA, hnm, hRf, hRl, hRc, hRs⟩, hc, hs, ⟨hbx, hh, hP, hD, hS⟩, ⟨hl, hst⟩, hret⟩ := id E
  cases ins with
  | goto off => obtain ⟨rfl, ht⟩ := hI; exact lv_goto hex hb hdec ht (xk0 E hx ⟨hl, hst⟩)
  | if_icmp o off =>
    obtain ⟨rfl, ht⟩ := hI
    obtain ⟨b, a, r, rfl, k1, k2, g⟩ := x_icmp_ok hx
    obtain ⟨vb, m1, rfl, hvb, hst'⟩ := xstR_cons hst
    obtain ⟨va, m2, rfl, hva, hr⟩ := xstR_cons hst'
    obtain ⟨z, rfl⟩ := xden.int sv ex hvb k1
    obtain ⟨x, rfl⟩ := xden.int sv ex hva k2
    rcases xbr_ok g with ⟨t, q1, q2⟩ | ⟨i, q, q1⟩ | ⟨L1, L2, q1, q2, q3⟩
    · have hif := xdec_ok q1 (xrg_int sv ex hbx hva).1 (xrg_int sv ex hbx hva).2 (xrg_int sv ex hbx hvb).1 (xrg_int sv ex hbx hvb).2
      refine xicmp hex hb hdec ht (fun hr' => ?_) (fun hr' => ?_)
      · have e : t = true := hif.mpr hr'
        subst e; exact xk0 E q2 ⟨hl, hr⟩
      · cases t with
        | true => exact absurd (hif.mp rfl) hr'
        | false => exact xk0 E q2 ⟨hl, hr⟩
    · exact xksp E q1
    · subst q3
      exact xicmp hex hb hdec ht (fun _ => xkk E q1 (fun _ => xmapp1) (xle.rf _) hc hs ⟨hbx, hh, hP, hD, hS⟩ ⟨hl, hr⟩) (fun _ => xkk E q2 (fun _ => xmapp2) (xle.rf _) hc hs ⟨hbx, hh, hP, hD, hS⟩ ⟨hl, hr⟩)
  | ifCond o off =>
    obtain ⟨rfl, ht⟩ := hI
    obtain ⟨a, r, rfl, k2, g⟩ := x_if_ok hx
    obtain ⟨va, m2, rfl, hva, hr⟩ := xstR_cons hst
    obtain ⟨x, rfl⟩ := xden.int sv ex hva k2
    have h0 : xden sv ex as (0, 0) (.int (nI 0)) := rfl
    rcases xbr_ok g with ⟨t, q1, q2⟩ | ⟨i, q, q1⟩ | ⟨L1, L2, q1, q2, q3⟩
    · have hif := xdec_ok q1 (xrg_int sv ex hbx hva).1 (xrg_int sv ex hbx hva).2 (xrg_int sv ex hbx h0).1 (xrg_int sv ex hbx h0).2
      refine xifc hex hb hdec ht (fun hr' => ?_) (fun hr' => ?_)
      · have e : t = true := hif.mpr hr'
        subst e; exact xk0 E q2 ⟨hl, hr⟩
      · cases t with
        | true => exact absurd (hif.mp rfl) hr'
        | false => exact xk0 E q2 ⟨hl, hr⟩
    · exact xksp E q1
    · subst q3
      exact xifc hex hb hdec ht (fun _ => xkk E q1 (fun _ => xmapp1) (xle.rf _) hc hs ⟨hbx, hh, hP, hD, hS⟩ ⟨hl, hr⟩) (fun _ => xkk E q2 (fun _ => xmapp2) (xle.rf _) hc hs ⟨hbx, hh, hP, hD, hS⟩ ⟨hl, hr⟩)
  | ifnull off =>
    obtain ⟨rfl, ht⟩ := hI
    obtain ⟨a, r, rfl, g⟩ := x_nul_ok hx
    obtain ⟨va, m2, rfl, hva, hr⟩ := xstR_cons hst
    rcases g with ⟨k, g⟩ | ⟨k, g⟩
    · obtain ⟨x, rfl⟩ := xden.ref sv ex hva k
      exact lv_ifnull hex hb hdec (xk0 E g ⟨hl, hr⟩)
    · have := xden.nul sv ex hva k
      subst this
      exact lv_ifnullN hex hb hdec ht (xk0 E g ⟨hl, hr⟩)
  | ifnonnull off =>
    obtain ⟨rfl, ht⟩ := hI
    obtain ⟨a, r, rfl, g⟩ := x_nul_ok hx
    obtain ⟨va, m2, rfl, hva, hr⟩ := xstR_cons hst
    rcases g with ⟨k, g⟩ | ⟨k, g⟩
    · obtain ⟨x, rfl⟩ := xden.ref sv ex hva k
      exact lv_ifnonnull hex hb hdec ht (xk0 E g ⟨hl, hr⟩)
    · have := xden.nul sv ex hva k
      subst this
      exact lv_ifnonnullN hex hb hdec (xk0 E g ⟨hl, hr⟩)
  | lcmp =>
    obtain rfl : len = 1 := hI
    obtain ⟨b, a, r, rfl, k1, k2, g⟩ := x_lcmp_ok hx
    obtain ⟨vb, m1, rfl, hvb, hst'⟩ := xstR_cons hst
    obtain ⟨va, m2, rfl, hva, hr⟩ := xstR_cons hst'
    obtain ⟨z, rfl⟩ := xden.long sv ex hvb k1
    obtain ⟨x, rfl⟩ := xden.long sv ex hva k2
    have ra := xrg_long sv ex hbx hva
    have rb := xrg_long sv ex hbx hvb
    rcases g with ⟨q1, g⟩ | ⟨q1, q2, g⟩ | ⟨q1, q2, g⟩ | ⟨i, q, g⟩ | g
    · refine W.lcmp hex hb hdec (xk0 E g ⟨hl, ?_, hr⟩)
      have h1 : x < z := xoff_ltL.mp ((xdec_ok q1 ra.1 ra.2 rb.1 rb.2).mp rfl)
      have h2 := Int64.lt_iff_toInt_lt.mp h1
      show Value.int (lg_cmp x z) = Value.int (nI 4294967295)
      unfold lg_cmp
      rw [if_neg (fun q => by have := Int64.lt_iff_toInt_lt.mp (gt_iff_lt.mp q); omega), if_neg (fun q => by rw [q] at h2; omega)]
      rfl
    · refine W.lcmp hex hb hdec (xk0 E g ⟨hl, ?_, hr⟩)
      have h1 : z < x := xoff_ltL.mp ((xdec_ok q2 ra.1 ra.2 rb.1 rb.2).mp rfl)
      show Value.int (lg_cmp x z) = Value.int (nI 1)
      unfold lg_cmp
      rw [if_pos h1]
      rfl
    · refine W.lcmp hex hb hdec (xk0 E g ⟨hl, ?_, hr⟩)
      have h1 : ¬ x < z := fun q => by have := (xdec_ok q1 ra.1 ra.2 rb.1 rb.2).mpr (xoff_ltL.mpr q); cases this
      have h2 : ¬ z < x := fun q => by have := (xdec_ok q2 ra.1 ra.2 rb.1 rb.2).mpr (xoff_ltL.mpr q); cases this
      have h3 : x = z := by
        apply Int64.toInt_inj.mp
        have a1 : ¬ x.toInt < z.toInt := fun q => h1 (Int64.lt_iff_toInt_lt.mpr q)
        have a2 : ¬ z.toInt < x.toInt := fun q => h2 (Int64.lt_iff_toInt_lt.mpr q)
        omega
      show Value.int (lg_cmp x z) = Value.int (nI 0)
      unfold lg_cmp
      rw [if_neg h2, if_pos h3]
      rfl
    · exact xksp E g
    · exact W.lcmp hex hb hdec (xk0 E g ⟨hl, ⟨_, rfl⟩, hr⟩)
  | tableswitch dflt lo hi offs =>
    obtain ⟨hlo, hhi, hlh⟩ := hI
    obtain ⟨a, r, rfl, g⟩ := x_tab_ok hx
    obtain ⟨va, m2, rfl, hva, hr⟩ := xstR_cons hst
    rcases g with ⟨x, t, q1, q2, g⟩ | ⟨q1, q2, q3, g⟩ | ⟨i, q, g⟩
    · have e1 := xci_ok sv ex hbx hva q1
      subst e1
      rcases xts_in q2 with ⟨h1, h2⟩ | ⟨h1, h2, o, h3, h4⟩
      · exact lv_tableOut hex hb hdec h1 h2 (xk0 E g ⟨hl, hr⟩)
      · exact lv_tableIn hex hb hdec h1 h2 h3 h4 (xk0 E g ⟨hl, hr⟩)
    · obtain ⟨t, i⟩ := a
      have e1 : t = 1 := q1
      subst e1
      have e2 : va = .int (sv i) := hva
      subst e2
      have hri := hbx i
      have hoi := xoff_int (sv i)
      refine lv_tableOut hex hb hdec ?_ (tgt := ((pc : Int) + dflt).toNat) (by omega) (xk0 E g ⟨hl, hr⟩)
      dsimp only at q2 hri
      rcases q2 with q2 | q2
      · left; omega
      · right; omega
    · exact xksp E g
  | _ => cases hg
end Go2
end
section
/-! The step keeps its promise: cells -/
section Inv3
variable {mi : xmi} {df : xdf} {el : Nat → Nat} {eb : List Nat} {rec : xF} {nx tg r1 r2 y d pc : Nat} {ls : List (Nat × xv)} {st : List xv} {bx : xbox} {h : xheap} {n c s : Nat} {L : List xleaf}
theorem x_get_ok (hx : x_get rec nx r1 r2 y d ls st bx h n c s = some L) : ∃ w r, st = w :: r ∧
    ((w.1 = 4 ∧ r1 < 13 ∧ ∃ q v, xg h w.2 = some q ∧ q.1 = r1 ∧ xg q.2.2 r2 = some v ∧ rec y d nx ls (v :: r) bx h n c s = some L) ∨
     (w.1 = 6 ∧ w.2 = 1 ∧ r1 = 98 ∧ rec y d nx ls ((cond (Nat.beq r2 0) (6, 2) (0, 0)) :: r) bx h n c s = some L)) := by
  unfold x_get at hx
  match st, hx with
  | [], hx => cases hx
  | w :: r, hx =>
    refine ⟨w, r, rfl, ?_⟩
    dsimp only at hx
    cases hw : Nat.beq w.1 4 with
    | true =>
      rw [hw] at hx
      simp only [cond_true] at hx
      cases hq : xg h w.2 with
      | none => rw [hq] at hx; cases hx
      | some q =>
        rw [hq] at hx
        obtain ⟨g1, g2⟩ := xcnd hx
        obtain ⟨g3, g4⟩ := xand g1
        cases hv : xg q.2.2 r2 with
        | none => rw [hv] at g2; cases g2
        | some v => rw [hv] at g2; exact Or.inl ⟨xeqb hw, xltb g4, q, v, rfl, xeqb g3, hv, g2⟩
    | false =>
      rw [hw] at hx
      simp only [cond_false] at hx
      obtain ⟨g1, g2⟩ := xcnd hx
      obtain ⟨g3, g4⟩ := xand g1
      obtain ⟨g5, g6⟩ := xand g3
      exact Or.inr ⟨xeqb g5, xeqb g6, xeqb g4, g2⟩
theorem x_put_ok (hx : x_put rec nx tg r1 r2 y d ls st bx h n c s = some L) : ∃ v w r q w0, st = v :: w :: r ∧ w.1 = 4 ∧ xfit tg v = true ∧ xg h w.2 = some q ∧ q.1 = r1 ∧ r2 < q.2.1 ∧ xg q.2.2 r2 = some w0 ∧ rec y d nx ls r bx (xw h w.2 (q.1, q.2.1, xw q.2.2 r2 v)) n c s = some L := by
  unfold x_put at hx
  match st, hx with
  | [], hx => cases hx
  | [_], hx => cases hx
  | v :: w :: r, hx =>
    obtain ⟨g1, g2⟩ := xcnd hx
    obtain ⟨g3, g4⟩ := xand g1
    cases hq : xg h w.2 with
    | none => rw [hq] at g2; cases g2
    | some q =>
      rw [hq] at g2
      obtain ⟨g5, g6⟩ := xcnd g2
      obtain ⟨g7, g8⟩ := xand g5
      cases hv : xg q.2.2 r2 with
      | none => rw [hv] at g6; cases g6
      | some w0 =>
        rw [hv] at g6
        dsimp only at g6
        rw [xsK_eq, xsK_eq] at g6
        exact ⟨v, w, r, q, w0, rfl, xeqb g3, g4, hq, xeqb g7, xltb g8, hv, g6⟩
theorem x_arr_ok {dk : Nat} (hx : x_arr mi rec nx r1 y d ls st bx h n c s dk = some L) : ∃ w r k, st = w :: r ∧ xci bx w = some k ∧ k ≤ 1048576 ∧ x_cell mi rec nx y d ls bx h n c s r1 k (xmk (xd0 dk) 20 0 k) r = some L := by
  unfold x_arr at hx
  match st, hx with
  | [], hx => cases hx
  | w :: r, hx =>
    dsimp only at hx
    cases hc : xci bx w with
    | none => rw [hc] at hx; cases hx
    | some k =>
      rw [hc] at hx
      obtain ⟨g1, g2⟩ := xcnd hx
      exact ⟨w, r, k, rfl, hc, xleb g1, g2⟩
theorem x_new_ok (hx : x_new mi df rec nx r1 y d ls st bx h n c s = some L) : ∃ q, xg df r1 = some q ∧ x_cell mi rec nx y d ls bx h n c s r1 q.1 q.2 st = some L := by
  unfold x_new at hx
  cases hq : xg df r1 with
  | none => rw [hq] at hx; cases hx
  | some q => rw [hq] at hx; exact ⟨q, rfl, hx⟩
theorem x_len_ok (hx : x_len el rec nx y d ls st bx h n c s = some L) : ∃ w r, st = w :: r ∧
    ((w.1 = 4 ∧ ∃ q, xg h w.2 = some q ∧ 13 ≤ q.1 ∧ rec y d nx ls ((0, q.2.1) :: r) bx h n c s = some L) ∨
     (w.1 = 6 ∧ (w.2 = 0 ∨ w.2 = 2) ∧ rec y d nx ls ((0, el w.2) :: r) bx h n c s = some L)) := by
  unfold x_len at hx
  match st, hx with
  | [], hx => cases hx
  | w :: r, hx =>
    refine ⟨w, r, rfl, ?_⟩
    dsimp only at hx
    cases hw : Nat.beq w.1 4 with
    | true =>
      rw [hw] at hx
      simp only [cond_true] at hx
      cases hq : xg h w.2 with
      | none => rw [hq] at hx; cases hx
      | some q =>
        rw [hq] at hx
        obtain ⟨g1, g2⟩ := xcnd hx
        exact Or.inl ⟨xeqb hw, q, rfl, xleb g1, g2⟩
    | false =>
      rw [hw] at hx
      simp only [cond_false] at hx
      obtain ⟨g1, g2⟩ := xcnd hx
      obtain ⟨g3, g4⟩ := xand g1
      exact Or.inr ⟨xeqb g3, (xor2 g4).imp xeqb xeqb, g2⟩
theorem x_ald_ok {kd : Nat} (hx : x_ald el eb rec nx y d pc ls st bx h n c s kd = some L) : ∃ i w r, st = i :: w :: r ∧
    ((∃ x, xci bx i = some x ∧ x < 2147483648 ∧
      ((w.1 = 4 ∧ ∃ q v, xg h w.2 = some q ∧ (q.1 = kd ∨ (kd = 20 ∧ 20 ≤ q.1)) ∧ x < q.2.1 ∧ xg q.2.2 x = some v ∧ rec y d nx ls (v :: r) bx h n c s = some L) ∨
       (w.1 = 6 ∧ w.2 = 0 ∧ kd = 13 ∧ x < el 0 ∧ rec y d nx ls ((1, x) :: r) bx h n c s = some L) ∨
       (w.1 = 6 ∧ w.2 = 2 ∧ kd = 15 ∧ x < el 2 ∧ rec y d nx ls ((0, eb.getD x 0) :: r) bx h n c s = some L))) ∨
     (∃ j q, xspl (fun bx' => rec y d pc ls st bx' h n c s) bx j q = some L)) := by
  unfold x_ald at hx
  match st, hx with
  | [], hx => cases hx
  | [_], hx => cases hx
  | i :: w :: r, hx =>
    refine ⟨i, w, r, rfl, ?_⟩
    rcases x_ix_ok hx with ⟨x, h1, h2, h3⟩ | hs
    · refine Or.inl ⟨x, h1, h2, ?_⟩
      cases hw : Nat.beq w.1 4 with
      | true =>
        rw [hw] at h3
        simp only [cond_true] at h3
        cases hq : xg h w.2 with
        | none => rw [hq] at h3; cases h3
        | some q =>
          rw [hq] at h3
          obtain ⟨g1, g2⟩ := xcnd h3
          obtain ⟨g3, g4⟩ := xand g1
          cases hv : xg q.2.2 x with
          | none => rw [hv] at g2; cases g2
          | some v =>
            rw [hv] at g2
            refine Or.inl ⟨xeqb hw, q, v, rfl, ?_, xltb g4, hv, g2⟩
            rcases xor2 g3 with g | g
            · exact Or.inl (xeqb g)
            · exact Or.inr ⟨xeqb (xand g).1, xleb (xand g).2⟩
      | false =>
        rw [hw] at h3
        simp only [cond_false] at h3
        cases hb : (Nat.beq w.1 6 && Nat.beq w.2 0 && Nat.beq kd 13 && Nat.blt x (el 0)) with
        | true =>
          rw [hb] at h3
          obtain ⟨g1, g2⟩ := xand hb
          obtain ⟨g3, g4⟩ := xand g1
          obtain ⟨g5, g6⟩ := xand g3
          exact Or.inr (Or.inl ⟨xeqb g5, xeqb g6, xeqb g4, xltb g2, h3⟩)
        | false =>
          rw [hb] at h3
          simp only [cond_false] at h3
          obtain ⟨hb, h3⟩ := xcnd h3
          obtain ⟨g1, g2⟩ := xand hb
          obtain ⟨g3, g4⟩ := xand g1
          obtain ⟨g5, g6⟩ := xand g3
          exact Or.inr (Or.inr ⟨xeqb g5, xeqb g6, xeqb g4, xltb g2, h3⟩)
    · exact Or.inr hs
theorem x_ast_ok {kd : Nat} (hx : x_ast rec nx y d pc ls st bx h n c s kd = some L) : ∃ v i w r, st = v :: i :: w :: r ∧
    ((∃ x q, xci bx i = some x ∧ x < 2147483648 ∧ w.1 = 4 ∧ xfit (cond (Nat.beq kd 14) 1 0) v = true ∧ xg h w.2 = some q ∧ q.1 = kd ∧ x < q.2.1 ∧ rec y d nx ls r bx (xw h w.2 (q.1, q.2.1, xw q.2.2 x (cond (Nat.beq kd 15) (7, 0) v))) n c s = some L) ∨
     (∃ j q, xspl (fun bx' => rec y d pc ls st bx' h n c s) bx j q = some L)) := by
  unfold x_ast at hx
  match st, hx with
  | [], hx => cases hx
  | [_], hx => cases hx
  | [_, _], hx => cases hx
  | v :: i :: w :: r, hx =>
    refine ⟨v, i, w, r, rfl, ?_⟩
    rcases x_ix_ok hx with ⟨x, h1, h2, h3⟩ | hs
    · obtain ⟨g1, g2⟩ := xcnd h3
      obtain ⟨g3, g4⟩ := xand g1
      cases hq : xg h w.2 with
      | none => rw [hq] at g2; cases g2
      | some q =>
        rw [hq] at g2
        obtain ⟨g5, g6⟩ := xcnd g2
        obtain ⟨g7, g8⟩ := xand g5
        rw [xsK_eq, xsK_eq] at g6
        exact Or.inl ⟨x, q, h1, h2, xeqb g3, g4, rfl, xeqb g7, xltb g8, g6⟩
    · exact Or.inr hs
theorem x_aas_ok (hx : x_aas rec nx y d pc ls st bx h n c s = some L) : ∃ v i w r, st = v :: i :: w :: r ∧
    ((∃ x q e, xci bx i = some x ∧ x < 2147483648 ∧ w.1 = 4 ∧ v.1 = 4 ∧ xg h w.2 = some q ∧ xg h v.2 = some e ∧ e.1 < 13 ∧ q.1 = 20 + e.1 ∧ x < q.2.1 ∧ rec y d nx ls r bx (xw h w.2 (q.1, q.2.1, xw q.2.2 x v)) n c s = some L) ∨
     (∃ j q, xspl (fun bx' => rec y d pc ls st bx' h n c s) bx j q = some L)) := by
  unfold x_aas at hx
  match st, hx with
  | [], hx => cases hx
  | [_], hx => cases hx
  | [_, _], hx => cases hx
  | v :: i :: w :: r, hx =>
    refine ⟨v, i, w, r, rfl, ?_⟩
    rcases x_ix_ok hx with ⟨x, h1, h2, h3⟩ | hs
    · obtain ⟨g1, g2⟩ := xcnd h3
      obtain ⟨g3, g4⟩ := xand g1
      cases hq : xg h w.2 with
      | none => rw [hq] at g2; cases g2
      | some q =>
        rw [hq] at g2
        dsimp only at g2
        cases he : xg h v.2 with
        | none => rw [he] at g2; cases g2
        | some e =>
          rw [he] at g2
          obtain ⟨g5, g6⟩ := xcnd g2
          obtain ⟨g7, g8⟩ := xand g5
          obtain ⟨g9, g10⟩ := xand g7
          rw [xsK_eq, xsK_eq] at g6
          exact Or.inl ⟨x, q, e, h1, h2, xeqb g3, xeqb g4, rfl, rfl, xltb g9, xeqb g10, xltb g8, g6⟩
    · exact Or.inr hs
end Inv3
theorem xmk_20 {α : Type} (v : α) {k j : Nat} (hk : k ≤ 1048576) (hj : j < k) : xg (xmk v 20 0 k) j = some v := xmk_get v 20 0 k j (by omega) (Nat.zero_le _) (by omega)
section Go3
variable {l : Launch} {D : va_G} {cl : List vw_C} {A : Nat → Prop} {sv : Nat → Int32} {ex : Nat → Nat} {el : Nat → Nat} {eb : List Nat} {nest : List (String × Nat × MethodName × String)} {txt : String × Nat × String} {ovr : List String}
variable {mi : xmi} {df : xdf} {bys : Nat → ByteArray} {nm : Nat → MethodName} {rtt : Nat → Option FieldType} {gw : List Cond}
variable {rec : xF} {y d pc : Nat} {ls : List (Nat × xv)} {st : List xv} {bx : xbox} {h : xheap} {n cn sn : Nat} {L : List xleaf}
variable {p : Program} {e : Env} {R : Room} {s : State} {m : MethodId} {args : Array Value} {below : List Frame} {meth : Method} {c : Code} {Q : State → Prop} {as : List Nat} {ws : va_W} {H : Heap} {locs : List Loc} {la : Array Slot} {stv : List Value}
theorem xK1 {cA : ClassId} {ty : FieldType} (hK : va_K D cl [] s) (h : xaT s cA ty) : va_K D cl [(cA, ty)] s := by
  refine ⟨hK.1, fun k q hk => ?_⟩
  have hk0 : k = 0 := by
    have := (List.getElem?_eq_some_iff.mp hk).1
    simp at this; exact this
  subst hk0
  cases hk
  exact h
theorem xK1' {cA : ClassId} {ty : FieldType} (hK : va_K D cl ([] ++ [(cA, ty)]) s) : xaT s cA ty := hK.2 0 _ rfl
/-- an element set -/
theorem xset13 {as : List Nat} {k m : Nat} {t : xct} {f : Nat → Int32} {x : Nat} {w : xv} {v : Int32} (hf : ∀ j : Nat, j < m → ∃ w : xv, xg t j = some w ∧ xden sv ex as w (.int (f j))) (hx : x < m) (hv : xden sv ex as w (.int v)) : ∀ j : Nat, j < m → ∃ w' : xv, xg (xw t x w) j = some w' ∧ xden sv ex as w' (.int (upd f x v j)) := by
  intro j hj
  by_cases e : j = x
  · subst e
    obtain ⟨w0, q1, q2⟩ := hf j hj
    exact ⟨w, xg_self t j w w0 q1, by rw [pk_us]; exact hv⟩
  · obtain ⟨w0, q1, q2⟩ := hf j hj
    exact ⟨w0, by rw [xg_other t x j w e]; exact q1, by rw [pk_un e]; exact q2⟩
theorem xset14 {as : List Nat} {m : Nat} {t : xct} {f : Nat → Int64} {x : Nat} {w : xv} {v : Int64} (hf : ∀ j : Nat, j < m → ∃ w : xv, xg t j = some w ∧ xden sv ex as w (.long (f j))) (hv : xden sv ex as w (.long v)) : ∀ j : Nat, j < m → ∃ w' : xv, xg (xw t x w) j = some w' ∧ xden sv ex as w' (.long (vp_updL f x v j)) := by
  intro j hj
  by_cases e : j = x
  · subst e
    obtain ⟨w0, q1, q2⟩ := hf j hj
    exact ⟨w, xg_self t j w w0 q1, by rw [pk_uLs]; exact hv⟩
  · obtain ⟨w0, q1, q2⟩ := hf j hj
    exact ⟨w0, by rw [xg_other t x j w e]; exact q1, by rw [pk_uLn e]; exact q2⟩
theorem xset20 {as : List Nat} {m : Nat} {t : xct} {f : Nat → Option Nat} {x : Nat} {w : xv} {v : Option Nat} (hf : ∀ j : Nat, j < m → ∃ w : xv, xg t j = some w ∧ xden sv ex as w (va_rf (f j))) (hv : xden sv ex as w (va_rf v)) : ∀ j : Nat, j < m → ∃ w' : xv, xg (xw t x w) j = some w' ∧ xden sv ex as w' (va_rf (va_up f x v j)) := by
  intro j hj
  by_cases e : j = x
  · subst e
    obtain ⟨w0, q1, q2⟩ := hf j hj
    exact ⟨w, xg_self t j w w0 q1, by unfold va_up; rw [if_pos rfl]; exact hv⟩
  · obtain ⟨w0, q1, q2⟩ := hf j hj
    exact ⟨w0, by rw [xg_other t x j w e]; exact q1, by unfold va_up; rw [if_neg e]; exact q2⟩
def xg4 : Instr → Bool
  | .getfield _ => true
  | .putfield _ => true
  | .getstatic _ => true
  | .new _ => true
  | .newarray _ => true
  | .anewarray _ => true
  | .arraylength => true
  | _ => false
set_option maxHeartbeats 4000000 in
theorem xf4 (E : xStp l D cl A sv ex el eb nest txt ovr mi bys nm rtt gw rec y d ls st bx h n cn sn L p e R s m args below meth c Q as ws H locs la stv) {ins : Instr} {len tg r1 r2 : Nat} (hg : xg4 ins = true) (hdec : decode (bys y) pc = .ok (ins, len)) (hI : xI cl nest txt ovr mi df bys nm rtt gw y pc ins len tg r1 r2)
    (hx : xex mi df el eb rec ins (pc + len) tg r1 r2 y d pc ls st bx h n cn sn = some L) : W p l e R s m args below meth c H locs cn sn Q (F0 m pc la stv) := by
  obtain ⟨hrec, ⟨hex, hb, hml, hown, hts, hK, hEX, hA, hnm, hRf, hRl, hRc, hRs⟩, hc, hs, ⟨hbx, hh, hP, hD, hS⟩, ⟨hl, hst⟩, hret⟩ := id E
  cases ins with
  | getfield i =>
    obtain ⟨rfl, hI1, hI2⟩ := hI
    obtain ⟨w, r, rfl, g⟩ := x_get_ok hx
    obtain ⟨v, m1, rfl, hv, hr⟩ := xstR_cons hst
    rcases g with ⟨k1, k2, q, v2, q1, q2, q3, g⟩ | ⟨k1, k2, k3, g⟩
    · obtain ⟨a, ha, rfl⟩ := xden.own sv ex hv k1
      obtain ⟨ee, he, hcr⟩ := xhR.at cl sv ex hh ha q1
      obtain ⟨C, T, N, f1, f2, f3, f4⟩ := hI1 k2
      obtain ⟨⟨rr, e1, e2⟩, fs, e3, e4, e5⟩ := xcR.obj cl sv ex hcr (by rw [q2]; exact k2)
      subst e3
      have e6 : rr = (C, T, N) := Option.some.inj (e1.symm.trans (by rw [q2]; exact f1))
      subst e6
      have e2' : N = q.2.1 := e2
      obtain ⟨w3, v3, a1, a2, a3⟩ := e5 r2 (by rw [← e2']; exact f2)
      have a4 : w3 = v2 := Option.some.inj (a1.symm.trans q3)
      subst a4
      rw [q2] at he
      exact va_get hex hb hts f4 hown hK hP w.2 he f1 r2 f2 (hts _ f3) (fun _ z => z) a2 hdec (xk0 E g ⟨hl, a3, hr⟩)
    · have hv2 := xden.ext sv ex hv k1
      rw [k2] at hv2
      subst hv2
      obtain ⟨-, -, -, ⟨d1, d2, d3, d4⟩, -⟩ := hEX
      cases hq : Nat.beq r2 0 with
      | true =>
        rw [hq] at g
        exact vk_getf hex hb d3 hS hown (hts _ ((hI2 k3).1 (xeqb hq))) (fun _ z => z) hdec (xk0 E g ⟨hl, rfl, hr⟩)
      | false =>
        rw [hq] at g
        exact vk_getf hex hb d2 hS hown (hts _ ((hI2 k3).2 (xneb hq))) (fun _ z => z) hdec (xk0 E g ⟨hl, rfl, hr⟩)
  | putfield i =>
    obtain ⟨rfl, hk13, C, T, N, ty, f1, f2, f3, f4, f5, f6, f7, f8⟩ := hI
    obtain ⟨v, w, r, q, w0, rfl, k1, k2, q1, q2, q3, q4, g⟩ := x_put_ok hx
    obtain ⟨vv, m1, rfl, hv, hst⟩ := xstR_cons hst
    obtain ⟨wv, m2, rfl, hw, hr⟩ := xstR_cons hst
    obtain ⟨a, ha, rfl⟩ := xden.own sv ex hw k1
    obtain ⟨ee, he, hcr⟩ := xhR.at cl sv ex hh ha q1
    have hq13 : q.1 < 13 := by rw [q2]; exact hk13
    obtain ⟨hrr, fs, e3, e4, e5⟩ := xcR.obj cl sv ex hcr hq13
    subst e3
    obtain ⟨n1, n2⟩ := xfit_ok hv (ty := ty r2) (by rw [f7]; exact k2)
    have hnew : xcR cl sv ex s as (q.1, q.2.1, xw q.2.2 r2 v) (.inr (q.1, fs.set r2 vv)) := by
      refine Or.inl ⟨hq13, hrr, fs.set r2 vv, rfl, by rw [List.length_set]; exact e4, fun j hj => ?_⟩
      by_cases ej : j = r2
      · subst ej
        exact ⟨v, vv, xg_self _ _ _ _ q4, List.getElem?_set_self (by rw [e4]; exact q3), hv⟩
      · obtain ⟨w3, v3, a1, a2, a3⟩ := e5 j hj
        exact ⟨w3, v3, by rw [show (q.1, q.2.1, xw q.2.2 r2 v).2.2 = xw q.2.2 r2 v from rfl, xg_other _ _ _ _ ej]; exact a1, by rw [List.getElem?_set_ne (Ne.symm ej)]; exact a2, a3⟩
    have hh' := xhR.set cl sv ex hh ha q1 hnew
    have he' : ws[w.2]? = some (a, .inr (r1, fs)) := by rw [q2] at he; exact he
    rw [q2] at hh'
    rw [q2] at g
    cases hfin : (T r2).2.2.2 with
    | false =>
      exact va_put hex hb hts f4 ty f5 f6 hown hK hP hD hS w.2 he' f1 r2 f2 (hts _ f3) (fun _ z => z) hfin (f5 r2 f2) n1 n2 (by rw [e4]; exact q3) hdec
        (fun H1 locs1 hP1 hD1 hS1 => xkk E g (fun _ z => z) (xle.rf _) hc hs ⟨hbx, hh', hP1, hD1, hS1⟩ ⟨hl, hr⟩)
    | true =>
      obtain ⟨b1, b2⟩ := f8 hfin
      exact va_putF hex hb hts f4 ty f5 f6 hown hK hP hD hS w.2 he' f1 r2 f2 (hts _ f3) (fun _ z => z) hfin (hnm.trans b1) b2 (f5 r2 f2) n1 n2 (by rw [e4]; exact q3) hdec
        (fun H1 locs1 hP1 hD1 hS1 => xkk E g (fun _ z => z) (xle.rf _) hc hs ⟨hbx, hh', hP1, hD1, hS1⟩ ⟨hl, hr⟩)
  | getstatic i =>
    obtain ⟨rfl, hI1, hI2⟩ := hI
    have hx : cond (Nat.beq r1 0) (rec y d (pc + 3) ls ((0, 1) :: st) bx h n cn sn) (rec y d (pc + 3) ls ((10, 0) :: st) bx h n cn sn) = some L := hx
    cases hq : Nat.beq r1 0 with
    | true =>
      rw [hq] at hx
      exact va_gets hex hb hEX.2.1 hS hown (hts _ (hI1 (xeqb hq))) (fun _ z => z) hdec (xk0 E hx ⟨hl, rfl, hst⟩)
    | false =>
      rw [hq] at hx
      rcases hEX.2.2.1 with hz | ⟨t, hz⟩
      · exact va_gets hex hb hz hS hown (hts _ (hI2 (xneb hq))) (fun _ z => z) hdec (xk0 E hx ⟨hl, Or.inl rfl, hst⟩)
      · exact va_gets hex hb hz hS hown (hts _ (hI2 (xneb hq))) (fun _ z => z) hdec (xk0 E hx ⟨hl, Or.inr ⟨t, rfl⟩, hst⟩)
  | new i =>
    obtain ⟨rfl, C, T, N, ty, q, f1, f2, f3, f4, f5, f6, f7, f8, f9, f10⟩ := hI
    obtain ⟨q', g1, g⟩ := x_new_ok hx
    have eq : q' = q := Option.some.inj (g1.symm.trans f8)
    subst eq
    obtain ⟨u, q0, g2, g3, g4, g5, g⟩ := x_cell_ok g
    have hu := xu_of g2
    rw [← hu] at g3 g4
    have hdv : ∀ j, j < N → defaultValue (ty j) = vp_V ((List.range N).map (fun j => defaultValue (ty j))) j := by
      intro j hj
      unfold vp_V
      simp [List.getD, hj]
    rw [f9] at g g4
    refine va_new (ci := r1) (fs := (List.range N).map (fun j => defaultValue (ty j))) hex hb hts f3 ty f4 hown (hts _ f5) (hts _ f6) (hts _ f7) hK hP hD hS hA f1 hdv (by omega) (by omega) hdec (fun a H1 hP1 hD1 hS1 => ?_)
    have hnew : xcR cl sv ex s (as ++ [a]) (r1, N, q'.2) (.inr (r1, (List.range N).map (fun j => defaultValue (ty j)))) := by
      refine Or.inl ⟨f2, ⟨_, f1, rfl⟩, _, rfl, by simp, fun j hj => ?_⟩
      obtain ⟨w3, a1, a2⟩ := f10 j hj
      exact ⟨w3, defaultValue (ty j), a1, by rw [List.getElem?_map, List.getElem?_range hj]; rfl, xdv_ok a2⟩
    have hlen := hh.1
    refine xkk E g (fun _ z => z) (xle.push as a) (by omega) (by omega) ⟨hbx, xhR.push cl sv ex hh g5 hnew, hP1, hD1, hS1⟩ ⟨?_, ?_, xstR.mono sv ex (xle.push as a) hst⟩
    · obtain ⟨lv, h1, h2⟩ := hl
      exact ⟨lv, h1, xlsR.mono sv ex (xle.push as a) h2⟩
    · exact ⟨a, by rw [← hlen, List.getElem?_append_right (Nat.le_refl _), Nat.sub_self]; rfl, rfl⟩
  | newarray at_ =>
    obtain ⟨rfl, f1, f2⟩ := hI
    obtain ⟨w, r, k, rfl, g1, g2, g⟩ := x_arr_ok hx
    obtain ⟨u, q0, g3, g4, g5, g6, g⟩ := x_cell_ok g
    have hu := xu_of g3
    rw [← hu] at g4 g5
    obtain ⟨vv, m1, rfl, hv, hr⟩ := xstR_cons hst
    have e1 := xci_ok sv ex hbx hv g1
    subst e1
    have hlen := hh.1
    have hfin : ∀ (a : Nat) (ee : va_E) (H1 : Heap), xcR cl sv ex s (as ++ [a]) (r1, k, xmk (xd0 r2) 20 0 k) ee → va_P D cl (ws ++ [(a, ee)]) H1 → va_D A (ws ++ [(a, ee)]) → va_S A s.heap H1 locs → W p l e R s m args below meth c H1 locs (cn + 1) (sn + k) Q (F0 m (pc + 2) la (.ref a :: m1)) := by
      intro a ee H1 hnew hP1 hD1 hS1
      refine xkk E g (fun _ z => z) (xle.push as a) (by omega) (by omega) ⟨hbx, xhR.push cl sv ex hh g6 hnew, hP1, hD1, hS1⟩ ⟨?_, ?_, xstR.mono sv ex (xle.push as a) hr⟩
      · obtain ⟨lv, h1, h2⟩ := hl
        exact ⟨lv, h1, xlsR.mono sv ex (xle.push as a) h2⟩
      · exact ⟨a, by rw [← hlen, List.getElem?_append_right (Nat.le_refl _), Nat.sub_self]; rfl, rfl⟩
    have hclamp : (nI k).toNatClampNeg = k := nI_clamp (by omega)
    rcases f2 with ⟨rfl, rfl, rfl⟩ | ⟨rfl, rfl, rfl⟩ | ⟨rfl, rfl, rfl⟩
    · refine va_newa (a0 := (k, .inl (fun _ => 0))) hex hb (hts _ f1) (ty := .int) rfl hK hP hD hS hA (fun cA => rfl) (nI_pos (by omega)) hclamp (by show k * 4 ≤ _; omega) (by omega) (by omega) hdec (fun a cA H1 hK1 hP1 hD1 hS1 => hfin a _ H1 ?_ hP1 hD1 hS1)
      exact Or.inr (Or.inl ⟨rfl, cA, _, rfl, xK1' hK1, fun j (hj : j < k) => ⟨(0, 0), xmk_20 _ g2 hj, rfl⟩⟩)
    · refine va_newa (a0 := (k, .inr (.inl (fun _ => 0)))) hex hb (hts _ f1) (ty := .long) rfl hK hP hD hS hA (fun cA => rfl) (nI_pos (by omega)) hclamp (by show k * 8 ≤ _; omega) (by omega) (by omega) hdec (fun a cA H1 hK1 hP1 hD1 hS1 => hfin a _ H1 ?_ hP1 hD1 hS1)
      exact Or.inr (Or.inr (Or.inl ⟨rfl, cA, _, rfl, xK1' hK1, fun j (hj : j < k) => ⟨(2, 0), xmk_20 _ g2 hj, rfl⟩⟩))
    · refine va_newa (a0 := (k, .inl (fun _ => 0))) hex hb (hts _ f1) (ty := .byte) rfl hK hP hD hS hA (fun cA => rfl) (nI_pos (by omega)) hclamp (by show k * 1 ≤ _; omega) (by omega) (by omega) hdec (fun a cA H1 hK1 hP1 hD1 hS1 => hfin a _ H1 ?_ hP1 hD1 hS1)
      exact Or.inr (Or.inr (Or.inr (Or.inl ⟨rfl, cA, _, rfl, xK1' hK1, fun j (hj : j < k) => ⟨(0, 0), xmk_20 _ g2 hj, rfl⟩⟩)))
  | anewarray i =>
    obtain ⟨rfl, f0, rr, f1, f2, f3⟩ := hI
    obtain ⟨w, r, k, rfl, g1, g2, g⟩ := x_arr_ok hx
    obtain ⟨u, q0, g3, g4, g5, g6, g⟩ := x_cell_ok g
    have hu := xu_of g3
    rw [← hu] at g4 g5
    obtain ⟨vv, m1, rfl, hv, hr⟩ := xstR_cons hst
    have e1 := xci_ok sv ex hbx hv g1
    subst e1
    have hlen := hh.1
    have hclamp : (nI k).toNatClampNeg = k := nI_clamp (by omega)
    refine va_newq hex hb hown (hts _ f2) (hEX.2.2.2.2.2.2 _ f3) hK hP hD hS hA (nI_pos (by omega)) hclamp (by omega) (by omega) (by omega) hdec (fun a cA H1 hK1 hP1 hD1 hS1 => ?_)
    have hnew : xcR cl sv ex s (as ++ [a]) (r1, k, xmk (xd0 2) 20 0 k) (.inl (cA, k, .inr (.inr (.inr (.inr (fun _ => none)))))) :=
      Or.inr (Or.inr (Or.inr (Or.inr ⟨f0, cA, rr, _, f1, rfl, xK1' hK1, fun j (hj : j < k) => ⟨(5, 0), xmk_20 _ g2 hj, rfl⟩⟩)))
    refine xkk E g (fun _ z => z) (xle.push as a) (by omega) (by omega) ⟨hbx, xhR.push cl sv ex hh g6 hnew, hP1, hD1, hS1⟩ ⟨?_, ?_, xstR.mono sv ex (xle.push as a) hr⟩
    · obtain ⟨lv, h1, h2⟩ := hl
      exact ⟨lv, h1, xlsR.mono sv ex (xle.push as a) h2⟩
    · exact ⟨a, by rw [← hlen, List.getElem?_append_right (Nat.le_refl _), Nat.sub_self]; rfl, rfl⟩
  | arraylength =>
    obtain rfl : len = 1 := hI
    obtain ⟨w, r, rfl, g⟩ := x_len_ok hx
    obtain ⟨v, m1, rfl, hv, hr⟩ := xstR_cons hst
    rcases g with ⟨k1, q, q1, q2, g⟩ | ⟨k1, k2, g⟩
    · obtain ⟨a, ha, rfl⟩ := xden.own sv ex hv k1
      obtain ⟨ee, he, hcr⟩ := xhR.at cl sv ex hh ha q1
      obtain ⟨cA, x, ty, e1, e2, e3⟩ := xcR.arr cl sv ex hcr q2
      subst e1
      exact va_alen hex hb (xK1 hK e3) hP w.2 0 he rfl (v := nI q.2.1) (by rw [e2]; rfl) hdec (xk0 E g ⟨hl, rfl, hr⟩)
    · have hv2 := xden.ext sv ex hv k1
      subst hv2
      rcases k2 with k2 | k2
      · rw [k2] at g ⊢
        exact va_slen hex hb hEX.1.1 hEX.1.2.1 hEX.1.2.2 hS hdec (xk0 E g ⟨hl, rfl, hr⟩)
      · rw [k2] at g ⊢
        obtain ⟨cell, h1, h2, h3, h4, h5, h6, h7⟩ := hEX.2.2.2.1.2.2.2
        exact W.alen (n := Int32.ofNat (el 2)) hex hb (by rw [hS.2.1 (ex 2) (Array.getElem?_eq_some_iff.mp h1).1 h7]; exact h1) h2 h5 rfl rfl hdec (xk0 E g ⟨hl, rfl, hr⟩)
  | _ => cases hg
end Go3
end
section
/-! The step keeps its promise: arrays, calls, answers; and the whole -/
section Inv4
variable {mi : xmi} {rec : xF} {nx y d pc : Nat} {ls : List (Nat × xv)} {st : List xv} {bx : xbox} {h : xheap} {n c s : Nat} {L : List xleaf}
theorem xcp_ok {t1 : xct} {β : Type} {L : β} {k : xct → Option β} : ∀ (m sp dp : Nat) (t2 : xct), xcp t1 m sp dp t2 k = some L → (∀ j : Nat, dp ≤ j → j < dp + m → ∃ w : xv, xg t2 j = some w) →
    ∃ t : xct, k t = some L ∧ (∀ j : Nat, dp ≤ j → j < dp + m → xg t j = xg t1 (sp + (j - dp))) ∧ (∀ j : Nat, (j < dp ∨ dp + m ≤ j) → xg t j = xg t2 j)
  | 0, sp, dp, t2, h, _ => ⟨t2, h, fun j h1 h2 => by omega, fun j _ => rfl⟩
  | m + 1, sp, dp, t2, h, hs => by
    unfold xcp at h
    cases hw : xg t1 sp with
    | none => rw [hw] at h; cases h
    | some w =>
      rw [hw] at h
      dsimp only at h
      rw [xsK_eq] at h
      obtain ⟨w0, hw0⟩ := hs dp (Nat.le_refl _) (by omega)
      obtain ⟨t, g1, g2, g3⟩ := xcp_ok m (sp + 1) (dp + 1) (xw t2 dp w) h (fun j h1 h2 => by
        obtain ⟨w1, hw1⟩ := hs j (by omega) (by omega)
        exact ⟨w1, by rw [xg_other t2 dp j w (by omega)]; exact hw1⟩)
      refine ⟨t, g1, fun j h1 h2 => ?_, fun j hj => ?_⟩
      · by_cases e : j = dp
        · subst e
          rw [g3 j (Or.inl (by omega)), xg_self t2 j w w0 hw0, Nat.sub_self, Nat.add_zero, hw]
        · rw [g2 j (by omega) (by omega)]
          congr 1
          omega
      · rw [g3 j (by omega), xg_other t2 dp j w (by omega)]
theorem x_cpy_ok (hx : x_cpy rec nx y d ls st bx h n c s = some L) : ∃ wm vd b vs a r m dp sp qa qb, st = wm :: vd :: b :: vs :: a :: r ∧ xci bx wm = some m ∧ xci bx vd = some dp ∧ xci bx vs = some sp ∧ a.1 = 4 ∧ b.1 = 4 ∧ xwds r ≤ 8 ∧ 1 ≤ d ∧ xg h a.2 = some qa ∧ xg h b.2 = some qb ∧ (qa.1 = 13 ∨ qa.1 = 14) ∧ qb.1 = qa.1 ∧ sp + m ≤ qa.2.1 ∧ dp + m ≤ qb.2.1 ∧ sp + m < 2147483648 ∧ dp + m < 2147483648 ∧
    xcp qa.2.2 m sp dp qb.2.2 (fun t => xsK h b.2 (qb.1, qb.2.1, t) (fun h' => rec y d nx ls r bx h' n c s)) = some L := by
  unfold x_cpy at hx
  match st, hx with
  | [], hx => cases hx
  | [_], hx => cases hx
  | [_, _], hx => cases hx
  | [_, _, _], hx => cases hx
  | [_, _, _, _], hx => cases hx
  | wm :: vd :: b :: vs :: a :: r, hx =>
    dsimp only at hx
    cases h1 : xci bx wm with
    | none => rw [h1] at hx; cases hx
    | some m =>
      rw [h1] at hx
      dsimp only at hx
      cases h2 : xci bx vd with
      | none => rw [h2] at hx; cases hx
      | some dp =>
        rw [h2] at hx
        dsimp only at hx
        cases h3 : xci bx vs with
        | none => rw [h3] at hx; cases hx
        | some sp =>
          rw [h3] at hx
          obtain ⟨g1, g2⟩ := xcnd hx
          obtain ⟨g3, g4⟩ := xand g1
          obtain ⟨g5, g6⟩ := xand g3
          obtain ⟨g7, g8⟩ := xand g5
          cases hqa : xg h a.2 with
          | none => rw [hqa] at g2; cases g2
          | some qa =>
            rw [hqa] at g2
            dsimp only at g2
            cases hqb : xg h b.2 with
            | none => rw [hqb] at g2; cases g2
            | some qb =>
              rw [hqb] at g2
              obtain ⟨k1, k2⟩ := xcnd g2
              obtain ⟨k3, k4⟩ := xand k1
              obtain ⟨k5, k6⟩ := xand k3
              obtain ⟨k7, k8⟩ := xand k5
              obtain ⟨k9, k10⟩ := xand k7
              obtain ⟨k11, k12⟩ := xand k9
              exact ⟨wm, vd, b, vs, a, r, m, dp, sp, qa, qb, rfl, h1, h2, h3, xeqb g7, xeqb g8, xleb g6, xleb g4, hqa, hqb, (xor2 k11).imp xeqb xeqb, xeqb k12, xleb k10, xleb k8, xltb k6, xltb k4, k2⟩
theorem x_oin_ok (hx : x_oin rec nx y d ls st bx h n c s = some L) : ∃ w r, st = w :: r ∧ w.1 = 4 ∧ xwds r ≤ 8 ∧ 1 ≤ d ∧ rec y d nx ls r bx h n c s = some L := by
  unfold x_oin at hx
  match st, hx with
  | [], hx => cases hx
  | w :: r, hx =>
    obtain ⟨g1, g2⟩ := xcnd hx
    obtain ⟨g3, g4⟩ := xand g1
    obtain ⟨g5, g6⟩ := xand g3
    exact ⟨w, r, rfl, xeqb g5, xleb g6, xleb g4, g2⟩
theorem x_ret_ok (hx : x_ret mi y st bx h n = some L) : (xu mi y).2.2.2.2.1 = 0 ∧ st = [] ∧ L = [(bx, h, n, none)] := by
  unfold x_ret at hx
  cases hq : xg mi y with
  | none => rw [hq] at hx; cases hx
  | some q =>
    rw [hq] at hx
    dsimp only at hx
    rw [xu_of hq]
    split at hx
    · rename_i e
      split at hx
      · exact ⟨e, rfl, (Option.some.inj hx).symm⟩
      · cases hx
    · cases hx
theorem x_iret_ok (hx : x_iret mi y st bx h n = some L) : ∃ w, st = [w] ∧ xrok (xu mi y).2.2.2.2.1 w = true ∧ L = [(bx, h, n, some w)] := by
  unfold x_iret at hx
  cases hq : xg mi y with
  | none => rw [hq] at hx; cases hx
  | some q =>
    rw [hq] at hx
    dsimp only at hx
    rw [xu_of hq]
    split at hx
    · obtain ⟨g1, g2⟩ := xcnd hx
      exact ⟨_, rfl, g1, (Option.some.inj g2).symm⟩
    · cases hx
theorem x_lret_ok (hx : x_lret mi y st bx h n = some L) : ∃ w, st = [w] ∧ (xu mi y).2.2.2.2.1 = 2 ∧ xkd w.1 = 1 ∧ L = [(bx, h, n, some w)] := by
  unfold x_lret at hx
  cases hq : xg mi y with
  | none => rw [hq] at hx; cases hx
  | some q =>
    rw [hq] at hx
    dsimp only at hx
    rw [xu_of hq]
    split at hx
    · rename_i e
      split at hx
      · obtain ⟨g1, g2⟩ := xcnd hx
        exact ⟨_, rfl, e, xeqb g1, (Option.some.inj g2).symm⟩
      · cases hx
    · cases hx
end Inv4
theorem xin {x N : Nat} (h1 : x < 2147483648) (h2 : x < N) : vp_in (nI x) N := fun q => q.elim (nI_pos (by omega)) (fun z => by rw [nI_clamp (by omega)] at z; omega)
section Go4
variable {l : Launch} {D : va_G} {cl : List vw_C} {A : Nat → Prop} {sv : Nat → Int32} {ex : Nat → Nat} {el : Nat → Nat} {eb : List Nat} {nest : List (String × Nat × MethodName × String)} {txt : String × Nat × String} {ovr : List String}
variable {mi : xmi} {df : xdf} {bys : Nat → ByteArray} {nm : Nat → MethodName} {rtt : Nat → Option FieldType} {gw : List Cond}
variable {rec : xF} {y d pc : Nat} {ls : List (Nat × xv)} {st : List xv} {bx : xbox} {h : xheap} {n cn sn : Nat} {L : List xleaf}
variable {p : Program} {e : Env} {R : Room} {s : State} {m : MethodId} {args : Array Value} {below : List Frame} {meth : Method} {c : Code} {Q : State → Prop} {as : List Nat} {ws : va_W} {H : Heap} {locs : List Loc} {la : Array Slot} {stv : List Value}
def xg5 : Instr → Bool
  | .iaload => true
  | .laload => true
  | .baload => true
  | .aaload => true
  | .iastore => true
  | .lastore => true
  | .bastore => true
  | .aastore => true
  | _ => false
set_option maxHeartbeats 4000000 in
theorem xf5 (E : xStp l D cl A sv ex el eb nest txt ovr mi bys nm rtt gw rec y d ls st bx h n cn sn L p e R s m args below meth c Q as ws H locs la stv) {ins : Instr} {len tg r1 r2 : Nat} (hg : xg5 ins = true) (hdec : decode (bys y) pc = .ok (ins, len)) (hI : xI cl nest txt ovr mi df bys nm rtt gw y pc ins len tg r1 r2)
    (hx : xex mi df el eb rec ins (pc + len) tg r1 r2 y d pc ls st bx h n cn sn = some L) : W p l e R s m args below meth c H locs cn sn Q (F0 m pc la stv) := by
  obtain ⟨hrec, ⟨hex, hb, hml, hown, hts, hK, hEX, hA, hnm, hRf, hRl, hRc, hRs⟩, hc, hs, ⟨hbx, hh, hP, hD, hS⟩, ⟨hl, hst⟩, hret⟩ := id E
  cases ins with
  | iaload =>
    obtain rfl : len = 1 := hI
    obtain ⟨i, w, r, rfl, g⟩ := x_ald_ok hx
    rcases g with ⟨x, q1, q2, g⟩ | ⟨j, q, g⟩
    · obtain ⟨vi, m1, rfl, hvi, hst'⟩ := xstR_cons hst
      obtain ⟨vw, m2, rfl, hvw, hr⟩ := xstR_cons hst'
      have e1 := xci_ok sv ex hbx hvi q1
      subst e1
      have hcl : (nI x).toNatClampNeg = x := nI_clamp (by omega)
      rcases g with ⟨k1, q, v, g1, g2, g3, g4, g⟩ | ⟨k1, k2, k3, k4, g⟩ | ⟨k1, k2, k3, k4, g⟩
      · obtain ⟨a, ha, rfl⟩ := xden.own sv ex hvw k1
        obtain ⟨ee, he, hcr⟩ := xhR.at cl sv ex hh ha g1
        obtain ⟨cA, f, e1, e2, e3⟩ := xcR.a13 cl sv ex hcr (by omega)
        subst e1
        refine va_iald hex hb (xK1 hK e2) hP w.2 0 he rfl (xin q2 g3) hdec ?_
        rw [hcl]
        obtain ⟨w3, a1, a2⟩ := e3 x g3
        have a4 : w3 = v := Option.some.inj (a1.symm.trans g4)
        subst a4
        exact xk0 E g ⟨hl, a2, hr⟩
      · have hv2 := xden.ext sv ex hvw k1
        rw [k2] at hv2
        subst hv2
        refine va_sld hex hb hEX.1.1 hEX.1.2.1 hEX.1.2.2 hS (xin q2 k4) hdec ?_
        rw [hcl]
        exact xk0 E g ⟨hl, rfl, hr⟩
      · cases k3
    · exact xksp E g
  | laload =>
    obtain rfl : len = 1 := hI
    obtain ⟨i, w, r, rfl, g⟩ := x_ald_ok hx
    rcases g with ⟨x, q1, q2, g⟩ | ⟨j, q, g⟩
    · obtain ⟨vi, m1, rfl, hvi, hst'⟩ := xstR_cons hst
      obtain ⟨vw, m2, rfl, hvw, hr⟩ := xstR_cons hst'
      have e1 := xci_ok sv ex hbx hvi q1
      subst e1
      have hcl : (nI x).toNatClampNeg = x := nI_clamp (by omega)
      rcases g with ⟨k1, q, v, g1, g2, g3, g4, g⟩ | ⟨k1, k2, k3, k4, g⟩ | ⟨k1, k2, k3, k4, g⟩
      · obtain ⟨a, ha, rfl⟩ := xden.own sv ex hvw k1
        obtain ⟨ee, he, hcr⟩ := xhR.at cl sv ex hh ha g1
        obtain ⟨cA, f, e1, e2, e3⟩ := xcR.a14 cl sv ex hcr (by omega)
        subst e1
        refine va_lald hex hb (xK1 hK e2) hP w.2 0 he rfl (xin q2 g3) hdec ?_
        rw [hcl]
        obtain ⟨w3, a1, a2⟩ := e3 x g3
        have a4 : w3 = v := Option.some.inj (a1.symm.trans g4)
        subst a4
        exact xk0 E g ⟨hl, a2, hr⟩
      · cases k3
      · cases k3
    · exact xksp E g
  | baload =>
    obtain rfl : len = 1 := hI
    obtain ⟨i, w, r, rfl, g⟩ := x_ald_ok hx
    rcases g with ⟨x, q1, q2, g⟩ | ⟨j, q, g⟩
    · obtain ⟨vi, m1, rfl, hvi, hst'⟩ := xstR_cons hst
      obtain ⟨vw, m2, rfl, hvw, hr⟩ := xstR_cons hst'
      have e1 := xci_ok sv ex hbx hvi q1
      subst e1
      have hcl : (nI x).toNatClampNeg = x := nI_clamp (by omega)
      rcases g with ⟨k1, q, v, g1, g2, g3, g4, g⟩ | ⟨k1, k2, k3, k4, g⟩ | ⟨k1, k2, k3, k4, g⟩
      · obtain ⟨a, ha, rfl⟩ := xden.own sv ex hvw k1
        obtain ⟨ee, he, hcr⟩ := xhR.at cl sv ex hh ha g1
        obtain ⟨cA, f, e1, e2, e3⟩ := xcR.a15 cl sv ex hcr (by omega)
        subst e1
        refine va_bald hex hb (xK1 hK e2) hP w.2 0 he rfl (xin q2 g3) hdec ?_
        rw [hcl]
        obtain ⟨w3, a1, a2⟩ := e3 x g3
        have a4 : w3 = v := Option.some.inj (a1.symm.trans g4)
        subst a4
        exact xk0 E g ⟨hl, a2, hr⟩
      · cases k3
      · have hv2 := xden.ext sv ex hvw k1
        rw [k2] at hv2
        subst hv2
        refine va_tb hex hb hEX.2.2.2.1.2.2.2 hS (xin q2 k4) (v := .int (nI (eb.getD x 0))) (by rw [hcl]) hdec ?_
        exact xk0 E g ⟨hl, rfl, hr⟩
    · exact xksp E g
  | aaload =>
    obtain rfl : len = 1 := hI
    obtain ⟨i, w, r, rfl, g⟩ := x_ald_ok hx
    rcases g with ⟨x, q1, q2, g⟩ | ⟨j, q, g⟩
    · obtain ⟨vi, m1, rfl, hvi, hst'⟩ := xstR_cons hst
      obtain ⟨vw, m2, rfl, hvw, hr⟩ := xstR_cons hst'
      have e1 := xci_ok sv ex hbx hvi q1
      subst e1
      have hcl : (nI x).toNatClampNeg = x := nI_clamp (by omega)
      rcases g with ⟨k1, q, v, g1, g2, g3, g4, g⟩ | ⟨k1, k2, k3, k4, g⟩ | ⟨k1, k2, k3, k4, g⟩
      · obtain ⟨a, ha, rfl⟩ := xden.own sv ex hvw k1
        obtain ⟨ee, he, hcr⟩ := xhR.at cl sv ex hh ha g1
        obtain ⟨cA, rr, f, e0, e1, e2, e3⟩ := xcR.a20 cl sv ex hcr (by omega)
        subst e1
        refine va_aldq hex hb (xK1 hK e2) hP w.2 0 he rfl (xin q2 g3) hdec ?_
        rw [hcl]
        obtain ⟨w3, a1, a2⟩ := e3 x g3
        have a4 : w3 = v := Option.some.inj (a1.symm.trans g4)
        subst a4
        exact xk0 E g ⟨hl, a2, hr⟩
      · cases k3
      · cases k3
    · exact xksp E g
  | iastore =>
    obtain rfl : len = 1 := hI
    obtain ⟨v, i, w, r, rfl, g⟩ := x_ast_ok hx
    rcases g with ⟨x, q, q1, q2, k1, k2, g1, g2, g3, g⟩ | ⟨j, q, g⟩
    · obtain ⟨vv, m0, rfl, hvv, hst'⟩ := xstR_cons hst
      obtain ⟨vi, m1, rfl, hvi, hst'⟩ := xstR_cons hst'
      obtain ⟨vw, m2, rfl, hvw, hr⟩ := xstR_cons hst'
      have e1 := xci_ok sv ex hbx hvi q1
      subst e1
      have hcl : (nI x).toNatClampNeg = x := nI_clamp (by omega)
      obtain ⟨z, rfl⟩ := xden.int sv ex hvv (xeqb k2)
      obtain ⟨a, ha, rfl⟩ := xden.own sv ex hvw k1
      obtain ⟨ee, he, hcr⟩ := xhR.at cl sv ex hh ha g1
      obtain ⟨cA, f, e1, e2, e3⟩ := xcR.a13 cl sv ex hcr g2
      subst e1
      refine va_iast hex hb (xK1 hK e2) hP hD hS w.2 0 he rfl (xin q2 g3) hdec (fun H1 locs1 hP1 hD1 hS1 => ?_)
      rw [hcl] at hP1 hD1
      exact xkk E g (fun _ z => z) (xle.rf _) hc hs ⟨hbx, xhR.set cl sv ex hh ha g1 (Or.inr (Or.inl ⟨g2, cA, _, rfl, e2, xset13 (k := 0) e3 g3 hvv⟩)), hP1, hD1, hS1⟩ ⟨hl, hr⟩
    · exact xksp E g
  | lastore =>
    obtain rfl : len = 1 := hI
    obtain ⟨v, i, w, r, rfl, g⟩ := x_ast_ok hx
    rcases g with ⟨x, q, q1, q2, k1, k2, g1, g2, g3, g⟩ | ⟨j, q, g⟩
    · obtain ⟨vv, m0, rfl, hvv, hst'⟩ := xstR_cons hst
      obtain ⟨vi, m1, rfl, hvi, hst'⟩ := xstR_cons hst'
      obtain ⟨vw, m2, rfl, hvw, hr⟩ := xstR_cons hst'
      have e1 := xci_ok sv ex hbx hvi q1
      subst e1
      have hcl : (nI x).toNatClampNeg = x := nI_clamp (by omega)
      obtain ⟨z, rfl⟩ := xden.long sv ex hvv (xeqb k2)
      obtain ⟨a, ha, rfl⟩ := xden.own sv ex hvw k1
      obtain ⟨ee, he, hcr⟩ := xhR.at cl sv ex hh ha g1
      obtain ⟨cA, f, e1, e2, e3⟩ := xcR.a14 cl sv ex hcr g2
      subst e1
      refine va_last hex hb (xK1 hK e2) hP hD hS w.2 0 he rfl (xin q2 g3) hdec (fun H1 locs1 hP1 hD1 hS1 => ?_)
      rw [hcl] at hP1 hD1
      exact xkk E g (fun _ z => z) (xle.rf _) hc hs ⟨hbx, xhR.set cl sv ex hh ha g1 (Or.inr (Or.inr (Or.inl ⟨g2, cA, _, rfl, e2, xset14 e3 hvv⟩))), hP1, hD1, hS1⟩ ⟨hl, hr⟩
    · exact xksp E g
  | bastore =>
    obtain rfl : len = 1 := hI
    obtain ⟨v, i, w, r, rfl, g⟩ := x_ast_ok hx
    rcases g with ⟨x, q, q1, q2, k1, k2, g1, g2, g3, g⟩ | ⟨j, q, g⟩
    · obtain ⟨vv, m0, rfl, hvv, hst'⟩ := xstR_cons hst
      obtain ⟨vi, m1, rfl, hvi, hst'⟩ := xstR_cons hst'
      obtain ⟨vw, m2, rfl, hvw, hr⟩ := xstR_cons hst'
      have e1 := xci_ok sv ex hbx hvi q1
      subst e1
      have hcl : (nI x).toNatClampNeg = x := nI_clamp (by omega)
      obtain ⟨z, rfl⟩ := xden.int sv ex hvv (xeqb k2)
      obtain ⟨a, ha, rfl⟩ := xden.own sv ex hvw k1
      obtain ⟨ee, he, hcr⟩ := xhR.at cl sv ex hh ha g1
      obtain ⟨cA, f, e1, e2, e3⟩ := xcR.a15 cl sv ex hcr g2
      subst e1
      refine va_bast hex hb (xK1 hK e2) hP hD hS w.2 0 he rfl (xin q2 g3) hdec (fun H1 locs1 hP1 hD1 hS1 => ?_)
      rw [hcl] at hP1 hD1
      exact xkk E g (fun _ z => z) (xle.rf _) hc hs ⟨hbx, xhR.set cl sv ex hh ha g1 (Or.inr (Or.inr (Or.inr (Or.inl ⟨g2, cA, _, rfl, e2, xset13 (k := 0) e3 g3 ⟨_, rfl⟩⟩)))), hP1, hD1, hS1⟩ ⟨hl, hr⟩
    · exact xksp E g
  | aastore =>
    obtain rfl : len = 1 := hI
    obtain ⟨v, i, w, r, rfl, g⟩ := x_aas_ok hx
    rcases g with ⟨x, q, eo, q1, q2, k1, k2, g1, g2, g3, g4, g5, g⟩ | ⟨j, q, g⟩
    · obtain ⟨vv, m0, rfl, hvv, hst'⟩ := xstR_cons hst
      obtain ⟨vi, m1, rfl, hvi, hst'⟩ := xstR_cons hst'
      obtain ⟨vw, m2, rfl, hvw, hr⟩ := xstR_cons hst'
      have e1 := xci_ok sv ex hbx hvi q1
      subst e1
      have hcl : (nI x).toNatClampNeg = x := nI_clamp (by omega)
      have hvv0 := hvv
      obtain ⟨b, hb2, rfl⟩ := xden.own sv ex hvv k2
      obtain ⟨a, ha, rfl⟩ := xden.own sv ex hvw k1
      obtain ⟨ee, he, hcr⟩ := xhR.at cl sv ex hh ha g1
      obtain ⟨ef, he2, hcr2⟩ := xhR.at cl sv ex hh hb2 g2
      obtain ⟨cA, rr, f, e0, e1, e2, e3⟩ := xcR.a20 cl sv ex hcr (by omega)
      subst e1
      obtain ⟨-, fs, e4, -, -⟩ := xcR.obj cl sv ex hcr2 g3
      subst e4
      have e0' : cl[eo.1]? = some rr := by rw [← e0]; congr 1; omega
      refine va_astq hex hb (xK1 hK e2) hP hD hS w.2 0 v.2 eo.1 he rfl he2 e0' (xin q2 g5) hdec (fun H1 locs1 hP1 hD1 hS1 => ?_)
      rw [hcl] at hP1 hD1
      exact xkk E g (fun _ z => z) (xle.rf _) hc hs ⟨hbx, xhR.set cl sv ex hh ha g1 (Or.inr (Or.inr (Or.inr (Or.inr ⟨by show 20 ≤ q.1; omega, cA, rr, _, e0, rfl, e2, xset20 (v := some b) e3 hvv0⟩)))), hP1, hD1, hS1⟩ ⟨hl, hr⟩
    · exact xksp E g
  | _ => cases hg
end Go4
end
section
/-! The step keeps its promise: calls, answers; and the whole -/
theorem xnos {L : List xleaf} (h : (none : xR) = some L) : False := by cases h
section Go5
variable {l : Launch} {D : va_G} {cl : List vw_C} {A : Nat → Prop} {sv : Nat → Int32} {ex : Nat → Nat} {el : Nat → Nat} {eb : List Nat} {nest : List (String × Nat × MethodName × String)} {txt : String × Nat × String} {ovr : List String}
variable {cd : xcd} {mi : xmi} {df : xdf} {bys : Nat → ByteArray} {nm : Nat → MethodName} {rtt : Nat → Option FieldType} {gw : List Cond}
variable {rec : xF} {y d pc : Nat} {ls : List (Nat × xv)} {st : List xv} {bx : xbox} {h : xheap} {n cn sn : Nat} {L : List xleaf}
variable {p : Program} {e : Env} {R : Room} {s : State} {m : MethodId} {args : Array Value} {below : List Frame} {meth : Method} {c : Code} {Q : State → Prop} {as : List Nat} {ws : va_W} {H : Heap} {locs : List Loc} {la : Array Slot} {stv : List Value}
def xGood (gw : List Cond) : Prop := ∀ w ∈ gw, (w.onTables && w.keeps) = true ∨ ∃ ty, w = .arrayClass ty
/-- a call, once its run is had -/
theorem xgo_fin (E : xStp l D cl A sv ex el eb nest txt ovr mi bys nm rtt gw rec y d ls st bx h n cn sn L p e R s m args below meth c Q as ws H locs la stv) {z : Nat} {ar rest : List xv} {av rv : List Value} (mok : xMok mi bys nm rtt gw z) (hx : x_go mi rec (pc + 3) y d ls bx h n cn sn z ar rest = some L) (har : xstR sv ex as ar av) (hre : xstR sv ex as rest rv)
    (run : ∀ (d' : Nat) (M : List xleaf), d = d' + 1 → Met l (nm z) (Cond.code (nm z) (bys z) (xu mi z).2.2.2.2.2 (rtt z) :: gw) ({ frames := d', cells := (xu mi z).1, slots := (xu mi z).2.1, locals := 70 * d' }) (xPc D cl A sv ex el eb nest txt ovr as h n av) (xQc D cl A sv ex as M) (xu mi z).1 (xu mi z).2.1 A →
      (rv.map fun v => v.category).sum ≤ 8 → cn + (xu mi z).1 ≤ R.cells ∧ sn + (xu mi z).2.1 ≤ R.slots → va_Run p l e R s m args below meth c H locs cn sn (xu mi z).1 (xu mi z).2.1 (F0 m pc la stv) rv (xQc D cl A sv ex as M av.toArray) A) : W p l e R s m args below meth c H locs cn sn Q (F0 m pc la stv) := by
  obtain ⟨hrec, ⟨hex, hb, hml, hown, hts, hK, hEX, hA, hnm, hRf, hRl, hRc, hRs⟩, hc, hs, ⟨hbx, hh, hP, hD, hS⟩, ⟨⟨lv, hl, hls⟩, hst⟩, hret⟩ := id E
  obtain ⟨d', q, u, M, g1, g2, g3, g4, g5, g6, g7, g8, g9⟩ := x_go_ok hx
  have hq := xu_of g2
  have hu := xu_of g3
  rw [← hq] at g6 g7
  rw [← hu] at g5 g6 g7 g9
  have hmet := xmet l D cl A sv ex el eb nest txt ovr mi bys nm rtt gw hrec g8 mok har g5 hbx
  refine xcallW (A := A) (run d' M g1 hmet (by rw [xwds_ok sv ex hre]; exact g4) ⟨by omega, by omega⟩) hS.2.2 (fun _ z => z) (fun v st₀ t H1 locs1 h0 ht hvm hqc hL => ?_)
  obtain ⟨⟨leaf, hleaf, as', ws', rv', hle, hb', hh', hP', hD', hoc, hrv⟩, hF⟩ := hqc
  have ev : v = rv' := by cases hoc; rfl
  subst ev
  obtain ⟨L', k1, k2⟩ := g9 leaf hleaf
  have hS' : va_S A s.heap H1 locs1 := by
    obtain ⟨f1, f2⟩ := hF
    rw [h0] at f1 f2
    rw [ht] at f1 f2
    exact ⟨Nat.le_trans hS.1 f1, fun a ha hna => (f2 a (Nat.lt_of_lt_of_le ha hS.1) hna).trans (hS.2.1 a ha hna), hL⟩
  refine xkk E k1 k2 hle g6 g7 ⟨hb', xhR.moved cl sv ex hvm.symm hh', by rw [← ht]; exact hP', hD', hS'⟩ ⟨⟨lv, hl, xlsR.mono sv ex hle hls⟩, ?_⟩
  cases hlr : leaf.2.2.2 with
  | none =>
    rw [hlr] at hrv
    have e : v = none := hrv
    subst e
    exact xstR.mono sv ex hle hre
  | some w =>
    rw [hlr] at hrv
    obtain ⟨v', rfl, hw⟩ := hrv
    exact ⟨hw, xstR.mono sv ex hle hre⟩
theorem xpre (E : xStp l D cl A sv ex el eb nest txt ovr mi bys nm rtt gw rec y d ls st bx h n cn sn L p e R s m args below meth c Q as ws H locs la stv) {av : List Value} : FrameBlind (xPc D cl A sv ex el eb nest txt ovr as h n av) ∧ ∀ U : State, U.heap = H → s.WarmedH U.vm → xPc D cl A sv ex el eb nest txt ovr as h n av av.toArray U := by
  obtain ⟨hrec, ⟨hex, hb, hml, hown, hts, hK, hEX, hA, hnm, hRf, hRl, hRc, hRs⟩, hc, hs, ⟨hbx, hh, hP, hD, hS⟩, hf, hret⟩ := id E
  refine ⟨fun a U g mk q => ?_, fun U hU hW => ?_⟩
  · obtain ⟨q1, ⟨ws', q2, q3, q4⟩, q5, q6, q7⟩ := q
    exact ⟨q1, ⟨ws', xhR.moved cl sv ex (u := U) (U := U.calling g mk a) (Vm.Alike.refl U.vm) q2, q3, q4⟩, va_K.moved (u := U) (U := U.calling g mk a) (Vm.Alike.refl U.vm) q5, xEX.same A sv ex rfl rfl q6, q7⟩
  · refine ⟨rfl, ⟨ws, xhR.moved cl sv ex hW.alike hh, by rw [hU]; exact hP, hD⟩, va_K.moved hW.alike hK, xEX.moved A sv ex hW (by rw [hU]; exact hS.1) (fun a ha hna => by rw [hU]; exact hS.2.1 a ha hna) hEX, fun q hq => hA q (by rw [hU] at hq; exact Nat.le_trans hS.1 hq)⟩
theorem xpay (hg : xGood gw) {z : Nat} (hts : ∀ w ∈ gw, w.before args s = true) (mok : xMok mi bys nm rtt gw z) : ∀ w ∈ (Cond.code (nm z) (bys z) (xu mi z).2.2.2.2.2 (rtt z) :: gw), ∀ (a' : Array Value) (U : State), s.WarmedH U.vm → w.before a' U = true := by
  intro w hw a' U hW
  have hm : w ∈ gw := by
    rcases List.mem_cons.mp hw with e | e
    · rw [e]; exact mok.1
    · exact e
  exact word_at hW (hg w hm) (hts w hm)
def xg6 : Instr → Bool
  | .invokevirtual _ => true
  | .invokespecial _ => true
  | .invokestatic _ => true
  | .return_ => true
  | .ireturn => true
  | .lreturn => true
  | _ => false
theorem xva_cpy_in {α : Type} {f g : Nat → α} {sp dp k j : Nat} (h : dp ≤ j) (h2 : j < dp + k) : va_cpy f g sp dp k j = f (sp + (j - dp)) := pk_cpy_in h h2
set_option maxHeartbeats 8000000 in
theorem xf6 (hgw : xGood gw) (E : xStp l D cl A sv ex el eb nest txt ovr mi bys nm rtt gw rec y d ls st bx h n cn sn L p e R s m args below meth c Q as ws H locs la stv) {ins : Instr} {len tg r1 r2 : Nat} (hg : xg6 ins = true) (hdec : decode (bys y) pc = .ok (ins, len)) (hI : xI cl nest txt ovr mi df bys nm rtt gw y pc ins len tg r1 r2)
    (hx : xex mi df el eb rec ins (pc + len) tg r1 r2 y d pc ls st bx h n cn sn = some L) : W p l e R s m args below meth c H locs cn sn Q (F0 m pc la stv) := by
  obtain ⟨hrec, ⟨hex, hb, hml, hown, hts, hK, hEX, hA, hnm, hRf, hRl, hRc, hRs⟩, hc, hs, ⟨hbx, hh, hP, hD, hS⟩, ⟨⟨lv, hl, hls⟩, hst⟩, hret⟩ := id E
  cases ins with
  | invokevirtual i =>
    obtain ⟨rfl, mok, f1, f2, f3, f4, f5⟩ := hI
    obtain ⟨u, q, g1, g2, g3, g4⟩ := x_call_ok hx
    have hu := xu_of g1
    obtain ⟨w, l2, g5, g6⟩ := g4 rfl
    obtain ⟨aV, rV, a1, a2, a3, a4⟩ := xpop_ok sv ex _ (acc := []) (accV := []) trivial hst g2
    rw [g5] at a1 g3
    obtain ⟨b0, aV', rfl, hw, har⟩ := xstR_cons a1
    have hsk : stv = aV'.reverse ++ b0 :: rV := by
      have := a3.symm
      simpa using this
    have hlen : aV'.length = (xu mi r1).2.2.1 := by
      rw [hu]
      have := a4
      simp at this
      exact this
    have hrc : ∃ b : Nat, b0 = .ref b ∧ ∃ cellB : Cell, H[b]? = some cellB ∧ cellB.vm.isStatics = false ∧ s.vm.findClass (nm r1).cls = some cellB.cls := by
      have g6 : xrcv u.2.2.2.1 h w = true := g6
      unfold xrcv at g6
      cases hw4 : Nat.beq w.1 4 with
      | true =>
        rw [hw4] at g6
        simp only [cond_true] at g6
        cases hq : xg h w.2 with
        | none => rw [hq] at g6; cases g6
        | some qo =>
          rw [hq] at g6
          obtain ⟨k1, k2⟩ := xand g6
          obtain ⟨a, ha, rfl⟩ := xden.own sv ex hw (xeqb hw4)
          obtain ⟨ee, he, hcr⟩ := xhR.at cl sv ex hh ha hq
          have ek : qo.1 = (xu mi r1).2.2.2.1 := by rw [hu]; exact xeqb k1
          have ek13 : (xu mi r1).2.2.2.1 < 13 := by rw [hu]; exact xltb k2
          obtain ⟨-, fs, e4, -, -⟩ := xcR.obj cl sv ex hcr (by rw [ek]; exact ek13)
          subst e4
          obtain ⟨rr, e1, e2⟩ := f4 ek13
          rw [← e2]
          exact ⟨a, rfl, va_recv hK hP (by rw [← ek] at e1; exact e1) he⟩
      | false =>
        rw [hw4] at g6
        simp only [cond_false] at g6
        obtain ⟨k1, k2⟩ := xand g6
        obtain ⟨k3, k4⟩ := xand k1
        have hv2 := xden.ext sv ex hw (xeqb k3)
        rw [xeqb k4] at hv2
        subst hv2
        rw [f5 (by rw [hu]; exact xeqb k2)]
        obtain ⟨cell, h1, h2, h3, -⟩ := hEX.2.2.2.1.1.kept hS.2.1
        exact ⟨ex 1, rfl, cell, h1, h2, h3⟩
    obtain ⟨b, rfl, hcell⟩ := hrc
    refine xgo_fin E mok g3 (av := .ref b :: aV') ⟨hw, har⟩ a2 (fun d' M ed hmet h8 hroom => ?_)
    have hp := xpre E (av := .ref b :: aV')
    refine va_runV (As := aV') (rest := rV) (n := (xu mi r1).2.2.1) (C := (nm r1).cls) (bytes := bys r1) (maxL := (xu mi r1).2.2.2.2.2) (ret := rtt r1) ⟨hex, hb, hml, hown, hts⟩ hmet ⟨⟨rfl, rfl, by show d' + 1 ≤ _; omega, by have := mok.2.2.2.2.2.2; show 8 + ((xu mi r1).2.2.2.2.2 + 11) + 70 * d' ≤ _; omega, xpay hgw hts mok, List.mem_cons_self, hts _ mok.1, hts _ mok.2.1, ⟨mok.2.2.2.1, mok.2.2.2.2.1⟩, fun sig hsig => ?_, hts _ f1⟩, hts _ f2, hts _ f3⟩ ⟨hp.1, hcell, hp.2⟩ rfl hlen hl.1 hsk (lv_room h8) hdec hroom
    have hd := mok.2.2.2.2.2.1
    rw [hsig] at hd
    exact (Option.some.inj hd).symm
  | invokespecial i =>
    obtain ⟨rfl, f1, f2⟩ := hI
    have hx : cond (Nat.beq r2 6) (x_oin rec (pc + 3) y d ls st bx h n cn sn) (x_call mi rec (pc + 3) r1 y d ls st bx h n cn sn true false) = some L := hx
    cases h6 : Nat.beq r2 6 with
    | true =>
      rw [h6] at hx
      obtain ⟨w, r, rfl, g1, g2, g3, g⟩ := x_oin_ok hx
      obtain ⟨v, m1, rfl, hv, hr⟩ := xstR_cons hst
      obtain ⟨a, ha, rfl⟩ := xden.own sv ex hv g1
      obtain ⟨k1, k2, k3⟩ := f1 (xeqb h6)
      have h8 := lv_room (m := m) (pc := pc) (ls := la) (rest := .ref a :: m1) (st := m1) (by rw [xwds_ok sv ex hr]; exact g2)
      exact W.objInit hex hb hown (hts _ k1) (hts _ k2) (hts _ k3) (g := F0 m pc la (.ref a :: m1)) rfl (hl.1.trans hml.symm) rfl hdec (by omega) (by omega) (xk0 E g ⟨⟨lv, hl, hls⟩, hr⟩)
    | false =>
      rw [h6] at hx
      obtain ⟨mok, k1, k2, k3, k4, k5⟩ := f2 (xneb h6)
      obtain ⟨u, q, g1, g2, g3, g4⟩ := x_call_ok hx
      have hu := xu_of g1
      obtain ⟨w, l2, g5, g6⟩ := g4 rfl
      obtain ⟨aV, rV, a1, a2, a3, a4⟩ := xpop_ok sv ex _ (acc := []) (accV := []) trivial hst g2
      rw [g5] at a1 g3
      obtain ⟨b0, aV', rfl, hw, har⟩ := xstR_cons a1
      have hsk : stv = aV'.reverse ++ b0 :: rV := by
        have := a3.symm
        simpa using this
      have hlen : aV'.length = (xu mi r1).2.2.1 := by
        rw [hu]
        have := a4
        simp at this
        exact this
      obtain ⟨b, hab, rfl⟩ := xden.own sv ex hw (xeqb g6)
      refine xgo_fin E mok g3 (av := .ref b :: aV') ⟨hw, har⟩ a2 (fun d' M ed hmet h8 hroom => ?_)
      have hp := xpre E (av := .ref b :: aV')
      have hd := mok.2.2.2.2.2.1
      have hn : ∀ sig, parseMethodDescriptor (nm r1).desc = some sig → (xu mi r1).2.2.1 = sig.parameters.length := fun sig hsig => by
        rw [hsig] at hd
        exact (Option.some.inj hd).symm
      have hpay := xpay hgw hts mok
      have hcode := mok.1
      have hfr : d' + 1 ≤ R.frames := by omega
      have hlo : 8 + ((xu mi r1).2.2.2.2.2 + 11) + 70 * d' ≤ R.locals := by have := mok.2.2.2.2.2.2; omega
      rw [k1] at hmet hpay hcode
      by_cases h5 : r2 = 5
      · obtain ⟨host, hhost⟩ := k5 h5
        exact va_runIN (As := aV') (rest := rV) (n := (xu mi r1).2.2.1) (host := host) (bytes := bys r1) (maxL := (xu mi r1).2.2.2.2.2) ⟨hex, hb, hml, hown, hts⟩ hmet ⟨⟨⟨rfl, rfl, hfr, hlo, hpay, List.mem_cons_self⟩, hts _ hcode, hts _ mok.2.1, ⟨mok.2.2.2.1, mok.2.2.2.2.1⟩, hn, va_Nw.use rfl (hEX.2.2.2.2.2.1 _ hhost)⟩, k2, hts _ k3⟩ hp rfl hlen hl.1 hsk (lv_room h8) hdec hroom
      · exact va_runI (As := aV') (rest := rV) (n := (xu mi r1).2.2.1) (bytes := bys r1) (maxL := (xu mi r1).2.2.2.2.2) ⟨hex, hb, hml, hown, hts⟩ hmet ⟨⟨rfl, rfl, hfr, hlo, hpay, List.mem_cons_self, hts _ hcode, hts _ mok.2.1, ⟨mok.2.2.2.1, mok.2.2.2.2.1⟩, hn, hts _ (k4 h5)⟩, k2, hts _ k3⟩ hp rfl hlen hl.1 hsk (lv_room h8) hdec hroom
  | invokestatic i =>
    obtain ⟨rfl, f1, f2⟩ := hI
    have hx : cond (Nat.beq r2 8) (x_cpy rec (pc + 3) y d ls st bx h n cn sn) (x_call mi rec (pc + 3) r1 y d ls st bx h n cn sn false false) = some L := hx
    cases h6 : Nat.beq r2 8 with
    | true =>
      rw [h6] at hx
      obtain ⟨k1, k2, k3, k4⟩ := f1 (xeqb h6)
      obtain ⟨wm, vd, wb, vs, wa, r, mm, dp, sp, qa, qb, rfl, h1, h2, h3, ha4, hb4, hr8, hd1, hqa, hqb, hkd, hkd2, b1, b2, b3, b4, g⟩ := x_cpy_ok hx
      obtain ⟨vm1, m1, rfl, hvm1, hst'⟩ := xstR_cons hst
      obtain ⟨vd1, m2, rfl, hvd1, hst'⟩ := xstR_cons hst'
      obtain ⟨vb1, m3, rfl, hvb1, hst'⟩ := xstR_cons hst'
      obtain ⟨vs1, m4, rfl, hvs1, hst'⟩ := xstR_cons hst'
      obtain ⟨va1, m5, rfl, hva1, hr⟩ := xstR_cons hst'
      have e1 := xci_ok sv ex hbx hvm1 h1
      have e2 := xci_ok sv ex hbx hvd1 h2
      have e3 := xci_ok sv ex hbx hvs1 h3
      subst e1; subst e2; subst e3
      obtain ⟨a, haa, rfl⟩ := xden.own sv ex hva1 ha4
      obtain ⟨b, hbb, rfl⟩ := xden.own sv ex hvb1 hb4
      obtain ⟨ea, hea, hcra⟩ := xhR.at cl sv ex hh haa hqa
      obtain ⟨eb', heb, hcrb⟩ := xhR.at cl sv ex hh hbb hqb
      have c1 : (nI mm).toNatClampNeg = mm := nI_clamp (by omega)
      have c2 : (nI dp).toNatClampNeg = dp := nI_clamp (by omega)
      have c3 : (nI sp).toNatClampNeg = sp := nI_clamp (by omega)
      have hw8 : (m5.map fun v => v.category).sum + (nativeFrameWords "java/lang/System" "arraycopy" 5 + 11) ≤ R.locals := by
        rw [xwds_ok sv ex hr]
        have : nativeFrameWords "java/lang/System" "arraycopy" 5 = 7 := by decide +kernel
        omega
      rcases hkd with hkd | hkd
      · obtain ⟨cA, f, e1, e2, e3⟩ := xcR.a13 cl sv ex hcra hkd
        obtain ⟨cB, fb, e4, e5, e6⟩ := xcR.a13 cl sv ex hcrb (by omega)
        subst e1; subst e4
        obtain ⟨t, g1, g2, g3⟩ := xcp_ok mm sp dp qb.2.2 g (fun j j1 j2 => by obtain ⟨w3, a1, -⟩ := e6 j (by omega); exact ⟨w3, a1⟩)
        rw [xsK_eq] at g1
        have hK2 : va_K D cl [(cA, .int), (cB, .int)] s := (xK1 hK e2).app (xK1 hK e5)
        refine va_copyi hex hb (hml.trans hl.1.symm) hown (hts _ k1) (hts _ k2) (hts _ k3) (hts _ k4) hK2 hP hD hS wa.2 wb.2 0 1 hea heb rfl rfl rfl (nI_pos (by omega)) (nI_pos (by omega)) (nI_pos (by omega)) (by rw [c3, c1]; exact b1) (by rw [c2, c1]; exact b2) (fun _ _ => rfl) (by omega) hw8 hdec (fun H1 locs1 hP1 hD1 hS1 => ?_)
        rw [c1, c2, c3] at hP1 hD1
        refine xkk E g1 (fun _ z => z) (xle.rf _) hc hs ⟨hbx, xhR.set cl sv ex hh hbb hqb (Or.inr (Or.inl ⟨by show qb.1 = 13; omega, cB, _, rfl, e5, fun j hj => ?_⟩)), hP1, hD1, hS1⟩ ⟨⟨lv, hl, hls⟩, hr⟩
        have hj : j < qb.2.1 := hj
        by_cases hin : dp ≤ j ∧ j < dp + mm
        · obtain ⟨w3, a1, a2⟩ := e3 (sp + (j - dp)) (by omega)
          exact ⟨w3, by rw [show ((qb.1, qb.2.1, t) : xcell).2.2 = t from rfl, g2 j hin.1 hin.2]; exact a1, by rw [pk_cpy_in hin.1 hin.2]; exact a2⟩
        · obtain ⟨w3, a1, a2⟩ := e6 j hj
          exact ⟨w3, by rw [show ((qb.1, qb.2.1, t) : xcell).2.2 = t from rfl, g3 j (by omega)]; exact a1, by rw [pk_cpy_out (by omega)]; exact a2⟩
      · obtain ⟨cA, f, e1, e2, e3⟩ := xcR.a14 cl sv ex hcra hkd
        obtain ⟨cB, fb, e4, e5, e6⟩ := xcR.a14 cl sv ex hcrb (by omega)
        subst e1; subst e4
        obtain ⟨t, g1, g2, g3⟩ := xcp_ok mm sp dp qb.2.2 g (fun j j1 j2 => by obtain ⟨w3, a1, -⟩ := e6 j (by omega); exact ⟨w3, a1⟩)
        rw [xsK_eq] at g1
        have hK2 : va_K D cl [(cA, .long), (cB, .long)] s := (xK1 hK e2).app (xK1 hK e5)
        refine va_copyl hex hb (hml.trans hl.1.symm) hown (hts _ k1) (hts _ k2) (hts _ k3) (hts _ k4) hK2 hP hD hS wa.2 wb.2 0 1 hea heb rfl rfl rfl (nI_pos (by omega)) (nI_pos (by omega)) (nI_pos (by omega)) (by rw [c3, c1]; exact b1) (by rw [c2, c1]; exact b2) (fun _ _ => rfl) (by omega) hw8 hdec (fun H1 locs1 hP1 hD1 hS1 => ?_)
        rw [c1, c2, c3] at hP1 hD1
        refine xkk E g1 (fun _ z => z) (xle.rf _) hc hs ⟨hbx, xhR.set cl sv ex hh hbb hqb (Or.inr (Or.inr (Or.inl ⟨by show qb.1 = 14; omega, cB, _, rfl, e5, fun j hj => ?_⟩))), hP1, hD1, hS1⟩ ⟨⟨lv, hl, hls⟩, hr⟩
        have hj : j < qb.2.1 := hj
        by_cases hin : dp ≤ j ∧ j < dp + mm
        · obtain ⟨w3, a1, a2⟩ := e3 (sp + (j - dp)) (by omega)
          exact ⟨w3, by rw [show ((qb.1, qb.2.1, t) : xcell).2.2 = t from rfl, g2 j hin.1 hin.2]; exact a1, by rw [pk_cpy_in hin.1 hin.2]; exact a2⟩
        · obtain ⟨w3, a1, a2⟩ := e6 j hj
          exact ⟨w3, by rw [show ((qb.1, qb.2.1, t) : xcell).2.2 = t from rfl, g3 j (by omega)]; exact a1, by rw [pk_cpy_out (by omega)]; exact a2⟩
    | false =>
      rw [h6] at hx
      obtain ⟨mok, k1, k2⟩ := f2 (xneb h6)
      obtain ⟨u, q, g1, g2, g3, -⟩ := x_call_ok hx
      have hu := xu_of g1
      obtain ⟨aV, rV, a1, a2, a3, a4⟩ := xpop_ok sv ex _ (acc := []) (accV := []) trivial hst g2
      have hsk : stv = aV.reverse ++ rV := by
        have := a3.symm
        simpa using this
      have hlen : aV.length = (xu mi r1).2.2.1 := by
        rw [hu]
        have := a4
        simp at this
        exact this
      refine xgo_fin E mok g3 (av := aV) a1 a2 (fun d' M ed hmet h8 hroom => ?_)
      have hp := xpre E (av := aV)
      have hd := mok.2.2.2.2.2.1
      have hn : ∀ sig, parseMethodDescriptor (nm r1).desc = some sig → (xu mi r1).2.2.1 = sig.parameters.length := fun sig hsig => by
        rw [hsig] at hd
        exact (Option.some.inj hd).symm
      have hfr : d' + 1 ≤ R.frames := by omega
      have hlo : 8 + ((xu mi r1).2.2.2.2.2 + 11) + 70 * d' ≤ R.locals := by have := mok.2.2.2.2.2.2; omega
      exact va_runS (As := aV) (rest := rV) (n := (xu mi r1).2.2.1) (bytes := bys r1) (maxL := (xu mi r1).2.2.2.2.2) (ret := rtt r1) ⟨hex, hb, hml, hown, hts⟩ hmet ⟨⟨rfl, rfl, hfr, hlo, xpay hgw hts mok, List.mem_cons_self, hts _ mok.1, hts _ mok.2.1, ⟨mok.2.2.2.1, mok.2.2.2.2.1⟩, hn, hts _ k1⟩, hts _ k2⟩ hp rfl hlen hl.1 hsk (lv_room h8) hdec hroom
  | return_ =>
    obtain ⟨rfl, f1⟩ := hI
    obtain ⟨g1, rfl, rfl⟩ := x_ret_ok hx
    have := xstR_nil hst
    subst this
    exact hret (bx, h, n, none) List.mem_cons_self as ws H locs cn sn pc la none (xle.rf _) ⟨hbx, hh, hP, hD, hS⟩ hc hs (Or.inl ⟨f1 g1, rfl, rfl, hdec⟩)
  | ireturn =>
    obtain ⟨rfl, f1, f3, f4, f5⟩ := hI
    obtain ⟨w, rfl, g1, rfl⟩ := x_iret_ok hx
    obtain ⟨v, m1, rfl, hv, hr⟩ := xstR_cons hst
    have := xstR_nil hr
    subst this
    have key : ∃ (x : Int32) (ty : FieldType), v = .int x ∧ rtt y = some ty ∧ narrow ty (.int x) = .int x := by
      unfold xrok at g1
      split at g1
      · rename_i e1
        obtain ⟨x, rfl⟩ := xden.int sv ex hv (xeqb g1)
        exact ⟨x, .int, rfl, f1 e1, rfl⟩
      · rename_i e1
        obtain ⟨k1, k2⟩ := xand g1
        obtain ⟨t, k⟩ := w
        have e2 : t = 0 := xeqb k1
        subst e2
        have e3 : v = .int (nI k) := hv
        refine ⟨nI k, .boolean, e3, f3 e1, ?_⟩
        rcases nI_bool (xleb k2) with z | z <;> rw [z] <;> rfl
      · rename_i e1
        obtain ⟨k1, k2⟩ := xand g1
        obtain ⟨t, k⟩ := w
        have e2 : t = 0 := xeqb k1
        subst e2
        have e3 : v = .int (nI k) := hv
        exact ⟨nI k, .char, e3, f4 e1, xr1 (xltb k2)⟩
      · rename_i e1
        obtain ⟨k1, k2⟩ := xand g1
        obtain ⟨t, k⟩ := w
        have e2 : t = 0 := xeqb k1
        subst e2
        have e3 : v = .int (nI k) := hv
        exact ⟨nI k, .byte, e3, f5 e1, xr2 (xltb k2)⟩
      · cases g1
    obtain ⟨x, ty, rfl, e1, e2⟩ := key
    exact hret (bx, h, n, some w) List.mem_cons_self as ws H locs cn sn pc la (some (.int x)) (xle.rf _) ⟨hbx, hh, hP, hD, hS⟩ hc hs (Or.inr (Or.inl ⟨w, x, ty, e1, rfl, rfl, hv, e2, hdec⟩))
  | lreturn =>
    obtain ⟨rfl, f1⟩ := hI
    obtain ⟨w, rfl, g1, g2, rfl⟩ := x_lret_ok hx
    obtain ⟨v, m1, rfl, hv, hr⟩ := xstR_cons hst
    have := xstR_nil hr
    subst this
    obtain ⟨x, rfl⟩ := xden.long sv ex hv g2
    exact hret (bx, h, n, some w) List.mem_cons_self as ws H locs cn sn pc la (some (.long x)) (xle.rf _) ⟨hbx, hh, hP, hD, hS⟩ hc hs (Or.inr (Or.inr ⟨w, x, f1 g1, rfl, rfl, hv, hdec⟩))
  | _ => cases hg
set_option maxHeartbeats 4000000 in
theorem xstep_snd (hgw : xGood gw) (hOK : xOK cl nest txt ovr cd mi df bys nm rtt gw) (hrec : xSnd l D cl A sv ex el eb nest txt ovr mi bys nm rtt gw rec) : xSnd l D cl A sv ex el eb nest txt ovr mi bys nm rtt gw (xstep cd mi df el eb rec) := by
  intro y d pc ls st bx h n cn sn L hx p e R s m args below meth c Q as ws H locs la stv hC hc hs hw hf hr
  unfold xstep at hx
  cases ht : xg cd y with
  | none => rw [ht] at hx; cases hx
  | some t =>
    rw [ht] at hx
    dsimp only at hx
    cases he : xg t pc with
    | none => rw [he] at hx; cases hx
    | some e1 =>
      rw [he] at hx
      dsimp only at hx
      obtain ⟨len, hnx, hdec, hI⟩ := hOK y t pc e1 ht he
      have E : xStp l D cl A sv ex el eb nest txt ovr mi bys nm rtt gw rec y d ls st bx h n cn sn L p e R s m args below meth c Q as ws H locs la stv := ⟨hrec, hC, hc, hs, hw, hf, hr⟩
      rw [hnx] at hx
      generalize e1.1 = ins at hx hdec hI
      by_cases h1 : xg1 ins = true
      · exact xf1 E h1 hdec hI hx
      by_cases h2 : xg2 ins = true
      · exact xf2 E h2 hdec hI hx
      by_cases h3 : xg3 ins = true
      · exact xf3 E h3 hdec hI hx
      by_cases h4 : xg4 ins = true
      · exact xf4 E h4 hdec hI hx
      by_cases h5 : xg5 ins = true
      · exact xf5 E h5 hdec hI hx
      by_cases h6 : xg6 ins = true
      · exact xf6 hgw E h6 hdec hI hx
      exfalso
      cases ins <;> first | exact h1 rfl | exact h2 rfl | exact h3 rfl | exact h4 rfl | exact h5 rfl | exact h6 rfl | exact xnos hx
theorem xrun_snd (hgw : xGood gw) (hOK : xOK cl nest txt ovr cd mi df bys nm rtt gw) : ∀ f : Nat, xSnd l D cl A sv ex el eb nest txt ovr mi bys nm rtt gw (xrun cd mi df el eb f)
  | 0 => fun _ _ _ _ _ _ _ _ _ _ _ hx => (xnos hx).elim
  | f + 1 => xstep_snd hgw hOK (xrun_snd hgw hOK f)
end Go5
end
section
/-! classes, their fields: printed with the claim -/
def RX0 : String := "OathTill$Court"
def TX0 : u_T := fun k => match k with
  | 0 => ("OathTill$Court", "places", "I", false)
  | 1 => ("OathTill$Court", "miles", "[I", true)
  | 2 => ("OathTill$Court", "placeNames", "[J", true)
  | 3 => ("OathTill$Court", "persons", "I", false)
  | 4 => ("OathTill$Court", "people", "[LOathTill$Person;", true)
  | 5 => ("OathTill$Court", "base", "I", false)
  | 6 => ("OathTill$Court", "more", "I", false)
  | 7 => ("OathTill$Court", "speed", "I", false)
  | 8 => ("OathTill$Court", "till", "I", false)
  | 9 => ("OathTill$Court", "count", "I", false)
  | 10 => ("OathTill$Court", "oaths", "[LOathTill$Oath;", true)
  | _ => ("OathTill$Court", "trials", "LOathTill$Trials;", true)
def tyX0 : Nat → FieldType := fun k => match k with
  | 0 => .int
  | 1 => .array .int
  | 2 => .array .long
  | 3 => .int
  | 4 => .array (.object "OathTill$Person")
  | 5 => .int
  | 6 => .int
  | 7 => .int
  | 8 => .int
  | 9 => .int
  | 10 => .array (.object "OathTill$Oath")
  | _ => .object "OathTill$Trials"
theorem nmX0 : ∀ a, a < 12 → ∀ b, b < 12 → a ≠ b → (TX0 a).2.1 ≠ (TX0 b).2.1 := by decide +kernel
theorem tyX0_ok : ∀ k, k < 12 → parseFieldDescriptor (TX0 k).2.2.1 = some (tyX0 k) := by decide +kernel
def RX1 : String := "OathTill$Oath"
def TX1 : u_T := fun k => match k with
  | 0 => ("OathTill$Oath", "witness", "I", false)
  | 1 => ("OathTill$Oath", "person", "I", false)
  | 2 => ("OathTill$Oath", "place", "I", false)
  | 3 => ("OathTill$Oath", "hour", "I", false)
  | 4 => ("OathTill$Oath", "price", "I", false)
  | 5 => ("OathTill$Oath", "state", "I", false)
  | 6 => ("OathTill$Oath", "refunded", "Z", false)
  | _ => ("OathTill$Oath", "life", "I", false)
def tyX1 : Nat → FieldType := fun k => match k with
  | 0 => .int
  | 1 => .int
  | 2 => .int
  | 3 => .int
  | 4 => .int
  | 5 => .int
  | 6 => .boolean
  | _ => .int
theorem nmX1 : ∀ a, a < 8 → ∀ b, b < 8 → a ≠ b → (TX1 a).2.1 ≠ (TX1 b).2.1 := by decide +kernel
theorem tyX1_ok : ∀ k, k < 8 → parseFieldDescriptor (TX1 k).2.2.1 = some (tyX1 k) := by decide +kernel
def RX2 : String := "OathTill$Person"
def TX2 : u_T := fun k => match k with
  | 0 => ("OathTill$Person", "name", "J", false)
  | 1 => ("OathTill$Person", "purse", "I", false)
  | 2 => ("OathTill$Person", "child", "Z", false)
  | 3 => ("OathTill$Person", "bishop", "Z", false)
  | 4 => ("OathTill$Person", "twin", "I", false)
  | 5 => ("OathTill$Person", "friends", "I", false)
  | _ => ("OathTill$Person", "truth", "[I", true)
def tyX2 : Nat → FieldType := fun k => match k with
  | 0 => .long
  | 1 => .int
  | 2 => .boolean
  | 3 => .boolean
  | 4 => .int
  | 5 => .int
  | _ => .array .int
theorem nmX2 : ∀ a, a < 7 → ∀ b, b < 7 → a ≠ b → (TX2 a).2.1 ≠ (TX2 b).2.1 := by decide +kernel
theorem tyX2_ok : ∀ k, k < 7 → parseFieldDescriptor (TX2 k).2.2.1 = some (tyX2 k) := by decide +kernel
def RX3 : String := "OathTill$Plan"
def TX3 : u_T := fun k => match k with
  | 0 => ("OathTill$Plan", "court", "LOathTill$Court;", true)
  | 1 => ("OathTill$Plan", "trial", "LOathTill$Court;", true)
  | 2 => ("OathTill$Plan", "stand", "LOathTill$Stand;", true)
  | 3 => ("OathTill$Plan", "trialStand", "LOathTill$Stand;", true)
  | 4 => ("OathTill$Plan", "hasAlibi", "Z", false)
  | 5 => ("OathTill$Plan", "alibiPlace", "I", false)
  | 6 => ("OathTill$Plan", "alibiSet", "I", false)
  | 7 => ("OathTill$Plan", "hasCall", "Z", false)
  | 8 => ("OathTill$Plan", "callPlace", "I", false)
  | 9 => ("OathTill$Plan", "callHour", "I", false)
  | _ => ("OathTill$Plan", "callPrice", "I", false)
def tyX3 : Nat → FieldType := fun k => match k with
  | 0 => .object "OathTill$Court"
  | 1 => .object "OathTill$Court"
  | 2 => .object "OathTill$Stand"
  | 3 => .object "OathTill$Stand"
  | 4 => .boolean
  | 5 => .int
  | 6 => .int
  | 7 => .boolean
  | 8 => .int
  | 9 => .int
  | _ => .int
theorem nmX3 : ∀ a, a < 11 → ∀ b, b < 11 → a ≠ b → (TX3 a).2.1 ≠ (TX3 b).2.1 := by decide +kernel
theorem tyX3_ok : ∀ k, k < 11 → parseFieldDescriptor (TX3 k).2.2.1 = some (tyX3 k) := by decide +kernel
def RX4 : String := "OathTill$Reader"
def TX4 : u_T := fun k => match k with
  | 0 => ("OathTill$Reader", "text", "LOathTill$Text;", true)
  | 1 => ("OathTill$Reader", "now", "LOathTill$Court;", true)
  | 2 => ("OathTill$Reader", "draft", "LOathTill$Court;", true)
  | 3 => ("OathTill$Reader", "steps", "LOathTill$Trials;", true)
  | 4 => ("OathTill$Reader", "toldRates", "I", false)
  | 5 => ("OathTill$Reader", "open", "[I", true)
  | _ => ("OathTill$Reader", "opened", "I", false)
def tyX4 : Nat → FieldType := fun k => match k with
  | 0 => .object "OathTill$Text"
  | 1 => .object "OathTill$Court"
  | 2 => .object "OathTill$Court"
  | 3 => .object "OathTill$Trials"
  | 4 => .int
  | 5 => .array .int
  | _ => .int
theorem nmX4 : ∀ a, a < 7 → ∀ b, b < 7 → a ≠ b → (TX4 a).2.1 ≠ (TX4 b).2.1 := by decide +kernel
theorem tyX4_ok : ∀ k, k < 7 → parseFieldDescriptor (TX4 k).2.2.1 = some (tyX4 k) := by decide +kernel
def RX5 : String := "OathTill$Runner"
def TX5 : u_T := fun k => match k with
  | 0 => ("OathTill$Runner", "court", "LOathTill$Court;", true)
  | 1 => ("OathTill$Runner", "trials", "LOathTill$Trials;", true)
  | 2 => ("OathTill$Runner", "stand", "LOathTill$Stand;", true)
  | 3 => ("OathTill$Runner", "rounds", "[I", true)
  | 4 => ("OathTill$Runner", "choices", "[I", true)
  | 5 => ("OathTill$Runner", "drawn", "I", false)
  | 6 => ("OathTill$Runner", "number", "I", false)
  | 7 => ("OathTill$Runner", "steps", "I", false)
  | 8 => ("OathTill$Runner", "missed", "I", false)
  | 9 => ("OathTill$Runner", "sworn", "I", false)
  | 10 => ("OathTill$Runner", "fees", "I", false)
  | _ => ("OathTill$Runner", "left", "Z", false)
def tyX5 : Nat → FieldType := fun k => match k with
  | 0 => .object "OathTill$Court"
  | 1 => .object "OathTill$Trials"
  | 2 => .object "OathTill$Stand"
  | 3 => .array .int
  | 4 => .array .int
  | 5 => .int
  | 6 => .int
  | 7 => .int
  | 8 => .int
  | 9 => .int
  | 10 => .int
  | _ => .boolean
theorem nmX5 : ∀ a, a < 12 → ∀ b, b < 12 → a ≠ b → (TX5 a).2.1 ≠ (TX5 b).2.1 := by decide +kernel
theorem tyX5_ok : ∀ k, k < 12 → parseFieldDescriptor (TX5 k).2.2.1 = some (tyX5 k) := by decide +kernel
def RX6 : String := "OathTill$Stand"
def TX6 : u_T := fun k => match k with
  | 0 => ("OathTill$Stand", "court", "LOathTill$Court;", true)
  | 1 => ("OathTill$Stand", "witness", "I", false)
  | 2 => ("OathTill$Stand", "person", "I", false)
  | 3 => ("OathTill$Stand", "spoken", "I", false)
  | 4 => ("OathTill$Stand", "doubted", "Z", false)
  | 5 => ("OathTill$Stand", "knowsLiar", "Z", false)
  | 6 => ("OathTill$Stand", "others", "[I", true)
  | 7 => ("OathTill$Stand", "alike", "[I", true)
  | _ => ("OathTill$Stand", "echoed", "J", false)
def tyX6 : Nat → FieldType := fun k => match k with
  | 0 => .object "OathTill$Court"
  | 1 => .int
  | 2 => .int
  | 3 => .int
  | 4 => .boolean
  | 5 => .boolean
  | 6 => .array .int
  | 7 => .array .int
  | _ => .long
theorem nmX6 : ∀ a, a < 9 → ∀ b, b < 9 → a ≠ b → (TX6 a).2.1 ≠ (TX6 b).2.1 := by decide +kernel
theorem tyX6_ok : ∀ k, k < 9 → parseFieldDescriptor (TX6 k).2.2.1 = some (tyX6 k) := by decide +kernel
def RX7 : String := "OathTill$Text"
def TX7 : u_T := fun k => match k with
  | 0 => ("OathTill$Text", "bytes", "[B", true)
  | 1 => ("OathTill$Text", "keys", "[J", true)
  | 2 => ("OathTill$Text", "length", "I", false)
  | 3 => ("OathTill$Text", "at", "I", false)
  | 4 => ("OathTill$Text", "kind", "I", false)
  | 5 => ("OathTill$Text", "start", "I", false)
  | 6 => ("OathTill$Text", "word", "J", false)
  | 7 => ("OathTill$Text", "key", "I", false)
  | 8 => ("OathTill$Text", "number", "I", false)
  | 9 => ("OathTill$Text", "sign", "I", false)
  | 10 => ("OathTill$Text", "fault", "I", false)
  | _ => ("OathTill$Text", "faultPlace", "I", false)
def tyX7 : Nat → FieldType := fun k => match k with
  | 0 => .array .byte
  | 1 => .array .long
  | 2 => .int
  | 3 => .int
  | 4 => .int
  | 5 => .int
  | 6 => .long
  | 7 => .int
  | 8 => .int
  | 9 => .int
  | 10 => .int
  | _ => .int
theorem nmX7 : ∀ a, a < 12 → ∀ b, b < 12 → a ≠ b → (TX7 a).2.1 ≠ (TX7 b).2.1 := by decide +kernel
theorem tyX7_ok : ∀ k, k < 12 → parseFieldDescriptor (TX7 k).2.2.1 = some (tyX7 k) := by decide +kernel
def RX8 : String := "OathTill$Tray"
def TX8 : u_T := fun k => match k with
  | 0 => ("OathTill$Tray", "laid", "Z", false)
  | 1 => ("OathTill$Tray", "sort", "I", false)
  | 2 => ("OathTill$Tray", "many", "I", false)
  | _ => ("OathTill$Tray", "row", "[J", true)
def tyX8 : Nat → FieldType := fun k => match k with
  | 0 => .boolean
  | 1 => .int
  | 2 => .int
  | _ => .array .long
theorem nmX8 : ∀ a, a < 4 → ∀ b, b < 4 → a ≠ b → (TX8 a).2.1 ≠ (TX8 b).2.1 := by decide +kernel
theorem tyX8_ok : ∀ k, k < 4 → parseFieldDescriptor (TX8 k).2.2.1 = some (tyX8 k) := by decide +kernel
def RX9 : String := "OathTill$Trials"
def TX9 : u_T := fun k => match k with
  | 0 => ("OathTill$Trials", "taken", "Z", false)
  | 1 => ("OathTill$Trials", "steps", "I", false)
  | 2 => ("OathTill$Trials", "rows", "I", false)
  | 3 => ("OathTill$Trials", "kind", "[I", true)
  | 4 => ("OathTill$Trials", "witness", "[I", true)
  | 5 => ("OathTill$Trials", "person", "[I", true)
  | 6 => ("OathTill$Trials", "place", "[I", true)
  | 7 => ("OathTill$Trials", "number", "[I", true)
  | 8 => ("OathTill$Trials", "sign", "[I", true)
  | 9 => ("OathTill$Trials", "partner", "[I", true)
  | _ => ("OathTill$Trials", "depth", "[I", true)
def tyX9 : Nat → FieldType := fun k => match k with
  | 0 => .boolean
  | 1 => .int
  | 2 => .int
  | 3 => .array .int
  | 4 => .array .int
  | 5 => .array .int
  | 6 => .array .int
  | 7 => .array .int
  | 8 => .array .int
  | 9 => .array .int
  | _ => .array .int
theorem nmX9 : ∀ a, a < 11 → ∀ b, b < 11 → a ≠ b → (TX9 a).2.1 ≠ (TX9 b).2.1 := by decide +kernel
theorem tyX9_ok : ∀ k, k < 11 → parseFieldDescriptor (TX9 k).2.2.1 = some (tyX9 k) := by decide +kernel
def RX10 : String := "OathTill$Whereabouts"
def TX10 : u_T := fun k => match k with
  | 0 => ("OathTill$Whereabouts", "court", "LOathTill$Court;", true)
  | 1 => ("OathTill$Whereabouts", "open", "[I", true)
  | 2 => ("OathTill$Whereabouts", "many", "[I", true)
  | 3 => ("OathTill$Whereabouts", "next", "[I", true)
  | _ => ("OathTill$Whereabouts", "chains", "[I", true)
def tyX10 : Nat → FieldType := fun k => match k with
  | 0 => .object "OathTill$Court"
  | 1 => .array .int
  | 2 => .array .int
  | 3 => .array .int
  | _ => .array .int
theorem nmX10 : ∀ a, a < 5 → ∀ b, b < 5 → a ≠ b → (TX10 a).2.1 ≠ (TX10 b).2.1 := by decide +kernel
theorem tyX10_ok : ∀ k, k < 5 → parseFieldDescriptor (TX10 k).2.2.1 = some (tyX10 k) := by decide +kernel
def RX11 : String := "OathTill"
def TX11 : u_T := fun k => match k with
  | 0 => ("OathTill", "status", "I", false)
  | 1 => ("OathTill", "fractionTop", "J", false)
  | 2 => ("OathTill", "fractionBottom", "J", false)
  | 3 => ("OathTill", "trays", "[LOathTill$Tray;", true)
  | 4 => ("OathTill", "tape", "[B", true)
  | 5 => ("OathTill", "fed", "I", false)
  | 6 => ("OathTill", "now", "LOathTill$Court;", true)
  | 7 => ("OathTill", "draft", "LOathTill$Court;", true)
  | 8 => ("OathTill", "marks", "[LOathTill$Court;", true)
  | 9 => ("OathTill", "marked", "I", false)
  | 10 => ("OathTill", "text", "LOathTill$Text;", true)
  | 11 => ("OathTill", "reader", "LOathTill$Reader;", true)
  | 12 => ("OathTill", "stand", "LOathTill$Stand;", true)
  | 13 => ("OathTill", "plan", "LOathTill$Plan;", true)
  | 14 => ("OathTill", "whereabouts", "LOathTill$Whereabouts;", true)
  | 15 => ("OathTill", "life", "LOathTill$Runner;", true)
  | 16 => ("OathTill", "dream", "LOathTill$Runner;", true)
  | _ => ("OathTill", "lives", "I", false)
def tyX11 : Nat → FieldType := fun k => match k with
  | 0 => .int
  | 1 => .long
  | 2 => .long
  | 3 => .array (.object "OathTill$Tray")
  | 4 => .array .byte
  | 5 => .int
  | 6 => .object "OathTill$Court"
  | 7 => .object "OathTill$Court"
  | 8 => .array (.object "OathTill$Court")
  | 9 => .int
  | 10 => .object "OathTill$Text"
  | 11 => .object "OathTill$Reader"
  | 12 => .object "OathTill$Stand"
  | 13 => .object "OathTill$Plan"
  | 14 => .object "OathTill$Whereabouts"
  | 15 => .object "OathTill$Runner"
  | 16 => .object "OathTill$Runner"
  | _ => .int
theorem nmX11 : ∀ a, a < 18 → ∀ b, b < 18 → a ≠ b → (TX11 a).2.1 ≠ (TX11 b).2.1 := by decide +kernel
theorem tyX11_ok : ∀ k, k < 18 → parseFieldDescriptor (TX11 k).2.2.1 = some (tyX11 k) := by decide +kernel
def RX12 : String := "OathTillModel"
def TX12 : u_T := fun k => match k with
  | 0 => ("OathTillModel", "at", "[I", true)
  | 1 => ("OathTillModel", "names", "[J", true)
  | 2 => ("OathTillModel", "status", "I", false)
  | 3 => ("OathTillModel", "top", "J", false)
  | 4 => ("OathTillModel", "bottom", "J", false)
  | 5 => ("OathTillModel", "sort", "[I", true)
  | 6 => ("OathTillModel", "trayMany", "[I", true)
  | 7 => ("OathTillModel", "trays", "[J", true)
  | 8 => ("OathTillModel", "tape", "[B", true)
  | 9 => ("OathTillModel", "text", "[B", true)
  | 10 => ("OathTillModel", "taped", "I", false)
  | 11 => ("OathTillModel", "size", "I", false)
  | 12 => ("OathTillModel", "token", "I", false)
  | 13 => ("OathTillModel", "from", "I", false)
  | 14 => ("OathTillModel", "end", "I", false)
  | 15 => ("OathTillModel", "value", "I", false)
  | 16 => ("OathTillModel", "faultKind", "I", false)
  | 17 => ("OathTillModel", "faultPlace", "I", false)
  | 18 => ("OathTillModel", "faults", "I", false)
  | 19 => ("OathTillModel", "seen", "I", false)
  | 20 => ("OathTillModel", "told0", "I", false)
  | 21 => ("OathTillModel", "opened", "[I", true)
  | 22 => ("OathTillModel", "depth", "I", false)
  | 23 => ("OathTillModel", "counted", "I", false)
  | 24 => ("OathTillModel", "comes", "[I", true)
  | 25 => ("OathTillModel", "goesOn", "[I", true)
  | 26 => ("OathTillModel", "bestMany", "[I", true)
  | 27 => ("OathTillModel", "bestSet", "[I", true)
  | 28 => ("OathTillModel", "alibiPlace", "I", false)
  | 29 => ("OathTillModel", "alibiSet", "I", false)
  | 30 => ("OathTillModel", "isAlibi", "Z", false)
  | 31 => ("OathTillModel", "called", "[I", true)
  | 32 => ("OathTillModel", "isCalled", "Z", false)
  | 33 => ("OathTillModel", "drawn", "I", false)
  | 34 => ("OathTillModel", "ranSteps", "I", false)
  | 35 => ("OathTillModel", "loops", "[I", true)
  | 36 => ("OathTillModel", "ran", "[I", true)
  | 37 => ("OathTillModel", "told1", "[I", true)
  | 38 => ("OathTillModel", "isTold", "Z", false)
  | _ => ("OathTillModel", "marks", "I", false)
def tyX12 : Nat → FieldType := fun k => match k with
  | 0 => .array .int
  | 1 => .array .long
  | 2 => .int
  | 3 => .long
  | 4 => .long
  | 5 => .array .int
  | 6 => .array .int
  | 7 => .array .long
  | 8 => .array .byte
  | 9 => .array .byte
  | 10 => .int
  | 11 => .int
  | 12 => .int
  | 13 => .int
  | 14 => .int
  | 15 => .int
  | 16 => .int
  | 17 => .int
  | 18 => .int
  | 19 => .int
  | 20 => .int
  | 21 => .array .int
  | 22 => .int
  | 23 => .int
  | 24 => .array .int
  | 25 => .array .int
  | 26 => .array .int
  | 27 => .array .int
  | 28 => .int
  | 29 => .int
  | 30 => .boolean
  | 31 => .array .int
  | 32 => .boolean
  | 33 => .int
  | 34 => .int
  | 35 => .array .int
  | 36 => .array .int
  | 37 => .array .int
  | 38 => .boolean
  | _ => .int
theorem nmX12 : ∀ a, a < 40 → ∀ b, b < 40 → a ≠ b → (TX12 a).2.1 ≠ (TX12 b).2.1 := by decide +kernel
theorem tyX12_ok : ∀ k, k < 40 → parseFieldDescriptor (TX12 k).2.2.1 = some (tyX12 k) := by decide +kernel
abbrev vwCl : List vw_C := [(RX0, TX0, 12), (RX1, TX1, 8), (RX2, TX2, 7), (RX3, TX3, 11), (RX4, TX4, 7), (RX5, TX5, 12), (RX6, TX6, 9), (RX7, TX7, 12), (RX8, TX8, 4), (RX9, TX9, 11), (RX10, TX10, 5), (RX11, TX11, 18), (RX12, TX12, 40)]
end
section
/-! the code that is reached, by method: printed by program out of the claim (wip/tools/p1gen.py) -/
set_option maxRecDepth 100000 in
noncomputable def xt_0_18 : Lean.RArray (Nat × xins) := .branch 339 (.branch 311 (.branch 284 (.branch 24 (.branch 20 (.branch 19 (.leaf (18, (.iload_n 3, 19, 0, 3, 0))) (.leaf (19, (.aload_n 0, 20, 0, 0, 0)))) (.branch 21 (.leaf (20, (.arraylength, 21, 0, 0, 0))) (.branch 23 (.leaf (21, (.bipush 6, 23, 0, 6, 0))) (.leaf (23, (.isub, 24, 0, 0, 0)))))) (.branch 277 (.branch 276 (.leaf (24, (.if_icmp .gt 2104, 27, 2128, 0, 0))) (.leaf (276, (.aload_n 1, 277, 0, 1, 0)))) (.branch 280 (.leaf (277, (.invokevirtual 13, 280, 0, 22, 0))) (.branch 281 (.leaf (280, (.aload_n 2, 281, 0, 2, 0))) (.leaf (281, (.invokevirtual 17, 284, 0, 23, 0))))))) (.branch 297 (.branch 290 (.branch 289 (.leaf (284, (.if_icmp .eq 1838, 287, 2122, 0, 0))) (.leaf (289, (.aload_n 1, 290, 0, 1, 0)))) (.branch 293 (.leaf (290, (.invokevirtual 18, 293, 0, 24, 0))) (.branch 294 (.leaf (293, (.aload_n 2, 294, 0, 2, 0))) (.leaf (294, (.invokevirtual 22, 297, 0, 25, 0)))))) (.branch 304 (.branch 298 (.leaf (297, (.lcmp, 298, 0, 0, 0))) (.branch 303 (.leaf (298, (.ifCond .eq 1824, 301, 2122, 0, 0))) (.leaf (303, (.aload_n 1, 304, 0, 1, 0))))) (.branch 307 (.leaf (304, (.invokevirtual 23, 307, 0, 26, 0))) (.branch 308 (.leaf (307, (.aload_n 2, 308, 0, 2, 0))) (.leaf (308, (.invokevirtual 26, 311, 0, 27, 0)))))))) (.branch 326 (.branch 320 (.branch 317 (.branch 312 (.leaf (311, (.lcmp, 312, 0, 0, 0))) (.leaf (312, (.ifCond .eq 1810, 315, 2122, 0, 0)))) (.branch 318 (.leaf (317, (.aload_n 1, 318, 0, 1, 0))) (.branch 319 (.leaf (318, (.aload_n 0, 319, 0, 0, 0))) (.leaf (319, (.iload_n 3, 320, 0, 3, 0)))))) (.branch 323 (.branch 321 (.leaf (320, (.iconst 1, 321, 0, 1, 0))) (.branch 322 (.leaf (321, (.iadd, 322, 0, 0, 0))) (.leaf (322, (.iaload, 323, 0, 0, 0))))) (.branch 324 (.leaf (323, (.aload_n 0, 324, 0, 0, 0))) (.branch 325 (.leaf (324, (.iload_n 3, 325, 0, 3, 0))) (.leaf (325, (.iconst 2, 326, 0, 2, 0))))))) (.branch 331 (.branch 328 (.branch 327 (.leaf (326, (.iadd, 327, 0, 0, 0))) (.leaf (327, (.iaload, 328, 0, 0, 0)))) (.branch 329 (.leaf (328, (.aload_n 0, 329, 0, 0, 0))) (.branch 330 (.leaf (329, (.iload_n 3, 330, 0, 3, 0))) (.leaf (330, (.iconst 3, 331, 0, 3, 0)))))) (.branch 336 (.branch 332 (.leaf (331, (.iadd, 332, 0, 0, 0))) (.branch 333 (.leaf (332, (.iaload, 333, 0, 0, 0))) (.leaf (333, (.invokevirtual 27, 336, 0, 28, 0))))) (.branch 337 (.leaf (336, (.aload_n 2, 337, 0, 2, 0))) (.branch 338 (.leaf (337, (.aload_n 0, 338, 0, 0, 0))) (.leaf (338, (.iload_n 3, 339, 0, 3, 0))))))))) (.branch 366 (.branch 349 (.branch 344 (.branch 341 (.branch 340 (.leaf (339, (.iconst 1, 340, 0, 1, 0))) (.leaf (340, (.iadd, 341, 0, 0, 0)))) (.branch 342 (.leaf (341, (.iaload, 342, 0, 0, 0))) (.branch 343 (.leaf (342, (.aload_n 0, 343, 0, 0, 0))) (.leaf (343, (.iload_n 3, 344, 0, 3, 0)))))) (.branch 346 (.branch 345 (.leaf (344, (.iconst 2, 345, 0, 2, 0))) (.leaf (345, (.iadd, 346, 0, 0, 0)))) (.branch 347 (.leaf (346, (.iaload, 347, 0, 0, 0))) (.branch 348 (.leaf (347, (.aload_n 0, 348, 0, 0, 0))) (.leaf (348, (.iload_n 3, 349, 0, 3, 0))))))) (.branch 360 (.branch 351 (.branch 350 (.leaf (349, (.iconst 3, 350, 0, 3, 0))) (.leaf (350, (.iadd, 351, 0, 0, 0)))) (.branch 352 (.leaf (351, (.iaload, 352, 0, 0, 0))) (.branch 355 (.leaf (352, (.invokevirtual 31, 355, 0, 34, 0))) (.leaf (355, (.if_icmp .eq 1767, 358, 2122, 0, 0)))))) (.branch 363 (.branch 361 (.leaf (360, (.aload_n 1, 361, 0, 1, 0))) (.branch 362 (.leaf (361, (.aload_n 0, 362, 0, 0, 0))) (.leaf (362, (.iload_n 3, 363, 0, 3, 0))))) (.branch 364 (.leaf (363, (.iconst 1, 364, 0, 1, 0))) (.branch 365 (.leaf (364, (.iadd, 365, 0, 0, 0))) (.leaf (365, (.iaload, 366, 0, 0, 0)))))))) (.branch 377 (.branch 371 (.branch 368 (.branch 367 (.leaf (366, (.aload_n 0, 367, 0, 0, 0))) (.leaf (367, (.iload_n 3, 368, 0, 3, 0)))) (.branch 369 (.leaf (368, (.iconst 2, 369, 0, 2, 0))) (.branch 370 (.leaf (369, (.iadd, 370, 0, 0, 0))) (.leaf (370, (.iaload, 371, 0, 0, 0)))))) (.branch 374 (.branch 372 (.leaf (371, (.aload_n 0, 372, 0, 0, 0))) (.branch 373 (.leaf (372, (.iload_n 3, 373, 0, 3, 0))) (.leaf (373, (.iconst 3, 374, 0, 3, 0))))) (.branch 375 (.leaf (374, (.iadd, 375, 0, 0, 0))) (.branch 376 (.leaf (375, (.iaload, 376, 0, 0, 0))) (.leaf (376, (.i2l, 377, 0, 0, 0))))))) (.branch 383 (.branch 380 (.branch 379 (.leaf (377, (.bipush 32, 379, 0, 32, 0))) (.leaf (379, (.lshl, 380, 0, 0, 0)))) (.branch 381 (.leaf (380, (.aload_n 0, 381, 0, 0, 0))) (.branch 382 (.leaf (381, (.iload_n 3, 382, 0, 3, 0))) (.leaf (382, (.iconst 4, 383, 0, 4, 0)))))) (.branch 386 (.branch 384 (.leaf (383, (.iadd, 384, 0, 0, 0))) (.branch 385 (.leaf (384, (.iaload, 385, 0, 0, 0))) (.leaf (385, (.i2l, 386, 0, 0, 0))))) (.branch 389 (.leaf (386, (.ldc2_w 32, 389, 0, 4294967295, 0))) (.branch 390 (.leaf (389, (.land, 390, 0, 0, 0))) (.leaf (390, (.lor, 391, 0, 0, 0)))))))))
set_option maxRecDepth 100000 in
noncomputable def xt_0_391 : Lean.RArray (Nat × xins) := .branch 447 (.branch 415 (.branch 403 (.branch 398 (.branch 395 (.branch 394 (.leaf (391, (.invokevirtual 34, 394, 0, 37, 0))) (.leaf (394, (.aload_n 2, 395, 0, 2, 0)))) (.branch 396 (.leaf (395, (.aload_n 0, 396, 0, 0, 0))) (.branch 397 (.leaf (396, (.iload_n 3, 397, 0, 3, 0))) (.leaf (397, (.iconst 1, 398, 0, 1, 0)))))) (.branch 400 (.branch 399 (.leaf (398, (.iadd, 399, 0, 0, 0))) (.leaf (399, (.iaload, 400, 0, 0, 0)))) (.branch 401 (.leaf (400, (.aload_n 0, 401, 0, 0, 0))) (.branch 402 (.leaf (401, (.iload_n 3, 402, 0, 3, 0))) (.leaf (402, (.iconst 2, 403, 0, 2, 0))))))) (.branch 408 (.branch 405 (.branch 404 (.leaf (403, (.iadd, 404, 0, 0, 0))) (.leaf (404, (.iaload, 405, 0, 0, 0)))) (.branch 406 (.leaf (405, (.aload_n 0, 406, 0, 0, 0))) (.branch 407 (.leaf (406, (.iload_n 3, 407, 0, 3, 0))) (.leaf (407, (.iconst 3, 408, 0, 3, 0)))))) (.branch 411 (.branch 409 (.leaf (408, (.iadd, 409, 0, 0, 0))) (.branch 410 (.leaf (409, (.iaload, 410, 0, 0, 0))) (.leaf (410, (.i2l, 411, 0, 0, 0))))) (.branch 413 (.leaf (411, (.bipush 32, 413, 0, 32, 0))) (.branch 414 (.leaf (413, (.lshl, 414, 0, 0, 0))) (.leaf (414, (.aload_n 0, 415, 0, 0, 0)))))))) (.branch 434 (.branch 420 (.branch 417 (.branch 416 (.leaf (415, (.iload_n 3, 416, 0, 3, 0))) (.leaf (416, (.iconst 4, 417, 0, 4, 0)))) (.branch 418 (.leaf (417, (.iadd, 418, 0, 0, 0))) (.branch 419 (.leaf (418, (.iaload, 419, 0, 0, 0))) (.leaf (419, (.i2l, 420, 0, 0, 0)))))) (.branch 425 (.branch 423 (.leaf (420, (.ldc2_w 32, 423, 0, 4294967295, 0))) (.branch 424 (.leaf (423, (.land, 424, 0, 0, 0))) (.leaf (424, (.lor, 425, 0, 0, 0))))) (.branch 428 (.leaf (425, (.invokevirtual 38, 428, 0, 39, 0))) (.branch 433 (.leaf (428, (.if_icmp .eq 1694, 431, 2122, 0, 0))) (.leaf (433, (.aload_n 1, 434, 0, 1, 0))))))) (.branch 439 (.branch 436 (.branch 435 (.leaf (434, (.aload_n 0, 435, 0, 0, 0))) (.leaf (435, (.iload_n 3, 436, 0, 3, 0)))) (.branch 437 (.leaf (436, (.iconst 1, 437, 0, 1, 0))) (.branch 438 (.leaf (437, (.iadd, 438, 0, 0, 0))) (.leaf (438, (.iaload, 439, 0, 0, 0)))))) (.branch 442 (.branch 440 (.leaf (439, (.aload_n 0, 440, 0, 0, 0))) (.branch 441 (.leaf (440, (.iload_n 3, 441, 0, 3, 0))) (.leaf (441, (.iconst 2, 442, 0, 2, 0))))) (.branch 443 (.leaf (442, (.iadd, 443, 0, 0, 0))) (.branch 444 (.leaf (443, (.iaload, 444, 0, 0, 0))) (.leaf (444, (.invokevirtual 39, 447, 0, 41, 0))))))))) (.branch 474 (.branch 457 (.branch 452 (.branch 449 (.branch 448 (.leaf (447, (.aload_n 2, 448, 0, 2, 0))) (.leaf (448, (.aload_n 0, 449, 0, 0, 0)))) (.branch 450 (.leaf (449, (.iload_n 3, 450, 0, 3, 0))) (.branch 451 (.leaf (450, (.iconst 1, 451, 0, 1, 0))) (.leaf (451, (.iadd, 452, 0, 0, 0)))))) (.branch 454 (.branch 453 (.leaf (452, (.iaload, 453, 0, 0, 0))) (.leaf (453, (.aload_n 0, 454, 0, 0, 0)))) (.branch 455 (.leaf (454, (.iload_n 3, 455, 0, 3, 0))) (.branch 456 (.leaf (455, (.iconst 2, 456, 0, 2, 0))) (.leaf (456, (.iadd, 457, 0, 0, 0))))))) (.branch 468 (.branch 461 (.branch 458 (.leaf (457, (.iaload, 458, 0, 0, 0))) (.leaf (458, (.invokevirtual 43, 461, 0, 43, 0)))) (.branch 462 (.leaf (461, (.lcmp, 462, 0, 0, 0))) (.branch 467 (.leaf (462, (.ifCond .eq 1660, 465, 2122, 0, 0))) (.leaf (467, (.aload_n 1, 468, 0, 1, 0)))))) (.branch 471 (.branch 469 (.leaf (468, (.aload_n 0, 469, 0, 0, 0))) (.branch 470 (.leaf (469, (.iload_n 3, 470, 0, 3, 0))) (.leaf (470, (.iconst 1, 471, 0, 1, 0))))) (.branch 472 (.leaf (471, (.iadd, 472, 0, 0, 0))) (.branch 473 (.leaf (472, (.iaload, 473, 0, 0, 0))) (.leaf (473, (.aload_n 0, 474, 0, 0, 0)))))))) (.branch 485 (.branch 479 (.branch 476 (.branch 475 (.leaf (474, (.iload_n 3, 475, 0, 3, 0))) (.leaf (475, (.iconst 2, 476, 0, 2, 0)))) (.branch 477 (.leaf (476, (.iadd, 477, 0, 0, 0))) (.branch 478 (.leaf (477, (.iaload, 478, 0, 0, 0))) (.leaf (478, (.aload_n 0, 479, 0, 0, 0)))))) (.branch 482 (.branch 480 (.leaf (479, (.iload_n 3, 480, 0, 3, 0))) (.branch 481 (.leaf (480, (.iconst 3, 481, 0, 3, 0))) (.leaf (481, (.iadd, 482, 0, 0, 0))))) (.branch 483 (.leaf (482, (.iaload, 483, 0, 0, 0))) (.branch 484 (.leaf (483, (.aload_n 0, 484, 0, 0, 0))) (.leaf (484, (.iload_n 3, 485, 0, 3, 0))))))) (.branch 490 (.branch 487 (.branch 486 (.leaf (485, (.iconst 4, 486, 0, 4, 0))) (.leaf (486, (.iadd, 487, 0, 0, 0)))) (.branch 488 (.leaf (487, (.iaload, 488, 0, 0, 0))) (.branch 489 (.leaf (488, (.aload_n 0, 489, 0, 0, 0))) (.leaf (489, (.iload_n 3, 490, 0, 3, 0)))))) (.branch 493 (.branch 491 (.leaf (490, (.iconst 5, 491, 0, 5, 0))) (.branch 492 (.leaf (491, (.iadd, 492, 0, 0, 0))) (.leaf (492, (.iaload, 493, 0, 0, 0))))) (.branch 496 (.leaf (493, (.invokevirtual 44, 496, 0, 44, 0))) (.branch 497 (.leaf (496, (.aload_n 2, 497, 0, 2, 0))) (.leaf (497, (.aload_n 0, 498, 0, 0, 0)))))))))
set_option maxRecDepth 100000 in
noncomputable def xt_0_498 : Lean.RArray (Nat × xins) := .branch 547 (.branch 519 (.branch 508 (.branch 503 (.branch 500 (.branch 499 (.leaf (498, (.iload_n 3, 499, 0, 3, 0))) (.leaf (499, (.iconst 1, 500, 0, 1, 0)))) (.branch 501 (.leaf (500, (.iadd, 501, 0, 0, 0))) (.branch 502 (.leaf (501, (.iaload, 502, 0, 0, 0))) (.leaf (502, (.aload_n 0, 503, 0, 0, 0)))))) (.branch 505 (.branch 504 (.leaf (503, (.iload_n 3, 504, 0, 3, 0))) (.leaf (504, (.iconst 2, 505, 0, 2, 0)))) (.branch 506 (.leaf (505, (.iadd, 506, 0, 0, 0))) (.branch 507 (.leaf (506, (.iaload, 507, 0, 0, 0))) (.leaf (507, (.aload_n 0, 508, 0, 0, 0))))))) (.branch 513 (.branch 510 (.branch 509 (.leaf (508, (.iload_n 3, 509, 0, 3, 0))) (.leaf (509, (.iconst 3, 510, 0, 3, 0)))) (.branch 511 (.leaf (510, (.iadd, 511, 0, 0, 0))) (.branch 512 (.leaf (511, (.iaload, 512, 0, 0, 0))) (.leaf (512, (.aload_n 0, 513, 0, 0, 0)))))) (.branch 516 (.branch 514 (.leaf (513, (.iload_n 3, 514, 0, 3, 0))) (.branch 515 (.leaf (514, (.iconst 4, 515, 0, 4, 0))) (.leaf (515, (.iadd, 516, 0, 0, 0))))) (.branch 517 (.leaf (516, (.iaload, 517, 0, 0, 0))) (.branch 518 (.leaf (517, (.aload_n 0, 518, 0, 0, 0))) (.leaf (518, (.iload_n 3, 519, 0, 3, 0)))))))) (.branch 536 (.branch 530 (.branch 521 (.branch 520 (.leaf (519, (.iconst 5, 520, 0, 5, 0))) (.leaf (520, (.iadd, 521, 0, 0, 0)))) (.branch 522 (.leaf (521, (.iaload, 522, 0, 0, 0))) (.branch 525 (.leaf (522, (.invokevirtual 48, 525, 0, 46, 0))) (.leaf (525, (.if_icmp .eq 1597, 528, 2122, 0, 0)))))) (.branch 533 (.branch 531 (.leaf (530, (.aload_n 1, 531, 0, 1, 0))) (.branch 532 (.leaf (531, (.aload_n 0, 532, 0, 0, 0))) (.leaf (532, (.iload_n 3, 533, 0, 3, 0))))) (.branch 534 (.leaf (533, (.iconst 1, 534, 0, 1, 0))) (.branch 535 (.leaf (534, (.iadd, 535, 0, 0, 0))) (.leaf (535, (.iaload, 536, 0, 0, 0))))))) (.branch 541 (.branch 538 (.branch 537 (.leaf (536, (.aload_n 0, 537, 0, 0, 0))) (.leaf (537, (.iload_n 3, 538, 0, 3, 0)))) (.branch 539 (.leaf (538, (.iconst 2, 539, 0, 2, 0))) (.branch 540 (.leaf (539, (.iadd, 540, 0, 0, 0))) (.leaf (540, (.iaload, 541, 0, 0, 0)))))) (.branch 544 (.branch 542 (.leaf (541, (.aload_n 0, 542, 0, 0, 0))) (.branch 543 (.leaf (542, (.iload_n 3, 543, 0, 3, 0))) (.leaf (543, (.iconst 3, 544, 0, 3, 0))))) (.branch 545 (.leaf (544, (.iadd, 545, 0, 0, 0))) (.branch 546 (.leaf (545, (.iaload, 546, 0, 0, 0))) (.leaf (546, (.aload_n 0, 547, 0, 0, 0))))))))) (.branch 570 (.branch 559 (.branch 552 (.branch 549 (.branch 548 (.leaf (547, (.iload_n 3, 548, 0, 3, 0))) (.leaf (548, (.iconst 4, 549, 0, 4, 0)))) (.branch 550 (.leaf (549, (.iadd, 550, 0, 0, 0))) (.branch 551 (.leaf (550, (.iaload, 551, 0, 0, 0))) (.leaf (551, (.aload_n 0, 552, 0, 0, 0)))))) (.branch 554 (.branch 553 (.leaf (552, (.iload_n 3, 553, 0, 3, 0))) (.leaf (553, (.iconst 5, 554, 0, 5, 0)))) (.branch 555 (.leaf (554, (.iadd, 555, 0, 0, 0))) (.branch 556 (.leaf (555, (.iaload, 556, 0, 0, 0))) (.leaf (556, (.invokevirtual 49, 559, 0, 47, 0))))))) (.branch 564 (.branch 561 (.branch 560 (.leaf (559, (.aload_n 2, 560, 0, 2, 0))) (.leaf (560, (.aload_n 0, 561, 0, 0, 0)))) (.branch 562 (.leaf (561, (.iload_n 3, 562, 0, 3, 0))) (.branch 563 (.leaf (562, (.iconst 1, 563, 0, 1, 0))) (.leaf (563, (.iadd, 564, 0, 0, 0)))))) (.branch 567 (.branch 565 (.leaf (564, (.iaload, 565, 0, 0, 0))) (.branch 566 (.leaf (565, (.aload_n 0, 566, 0, 0, 0))) (.leaf (566, (.iload_n 3, 567, 0, 3, 0))))) (.branch 568 (.leaf (567, (.iconst 2, 568, 0, 2, 0))) (.branch 569 (.leaf (568, (.iadd, 569, 0, 0, 0))) (.leaf (569, (.iaload, 570, 0, 0, 0)))))))) (.branch 581 (.branch 575 (.branch 572 (.branch 571 (.leaf (570, (.aload_n 0, 571, 0, 0, 0))) (.leaf (571, (.iload_n 3, 572, 0, 3, 0)))) (.branch 573 (.leaf (572, (.iconst 3, 573, 0, 3, 0))) (.branch 574 (.leaf (573, (.iadd, 574, 0, 0, 0))) (.leaf (574, (.iaload, 575, 0, 0, 0)))))) (.branch 578 (.branch 576 (.leaf (575, (.aload_n 0, 576, 0, 0, 0))) (.branch 577 (.leaf (576, (.iload_n 3, 577, 0, 3, 0))) (.leaf (577, (.iconst 4, 578, 0, 4, 0))))) (.branch 579 (.leaf (578, (.iadd, 579, 0, 0, 0))) (.branch 580 (.leaf (579, (.iaload, 580, 0, 0, 0))) (.leaf (580, (.aload_n 0, 581, 0, 0, 0))))))) (.branch 588 (.branch 583 (.branch 582 (.leaf (581, (.iload_n 3, 582, 0, 3, 0))) (.leaf (582, (.iconst 5, 583, 0, 5, 0)))) (.branch 584 (.leaf (583, (.iadd, 584, 0, 0, 0))) (.branch 585 (.leaf (584, (.iaload, 585, 0, 0, 0))) (.leaf (585, (.invokevirtual 53, 588, 0, 49, 0)))))) (.branch 595 (.branch 593 (.leaf (588, (.if_icmp .eq 1534, 591, 2122, 0, 0))) (.branch 594 (.leaf (593, (.aload_n 1, 594, 0, 1, 0))) (.leaf (594, (.aload_n 0, 595, 0, 0, 0))))) (.branch 596 (.leaf (595, (.iload_n 3, 596, 0, 3, 0))) (.branch 597 (.leaf (596, (.iconst 1, 597, 0, 1, 0))) (.leaf (597, (.iadd, 598, 0, 0, 0)))))))))
set_option maxRecDepth 100000 in
noncomputable def xt_0_598 : Lean.RArray (Nat × xins) := .branch 665 (.branch 629 (.branch 616 (.branch 605 (.branch 602 (.branch 599 (.leaf (598, (.iaload, 599, 0, 0, 0))) (.leaf (599, (.invokevirtual 54, 602, 0, 51, 0)))) (.branch 603 (.leaf (602, (.aload_n 2, 603, 0, 2, 0))) (.branch 604 (.leaf (603, (.aload_n 0, 604, 0, 0, 0))) (.leaf (604, (.iload_n 3, 605, 0, 3, 0)))))) (.branch 607 (.branch 606 (.leaf (605, (.iconst 1, 606, 0, 1, 0))) (.leaf (606, (.iadd, 607, 0, 0, 0)))) (.branch 608 (.leaf (607, (.iaload, 608, 0, 0, 0))) (.branch 611 (.leaf (608, (.invokevirtual 58, 611, 0, 62, 0))) (.leaf (611, (.if_icmp .eq 1511, 614, 2122, 0, 0))))))) (.branch 621 (.branch 618 (.branch 617 (.leaf (616, (.aload_n 1, 617, 0, 1, 0))) (.leaf (617, (.aload_n 0, 618, 0, 0, 0)))) (.branch 619 (.leaf (618, (.iload_n 3, 619, 0, 3, 0))) (.branch 620 (.leaf (619, (.iconst 1, 620, 0, 1, 0))) (.leaf (620, (.iadd, 621, 0, 0, 0)))))) (.branch 626 (.branch 622 (.leaf (621, (.iaload, 622, 0, 0, 0))) (.branch 625 (.leaf (622, (.invokevirtual 59, 625, 0, 69, 0))) (.leaf (625, (.aload_n 2, 626, 0, 2, 0))))) (.branch 627 (.leaf (626, (.aload_n 0, 627, 0, 0, 0))) (.branch 628 (.leaf (627, (.iload_n 3, 628, 0, 3, 0))) (.leaf (628, (.iconst 1, 629, 0, 1, 0)))))))) (.branch 648 (.branch 640 (.branch 631 (.branch 630 (.leaf (629, (.iadd, 630, 0, 0, 0))) (.leaf (630, (.iaload, 631, 0, 0, 0)))) (.branch 634 (.leaf (631, (.invokevirtual 62, 634, 0, 71, 0))) (.branch 639 (.leaf (634, (.if_icmp .eq 1488, 637, 2122, 0, 0))) (.leaf (639, (.aload_n 1, 640, 0, 1, 0)))))) (.branch 643 (.branch 641 (.leaf (640, (.aload_n 0, 641, 0, 0, 0))) (.branch 642 (.leaf (641, (.iload_n 3, 642, 0, 3, 0))) (.leaf (642, (.iconst 1, 643, 0, 1, 0))))) (.branch 644 (.leaf (643, (.iadd, 644, 0, 0, 0))) (.branch 645 (.leaf (644, (.iaload, 645, 0, 0, 0))) (.leaf (645, (.invokevirtual 63, 648, 0, 72, 0))))))) (.branch 653 (.branch 650 (.branch 649 (.leaf (648, (.aload_n 2, 649, 0, 2, 0))) (.leaf (649, (.aload_n 0, 650, 0, 0, 0)))) (.branch 651 (.leaf (650, (.iload_n 3, 651, 0, 3, 0))) (.branch 652 (.leaf (651, (.iconst 1, 652, 0, 1, 0))) (.leaf (652, (.iadd, 653, 0, 0, 0)))))) (.branch 662 (.branch 654 (.leaf (653, (.iaload, 654, 0, 0, 0))) (.branch 657 (.leaf (654, (.invokevirtual 66, 657, 0, 73, 0))) (.leaf (657, (.if_icmp .eq 1465, 660, 2122, 0, 0))))) (.branch 663 (.leaf (662, (.aload_n 1, 663, 0, 1, 0))) (.branch 664 (.leaf (663, (.aload_n 0, 664, 0, 0, 0))) (.leaf (664, (.iload_n 3, 665, 0, 3, 0))))))))) (.branch 696 (.branch 677 (.branch 672 (.branch 667 (.branch 666 (.leaf (665, (.iconst 1, 666, 0, 1, 0))) (.leaf (666, (.iadd, 667, 0, 0, 0)))) (.branch 668 (.leaf (667, (.iaload, 668, 0, 0, 0))) (.branch 671 (.leaf (668, (.invokevirtual 67, 671, 0, 74, 0))) (.leaf (671, (.aload_n 2, 672, 0, 2, 0)))))) (.branch 674 (.branch 673 (.leaf (672, (.aload_n 0, 673, 0, 0, 0))) (.leaf (673, (.iload_n 3, 674, 0, 3, 0)))) (.branch 675 (.leaf (674, (.iconst 1, 675, 0, 1, 0))) (.branch 676 (.leaf (675, (.iadd, 676, 0, 0, 0))) (.leaf (676, (.iaload, 677, 0, 0, 0))))))) (.branch 688 (.branch 685 (.branch 680 (.leaf (677, (.invokevirtual 70, 680, 0, 78, 0))) (.leaf (680, (.if_icmp .eq 1442, 683, 2122, 0, 0)))) (.branch 686 (.leaf (685, (.aload_n 1, 686, 0, 1, 0))) (.branch 687 (.leaf (686, (.aload_n 0, 687, 0, 0, 0))) (.leaf (687, (.iload_n 3, 688, 0, 3, 0)))))) (.branch 691 (.branch 689 (.leaf (688, (.iconst 1, 689, 0, 1, 0))) (.branch 690 (.leaf (689, (.iadd, 690, 0, 0, 0))) (.leaf (690, (.iaload, 691, 0, 0, 0))))) (.branch 694 (.leaf (691, (.invokevirtual 71, 694, 0, 79, 0))) (.branch 695 (.leaf (694, (.aload_n 2, 695, 0, 2, 0))) (.leaf (695, (.aload_n 0, 696, 0, 0, 0)))))))) (.branch 713 (.branch 703 (.branch 698 (.branch 697 (.leaf (696, (.iload_n 3, 697, 0, 3, 0))) (.leaf (697, (.iconst 1, 698, 0, 1, 0)))) (.branch 699 (.leaf (698, (.iadd, 699, 0, 0, 0))) (.branch 700 (.leaf (699, (.iaload, 700, 0, 0, 0))) (.leaf (700, (.invokevirtual 74, 703, 0, 81, 0)))))) (.branch 710 (.branch 708 (.leaf (703, (.if_icmp .eq 1419, 706, 2122, 0, 0))) (.branch 709 (.leaf (708, (.aload_n 1, 709, 0, 1, 0))) (.leaf (709, (.aload_n 0, 710, 0, 0, 0))))) (.branch 711 (.leaf (710, (.iload_n 3, 711, 0, 3, 0))) (.branch 712 (.leaf (711, (.iconst 1, 712, 0, 1, 0))) (.leaf (712, (.iadd, 713, 0, 0, 0))))))) (.branch 718 (.branch 715 (.branch 714 (.leaf (713, (.iaload, 714, 0, 0, 0))) (.leaf (714, (.aload_n 0, 715, 0, 0, 0)))) (.branch 716 (.leaf (715, (.iload_n 3, 716, 0, 3, 0))) (.branch 717 (.leaf (716, (.iconst 2, 717, 0, 2, 0))) (.leaf (717, (.iadd, 718, 0, 0, 0)))))) (.branch 723 (.branch 719 (.leaf (718, (.iaload, 719, 0, 0, 0))) (.branch 722 (.leaf (719, (.invokevirtual 75, 722, 0, 83, 0))) (.leaf (722, (.aload_n 2, 723, 0, 2, 0))))) (.branch 724 (.leaf (723, (.aload_n 0, 724, 0, 0, 0))) (.branch 725 (.leaf (724, (.iload_n 3, 725, 0, 3, 0))) (.leaf (725, (.iconst 1, 726, 0, 1, 0)))))))))
set_option maxRecDepth 100000 in
noncomputable def xt_0_726 : Lean.RArray (Nat × xins) := .branch 785 (.branch 755 (.branch 742 (.branch 731 (.branch 728 (.branch 727 (.leaf (726, (.iadd, 727, 0, 0, 0))) (.leaf (727, (.iaload, 728, 0, 0, 0)))) (.branch 729 (.leaf (728, (.aload_n 0, 729, 0, 0, 0))) (.branch 730 (.leaf (729, (.iload_n 3, 730, 0, 3, 0))) (.leaf (730, (.iconst 2, 731, 0, 2, 0)))))) (.branch 733 (.branch 732 (.leaf (731, (.iadd, 732, 0, 0, 0))) (.leaf (732, (.iaload, 733, 0, 0, 0)))) (.branch 736 (.leaf (733, (.invokevirtual 79, 736, 0, 85, 0))) (.branch 741 (.leaf (736, (.if_icmp .eq 1386, 739, 2122, 0, 0))) (.leaf (741, (.aload_n 1, 742, 0, 1, 0))))))) (.branch 747 (.branch 744 (.branch 743 (.leaf (742, (.aload_n 0, 743, 0, 0, 0))) (.leaf (743, (.iload_n 3, 744, 0, 3, 0)))) (.branch 745 (.leaf (744, (.iconst 1, 745, 0, 1, 0))) (.branch 746 (.leaf (745, (.iadd, 746, 0, 0, 0))) (.leaf (746, (.iaload, 747, 0, 0, 0)))))) (.branch 750 (.branch 748 (.leaf (747, (.aload_n 0, 748, 0, 0, 0))) (.branch 749 (.leaf (748, (.iload_n 3, 749, 0, 3, 0))) (.leaf (749, (.iconst 2, 750, 0, 2, 0))))) (.branch 751 (.leaf (750, (.iadd, 751, 0, 0, 0))) (.branch 752 (.leaf (751, (.iaload, 752, 0, 0, 0))) (.leaf (752, (.invokevirtual 80, 755, 0, 87, 0)))))))) (.branch 766 (.branch 760 (.branch 757 (.branch 756 (.leaf (755, (.aload_n 2, 756, 0, 2, 0))) (.leaf (756, (.aload_n 0, 757, 0, 0, 0)))) (.branch 758 (.leaf (757, (.iload_n 3, 758, 0, 3, 0))) (.branch 759 (.leaf (758, (.iconst 1, 759, 0, 1, 0))) (.leaf (759, (.iadd, 760, 0, 0, 0)))))) (.branch 763 (.branch 761 (.leaf (760, (.iaload, 761, 0, 0, 0))) (.branch 762 (.leaf (761, (.aload_n 0, 762, 0, 0, 0))) (.leaf (762, (.iload_n 3, 763, 0, 3, 0))))) (.branch 764 (.leaf (763, (.iconst 2, 764, 0, 2, 0))) (.branch 765 (.leaf (764, (.iadd, 765, 0, 0, 0))) (.leaf (765, (.iaload, 766, 0, 0, 0))))))) (.branch 777 (.branch 774 (.branch 769 (.leaf (766, (.invokevirtual 83, 769, 0, 89, 0))) (.leaf (769, (.if_icmp .eq 1353, 772, 2122, 0, 0)))) (.branch 775 (.leaf (774, (.aload_n 1, 775, 0, 1, 0))) (.branch 776 (.leaf (775, (.aload_n 0, 776, 0, 0, 0))) (.leaf (776, (.iload_n 3, 777, 0, 3, 0)))))) (.branch 780 (.branch 778 (.leaf (777, (.iconst 1, 778, 0, 1, 0))) (.branch 779 (.leaf (778, (.iadd, 779, 0, 0, 0))) (.leaf (779, (.iaload, 780, 0, 0, 0))))) (.branch 783 (.leaf (780, (.invokevirtual 84, 783, 0, 91, 0))) (.branch 784 (.leaf (783, (.aload_n 2, 784, 0, 2, 0))) (.leaf (784, (.aload_n 0, 785, 0, 0, 0))))))))) (.branch 814 (.branch 801 (.branch 792 (.branch 787 (.branch 786 (.leaf (785, (.iload_n 3, 786, 0, 3, 0))) (.leaf (786, (.iconst 1, 787, 0, 1, 0)))) (.branch 788 (.leaf (787, (.iadd, 788, 0, 0, 0))) (.branch 789 (.leaf (788, (.iaload, 789, 0, 0, 0))) (.leaf (789, (.invokevirtual 87, 792, 0, 92, 0)))))) (.branch 798 (.branch 797 (.leaf (792, (.if_icmp .eq 1330, 795, 2122, 0, 0))) (.leaf (797, (.aload_n 1, 798, 0, 1, 0)))) (.branch 799 (.leaf (798, (.aload_n 0, 799, 0, 0, 0))) (.branch 800 (.leaf (799, (.iload_n 3, 800, 0, 3, 0))) (.leaf (800, (.iconst 1, 801, 0, 1, 0))))))) (.branch 806 (.branch 803 (.branch 802 (.leaf (801, (.iadd, 802, 0, 0, 0))) (.leaf (802, (.iaload, 803, 0, 0, 0)))) (.branch 804 (.leaf (803, (.aload_n 0, 804, 0, 0, 0))) (.branch 805 (.leaf (804, (.iload_n 3, 805, 0, 3, 0))) (.leaf (805, (.iconst 2, 806, 0, 2, 0)))))) (.branch 811 (.branch 807 (.leaf (806, (.iadd, 807, 0, 0, 0))) (.branch 808 (.leaf (807, (.iaload, 808, 0, 0, 0))) (.leaf (808, (.invokevirtual 88, 811, 0, 93, 0))))) (.branch 812 (.leaf (811, (.aload_n 2, 812, 0, 2, 0))) (.branch 813 (.leaf (812, (.aload_n 0, 813, 0, 0, 0))) (.leaf (813, (.iload_n 3, 814, 0, 3, 0)))))))) (.branch 831 (.branch 819 (.branch 816 (.branch 815 (.leaf (814, (.iconst 1, 815, 0, 1, 0))) (.leaf (815, (.iadd, 816, 0, 0, 0)))) (.branch 817 (.leaf (816, (.iaload, 817, 0, 0, 0))) (.branch 818 (.leaf (817, (.aload_n 0, 818, 0, 0, 0))) (.leaf (818, (.iload_n 3, 819, 0, 3, 0)))))) (.branch 822 (.branch 820 (.leaf (819, (.iconst 2, 820, 0, 2, 0))) (.branch 821 (.leaf (820, (.iadd, 821, 0, 0, 0))) (.leaf (821, (.iaload, 822, 0, 0, 0))))) (.branch 825 (.leaf (822, (.invokevirtual 91, 825, 0, 94, 0))) (.branch 830 (.leaf (825, (.if_icmp .eq 1297, 828, 2122, 0, 0))) (.leaf (830, (.aload_n 1, 831, 0, 1, 0))))))) (.branch 836 (.branch 833 (.branch 832 (.leaf (831, (.aload_n 0, 832, 0, 0, 0))) (.leaf (832, (.iload_n 3, 833, 0, 3, 0)))) (.branch 834 (.leaf (833, (.iconst 1, 834, 0, 1, 0))) (.branch 835 (.leaf (834, (.iadd, 835, 0, 0, 0))) (.leaf (835, (.iaload, 836, 0, 0, 0)))))) (.branch 839 (.branch 837 (.leaf (836, (.aload_n 0, 837, 0, 0, 0))) (.branch 838 (.leaf (837, (.iload_n 3, 838, 0, 3, 0))) (.leaf (838, (.iconst 2, 839, 0, 2, 0))))) (.branch 840 (.leaf (839, (.iadd, 840, 0, 0, 0))) (.branch 841 (.leaf (840, (.iaload, 841, 0, 0, 0))) (.leaf (841, (.invokevirtual 92, 844, 0, 95, 0)))))))))
set_option maxRecDepth 100000 in
noncomputable def xt_0_844 : Lean.RArray (Nat × xins) := .branch 895 (.branch 871 (.branch 854 (.branch 849 (.branch 846 (.branch 845 (.leaf (844, (.aload_n 2, 845, 0, 2, 0))) (.leaf (845, (.aload_n 0, 846, 0, 0, 0)))) (.branch 847 (.leaf (846, (.iload_n 3, 847, 0, 3, 0))) (.branch 848 (.leaf (847, (.iconst 1, 848, 0, 1, 0))) (.leaf (848, (.iadd, 849, 0, 0, 0)))))) (.branch 851 (.branch 850 (.leaf (849, (.iaload, 850, 0, 0, 0))) (.leaf (850, (.aload_n 0, 851, 0, 0, 0)))) (.branch 852 (.leaf (851, (.iload_n 3, 852, 0, 3, 0))) (.branch 853 (.leaf (852, (.iconst 2, 853, 0, 2, 0))) (.leaf (853, (.iadd, 854, 0, 0, 0))))))) (.branch 865 (.branch 858 (.branch 855 (.leaf (854, (.iaload, 855, 0, 0, 0))) (.leaf (855, (.invokevirtual 95, 858, 0, 97, 0)))) (.branch 863 (.leaf (858, (.if_icmp .eq 1264, 861, 2122, 0, 0))) (.branch 864 (.leaf (863, (.aload_n 1, 864, 0, 1, 0))) (.leaf (864, (.aload_n 0, 865, 0, 0, 0)))))) (.branch 868 (.branch 866 (.leaf (865, (.iload_n 3, 866, 0, 3, 0))) (.branch 867 (.leaf (866, (.iconst 1, 867, 0, 1, 0))) (.leaf (867, (.iadd, 868, 0, 0, 0))))) (.branch 869 (.leaf (868, (.iaload, 869, 0, 0, 0))) (.branch 870 (.leaf (869, (.aload_n 0, 870, 0, 0, 0))) (.leaf (870, (.iload_n 3, 871, 0, 3, 0)))))))) (.branch 882 (.branch 876 (.branch 873 (.branch 872 (.leaf (871, (.iconst 2, 872, 0, 2, 0))) (.leaf (872, (.iadd, 873, 0, 0, 0)))) (.branch 874 (.leaf (873, (.iaload, 874, 0, 0, 0))) (.branch 875 (.leaf (874, (.aload_n 0, 875, 0, 0, 0))) (.leaf (875, (.iload_n 3, 876, 0, 3, 0)))))) (.branch 879 (.branch 877 (.leaf (876, (.iconst 3, 877, 0, 3, 0))) (.branch 878 (.leaf (877, (.iadd, 878, 0, 0, 0))) (.leaf (878, (.iaload, 879, 0, 0, 0))))) (.branch 880 (.leaf (879, (.aload_n 0, 880, 0, 0, 0))) (.branch 881 (.leaf (880, (.iload_n 3, 881, 0, 3, 0))) (.leaf (881, (.iconst 4, 882, 0, 4, 0))))))) (.branch 889 (.branch 884 (.branch 883 (.leaf (882, (.iadd, 883, 0, 0, 0))) (.leaf (883, (.iaload, 884, 0, 0, 0)))) (.branch 887 (.leaf (884, (.invokevirtual 96, 887, 0, 99, 0))) (.branch 888 (.leaf (887, (.aload_n 2, 888, 0, 2, 0))) (.leaf (888, (.aload_n 0, 889, 0, 0, 0)))))) (.branch 892 (.branch 890 (.leaf (889, (.iload_n 3, 890, 0, 3, 0))) (.branch 891 (.leaf (890, (.iconst 1, 891, 0, 1, 0))) (.leaf (891, (.iadd, 892, 0, 0, 0))))) (.branch 893 (.leaf (892, (.iaload, 893, 0, 0, 0))) (.branch 894 (.leaf (893, (.aload_n 0, 894, 0, 0, 0))) (.leaf (894, (.iload_n 3, 895, 0, 3, 0))))))))) (.branch 922 (.branch 905 (.branch 900 (.branch 897 (.branch 896 (.leaf (895, (.iconst 2, 896, 0, 2, 0))) (.leaf (896, (.iadd, 897, 0, 0, 0)))) (.branch 898 (.leaf (897, (.iaload, 898, 0, 0, 0))) (.branch 899 (.leaf (898, (.aload_n 0, 899, 0, 0, 0))) (.leaf (899, (.iload_n 3, 900, 0, 3, 0)))))) (.branch 902 (.branch 901 (.leaf (900, (.iconst 3, 901, 0, 3, 0))) (.leaf (901, (.iadd, 902, 0, 0, 0)))) (.branch 903 (.leaf (902, (.iaload, 903, 0, 0, 0))) (.branch 904 (.leaf (903, (.aload_n 0, 904, 0, 0, 0))) (.leaf (904, (.iload_n 3, 905, 0, 3, 0))))))) (.branch 916 (.branch 907 (.branch 906 (.leaf (905, (.iconst 4, 906, 0, 4, 0))) (.leaf (906, (.iadd, 907, 0, 0, 0)))) (.branch 908 (.leaf (907, (.iaload, 908, 0, 0, 0))) (.branch 911 (.leaf (908, (.invokevirtual 100, 911, 0, 101, 0))) (.leaf (911, (.if_icmp .eq 1211, 914, 2122, 0, 0)))))) (.branch 919 (.branch 917 (.leaf (916, (.aload_n 1, 917, 0, 1, 0))) (.branch 918 (.leaf (917, (.aload_n 0, 918, 0, 0, 0))) (.leaf (918, (.iload_n 3, 919, 0, 3, 0))))) (.branch 920 (.leaf (919, (.iconst 1, 920, 0, 1, 0))) (.branch 921 (.leaf (920, (.iadd, 921, 0, 0, 0))) (.leaf (921, (.iaload, 922, 0, 0, 0)))))))) (.branch 933 (.branch 927 (.branch 924 (.branch 923 (.leaf (922, (.aload_n 0, 923, 0, 0, 0))) (.leaf (923, (.iload_n 3, 924, 0, 3, 0)))) (.branch 925 (.leaf (924, (.iconst 2, 925, 0, 2, 0))) (.branch 926 (.leaf (925, (.iadd, 926, 0, 0, 0))) (.leaf (926, (.iaload, 927, 0, 0, 0)))))) (.branch 930 (.branch 928 (.leaf (927, (.aload_n 0, 928, 0, 0, 0))) (.branch 929 (.leaf (928, (.iload_n 3, 929, 0, 3, 0))) (.leaf (929, (.iconst 3, 930, 0, 3, 0))))) (.branch 931 (.leaf (930, (.iadd, 931, 0, 0, 0))) (.branch 932 (.leaf (931, (.iaload, 932, 0, 0, 0))) (.leaf (932, (.aload_n 0, 933, 0, 0, 0))))))) (.branch 940 (.branch 935 (.branch 934 (.leaf (933, (.iload_n 3, 934, 0, 3, 0))) (.leaf (934, (.iconst 4, 935, 0, 4, 0)))) (.branch 936 (.leaf (935, (.iadd, 936, 0, 0, 0))) (.branch 937 (.leaf (936, (.iaload, 937, 0, 0, 0))) (.leaf (937, (.invokevirtual 101, 940, 0, 103, 0)))))) (.branch 943 (.branch 941 (.leaf (940, (.aload_n 2, 941, 0, 2, 0))) (.branch 942 (.leaf (941, (.aload_n 0, 942, 0, 0, 0))) (.leaf (942, (.iload_n 3, 943, 0, 3, 0))))) (.branch 944 (.leaf (943, (.iconst 1, 944, 0, 1, 0))) (.branch 945 (.leaf (944, (.iadd, 945, 0, 0, 0))) (.leaf (945, (.iaload, 946, 0, 0, 0)))))))))
set_option maxRecDepth 100000 in
noncomputable def xt_0_946 : Lean.RArray (Nat × xins) := .branch 997 (.branch 973 (.branch 956 (.branch 951 (.branch 948 (.branch 947 (.leaf (946, (.aload_n 0, 947, 0, 0, 0))) (.leaf (947, (.iload_n 3, 948, 0, 3, 0)))) (.branch 949 (.leaf (948, (.iconst 2, 949, 0, 2, 0))) (.branch 950 (.leaf (949, (.iadd, 950, 0, 0, 0))) (.leaf (950, (.iaload, 951, 0, 0, 0)))))) (.branch 953 (.branch 952 (.leaf (951, (.aload_n 0, 952, 0, 0, 0))) (.leaf (952, (.iload_n 3, 953, 0, 3, 0)))) (.branch 954 (.leaf (953, (.iconst 3, 954, 0, 3, 0))) (.branch 955 (.leaf (954, (.iadd, 955, 0, 0, 0))) (.leaf (955, (.iaload, 956, 0, 0, 0))))))) (.branch 961 (.branch 958 (.branch 957 (.leaf (956, (.aload_n 0, 957, 0, 0, 0))) (.leaf (957, (.iload_n 3, 958, 0, 3, 0)))) (.branch 959 (.leaf (958, (.iconst 4, 959, 0, 4, 0))) (.branch 960 (.leaf (959, (.iadd, 960, 0, 0, 0))) (.leaf (960, (.iaload, 961, 0, 0, 0)))))) (.branch 970 (.branch 964 (.leaf (961, (.invokevirtual 104, 964, 0, 104, 0))) (.branch 969 (.leaf (964, (.if_icmp .eq 1158, 967, 2122, 0, 0))) (.leaf (969, (.aload_n 1, 970, 0, 1, 0))))) (.branch 971 (.leaf (970, (.aload_n 0, 971, 0, 0, 0))) (.branch 972 (.leaf (971, (.iload_n 3, 972, 0, 3, 0))) (.leaf (972, (.iconst 1, 973, 0, 1, 0)))))))) (.branch 984 (.branch 978 (.branch 975 (.branch 974 (.leaf (973, (.iadd, 974, 0, 0, 0))) (.leaf (974, (.iaload, 975, 0, 0, 0)))) (.branch 976 (.leaf (975, (.aload_n 0, 976, 0, 0, 0))) (.branch 977 (.leaf (976, (.iload_n 3, 977, 0, 3, 0))) (.leaf (977, (.iconst 2, 978, 0, 2, 0)))))) (.branch 981 (.branch 979 (.leaf (978, (.iadd, 979, 0, 0, 0))) (.branch 980 (.leaf (979, (.iaload, 980, 0, 0, 0))) (.leaf (980, (.aload_n 0, 981, 0, 0, 0))))) (.branch 982 (.leaf (981, (.iload_n 3, 982, 0, 3, 0))) (.branch 983 (.leaf (982, (.iconst 3, 983, 0, 3, 0))) (.leaf (983, (.iadd, 984, 0, 0, 0))))))) (.branch 989 (.branch 986 (.branch 985 (.leaf (984, (.iaload, 985, 0, 0, 0))) (.leaf (985, (.aload_n 0, 986, 0, 0, 0)))) (.branch 987 (.leaf (986, (.iload_n 3, 987, 0, 3, 0))) (.branch 988 (.leaf (987, (.iconst 4, 988, 0, 4, 0))) (.leaf (988, (.iadd, 989, 0, 0, 0)))))) (.branch 994 (.branch 990 (.leaf (989, (.iaload, 990, 0, 0, 0))) (.branch 993 (.leaf (990, (.invokevirtual 105, 993, 0, 105, 0))) (.leaf (993, (.aload_n 2, 994, 0, 2, 0))))) (.branch 995 (.leaf (994, (.aload_n 0, 995, 0, 0, 0))) (.branch 996 (.leaf (995, (.iload_n 3, 996, 0, 3, 0))) (.leaf (996, (.iconst 1, 997, 0, 1, 0))))))))) (.branch 1024 (.branch 1007 (.branch 1002 (.branch 999 (.branch 998 (.leaf (997, (.iadd, 998, 0, 0, 0))) (.leaf (998, (.iaload, 999, 0, 0, 0)))) (.branch 1000 (.leaf (999, (.aload_n 0, 1000, 0, 0, 0))) (.branch 1001 (.leaf (1000, (.iload_n 3, 1001, 0, 3, 0))) (.leaf (1001, (.iconst 2, 1002, 0, 2, 0)))))) (.branch 1004 (.branch 1003 (.leaf (1002, (.iadd, 1003, 0, 0, 0))) (.leaf (1003, (.iaload, 1004, 0, 0, 0)))) (.branch 1005 (.leaf (1004, (.aload_n 0, 1005, 0, 0, 0))) (.branch 1006 (.leaf (1005, (.iload_n 3, 1006, 0, 3, 0))) (.leaf (1006, (.iconst 3, 1007, 0, 3, 0))))))) (.branch 1012 (.branch 1009 (.branch 1008 (.leaf (1007, (.iadd, 1008, 0, 0, 0))) (.leaf (1008, (.iaload, 1009, 0, 0, 0)))) (.branch 1010 (.leaf (1009, (.aload_n 0, 1010, 0, 0, 0))) (.branch 1011 (.leaf (1010, (.iload_n 3, 1011, 0, 3, 0))) (.leaf (1011, (.iconst 4, 1012, 0, 4, 0)))))) (.branch 1017 (.branch 1013 (.leaf (1012, (.iadd, 1013, 0, 0, 0))) (.branch 1014 (.leaf (1013, (.iaload, 1014, 0, 0, 0))) (.leaf (1014, (.invokevirtual 108, 1017, 0, 106, 0))))) (.branch 1022 (.leaf (1017, (.if_icmp .eq 1105, 1020, 2122, 0, 0))) (.branch 1023 (.leaf (1022, (.aload_n 1, 1023, 0, 1, 0))) (.leaf (1023, (.aload_n 0, 1024, 0, 0, 0)))))))) (.branch 1035 (.branch 1029 (.branch 1026 (.branch 1025 (.leaf (1024, (.iload_n 3, 1025, 0, 3, 0))) (.leaf (1025, (.iconst 1, 1026, 0, 1, 0)))) (.branch 1027 (.leaf (1026, (.iadd, 1027, 0, 0, 0))) (.branch 1028 (.leaf (1027, (.iaload, 1028, 0, 0, 0))) (.leaf (1028, (.aload_n 0, 1029, 0, 0, 0)))))) (.branch 1032 (.branch 1030 (.leaf (1029, (.iload_n 3, 1030, 0, 3, 0))) (.branch 1031 (.leaf (1030, (.iconst 2, 1031, 0, 2, 0))) (.leaf (1031, (.iadd, 1032, 0, 0, 0))))) (.branch 1033 (.leaf (1032, (.iaload, 1033, 0, 0, 0))) (.branch 1034 (.leaf (1033, (.aload_n 0, 1034, 0, 0, 0))) (.leaf (1034, (.iload_n 3, 1035, 0, 3, 0))))))) (.branch 1042 (.branch 1037 (.branch 1036 (.leaf (1035, (.iconst 3, 1036, 0, 3, 0))) (.leaf (1036, (.iadd, 1037, 0, 0, 0)))) (.branch 1038 (.leaf (1037, (.iaload, 1038, 0, 0, 0))) (.branch 1041 (.leaf (1038, (.invokevirtual 109, 1041, 0, 107, 0))) (.leaf (1041, (.aload_n 2, 1042, 0, 2, 0)))))) (.branch 1045 (.branch 1043 (.leaf (1042, (.aload_n 0, 1043, 0, 0, 0))) (.branch 1044 (.leaf (1043, (.iload_n 3, 1044, 0, 3, 0))) (.leaf (1044, (.iconst 1, 1045, 0, 1, 0))))) (.branch 1046 (.leaf (1045, (.iadd, 1046, 0, 0, 0))) (.branch 1047 (.leaf (1046, (.iaload, 1047, 0, 0, 0))) (.leaf (1047, (.aload_n 0, 1048, 0, 0, 0)))))))))
set_option maxRecDepth 100000 in
noncomputable def xt_0_1048 : Lean.RArray (Nat × xins) := .branch 1099 (.branch 1075 (.branch 1060 (.branch 1053 (.branch 1050 (.branch 1049 (.leaf (1048, (.iload_n 3, 1049, 0, 3, 0))) (.leaf (1049, (.iconst 2, 1050, 0, 2, 0)))) (.branch 1051 (.leaf (1050, (.iadd, 1051, 0, 0, 0))) (.branch 1052 (.leaf (1051, (.iaload, 1052, 0, 0, 0))) (.leaf (1052, (.aload_n 0, 1053, 0, 0, 0)))))) (.branch 1055 (.branch 1054 (.leaf (1053, (.iload_n 3, 1054, 0, 3, 0))) (.leaf (1054, (.iconst 3, 1055, 0, 3, 0)))) (.branch 1056 (.leaf (1055, (.iadd, 1056, 0, 0, 0))) (.branch 1057 (.leaf (1056, (.iaload, 1057, 0, 0, 0))) (.leaf (1057, (.invokevirtual 113, 1060, 0, 109, 0))))))) (.branch 1069 (.branch 1066 (.branch 1065 (.leaf (1060, (.if_icmp .eq 1062, 1063, 2122, 0, 0))) (.leaf (1065, (.aload_n 1, 1066, 0, 1, 0)))) (.branch 1067 (.leaf (1066, (.aload_n 0, 1067, 0, 0, 0))) (.branch 1068 (.leaf (1067, (.iload_n 3, 1068, 0, 3, 0))) (.leaf (1068, (.iconst 1, 1069, 0, 1, 0)))))) (.branch 1072 (.branch 1070 (.leaf (1069, (.iadd, 1070, 0, 0, 0))) (.branch 1071 (.leaf (1070, (.iaload, 1071, 0, 0, 0))) (.leaf (1071, (.aload_n 0, 1072, 0, 0, 0))))) (.branch 1073 (.leaf (1072, (.iload_n 3, 1073, 0, 3, 0))) (.branch 1074 (.leaf (1073, (.iconst 2, 1074, 0, 2, 0))) (.leaf (1074, (.iadd, 1075, 0, 0, 0)))))))) (.branch 1086 (.branch 1080 (.branch 1077 (.branch 1076 (.leaf (1075, (.iaload, 1076, 0, 0, 0))) (.leaf (1076, (.aload_n 0, 1077, 0, 0, 0)))) (.branch 1078 (.leaf (1077, (.iload_n 3, 1078, 0, 3, 0))) (.branch 1079 (.leaf (1078, (.iconst 3, 1079, 0, 3, 0))) (.leaf (1079, (.iadd, 1080, 0, 0, 0)))))) (.branch 1083 (.branch 1081 (.leaf (1080, (.iaload, 1081, 0, 0, 0))) (.branch 1082 (.leaf (1081, (.aload_n 0, 1082, 0, 0, 0))) (.leaf (1082, (.iload_n 3, 1083, 0, 3, 0))))) (.branch 1084 (.leaf (1083, (.iconst 4, 1084, 0, 4, 0))) (.branch 1085 (.leaf (1084, (.iadd, 1085, 0, 0, 0))) (.leaf (1085, (.iaload, 1086, 0, 0, 0))))))) (.branch 1093 (.branch 1090 (.branch 1089 (.leaf (1086, (.invokevirtual 114, 1089, 0, 111, 0))) (.leaf (1089, (.aload_n 2, 1090, 0, 2, 0)))) (.branch 1091 (.leaf (1090, (.aload_n 0, 1091, 0, 0, 0))) (.branch 1092 (.leaf (1091, (.iload_n 3, 1092, 0, 3, 0))) (.leaf (1092, (.iconst 1, 1093, 0, 1, 0)))))) (.branch 1096 (.branch 1094 (.leaf (1093, (.iadd, 1094, 0, 0, 0))) (.branch 1095 (.leaf (1094, (.iaload, 1095, 0, 0, 0))) (.leaf (1095, (.aload_n 0, 1096, 0, 0, 0))))) (.branch 1097 (.leaf (1096, (.iload_n 3, 1097, 0, 3, 0))) (.branch 1098 (.leaf (1097, (.iconst 2, 1098, 0, 2, 0))) (.leaf (1098, (.iadd, 1099, 0, 0, 0))))))))) (.branch 1127 (.branch 1110 (.branch 1104 (.branch 1101 (.branch 1100 (.leaf (1099, (.iaload, 1100, 0, 0, 0))) (.leaf (1100, (.aload_n 0, 1101, 0, 0, 0)))) (.branch 1102 (.leaf (1101, (.iload_n 3, 1102, 0, 3, 0))) (.branch 1103 (.leaf (1102, (.iconst 3, 1103, 0, 3, 0))) (.leaf (1103, (.iadd, 1104, 0, 0, 0)))))) (.branch 1107 (.branch 1105 (.leaf (1104, (.iaload, 1105, 0, 0, 0))) (.branch 1106 (.leaf (1105, (.aload_n 0, 1106, 0, 0, 0))) (.leaf (1106, (.iload_n 3, 1107, 0, 3, 0))))) (.branch 1108 (.leaf (1107, (.iconst 4, 1108, 0, 4, 0))) (.branch 1109 (.leaf (1108, (.iadd, 1109, 0, 0, 0))) (.leaf (1109, (.iaload, 1110, 0, 0, 0))))))) (.branch 1121 (.branch 1118 (.branch 1113 (.leaf (1110, (.invokevirtual 117, 1113, 0, 112, 0))) (.leaf (1113, (.if_icmp .eq 1009, 1116, 2122, 0, 0)))) (.branch 1119 (.leaf (1118, (.aload_n 1, 1119, 0, 1, 0))) (.branch 1120 (.leaf (1119, (.aload_n 0, 1120, 0, 0, 0))) (.leaf (1120, (.iload_n 3, 1121, 0, 3, 0)))))) (.branch 1124 (.branch 1122 (.leaf (1121, (.iconst 1, 1122, 0, 1, 0))) (.branch 1123 (.leaf (1122, (.iadd, 1123, 0, 0, 0))) (.leaf (1123, (.iaload, 1124, 0, 0, 0))))) (.branch 1125 (.leaf (1124, (.aload_n 0, 1125, 0, 0, 0))) (.branch 1126 (.leaf (1125, (.iload_n 3, 1126, 0, 3, 0))) (.leaf (1126, (.iconst 2, 1127, 0, 2, 0)))))))) (.branch 1138 (.branch 1132 (.branch 1129 (.branch 1128 (.leaf (1127, (.iadd, 1128, 0, 0, 0))) (.leaf (1128, (.iaload, 1129, 0, 0, 0)))) (.branch 1130 (.leaf (1129, (.aload_n 0, 1130, 0, 0, 0))) (.branch 1131 (.leaf (1130, (.iload_n 3, 1131, 0, 3, 0))) (.leaf (1131, (.iconst 3, 1132, 0, 3, 0)))))) (.branch 1135 (.branch 1133 (.leaf (1132, (.iadd, 1133, 0, 0, 0))) (.branch 1134 (.leaf (1133, (.iaload, 1134, 0, 0, 0))) (.leaf (1134, (.aload_n 0, 1135, 0, 0, 0))))) (.branch 1136 (.leaf (1135, (.iload_n 3, 1136, 0, 3, 0))) (.branch 1137 (.leaf (1136, (.iconst 4, 1137, 0, 4, 0))) (.leaf (1137, (.iadd, 1138, 0, 0, 0))))))) (.branch 1145 (.branch 1142 (.branch 1139 (.leaf (1138, (.iaload, 1139, 0, 0, 0))) (.leaf (1139, (.invokevirtual 118, 1142, 0, 113, 0)))) (.branch 1143 (.leaf (1142, (.aload_n 2, 1143, 0, 2, 0))) (.branch 1144 (.leaf (1143, (.aload_n 0, 1144, 0, 0, 0))) (.leaf (1144, (.iload_n 3, 1145, 0, 3, 0)))))) (.branch 1148 (.branch 1146 (.leaf (1145, (.iconst 1, 1146, 0, 1, 0))) (.branch 1147 (.leaf (1146, (.iadd, 1147, 0, 0, 0))) (.leaf (1147, (.iaload, 1148, 0, 0, 0))))) (.branch 1149 (.leaf (1148, (.aload_n 0, 1149, 0, 0, 0))) (.branch 1150 (.leaf (1149, (.iload_n 3, 1150, 0, 3, 0))) (.leaf (1150, (.iconst 2, 1151, 0, 2, 0)))))))))
set_option maxRecDepth 100000 in
noncomputable def xt_0_1151 : Lean.RArray (Nat × xins) := .branch 1202 (.branch 1178 (.branch 1161 (.branch 1156 (.branch 1153 (.branch 1152 (.leaf (1151, (.iadd, 1152, 0, 0, 0))) (.leaf (1152, (.iaload, 1153, 0, 0, 0)))) (.branch 1154 (.leaf (1153, (.aload_n 0, 1154, 0, 0, 0))) (.branch 1155 (.leaf (1154, (.iload_n 3, 1155, 0, 3, 0))) (.leaf (1155, (.iconst 3, 1156, 0, 3, 0)))))) (.branch 1158 (.branch 1157 (.leaf (1156, (.iadd, 1157, 0, 0, 0))) (.leaf (1157, (.iaload, 1158, 0, 0, 0)))) (.branch 1159 (.leaf (1158, (.aload_n 0, 1159, 0, 0, 0))) (.branch 1160 (.leaf (1159, (.iload_n 3, 1160, 0, 3, 0))) (.leaf (1160, (.iconst 4, 1161, 0, 4, 0))))))) (.branch 1172 (.branch 1163 (.branch 1162 (.leaf (1161, (.iadd, 1162, 0, 0, 0))) (.leaf (1162, (.iaload, 1163, 0, 0, 0)))) (.branch 1166 (.leaf (1163, (.invokevirtual 121, 1166, 0, 114, 0))) (.branch 1171 (.leaf (1166, (.if_icmp .eq 956, 1169, 2122, 0, 0))) (.leaf (1171, (.aload_n 1, 1172, 0, 1, 0)))))) (.branch 1175 (.branch 1173 (.leaf (1172, (.aload_n 0, 1173, 0, 0, 0))) (.branch 1174 (.leaf (1173, (.iload_n 3, 1174, 0, 3, 0))) (.leaf (1174, (.iconst 1, 1175, 0, 1, 0))))) (.branch 1176 (.leaf (1175, (.iadd, 1176, 0, 0, 0))) (.branch 1177 (.leaf (1176, (.iaload, 1177, 0, 0, 0))) (.leaf (1177, (.aload_n 0, 1178, 0, 0, 0)))))))) (.branch 1191 (.branch 1183 (.branch 1180 (.branch 1179 (.leaf (1178, (.iload_n 3, 1179, 0, 3, 0))) (.leaf (1179, (.iconst 2, 1180, 0, 2, 0)))) (.branch 1181 (.leaf (1180, (.iadd, 1181, 0, 0, 0))) (.branch 1182 (.leaf (1181, (.iaload, 1182, 0, 0, 0))) (.leaf (1182, (.aload_n 0, 1183, 0, 0, 0)))))) (.branch 1186 (.branch 1184 (.leaf (1183, (.iload_n 3, 1184, 0, 3, 0))) (.branch 1185 (.leaf (1184, (.iconst 3, 1185, 0, 3, 0))) (.leaf (1185, (.iadd, 1186, 0, 0, 0))))) (.branch 1187 (.leaf (1186, (.iaload, 1187, 0, 0, 0))) (.branch 1190 (.leaf (1187, (.invokevirtual 122, 1190, 0, 115, 0))) (.leaf (1190, (.aload_n 2, 1191, 0, 2, 0))))))) (.branch 1196 (.branch 1193 (.branch 1192 (.leaf (1191, (.aload_n 0, 1192, 0, 0, 0))) (.leaf (1192, (.iload_n 3, 1193, 0, 3, 0)))) (.branch 1194 (.leaf (1193, (.iconst 1, 1194, 0, 1, 0))) (.branch 1195 (.leaf (1194, (.iadd, 1195, 0, 0, 0))) (.leaf (1195, (.iaload, 1196, 0, 0, 0)))))) (.branch 1199 (.branch 1197 (.leaf (1196, (.aload_n 0, 1197, 0, 0, 0))) (.branch 1198 (.leaf (1197, (.iload_n 3, 1198, 0, 3, 0))) (.leaf (1198, (.iconst 2, 1199, 0, 2, 0))))) (.branch 1200 (.leaf (1199, (.iadd, 1200, 0, 0, 0))) (.branch 1201 (.leaf (1200, (.iaload, 1201, 0, 0, 0))) (.leaf (1201, (.aload_n 0, 1202, 0, 0, 0))))))))) (.branch 1237 (.branch 1218 (.branch 1209 (.branch 1204 (.branch 1203 (.leaf (1202, (.iload_n 3, 1203, 0, 3, 0))) (.leaf (1203, (.iconst 3, 1204, 0, 3, 0)))) (.branch 1205 (.leaf (1204, (.iadd, 1205, 0, 0, 0))) (.branch 1206 (.leaf (1205, (.iaload, 1206, 0, 0, 0))) (.leaf (1206, (.invokevirtual 125, 1209, 0, 116, 0)))))) (.branch 1215 (.branch 1214 (.leaf (1209, (.if_icmp .eq 913, 1212, 2122, 0, 0))) (.leaf (1214, (.aload_n 1, 1215, 0, 1, 0)))) (.branch 1216 (.leaf (1215, (.aload_n 0, 1216, 0, 0, 0))) (.branch 1217 (.leaf (1216, (.iload_n 3, 1217, 0, 3, 0))) (.leaf (1217, (.iconst 1, 1218, 0, 1, 0))))))) (.branch 1225 (.branch 1220 (.branch 1219 (.leaf (1218, (.iadd, 1219, 0, 0, 0))) (.leaf (1219, (.iaload, 1220, 0, 0, 0)))) (.branch 1223 (.leaf (1220, (.invokevirtual 126, 1223, 0, 117, 0))) (.branch 1224 (.leaf (1223, (.aload_n 2, 1224, 0, 2, 0))) (.leaf (1224, (.aload_n 0, 1225, 0, 0, 0)))))) (.branch 1228 (.branch 1226 (.leaf (1225, (.iload_n 3, 1226, 0, 3, 0))) (.branch 1227 (.leaf (1226, (.iconst 1, 1227, 0, 1, 0))) (.leaf (1227, (.iadd, 1228, 0, 0, 0))))) (.branch 1229 (.leaf (1228, (.iaload, 1229, 0, 0, 0))) (.branch 1232 (.leaf (1229, (.invokevirtual 129, 1232, 0, 118, 0))) (.leaf (1232, (.if_icmp .eq 890, 1235, 2122, 0, 0)))))))) (.branch 1248 (.branch 1242 (.branch 1239 (.branch 1238 (.leaf (1237, (.aload_n 1, 1238, 0, 1, 0))) (.leaf (1238, (.aload_n 0, 1239, 0, 0, 0)))) (.branch 1240 (.leaf (1239, (.iload_n 3, 1240, 0, 3, 0))) (.branch 1241 (.leaf (1240, (.iconst 1, 1241, 0, 1, 0))) (.leaf (1241, (.iadd, 1242, 0, 0, 0)))))) (.branch 1245 (.branch 1243 (.leaf (1242, (.iaload, 1243, 0, 0, 0))) (.branch 1244 (.leaf (1243, (.aload_n 0, 1244, 0, 0, 0))) (.leaf (1244, (.iload_n 3, 1245, 0, 3, 0))))) (.branch 1246 (.leaf (1245, (.iconst 2, 1246, 0, 2, 0))) (.branch 1247 (.leaf (1246, (.iadd, 1247, 0, 0, 0))) (.leaf (1247, (.iaload, 1248, 0, 0, 0))))))) (.branch 1255 (.branch 1252 (.branch 1251 (.leaf (1248, (.invokevirtual 130, 1251, 0, 119, 0))) (.leaf (1251, (.aload_n 2, 1252, 0, 2, 0)))) (.branch 1253 (.leaf (1252, (.aload_n 0, 1253, 0, 0, 0))) (.branch 1254 (.leaf (1253, (.iload_n 3, 1254, 0, 3, 0))) (.leaf (1254, (.iconst 1, 1255, 0, 1, 0)))))) (.branch 1258 (.branch 1256 (.leaf (1255, (.iadd, 1256, 0, 0, 0))) (.branch 1257 (.leaf (1256, (.iaload, 1257, 0, 0, 0))) (.leaf (1257, (.aload_n 0, 1258, 0, 0, 0))))) (.branch 1259 (.leaf (1258, (.iload_n 3, 1259, 0, 3, 0))) (.branch 1260 (.leaf (1259, (.iconst 2, 1260, 0, 2, 0))) (.leaf (1260, (.iadd, 1261, 0, 0, 0)))))))))
set_option maxRecDepth 100000 in
noncomputable def xt_0_1261 : Lean.RArray (Nat × xins) := .branch 1326 (.branch 1290 (.branch 1277 (.branch 1272 (.branch 1265 (.branch 1262 (.leaf (1261, (.iaload, 1262, 0, 0, 0))) (.leaf (1262, (.invokevirtual 133, 1265, 0, 120, 0)))) (.branch 1270 (.leaf (1265, (.if_icmp .eq 857, 1268, 2122, 0, 0))) (.branch 1271 (.leaf (1270, (.aload_n 1, 1271, 0, 1, 0))) (.leaf (1271, (.aload_n 0, 1272, 0, 0, 0)))))) (.branch 1274 (.branch 1273 (.leaf (1272, (.iload_n 3, 1273, 0, 3, 0))) (.leaf (1273, (.iconst 1, 1274, 0, 1, 0)))) (.branch 1275 (.leaf (1274, (.iadd, 1275, 0, 0, 0))) (.branch 1276 (.leaf (1275, (.iaload, 1276, 0, 0, 0))) (.leaf (1276, (.aload_n 0, 1277, 0, 0, 0))))))) (.branch 1284 (.branch 1279 (.branch 1278 (.leaf (1277, (.iload_n 3, 1278, 0, 3, 0))) (.leaf (1278, (.iconst 2, 1279, 0, 2, 0)))) (.branch 1280 (.leaf (1279, (.iadd, 1280, 0, 0, 0))) (.branch 1281 (.leaf (1280, (.iaload, 1281, 0, 0, 0))) (.leaf (1281, (.invokevirtual 134, 1284, 0, 121, 0)))))) (.branch 1287 (.branch 1285 (.leaf (1284, (.aload_n 2, 1285, 0, 2, 0))) (.branch 1286 (.leaf (1285, (.aload_n 0, 1286, 0, 0, 0))) (.leaf (1286, (.iload_n 3, 1287, 0, 3, 0))))) (.branch 1288 (.leaf (1287, (.iconst 1, 1288, 0, 1, 0))) (.branch 1289 (.leaf (1288, (.iadd, 1289, 0, 0, 0))) (.leaf (1289, (.iaload, 1290, 0, 0, 0)))))))) (.branch 1307 (.branch 1295 (.branch 1292 (.branch 1291 (.leaf (1290, (.aload_n 0, 1291, 0, 0, 0))) (.leaf (1291, (.iload_n 3, 1292, 0, 3, 0)))) (.branch 1293 (.leaf (1292, (.iconst 2, 1293, 0, 2, 0))) (.branch 1294 (.leaf (1293, (.iadd, 1294, 0, 0, 0))) (.leaf (1294, (.iaload, 1295, 0, 0, 0)))))) (.branch 1304 (.branch 1298 (.leaf (1295, (.invokevirtual 138, 1298, 0, 122, 0))) (.branch 1303 (.leaf (1298, (.if_icmp .eq 824, 1301, 2122, 0, 0))) (.leaf (1303, (.aload_n 1, 1304, 0, 1, 0))))) (.branch 1305 (.leaf (1304, (.aload_n 0, 1305, 0, 0, 0))) (.branch 1306 (.leaf (1305, (.iload_n 3, 1306, 0, 3, 0))) (.leaf (1306, (.iconst 1, 1307, 0, 1, 0))))))) (.branch 1314 (.branch 1309 (.branch 1308 (.leaf (1307, (.iadd, 1308, 0, 0, 0))) (.leaf (1308, (.iaload, 1309, 0, 0, 0)))) (.branch 1312 (.leaf (1309, (.invokevirtual 139, 1312, 0, 123, 0))) (.branch 1313 (.leaf (1312, (.aload_n 2, 1313, 0, 2, 0))) (.leaf (1313, (.aload_n 0, 1314, 0, 0, 0)))))) (.branch 1317 (.branch 1315 (.leaf (1314, (.iload_n 3, 1315, 0, 3, 0))) (.branch 1316 (.leaf (1315, (.iconst 1, 1316, 0, 1, 0))) (.leaf (1316, (.iadd, 1317, 0, 0, 0))))) (.branch 1318 (.leaf (1317, (.iaload, 1318, 0, 0, 0))) (.branch 1321 (.leaf (1318, (.invokevirtual 143, 1321, 0, 124, 0))) (.leaf (1321, (.if_icmp .eq 801, 1324, 2122, 0, 0))))))))) (.branch 1349 (.branch 1336 (.branch 1331 (.branch 1328 (.branch 1327 (.leaf (1326, (.aload_n 1, 1327, 0, 1, 0))) (.leaf (1327, (.aload_n 0, 1328, 0, 0, 0)))) (.branch 1329 (.leaf (1328, (.iload_n 3, 1329, 0, 3, 0))) (.branch 1330 (.leaf (1329, (.iconst 1, 1330, 0, 1, 0))) (.leaf (1330, (.iadd, 1331, 0, 0, 0)))))) (.branch 1333 (.branch 1332 (.leaf (1331, (.iaload, 1332, 0, 0, 0))) (.leaf (1332, (.aload_n 0, 1333, 0, 0, 0)))) (.branch 1334 (.leaf (1333, (.iload_n 3, 1334, 0, 3, 0))) (.branch 1335 (.leaf (1334, (.iconst 2, 1335, 0, 2, 0))) (.leaf (1335, (.iadd, 1336, 0, 0, 0))))))) (.branch 1343 (.branch 1340 (.branch 1337 (.leaf (1336, (.iaload, 1337, 0, 0, 0))) (.leaf (1337, (.invokevirtual 144, 1340, 0, 126, 0)))) (.branch 1341 (.leaf (1340, (.aload_n 2, 1341, 0, 2, 0))) (.branch 1342 (.leaf (1341, (.aload_n 0, 1342, 0, 0, 0))) (.leaf (1342, (.iload_n 3, 1343, 0, 3, 0)))))) (.branch 1346 (.branch 1344 (.leaf (1343, (.iconst 1, 1344, 0, 1, 0))) (.branch 1345 (.leaf (1344, (.iadd, 1345, 0, 0, 0))) (.leaf (1345, (.iaload, 1346, 0, 0, 0))))) (.branch 1347 (.leaf (1346, (.aload_n 0, 1347, 0, 0, 0))) (.branch 1348 (.leaf (1347, (.iload_n 3, 1348, 0, 3, 0))) (.leaf (1348, (.iconst 2, 1349, 0, 2, 0)))))))) (.branch 1366 (.branch 1360 (.branch 1351 (.branch 1350 (.leaf (1349, (.iadd, 1350, 0, 0, 0))) (.leaf (1350, (.iaload, 1351, 0, 0, 0)))) (.branch 1354 (.leaf (1351, (.invokevirtual 147, 1354, 0, 127, 0))) (.branch 1359 (.leaf (1354, (.if_icmp .eq 768, 1357, 2122, 0, 0))) (.leaf (1359, (.aload_n 1, 1360, 0, 1, 0)))))) (.branch 1363 (.branch 1361 (.leaf (1360, (.aload_n 0, 1361, 0, 0, 0))) (.branch 1362 (.leaf (1361, (.iload_n 3, 1362, 0, 3, 0))) (.leaf (1362, (.iconst 1, 1363, 0, 1, 0))))) (.branch 1364 (.leaf (1363, (.iadd, 1364, 0, 0, 0))) (.branch 1365 (.leaf (1364, (.iaload, 1365, 0, 0, 0))) (.leaf (1365, (.aload_n 0, 1366, 0, 0, 0))))))) (.branch 1373 (.branch 1368 (.branch 1367 (.leaf (1366, (.iload_n 3, 1367, 0, 3, 0))) (.leaf (1367, (.iconst 2, 1368, 0, 2, 0)))) (.branch 1369 (.leaf (1368, (.iadd, 1369, 0, 0, 0))) (.branch 1370 (.leaf (1369, (.iaload, 1370, 0, 0, 0))) (.leaf (1370, (.invokevirtual 148, 1373, 0, 128, 0)))))) (.branch 1376 (.branch 1374 (.leaf (1373, (.aload_n 2, 1374, 0, 2, 0))) (.branch 1375 (.leaf (1374, (.aload_n 0, 1375, 0, 0, 0))) (.leaf (1375, (.iload_n 3, 1376, 0, 3, 0))))) (.branch 1377 (.leaf (1376, (.iconst 1, 1377, 0, 1, 0))) (.branch 1378 (.leaf (1377, (.iadd, 1378, 0, 0, 0))) (.leaf (1378, (.iaload, 1379, 0, 0, 0)))))))))
set_option maxRecDepth 100000 in
noncomputable def xt_0_1379 : Lean.RArray (Nat × xins) := .branch 1436 (.branch 1408 (.branch 1395 (.branch 1384 (.branch 1381 (.branch 1380 (.leaf (1379, (.aload_n 0, 1380, 0, 0, 0))) (.leaf (1380, (.iload_n 3, 1381, 0, 3, 0)))) (.branch 1382 (.leaf (1381, (.iconst 2, 1382, 0, 2, 0))) (.branch 1383 (.leaf (1382, (.iadd, 1383, 0, 0, 0))) (.leaf (1383, (.iaload, 1384, 0, 0, 0)))))) (.branch 1392 (.branch 1387 (.leaf (1384, (.invokevirtual 151, 1387, 0, 129, 0))) (.leaf (1387, (.if_icmp .eq 735, 1390, 2122, 0, 0)))) (.branch 1393 (.leaf (1392, (.aload_n 1, 1393, 0, 1, 0))) (.branch 1394 (.leaf (1393, (.aload_n 0, 1394, 0, 0, 0))) (.leaf (1394, (.iload_n 3, 1395, 0, 3, 0))))))) (.branch 1400 (.branch 1397 (.branch 1396 (.leaf (1395, (.iconst 1, 1396, 0, 1, 0))) (.leaf (1396, (.iadd, 1397, 0, 0, 0)))) (.branch 1398 (.leaf (1397, (.iaload, 1398, 0, 0, 0))) (.branch 1399 (.leaf (1398, (.aload_n 0, 1399, 0, 0, 0))) (.leaf (1399, (.iload_n 3, 1400, 0, 3, 0)))))) (.branch 1403 (.branch 1401 (.leaf (1400, (.iconst 2, 1401, 0, 2, 0))) (.branch 1402 (.leaf (1401, (.iadd, 1402, 0, 0, 0))) (.leaf (1402, (.iaload, 1403, 0, 0, 0))))) (.branch 1406 (.leaf (1403, (.invokevirtual 152, 1406, 0, 130, 0))) (.branch 1407 (.leaf (1406, (.aload_n 2, 1407, 0, 2, 0))) (.leaf (1407, (.aload_n 0, 1408, 0, 0, 0)))))))) (.branch 1425 (.branch 1413 (.branch 1410 (.branch 1409 (.leaf (1408, (.iload_n 3, 1409, 0, 3, 0))) (.leaf (1409, (.iconst 1, 1410, 0, 1, 0)))) (.branch 1411 (.leaf (1410, (.iadd, 1411, 0, 0, 0))) (.branch 1412 (.leaf (1411, (.iaload, 1412, 0, 0, 0))) (.leaf (1412, (.aload_n 0, 1413, 0, 0, 0)))))) (.branch 1416 (.branch 1414 (.leaf (1413, (.iload_n 3, 1414, 0, 3, 0))) (.branch 1415 (.leaf (1414, (.iconst 2, 1415, 0, 2, 0))) (.leaf (1415, (.iadd, 1416, 0, 0, 0))))) (.branch 1417 (.leaf (1416, (.iaload, 1417, 0, 0, 0))) (.branch 1420 (.leaf (1417, (.invokevirtual 155, 1420, 0, 132, 0))) (.leaf (1420, (.if_icmp .eq 702, 1423, 2122, 0, 0))))))) (.branch 1430 (.branch 1427 (.branch 1426 (.leaf (1425, (.aload_n 1, 1426, 0, 1, 0))) (.leaf (1426, (.aload_n 0, 1427, 0, 0, 0)))) (.branch 1428 (.leaf (1427, (.iload_n 3, 1428, 0, 3, 0))) (.branch 1429 (.leaf (1428, (.iconst 1, 1429, 0, 1, 0))) (.leaf (1429, (.iadd, 1430, 0, 0, 0)))))) (.branch 1433 (.branch 1431 (.leaf (1430, (.iaload, 1431, 0, 0, 0))) (.branch 1432 (.leaf (1431, (.aload_n 0, 1432, 0, 0, 0))) (.leaf (1432, (.iload_n 3, 1433, 0, 3, 0))))) (.branch 1434 (.leaf (1433, (.iconst 2, 1434, 0, 2, 0))) (.branch 1435 (.leaf (1434, (.iadd, 1435, 0, 0, 0))) (.leaf (1435, (.iaload, 1436, 0, 0, 0))))))))) (.branch 1469 (.branch 1452 (.branch 1447 (.branch 1440 (.branch 1439 (.leaf (1436, (.ifCond .eq 7, 1439, 1443, 0, 0))) (.leaf (1439, (.iconst 1, 1440, 0, 1, 0)))) (.branch 1443 (.leaf (1440, (.goto 4, 1443, 1444, 0, 0))) (.branch 1444 (.leaf (1443, (.iconst 0, 1444, 0, 0, 0))) (.leaf (1444, (.invokevirtual 156, 1447, 0, 133, 0)))))) (.branch 1449 (.branch 1448 (.leaf (1447, (.aload_n 2, 1448, 0, 2, 0))) (.leaf (1448, (.aload_n 0, 1449, 0, 0, 0)))) (.branch 1450 (.leaf (1449, (.iload_n 3, 1450, 0, 3, 0))) (.branch 1451 (.leaf (1450, (.iconst 1, 1451, 0, 1, 0))) (.leaf (1451, (.iadd, 1452, 0, 0, 0))))))) (.branch 1457 (.branch 1454 (.branch 1453 (.leaf (1452, (.iaload, 1453, 0, 0, 0))) (.leaf (1453, (.aload_n 0, 1454, 0, 0, 0)))) (.branch 1455 (.leaf (1454, (.iload_n 3, 1455, 0, 3, 0))) (.branch 1456 (.leaf (1455, (.iconst 2, 1456, 0, 2, 0))) (.leaf (1456, (.iadd, 1457, 0, 0, 0)))))) (.branch 1462 (.branch 1458 (.leaf (1457, (.iaload, 1458, 0, 0, 0))) (.branch 1461 (.leaf (1458, (.ifCond .eq 7, 1461, 1465, 0, 0))) (.leaf (1461, (.iconst 1, 1462, 0, 1, 0))))) (.branch 1465 (.leaf (1462, (.goto 4, 1465, 1466, 0, 0))) (.branch 1466 (.leaf (1465, (.iconst 0, 1466, 0, 0, 0))) (.leaf (1466, (.invokevirtual 160, 1469, 0, 134, 0)))))))) (.branch 1484 (.branch 1478 (.branch 1475 (.branch 1474 (.leaf (1469, (.if_icmp .eq 653, 1472, 2122, 0, 0))) (.leaf (1474, (.aload_n 1, 1475, 0, 1, 0)))) (.branch 1476 (.leaf (1475, (.aload_n 0, 1476, 0, 0, 0))) (.branch 1477 (.leaf (1476, (.iload_n 3, 1477, 0, 3, 0))) (.leaf (1477, (.iconst 1, 1478, 0, 1, 0)))))) (.branch 1481 (.branch 1479 (.leaf (1478, (.iadd, 1479, 0, 0, 0))) (.branch 1480 (.leaf (1479, (.iaload, 1480, 0, 0, 0))) (.leaf (1480, (.aload_n 0, 1481, 0, 0, 0))))) (.branch 1482 (.leaf (1481, (.iload_n 3, 1482, 0, 3, 0))) (.branch 1483 (.leaf (1482, (.iconst 2, 1483, 0, 2, 0))) (.leaf (1483, (.iadd, 1484, 0, 0, 0))))))) (.branch 1489 (.branch 1486 (.branch 1485 (.leaf (1484, (.iaload, 1485, 0, 0, 0))) (.leaf (1485, (.aload_n 0, 1486, 0, 0, 0)))) (.branch 1487 (.leaf (1486, (.iload_n 3, 1487, 0, 3, 0))) (.branch 1488 (.leaf (1487, (.iconst 3, 1488, 0, 3, 0))) (.leaf (1488, (.iadd, 1489, 0, 0, 0)))))) (.branch 1494 (.branch 1490 (.leaf (1489, (.iaload, 1490, 0, 0, 0))) (.branch 1493 (.leaf (1490, (.ifCond .eq 7, 1493, 1497, 0, 0))) (.leaf (1493, (.iconst 1, 1494, 0, 1, 0))))) (.branch 1497 (.leaf (1494, (.goto 4, 1497, 1498, 0, 0))) (.branch 1498 (.leaf (1497, (.iconst 0, 1498, 0, 0, 0))) (.leaf (1498, (.invokevirtual 161, 1501, 0, 135, 0)))))))))
set_option maxRecDepth 100000 in
noncomputable def xt_0_1501 : Lean.RArray (Nat × xins) := .branch 1562 (.branch 1528 (.branch 1511 (.branch 1506 (.branch 1503 (.branch 1502 (.leaf (1501, (.aload_n 2, 1502, 0, 2, 0))) (.leaf (1502, (.aload_n 0, 1503, 0, 0, 0)))) (.branch 1504 (.leaf (1503, (.iload_n 3, 1504, 0, 3, 0))) (.branch 1505 (.leaf (1504, (.iconst 1, 1505, 0, 1, 0))) (.leaf (1505, (.iadd, 1506, 0, 0, 0)))))) (.branch 1508 (.branch 1507 (.leaf (1506, (.iaload, 1507, 0, 0, 0))) (.leaf (1507, (.aload_n 0, 1508, 0, 0, 0)))) (.branch 1509 (.leaf (1508, (.iload_n 3, 1509, 0, 3, 0))) (.branch 1510 (.leaf (1509, (.iconst 2, 1510, 0, 2, 0))) (.leaf (1510, (.iadd, 1511, 0, 0, 0))))))) (.branch 1516 (.branch 1513 (.branch 1512 (.leaf (1511, (.iaload, 1512, 0, 0, 0))) (.leaf (1512, (.aload_n 0, 1513, 0, 0, 0)))) (.branch 1514 (.leaf (1513, (.iload_n 3, 1514, 0, 3, 0))) (.branch 1515 (.leaf (1514, (.iconst 3, 1515, 0, 3, 0))) (.leaf (1515, (.iadd, 1516, 0, 0, 0)))))) (.branch 1521 (.branch 1517 (.leaf (1516, (.iaload, 1517, 0, 0, 0))) (.branch 1520 (.leaf (1517, (.ifCond .eq 7, 1520, 1524, 0, 0))) (.leaf (1520, (.iconst 1, 1521, 0, 1, 0))))) (.branch 1524 (.leaf (1521, (.goto 4, 1524, 1525, 0, 0))) (.branch 1525 (.leaf (1524, (.iconst 0, 1525, 0, 0, 0))) (.leaf (1525, (.invokevirtual 165, 1528, 0, 136, 0)))))))) (.branch 1545 (.branch 1537 (.branch 1534 (.branch 1533 (.leaf (1528, (.if_icmp .eq 594, 1531, 2122, 0, 0))) (.leaf (1533, (.aload_n 1, 1534, 0, 1, 0)))) (.branch 1535 (.leaf (1534, (.aload_n 0, 1535, 0, 0, 0))) (.branch 1536 (.leaf (1535, (.iload_n 3, 1536, 0, 3, 0))) (.leaf (1536, (.iconst 1, 1537, 0, 1, 0)))))) (.branch 1542 (.branch 1538 (.leaf (1537, (.iadd, 1538, 0, 0, 0))) (.branch 1539 (.leaf (1538, (.iaload, 1539, 0, 0, 0))) (.leaf (1539, (.invokevirtual 166, 1542, 0, 137, 0))))) (.branch 1543 (.leaf (1542, (.aload_n 2, 1543, 0, 2, 0))) (.branch 1544 (.leaf (1543, (.aload_n 0, 1544, 0, 0, 0))) (.leaf (1544, (.iload_n 3, 1545, 0, 3, 0))))))) (.branch 1556 (.branch 1547 (.branch 1546 (.leaf (1545, (.iconst 1, 1546, 0, 1, 0))) (.leaf (1546, (.iadd, 1547, 0, 0, 0)))) (.branch 1548 (.leaf (1547, (.iaload, 1548, 0, 0, 0))) (.branch 1551 (.leaf (1548, (.invokevirtual 169, 1551, 0, 138, 0))) (.leaf (1551, (.if_icmp .eq 571, 1554, 2122, 0, 0)))))) (.branch 1559 (.branch 1557 (.leaf (1556, (.aload_n 1, 1557, 0, 1, 0))) (.branch 1558 (.leaf (1557, (.aload_n 0, 1558, 0, 0, 0))) (.leaf (1558, (.iload_n 3, 1559, 0, 3, 0))))) (.branch 1560 (.leaf (1559, (.iconst 1, 1560, 0, 1, 0))) (.branch 1561 (.leaf (1560, (.iadd, 1561, 0, 0, 0))) (.leaf (1561, (.iaload, 1562, 0, 0, 0))))))))) (.branch 1593 (.branch 1580 (.branch 1569 (.branch 1566 (.branch 1565 (.leaf (1562, (.invokevirtual 170, 1565, 0, 139, 0))) (.leaf (1565, (.aload_n 2, 1566, 0, 2, 0)))) (.branch 1567 (.leaf (1566, (.aload_n 0, 1567, 0, 0, 0))) (.branch 1568 (.leaf (1567, (.iload_n 3, 1568, 0, 3, 0))) (.leaf (1568, (.iconst 1, 1569, 0, 1, 0)))))) (.branch 1571 (.branch 1570 (.leaf (1569, (.iadd, 1570, 0, 0, 0))) (.leaf (1570, (.iaload, 1571, 0, 0, 0)))) (.branch 1574 (.leaf (1571, (.invokevirtual 173, 1574, 0, 140, 0))) (.branch 1579 (.leaf (1574, (.if_icmp .eq 548, 1577, 2122, 0, 0))) (.leaf (1579, (.aload_n 1, 1580, 0, 1, 0))))))) (.branch 1585 (.branch 1582 (.branch 1581 (.leaf (1580, (.aload_n 0, 1581, 0, 0, 0))) (.leaf (1581, (.iload_n 3, 1582, 0, 3, 0)))) (.branch 1583 (.leaf (1582, (.iconst 1, 1583, 0, 1, 0))) (.branch 1584 (.leaf (1583, (.iadd, 1584, 0, 0, 0))) (.leaf (1584, (.iaload, 1585, 0, 0, 0)))))) (.branch 1590 (.branch 1588 (.leaf (1585, (.invokevirtual 174, 1588, 0, 141, 0))) (.branch 1589 (.leaf (1588, (.aload_n 2, 1589, 0, 2, 0))) (.leaf (1589, (.aload_n 0, 1590, 0, 0, 0))))) (.branch 1591 (.leaf (1590, (.iload_n 3, 1591, 0, 3, 0))) (.branch 1592 (.leaf (1591, (.iconst 1, 1592, 0, 1, 0))) (.leaf (1592, (.iadd, 1593, 0, 0, 0)))))))) (.branch 1612 (.branch 1604 (.branch 1597 (.branch 1594 (.leaf (1593, (.iaload, 1594, 0, 0, 0))) (.leaf (1594, (.invokevirtual 177, 1597, 0, 142, 0)))) (.branch 1602 (.leaf (1597, (.if_icmp .eq 525, 1600, 2122, 0, 0))) (.branch 1603 (.leaf (1602, (.aload_n 1, 1603, 0, 1, 0))) (.leaf (1603, (.aload_n 0, 1604, 0, 0, 0)))))) (.branch 1607 (.branch 1605 (.leaf (1604, (.iload_n 3, 1605, 0, 3, 0))) (.branch 1606 (.leaf (1605, (.iconst 1, 1606, 0, 1, 0))) (.leaf (1606, (.iadd, 1607, 0, 0, 0))))) (.branch 1608 (.leaf (1607, (.iaload, 1608, 0, 0, 0))) (.branch 1611 (.leaf (1608, (.invokevirtual 178, 1611, 0, 143, 0))) (.leaf (1611, (.aload_n 2, 1612, 0, 2, 0))))))) (.branch 1617 (.branch 1614 (.branch 1613 (.leaf (1612, (.aload_n 0, 1613, 0, 0, 0))) (.leaf (1613, (.iload_n 3, 1614, 0, 3, 0)))) (.branch 1615 (.leaf (1614, (.iconst 1, 1615, 0, 1, 0))) (.branch 1616 (.leaf (1615, (.iadd, 1616, 0, 0, 0))) (.leaf (1616, (.iaload, 1617, 0, 0, 0)))))) (.branch 1626 (.branch 1620 (.leaf (1617, (.invokevirtual 181, 1620, 0, 144, 0))) (.branch 1625 (.leaf (1620, (.if_icmp .eq 502, 1623, 2122, 0, 0))) (.leaf (1625, (.aload_n 1, 1626, 0, 1, 0))))) (.branch 1627 (.leaf (1626, (.aload_n 0, 1627, 0, 0, 0))) (.branch 1628 (.leaf (1627, (.iload_n 3, 1628, 0, 3, 0))) (.leaf (1628, (.iconst 1, 1629, 0, 1, 0)))))))))
set_option maxRecDepth 100000 in
noncomputable def xt_0_1629 : Lean.RArray (Nat × xins) := .branch 1682 (.branch 1658 (.branch 1641 (.branch 1634 (.branch 1631 (.branch 1630 (.leaf (1629, (.iadd, 1630, 0, 0, 0))) (.leaf (1630, (.iaload, 1631, 0, 0, 0)))) (.branch 1632 (.leaf (1631, (.aload_n 0, 1632, 0, 0, 0))) (.branch 1633 (.leaf (1632, (.iload_n 3, 1633, 0, 3, 0))) (.leaf (1633, (.iconst 2, 1634, 0, 2, 0)))))) (.branch 1636 (.branch 1635 (.leaf (1634, (.iadd, 1635, 0, 0, 0))) (.leaf (1635, (.iaload, 1636, 0, 0, 0)))) (.branch 1639 (.leaf (1636, (.invokevirtual 182, 1639, 0, 145, 0))) (.branch 1640 (.leaf (1639, (.aload_n 2, 1640, 0, 2, 0))) (.leaf (1640, (.aload_n 0, 1641, 0, 0, 0))))))) (.branch 1646 (.branch 1643 (.branch 1642 (.leaf (1641, (.iload_n 3, 1642, 0, 3, 0))) (.leaf (1642, (.iconst 1, 1643, 0, 1, 0)))) (.branch 1644 (.leaf (1643, (.iadd, 1644, 0, 0, 0))) (.branch 1645 (.leaf (1644, (.iaload, 1645, 0, 0, 0))) (.leaf (1645, (.aload_n 0, 1646, 0, 0, 0)))))) (.branch 1649 (.branch 1647 (.leaf (1646, (.iload_n 3, 1647, 0, 3, 0))) (.branch 1648 (.leaf (1647, (.iconst 2, 1648, 0, 2, 0))) (.leaf (1648, (.iadd, 1649, 0, 0, 0))))) (.branch 1650 (.leaf (1649, (.iaload, 1650, 0, 0, 0))) (.branch 1653 (.leaf (1650, (.invokevirtual 185, 1653, 0, 146, 0))) (.leaf (1653, (.if_icmp .eq 469, 1656, 2122, 0, 0)))))))) (.branch 1669 (.branch 1663 (.branch 1660 (.branch 1659 (.leaf (1658, (.aload_n 1, 1659, 0, 1, 0))) (.leaf (1659, (.aload_n 0, 1660, 0, 0, 0)))) (.branch 1661 (.leaf (1660, (.iload_n 3, 1661, 0, 3, 0))) (.branch 1662 (.leaf (1661, (.iconst 1, 1662, 0, 1, 0))) (.leaf (1662, (.iadd, 1663, 0, 0, 0)))))) (.branch 1666 (.branch 1664 (.leaf (1663, (.iaload, 1664, 0, 0, 0))) (.branch 1665 (.leaf (1664, (.aload_n 0, 1665, 0, 0, 0))) (.leaf (1665, (.iload_n 3, 1666, 0, 3, 0))))) (.branch 1667 (.leaf (1666, (.iconst 2, 1667, 0, 2, 0))) (.branch 1668 (.leaf (1667, (.iadd, 1668, 0, 0, 0))) (.leaf (1668, (.iaload, 1669, 0, 0, 0))))))) (.branch 1674 (.branch 1671 (.branch 1670 (.leaf (1669, (.aload_n 0, 1670, 0, 0, 0))) (.leaf (1670, (.iload_n 3, 1671, 0, 3, 0)))) (.branch 1672 (.leaf (1671, (.iconst 3, 1672, 0, 3, 0))) (.branch 1673 (.leaf (1672, (.iadd, 1673, 0, 0, 0))) (.leaf (1673, (.iaload, 1674, 0, 0, 0)))))) (.branch 1677 (.branch 1675 (.leaf (1674, (.aload_n 0, 1675, 0, 0, 0))) (.branch 1676 (.leaf (1675, (.iload_n 3, 1676, 0, 3, 0))) (.leaf (1676, (.iconst 4, 1677, 0, 4, 0))))) (.branch 1678 (.leaf (1677, (.iadd, 1678, 0, 0, 0))) (.branch 1679 (.leaf (1678, (.iaload, 1679, 0, 0, 0))) (.leaf (1679, (.invokevirtual 186, 1682, 0, 147, 0))))))))) (.branch 1703 (.branch 1692 (.branch 1687 (.branch 1684 (.branch 1683 (.leaf (1682, (.aload_n 2, 1683, 0, 2, 0))) (.leaf (1683, (.aload_n 0, 1684, 0, 0, 0)))) (.branch 1685 (.leaf (1684, (.iload_n 3, 1685, 0, 3, 0))) (.branch 1686 (.leaf (1685, (.iconst 1, 1686, 0, 1, 0))) (.leaf (1686, (.iadd, 1687, 0, 0, 0)))))) (.branch 1689 (.branch 1688 (.leaf (1687, (.iaload, 1688, 0, 0, 0))) (.leaf (1688, (.aload_n 0, 1689, 0, 0, 0)))) (.branch 1690 (.leaf (1689, (.iload_n 3, 1690, 0, 3, 0))) (.branch 1691 (.leaf (1690, (.iconst 2, 1691, 0, 2, 0))) (.leaf (1691, (.iadd, 1692, 0, 0, 0))))))) (.branch 1697 (.branch 1694 (.branch 1693 (.leaf (1692, (.iaload, 1693, 0, 0, 0))) (.leaf (1693, (.aload_n 0, 1694, 0, 0, 0)))) (.branch 1695 (.leaf (1694, (.iload_n 3, 1695, 0, 3, 0))) (.branch 1696 (.leaf (1695, (.iconst 3, 1696, 0, 3, 0))) (.leaf (1696, (.iadd, 1697, 0, 0, 0)))))) (.branch 1700 (.branch 1698 (.leaf (1697, (.iaload, 1698, 0, 0, 0))) (.branch 1699 (.leaf (1698, (.aload_n 0, 1699, 0, 0, 0))) (.leaf (1699, (.iload_n 3, 1700, 0, 3, 0))))) (.branch 1701 (.leaf (1700, (.iconst 4, 1701, 0, 4, 0))) (.branch 1702 (.leaf (1701, (.iadd, 1702, 0, 0, 0))) (.leaf (1702, (.iaload, 1703, 0, 0, 0)))))))) (.branch 1722 (.branch 1714 (.branch 1711 (.branch 1706 (.leaf (1703, (.invokevirtual 189, 1706, 0, 148, 0))) (.leaf (1706, (.if_icmp .eq 416, 1709, 2122, 0, 0)))) (.branch 1712 (.leaf (1711, (.aload_n 1, 1712, 0, 1, 0))) (.branch 1713 (.leaf (1712, (.aload_n 0, 1713, 0, 0, 0))) (.leaf (1713, (.iload_n 3, 1714, 0, 3, 0)))))) (.branch 1717 (.branch 1715 (.leaf (1714, (.iconst 1, 1715, 0, 1, 0))) (.branch 1716 (.leaf (1715, (.iadd, 1716, 0, 0, 0))) (.leaf (1716, (.iaload, 1717, 0, 0, 0))))) (.branch 1720 (.leaf (1717, (.invokevirtual 190, 1720, 0, 149, 0))) (.branch 1721 (.leaf (1720, (.aload_n 2, 1721, 0, 2, 0))) (.leaf (1721, (.aload_n 0, 1722, 0, 0, 0))))))) (.branch 1729 (.branch 1724 (.branch 1723 (.leaf (1722, (.iload_n 3, 1723, 0, 3, 0))) (.leaf (1723, (.iconst 1, 1724, 0, 1, 0)))) (.branch 1725 (.leaf (1724, (.iadd, 1725, 0, 0, 0))) (.branch 1726 (.leaf (1725, (.iaload, 1726, 0, 0, 0))) (.leaf (1726, (.invokevirtual 193, 1729, 0, 150, 0)))))) (.branch 1736 (.branch 1734 (.leaf (1729, (.if_icmp .eq 393, 1732, 2122, 0, 0))) (.branch 1735 (.leaf (1734, (.aload_n 1, 1735, 0, 1, 0))) (.leaf (1735, (.aload_n 0, 1736, 0, 0, 0))))) (.branch 1737 (.leaf (1736, (.iload_n 3, 1737, 0, 3, 0))) (.branch 1738 (.leaf (1737, (.iconst 1, 1738, 0, 1, 0))) (.leaf (1738, (.iadd, 1739, 0, 0, 0)))))))))
set_option maxRecDepth 100000 in
noncomputable def xt_0_1739 : Lean.RArray (Nat × xins) := .branch 1798 (.branch 1768 (.branch 1751 (.branch 1744 (.branch 1741 (.branch 1740 (.leaf (1739, (.iaload, 1740, 0, 0, 0))) (.leaf (1740, (.aload_n 0, 1741, 0, 0, 0)))) (.branch 1742 (.leaf (1741, (.iload_n 3, 1742, 0, 3, 0))) (.branch 1743 (.leaf (1742, (.iconst 2, 1743, 0, 2, 0))) (.leaf (1743, (.iadd, 1744, 0, 0, 0)))))) (.branch 1748 (.branch 1745 (.leaf (1744, (.iaload, 1745, 0, 0, 0))) (.leaf (1745, (.invokevirtual 194, 1748, 0, 151, 0)))) (.branch 1749 (.leaf (1748, (.aload_n 2, 1749, 0, 2, 0))) (.branch 1750 (.leaf (1749, (.aload_n 0, 1750, 0, 0, 0))) (.leaf (1750, (.iload_n 3, 1751, 0, 3, 0))))))) (.branch 1756 (.branch 1753 (.branch 1752 (.leaf (1751, (.iconst 1, 1752, 0, 1, 0))) (.leaf (1752, (.iadd, 1753, 0, 0, 0)))) (.branch 1754 (.leaf (1753, (.iaload, 1754, 0, 0, 0))) (.branch 1755 (.leaf (1754, (.aload_n 0, 1755, 0, 0, 0))) (.leaf (1755, (.iload_n 3, 1756, 0, 3, 0)))))) (.branch 1759 (.branch 1757 (.leaf (1756, (.iconst 2, 1757, 0, 2, 0))) (.branch 1758 (.leaf (1757, (.iadd, 1758, 0, 0, 0))) (.leaf (1758, (.iaload, 1759, 0, 0, 0))))) (.branch 1762 (.leaf (1759, (.invokevirtual 197, 1762, 0, 152, 0))) (.branch 1767 (.leaf (1762, (.if_icmp .eq 360, 1765, 2122, 0, 0))) (.leaf (1767, (.aload_n 1, 1768, 0, 1, 0)))))))) (.branch 1781 (.branch 1773 (.branch 1770 (.branch 1769 (.leaf (1768, (.aload_n 0, 1769, 0, 0, 0))) (.leaf (1769, (.iload_n 3, 1770, 0, 3, 0)))) (.branch 1771 (.leaf (1770, (.iconst 1, 1771, 0, 1, 0))) (.branch 1772 (.leaf (1771, (.iadd, 1772, 0, 0, 0))) (.leaf (1772, (.iaload, 1773, 0, 0, 0)))))) (.branch 1778 (.branch 1776 (.leaf (1773, (.invokevirtual 198, 1776, 0, 153, 0))) (.branch 1777 (.leaf (1776, (.aload_n 2, 1777, 0, 2, 0))) (.leaf (1777, (.aload_n 0, 1778, 0, 0, 0))))) (.branch 1779 (.leaf (1778, (.iload_n 3, 1779, 0, 3, 0))) (.branch 1780 (.leaf (1779, (.iconst 1, 1780, 0, 1, 0))) (.leaf (1780, (.iadd, 1781, 0, 0, 0))))))) (.branch 1792 (.branch 1785 (.branch 1782 (.leaf (1781, (.iaload, 1782, 0, 0, 0))) (.leaf (1782, (.invokevirtual 201, 1785, 0, 154, 0)))) (.branch 1790 (.leaf (1785, (.if_icmp .eq 337, 1788, 2122, 0, 0))) (.branch 1791 (.leaf (1790, (.aload_n 1, 1791, 0, 1, 0))) (.leaf (1791, (.aload_n 0, 1792, 0, 0, 0)))))) (.branch 1795 (.branch 1793 (.leaf (1792, (.iload_n 3, 1793, 0, 3, 0))) (.branch 1794 (.leaf (1793, (.iconst 1, 1794, 0, 1, 0))) (.leaf (1794, (.iadd, 1795, 0, 0, 0))))) (.branch 1796 (.leaf (1795, (.iaload, 1796, 0, 0, 0))) (.branch 1797 (.leaf (1796, (.aload_n 0, 1797, 0, 0, 0))) (.leaf (1797, (.iload_n 3, 1798, 0, 3, 0))))))))) (.branch 1827 (.branch 1810 (.branch 1805 (.branch 1800 (.branch 1799 (.leaf (1798, (.iconst 2, 1799, 0, 2, 0))) (.leaf (1799, (.iadd, 1800, 0, 0, 0)))) (.branch 1801 (.leaf (1800, (.iaload, 1801, 0, 0, 0))) (.branch 1804 (.leaf (1801, (.invokevirtual 202, 1804, 0, 155, 0))) (.leaf (1804, (.aload_n 2, 1805, 0, 2, 0)))))) (.branch 1807 (.branch 1806 (.leaf (1805, (.aload_n 0, 1806, 0, 0, 0))) (.leaf (1806, (.iload_n 3, 1807, 0, 3, 0)))) (.branch 1808 (.leaf (1807, (.iconst 1, 1808, 0, 1, 0))) (.branch 1809 (.leaf (1808, (.iadd, 1809, 0, 0, 0))) (.leaf (1809, (.iaload, 1810, 0, 0, 0))))))) (.branch 1815 (.branch 1812 (.branch 1811 (.leaf (1810, (.aload_n 0, 1811, 0, 0, 0))) (.leaf (1811, (.iload_n 3, 1812, 0, 3, 0)))) (.branch 1813 (.leaf (1812, (.iconst 2, 1813, 0, 2, 0))) (.branch 1814 (.leaf (1813, (.iadd, 1814, 0, 0, 0))) (.leaf (1814, (.iaload, 1815, 0, 0, 0)))))) (.branch 1824 (.branch 1818 (.leaf (1815, (.invokevirtual 205, 1818, 0, 156, 0))) (.branch 1823 (.leaf (1818, (.if_icmp .eq 304, 1821, 2122, 0, 0))) (.leaf (1823, (.aload_n 1, 1824, 0, 1, 0))))) (.branch 1825 (.leaf (1824, (.aload_n 0, 1825, 0, 0, 0))) (.branch 1826 (.leaf (1825, (.iload_n 3, 1826, 0, 3, 0))) (.leaf (1826, (.iconst 1, 1827, 0, 1, 0)))))))) (.branch 1840 (.branch 1832 (.branch 1829 (.branch 1828 (.leaf (1827, (.iadd, 1828, 0, 0, 0))) (.leaf (1828, (.iaload, 1829, 0, 0, 0)))) (.branch 1830 (.leaf (1829, (.aload_n 0, 1830, 0, 0, 0))) (.branch 1831 (.leaf (1830, (.iload_n 3, 1831, 0, 3, 0))) (.leaf (1831, (.iconst 2, 1832, 0, 2, 0)))))) (.branch 1837 (.branch 1833 (.leaf (1832, (.iadd, 1833, 0, 0, 0))) (.branch 1834 (.leaf (1833, (.iaload, 1834, 0, 0, 0))) (.leaf (1834, (.invokevirtual 206, 1837, 0, 157, 0))))) (.branch 1838 (.leaf (1837, (.aload_n 2, 1838, 0, 2, 0))) (.branch 1839 (.leaf (1838, (.aload_n 0, 1839, 0, 0, 0))) (.leaf (1839, (.iload_n 3, 1840, 0, 3, 0))))))) (.branch 1845 (.branch 1842 (.branch 1841 (.leaf (1840, (.iconst 1, 1841, 0, 1, 0))) (.leaf (1841, (.iadd, 1842, 0, 0, 0)))) (.branch 1843 (.leaf (1842, (.iaload, 1843, 0, 0, 0))) (.branch 1844 (.leaf (1843, (.aload_n 0, 1844, 0, 0, 0))) (.leaf (1844, (.iload_n 3, 1845, 0, 3, 0)))))) (.branch 1848 (.branch 1846 (.leaf (1845, (.iconst 2, 1846, 0, 2, 0))) (.branch 1847 (.leaf (1846, (.iadd, 1847, 0, 0, 0))) (.leaf (1847, (.iaload, 1848, 0, 0, 0))))) (.branch 1851 (.leaf (1848, (.invokevirtual 209, 1851, 0, 158, 0))) (.branch 1856 (.leaf (1851, (.if_icmp .eq 271, 1854, 2122, 0, 0))) (.leaf (1856, (.aload_n 1, 1857, 0, 1, 0)))))))))
set_option maxRecDepth 100000 in
noncomputable def xt_0_1857 : Lean.RArray (Nat × xins) := .branch 1932 (.branch 1902 (.branch 1883 (.branch 1870 (.branch 1861 (.branch 1860 (.leaf (1857, (.invokevirtual 210, 1860, 0, 159, 0))) (.leaf (1860, (.aload_n 2, 1861, 0, 2, 0)))) (.branch 1864 (.leaf (1861, (.invokevirtual 213, 1864, 0, 160, 0))) (.branch 1869 (.leaf (1864, (.if_icmp .eq 258, 1867, 2122, 0, 0))) (.leaf (1869, (.aload_n 1, 1870, 0, 1, 0)))))) (.branch 1874 (.branch 1873 (.leaf (1870, (.invokevirtual 214, 1873, 0, 162, 0))) (.leaf (1873, (.aload_n 2, 1874, 0, 2, 0)))) (.branch 1877 (.leaf (1874, (.invokevirtual 217, 1877, 0, 163, 0))) (.branch 1882 (.leaf (1877, (.if_icmp .eq 245, 1880, 2122, 0, 0))) (.leaf (1882, (.aload_n 1, 1883, 0, 1, 0))))))) (.branch 1896 (.branch 1887 (.branch 1886 (.leaf (1883, (.invokevirtual 218, 1886, 0, 164, 0))) (.leaf (1886, (.aload_n 2, 1887, 0, 2, 0)))) (.branch 1890 (.leaf (1887, (.invokevirtual 222, 1890, 0, 166, 0))) (.branch 1895 (.leaf (1890, (.if_icmp .eq 232, 1893, 2122, 0, 0))) (.leaf (1895, (.aload_n 1, 1896, 0, 1, 0)))))) (.branch 1899 (.branch 1897 (.leaf (1896, (.aload_n 0, 1897, 0, 0, 0))) (.branch 1898 (.leaf (1897, (.iload_n 3, 1898, 0, 3, 0))) (.leaf (1898, (.iconst 1, 1899, 0, 1, 0))))) (.branch 1900 (.leaf (1899, (.iadd, 1900, 0, 0, 0))) (.branch 1901 (.leaf (1900, (.iaload, 1901, 0, 0, 0))) (.leaf (1901, (.aload_n 0, 1902, 0, 0, 0)))))))) (.branch 1915 (.branch 1909 (.branch 1904 (.branch 1903 (.leaf (1902, (.iload_n 3, 1903, 0, 3, 0))) (.leaf (1903, (.iconst 2, 1904, 0, 2, 0)))) (.branch 1905 (.leaf (1904, (.iadd, 1905, 0, 0, 0))) (.branch 1906 (.leaf (1905, (.iaload, 1906, 0, 0, 0))) (.leaf (1906, (.invokevirtual 223, 1909, 0, 167, 0)))))) (.branch 1912 (.branch 1910 (.leaf (1909, (.aload_n 2, 1910, 0, 2, 0))) (.branch 1911 (.leaf (1910, (.aload_n 0, 1911, 0, 0, 0))) (.leaf (1911, (.iload_n 3, 1912, 0, 3, 0))))) (.branch 1913 (.leaf (1912, (.iconst 1, 1913, 0, 1, 0))) (.branch 1914 (.leaf (1913, (.iadd, 1914, 0, 0, 0))) (.leaf (1914, (.iaload, 1915, 0, 0, 0))))))) (.branch 1920 (.branch 1917 (.branch 1916 (.leaf (1915, (.aload_n 0, 1916, 0, 0, 0))) (.leaf (1916, (.iload_n 3, 1917, 0, 3, 0)))) (.branch 1918 (.leaf (1917, (.iconst 2, 1918, 0, 2, 0))) (.branch 1919 (.leaf (1918, (.iadd, 1919, 0, 0, 0))) (.leaf (1919, (.iaload, 1920, 0, 0, 0)))))) (.branch 1929 (.branch 1923 (.leaf (1920, (.invokevirtual 226, 1923, 0, 168, 0))) (.branch 1928 (.leaf (1923, (.if_icmp .eq 199, 1926, 2122, 0, 0))) (.leaf (1928, (.aload_n 1, 1929, 0, 1, 0))))) (.branch 1930 (.leaf (1929, (.aload_n 0, 1930, 0, 0, 0))) (.branch 1931 (.leaf (1930, (.iload_n 3, 1931, 0, 3, 0))) (.leaf (1931, (.iconst 1, 1932, 0, 1, 0))))))))) (.branch 1961 (.branch 1946 (.branch 1939 (.branch 1934 (.branch 1933 (.leaf (1932, (.iadd, 1933, 0, 0, 0))) (.leaf (1933, (.iaload, 1934, 0, 0, 0)))) (.branch 1937 (.leaf (1934, (.invokevirtual 227, 1937, 0, 169, 0))) (.branch 1938 (.leaf (1937, (.aload_n 2, 1938, 0, 2, 0))) (.leaf (1938, (.aload_n 0, 1939, 0, 0, 0)))))) (.branch 1941 (.branch 1940 (.leaf (1939, (.iload_n 3, 1940, 0, 3, 0))) (.leaf (1940, (.iconst 1, 1941, 0, 1, 0)))) (.branch 1942 (.leaf (1941, (.iadd, 1942, 0, 0, 0))) (.branch 1943 (.leaf (1942, (.iaload, 1943, 0, 0, 0))) (.leaf (1943, (.invokevirtual 230, 1946, 0, 170, 0))))))) (.branch 1955 (.branch 1952 (.branch 1951 (.leaf (1946, (.if_icmp .eq 176, 1949, 2122, 0, 0))) (.leaf (1951, (.aload_n 1, 1952, 0, 1, 0)))) (.branch 1953 (.leaf (1952, (.aload_n 0, 1953, 0, 0, 0))) (.branch 1954 (.leaf (1953, (.iload_n 3, 1954, 0, 3, 0))) (.leaf (1954, (.iconst 1, 1955, 0, 1, 0)))))) (.branch 1958 (.branch 1956 (.leaf (1955, (.iadd, 1956, 0, 0, 0))) (.branch 1957 (.leaf (1956, (.iaload, 1957, 0, 0, 0))) (.leaf (1957, (.aload_n 0, 1958, 0, 0, 0))))) (.branch 1959 (.leaf (1958, (.iload_n 3, 1959, 0, 3, 0))) (.branch 1960 (.leaf (1959, (.iconst 2, 1960, 0, 2, 0))) (.leaf (1960, (.iadd, 1961, 0, 0, 0)))))))) (.branch 1974 (.branch 1968 (.branch 1965 (.branch 1962 (.leaf (1961, (.iaload, 1962, 0, 0, 0))) (.leaf (1962, (.invokevirtual 231, 1965, 0, 171, 0)))) (.branch 1966 (.leaf (1965, (.aload_n 2, 1966, 0, 2, 0))) (.branch 1967 (.leaf (1966, (.aload_n 0, 1967, 0, 0, 0))) (.leaf (1967, (.iload_n 3, 1968, 0, 3, 0)))))) (.branch 1971 (.branch 1969 (.leaf (1968, (.iconst 1, 1969, 0, 1, 0))) (.branch 1970 (.leaf (1969, (.iadd, 1970, 0, 0, 0))) (.leaf (1970, (.iaload, 1971, 0, 0, 0))))) (.branch 1972 (.leaf (1971, (.aload_n 0, 1972, 0, 0, 0))) (.branch 1973 (.leaf (1972, (.iload_n 3, 1973, 0, 3, 0))) (.leaf (1973, (.iconst 2, 1974, 0, 2, 0))))))) (.branch 1985 (.branch 1976 (.branch 1975 (.leaf (1974, (.iadd, 1975, 0, 0, 0))) (.leaf (1975, (.iaload, 1976, 0, 0, 0)))) (.branch 1979 (.leaf (1976, (.invokevirtual 234, 1979, 0, 173, 0))) (.branch 1984 (.leaf (1979, (.if_icmp .eq 143, 1982, 2122, 0, 0))) (.leaf (1984, (.aload_n 1, 1985, 0, 1, 0)))))) (.branch 1988 (.branch 1986 (.leaf (1985, (.aload_n 0, 1986, 0, 0, 0))) (.branch 1987 (.leaf (1986, (.iload_n 3, 1987, 0, 3, 0))) (.leaf (1987, (.iconst 1, 1988, 0, 1, 0))))) (.branch 1989 (.leaf (1988, (.iadd, 1989, 0, 0, 0))) (.branch 1990 (.leaf (1989, (.iaload, 1990, 0, 0, 0))) (.leaf (1990, (.aload_n 0, 1991, 0, 0, 0)))))))))
set_option maxRecDepth 100000 in
noncomputable def xt_0_1991 : Lean.RArray (Nat × xins) := .branch 2052 (.branch 2020 (.branch 2003 (.branch 1998 (.branch 1993 (.branch 1992 (.leaf (1991, (.iload_n 3, 1992, 0, 3, 0))) (.leaf (1992, (.iconst 2, 1993, 0, 2, 0)))) (.branch 1994 (.leaf (1993, (.iadd, 1994, 0, 0, 0))) (.branch 1995 (.leaf (1994, (.iaload, 1995, 0, 0, 0))) (.leaf (1995, (.invokevirtual 235, 1998, 0, 175, 0)))))) (.branch 2000 (.branch 1999 (.leaf (1998, (.aload_n 2, 1999, 0, 2, 0))) (.leaf (1999, (.aload_n 0, 2000, 0, 0, 0)))) (.branch 2001 (.leaf (2000, (.iload_n 3, 2001, 0, 3, 0))) (.branch 2002 (.leaf (2001, (.iconst 1, 2002, 0, 1, 0))) (.leaf (2002, (.iadd, 2003, 0, 0, 0))))))) (.branch 2008 (.branch 2005 (.branch 2004 (.leaf (2003, (.iaload, 2004, 0, 0, 0))) (.leaf (2004, (.aload_n 0, 2005, 0, 0, 0)))) (.branch 2006 (.leaf (2005, (.iload_n 3, 2006, 0, 3, 0))) (.branch 2007 (.leaf (2006, (.iconst 2, 2007, 0, 2, 0))) (.leaf (2007, (.iadd, 2008, 0, 0, 0)))))) (.branch 2017 (.branch 2009 (.leaf (2008, (.iaload, 2009, 0, 0, 0))) (.branch 2012 (.leaf (2009, (.invokevirtual 238, 2012, 0, 176, 0))) (.leaf (2012, (.if_icmp .eq 110, 2015, 2122, 0, 0))))) (.branch 2018 (.leaf (2017, (.aload_n 1, 2018, 0, 1, 0))) (.branch 2019 (.leaf (2018, (.aload_n 0, 2019, 0, 0, 0))) (.leaf (2019, (.iload_n 3, 2020, 0, 3, 0)))))))) (.branch 2035 (.branch 2027 (.branch 2022 (.branch 2021 (.leaf (2020, (.iconst 1, 2021, 0, 1, 0))) (.leaf (2021, (.iadd, 2022, 0, 0, 0)))) (.branch 2023 (.leaf (2022, (.iaload, 2023, 0, 0, 0))) (.branch 2026 (.leaf (2023, (.invokevirtual 239, 2026, 0, 177, 0))) (.leaf (2026, (.aload_n 2, 2027, 0, 2, 0)))))) (.branch 2030 (.branch 2028 (.leaf (2027, (.aload_n 0, 2028, 0, 0, 0))) (.branch 2029 (.leaf (2028, (.iload_n 3, 2029, 0, 3, 0))) (.leaf (2029, (.iconst 1, 2030, 0, 1, 0))))) (.branch 2031 (.leaf (2030, (.iadd, 2031, 0, 0, 0))) (.branch 2032 (.leaf (2031, (.iaload, 2032, 0, 0, 0))) (.leaf (2032, (.invokevirtual 242, 2035, 0, 178, 0))))))) (.branch 2044 (.branch 2041 (.branch 2040 (.leaf (2035, (.if_icmp .eq 87, 2038, 2122, 0, 0))) (.leaf (2040, (.aload_n 1, 2041, 0, 1, 0)))) (.branch 2042 (.leaf (2041, (.aload_n 0, 2042, 0, 0, 0))) (.branch 2043 (.leaf (2042, (.iload_n 3, 2043, 0, 3, 0))) (.leaf (2043, (.iconst 1, 2044, 0, 1, 0)))))) (.branch 2049 (.branch 2045 (.leaf (2044, (.iadd, 2045, 0, 0, 0))) (.branch 2046 (.leaf (2045, (.iaload, 2046, 0, 0, 0))) (.leaf (2046, (.invokevirtual 243, 2049, 0, 179, 0))))) (.branch 2050 (.leaf (2049, (.aload_n 2, 2050, 0, 2, 0))) (.branch 2051 (.leaf (2050, (.aload_n 0, 2051, 0, 0, 0))) (.leaf (2051, (.iload_n 3, 2052, 0, 3, 0))))))))) (.branch 2082 (.branch 2069 (.branch 2063 (.branch 2054 (.branch 2053 (.leaf (2052, (.iconst 1, 2053, 0, 1, 0))) (.leaf (2053, (.iadd, 2054, 0, 0, 0)))) (.branch 2055 (.leaf (2054, (.iaload, 2055, 0, 0, 0))) (.branch 2058 (.leaf (2055, (.invokevirtual 246, 2058, 0, 180, 0))) (.leaf (2058, (.if_icmp .eq 64, 2061, 2122, 0, 0)))))) (.branch 2066 (.branch 2064 (.leaf (2063, (.aload_n 1, 2064, 0, 1, 0))) (.branch 2065 (.leaf (2064, (.aload_n 0, 2065, 0, 0, 0))) (.leaf (2065, (.iload_n 3, 2066, 0, 3, 0))))) (.branch 2067 (.leaf (2066, (.iconst 1, 2067, 0, 1, 0))) (.branch 2068 (.leaf (2067, (.iadd, 2068, 0, 0, 0))) (.leaf (2068, (.iaload, 2069, 0, 0, 0))))))) (.branch 2074 (.branch 2071 (.branch 2070 (.leaf (2069, (.aload_n 0, 2070, 0, 0, 0))) (.leaf (2070, (.iload_n 3, 2071, 0, 3, 0)))) (.branch 2072 (.leaf (2071, (.iconst 2, 2072, 0, 2, 0))) (.branch 2073 (.leaf (2072, (.iadd, 2073, 0, 0, 0))) (.leaf (2073, (.iaload, 2074, 0, 0, 0)))))) (.branch 2079 (.branch 2077 (.leaf (2074, (.invokevirtual 247, 2077, 0, 181, 0))) (.branch 2078 (.leaf (2077, (.aload_n 2, 2078, 0, 2, 0))) (.leaf (2078, (.aload_n 0, 2079, 0, 0, 0))))) (.branch 2080 (.leaf (2079, (.iload_n 3, 2080, 0, 3, 0))) (.branch 2081 (.leaf (2080, (.iconst 1, 2081, 0, 1, 0))) (.leaf (2081, (.iadd, 2082, 0, 0, 0)))))))) (.branch 2101 (.branch 2087 (.branch 2084 (.branch 2083 (.leaf (2082, (.iaload, 2083, 0, 0, 0))) (.leaf (2083, (.aload_n 0, 2084, 0, 0, 0)))) (.branch 2085 (.leaf (2084, (.iload_n 3, 2085, 0, 3, 0))) (.branch 2086 (.leaf (2085, (.iconst 2, 2086, 0, 2, 0))) (.leaf (2086, (.iadd, 2087, 0, 0, 0)))))) (.branch 2096 (.branch 2088 (.leaf (2087, (.iaload, 2088, 0, 0, 0))) (.branch 2091 (.leaf (2088, (.invokevirtual 250, 2091, 0, 182, 0))) (.leaf (2091, (.if_icmp .eq 31, 2094, 2122, 0, 0))))) (.branch 2097 (.leaf (2096, (.aload_n 1, 2097, 0, 1, 0))) (.branch 2100 (.leaf (2097, (.invokevirtual 251, 2100, 0, 183, 0))) (.leaf (2100, (.aload_n 2, 2101, 0, 2, 0))))))) (.branch 2114 (.branch 2109 (.branch 2104 (.leaf (2101, (.invokevirtual 254, 2104, 0, 184, 0))) (.leaf (2104, (.if_icmp .eq 18, 2107, 2122, 0, 0)))) (.branch 2110 (.leaf (2109, (.aload_n 1, 2110, 0, 1, 0))) (.branch 2113 (.leaf (2110, (.invokevirtual 255, 2113, 0, 186, 0))) (.leaf (2113, (.aload_n 2, 2114, 0, 2, 0)))))) (.branch 2125 (.branch 2117 (.leaf (2114, (.invokevirtual 258, 2117, 0, 187, 0))) (.branch 2122 (.leaf (2117, (.if_icmp .eq 5, 2120, 2122, 0, 0))) (.leaf (2122, (.iinc 3 6, 2125, 0, 3, 6))))) (.branch 2128 (.leaf (2125, (.goto (-2107), 2128, 18, 0, 0))) (.branch 2129 (.leaf (2128, (.iconst 1, 2129, 0, 1, 0))) (.leaf (2129, (.ireturn, 2130, 0, 0, 0)))))))))
noncomputable def xt_0 : Lean.RArray (Nat × xins) := .branch 1151 (.branch 726 (.branch 498 (.branch 391 (xt_0_18) (xt_0_391)) (.branch 598 (xt_0_498) (xt_0_598))) (.branch 946 (.branch 844 (xt_0_726) (xt_0_844)) (.branch 1048 (xt_0_946) (xt_0_1048)))) (.branch 1629 (.branch 1379 (.branch 1261 (xt_0_1151) (xt_0_1261)) (.branch 1501 (xt_0_1379) (xt_0_1501))) (.branch 1857 (.branch 1739 (xt_0_1629) (xt_0_1739)) (.branch 1991 (xt_0_1857) (xt_0_1991))))
set_option maxRecDepth 100000 in
noncomputable def xt_1_0 : Lean.RArray (Nat × xins) := .branch 64 (.branch 28 (.branch 14 (.branch 6 (.branch 4 (.branch 1 (.leaf (0, (.aload_n 0, 1, 0, 0, 0))) (.leaf (1, (.invokespecial 1, 4, 0, 0, 6)))) (.branch 5 (.leaf (4, (.aload_n 0, 5, 0, 0, 0))) (.leaf (5, (.iconst 0, 6, 0, 0, 0))))) (.branch 10 (.branch 9 (.leaf (6, (.putfield 9, 9, 0, 11, 0))) (.leaf (9, (.aload_n 0, 10, 0, 0, 0)))) (.branch 11 (.leaf (10, (.lconst 0, 11, 0, 0, 0))) (.leaf (11, (.putfield 13, 14, 1, 11, 1)))))) (.branch 20 (.branch 16 (.branch 15 (.leaf (14, (.aload_n 0, 15, 0, 0, 0))) (.leaf (15, (.lconst 1, 16, 0, 1, 0)))) (.branch 19 (.leaf (16, (.putfield 17, 19, 1, 11, 2))) (.leaf (19, (.aload_n 0, 20, 0, 0, 0))))) (.branch 24 (.branch 21 (.leaf (20, (.iconst 4, 21, 0, 4, 0))) (.leaf (21, (.anewarray 20, 24, 0, 28, 0)))) (.branch 27 (.leaf (24, (.putfield 22, 27, 2, 11, 3))) (.leaf (27, (.aload_n 0, 28, 0, 0, 0))))))) (.branch 45 (.branch 37 (.branch 33 (.branch 31 (.leaf (28, (.sipush 900, 31, 0, 900, 0))) (.leaf (31, (.newarray .byte, 33, 0, 15, 0)))) (.branch 36 (.leaf (33, (.putfield 26, 36, 2, 11, 4))) (.leaf (36, (.aload_n 0, 37, 0, 0, 0))))) (.branch 41 (.branch 38 (.leaf (37, (.iconst 0, 38, 0, 0, 0))) (.leaf (38, (.putfield 30, 41, 0, 11, 5)))) (.branch 42 (.leaf (41, (.aload_n 0, 42, 0, 0, 0))) (.leaf (42, (.new 33, 45, 0, 0, 0)))))) (.branch 53 (.branch 49 (.branch 46 (.leaf (45, (.dup, 46, 0, 0, 0))) (.leaf (46, (.invokespecial 35, 49, 0, 2, 0)))) (.branch 52 (.leaf (49, (.putfield 36, 52, 2, 11, 6))) (.leaf (52, (.aload_n 0, 53, 0, 0, 0))))) (.branch 57 (.branch 56 (.leaf (53, (.new 33, 56, 0, 0, 0))) (.leaf (56, (.dup, 57, 0, 0, 0)))) (.branch 60 (.leaf (57, (.invokespecial 35, 60, 0, 2, 0))) (.branch 63 (.leaf (60, (.putfield 40, 63, 2, 11, 7))) (.leaf (63, (.aload_n 0, 64, 0, 0, 0))))))))) (.branch 96 (.branch 80 (.branch 72 (.branch 68 (.branch 65 (.leaf (64, (.iconst 3, 65, 0, 3, 0))) (.leaf (65, (.anewarray 33, 68, 0, 20, 0)))) (.branch 71 (.leaf (68, (.putfield 43, 71, 2, 11, 8))) (.leaf (71, (.aload_n 0, 72, 0, 0, 0))))) (.branch 76 (.branch 73 (.leaf (72, (.iconst 0, 73, 0, 0, 0))) (.leaf (73, (.putfield 47, 76, 0, 11, 9)))) (.branch 77 (.leaf (76, (.aload_n 0, 77, 0, 0, 0))) (.leaf (77, (.new 50, 80, 0, 7, 0)))))) (.branch 88 (.branch 82 (.branch 81 (.leaf (80, (.dup, 81, 0, 0, 0))) (.leaf (81, (.aload_n 0, 82, 0, 0, 0)))) (.branch 85 (.leaf (82, (.getfield 26, 85, 0, 11, 4))) (.leaf (85, (.invokespecial 52, 88, 0, 6, 0))))) (.branch 92 (.branch 91 (.leaf (88, (.putfield 55, 91, 2, 11, 10))) (.leaf (91, (.aload_n 0, 92, 0, 0, 0)))) (.branch 95 (.leaf (92, (.new 59, 95, 0, 4, 0))) (.leaf (95, (.dup, 96, 0, 0, 0))))))) (.branch 114 (.branch 104 (.branch 100 (.branch 97 (.leaf (96, (.aload_n 0, 97, 0, 0, 0))) (.leaf (97, (.getfield 55, 100, 0, 11, 10)))) (.branch 101 (.leaf (100, (.aload_n 0, 101, 0, 0, 0))) (.leaf (101, (.getfield 36, 104, 0, 11, 6))))) (.branch 108 (.branch 105 (.leaf (104, (.aload_n 0, 105, 0, 0, 0))) (.leaf (105, (.getfield 40, 108, 0, 11, 7)))) (.branch 111 (.leaf (108, (.invokespecial 61, 111, 0, 14, 0))) (.leaf (111, (.putfield 64, 114, 2, 11, 11)))))) (.branch 120 (.branch 118 (.branch 115 (.leaf (114, (.aload_n 0, 115, 0, 0, 0))) (.leaf (115, (.new 68, 118, 0, 6, 0)))) (.branch 119 (.leaf (118, (.dup, 119, 0, 0, 0))) (.leaf (119, (.aload_n 0, 120, 0, 0, 0))))) (.branch 126 (.branch 123 (.leaf (120, (.getfield 36, 123, 0, 11, 6))) (.leaf (123, (.invokespecial 70, 126, 0, 15, 0)))) (.branch 129 (.leaf (126, (.putfield 73, 129, 2, 11, 12))) (.branch 130 (.leaf (129, (.aload_n 0, 130, 0, 0, 0))) (.leaf (130, (.new 77, 133, 0, 3, 0)))))))))
set_option maxRecDepth 100000 in
noncomputable def xt_1_133 : Lean.RArray (Nat × xins) := .branch 204 (.branch 167 (.branch 149 (.branch 139 (.branch 135 (.branch 134 (.leaf (133, (.dup, 134, 0, 0, 0))) (.leaf (134, (.aload_n 0, 135, 0, 0, 0)))) (.branch 138 (.leaf (135, (.getfield 36, 138, 0, 11, 6))) (.leaf (138, (.aload_n 0, 139, 0, 0, 0))))) (.branch 145 (.branch 142 (.leaf (139, (.getfield 40, 142, 0, 11, 7))) (.leaf (142, (.invokespecial 79, 145, 0, 16, 0)))) (.branch 148 (.leaf (145, (.putfield 82, 148, 2, 11, 13))) (.leaf (148, (.aload_n 0, 149, 0, 0, 0)))))) (.branch 157 (.branch 153 (.branch 152 (.leaf (149, (.new 86, 152, 0, 10, 0))) (.leaf (152, (.dup, 153, 0, 0, 0)))) (.branch 154 (.leaf (153, (.aload_n 0, 154, 0, 0, 0))) (.leaf (154, (.getfield 36, 157, 0, 11, 6))))) (.branch 163 (.branch 160 (.leaf (157, (.invokespecial 88, 160, 0, 17, 0))) (.leaf (160, (.putfield 89, 163, 2, 11, 14)))) (.branch 164 (.leaf (163, (.aload_n 0, 164, 0, 0, 0))) (.leaf (164, (.new 93, 167, 0, 5, 0))))))) (.branch 185 (.branch 173 (.branch 169 (.branch 168 (.leaf (167, (.dup, 168, 0, 0, 0))) (.leaf (168, (.aload_n 0, 169, 0, 0, 0)))) (.branch 172 (.leaf (169, (.getfield 36, 172, 0, 11, 6))) (.leaf (172, (.aload_n 0, 173, 0, 0, 0))))) (.branch 179 (.branch 176 (.leaf (173, (.getfield 36, 176, 0, 11, 6))) (.leaf (176, (.getfield 95, 179, 0, 0, 11)))) (.branch 182 (.leaf (179, (.invokespecial 99, 182, 0, 18, 0))) (.leaf (182, (.putfield 102, 185, 2, 11, 15)))))) (.branch 191 (.branch 189 (.branch 186 (.leaf (185, (.aload_n 0, 186, 0, 0, 0))) (.leaf (186, (.new 93, 189, 0, 5, 0)))) (.branch 190 (.leaf (189, (.dup, 190, 0, 0, 0))) (.leaf (190, (.aload_n 0, 191, 0, 0, 0))))) (.branch 195 (.branch 194 (.leaf (191, (.getfield 40, 194, 0, 11, 7))) (.leaf (194, (.aload_n 0, 195, 0, 0, 0)))) (.branch 198 (.leaf (195, (.getfield 36, 198, 0, 11, 6))) (.branch 201 (.leaf (198, (.getfield 95, 201, 0, 0, 11))) (.leaf (201, (.invokespecial 99, 204, 0, 18, 0))))))))) (.branch 232 (.branch 216 (.branch 212 (.branch 208 (.branch 207 (.leaf (204, (.putfield 106, 207, 2, 11, 16))) (.leaf (207, (.aload_n 0, 208, 0, 0, 0)))) (.branch 209 (.leaf (208, (.iconst 0, 209, 0, 0, 0))) (.leaf (209, (.putfield 109, 212, 0, 11, 17))))) (.branch 214 (.branch 213 (.leaf (212, (.iconst 0, 213, 0, 0, 0))) (.leaf (213, (.istore_n 1, 214, 0, 1, 0)))) (.branch 215 (.leaf (214, (.iload_n 1, 215, 0, 1, 0))) (.leaf (215, (.iconst 4, 216, 0, 4, 0)))))) (.branch 224 (.branch 220 (.branch 219 (.leaf (216, (.if_icmp .ge 22, 219, 238, 0, 0))) (.leaf (219, (.aload_n 0, 220, 0, 0, 0)))) (.branch 223 (.leaf (220, (.getfield 22, 223, 0, 11, 3))) (.leaf (223, (.iload_n 1, 224, 0, 1, 0))))) (.branch 228 (.branch 227 (.leaf (224, (.new 20, 227, 0, 8, 0))) (.leaf (227, (.dup, 228, 0, 0, 0)))) (.branch 231 (.leaf (228, (.invokespecial 112, 231, 0, 19, 5))) (.leaf (231, (.aastore, 232, 0, 0, 0))))))) (.branch 246 (.branch 240 (.branch 238 (.branch 235 (.leaf (232, (.iinc 1 1, 235, 0, 1, 1))) (.leaf (235, (.goto (-21), 238, 214, 0, 0)))) (.branch 239 (.leaf (238, (.iconst 0, 239, 0, 0, 0))) (.leaf (239, (.istore_n 1, 240, 0, 1, 0))))) (.branch 242 (.branch 241 (.leaf (240, (.iload_n 1, 241, 0, 1, 0))) (.leaf (241, (.iconst 3, 242, 0, 3, 0)))) (.branch 245 (.leaf (242, (.if_icmp .ge 22, 245, 264, 0, 0))) (.leaf (245, (.aload_n 0, 246, 0, 0, 0)))))) (.branch 254 (.branch 250 (.branch 249 (.leaf (246, (.getfield 43, 249, 0, 11, 8))) (.leaf (249, (.iload_n 1, 250, 0, 1, 0)))) (.branch 253 (.leaf (250, (.new 33, 253, 0, 0, 0))) (.leaf (253, (.dup, 254, 0, 0, 0))))) (.branch 258 (.branch 257 (.leaf (254, (.invokespecial 35, 257, 0, 2, 0))) (.leaf (257, (.aastore, 258, 0, 0, 0)))) (.branch 261 (.leaf (258, (.iinc 1 1, 261, 0, 1, 1))) (.branch 264 (.leaf (261, (.goto (-21), 264, 240, 0, 0))) (.leaf (264, (.return_, 265, 0, 0, 0)))))))))
noncomputable def xt_1 : Lean.RArray (Nat × xins) := .branch 133 (xt_1_0) (xt_1_133)
set_option maxRecDepth 100000 in
noncomputable def xt_2_0 : Lean.RArray (Nat × xins) := .branch 64 (.branch 31 (.branch 16 (.branch 6 (.branch 4 (.branch 1 (.leaf (0, (.aload_n 0, 1, 0, 0, 0))) (.leaf (1, (.invokespecial 3, 4, 0, 0, 6)))) (.branch 5 (.leaf (4, (.aload_n 0, 5, 0, 0, 0))) (.leaf (5, (.iconst 0, 6, 0, 0, 0))))) (.branch 10 (.branch 9 (.leaf (6, (.putfield 9, 9, 0, 0, 0))) (.leaf (9, (.aload_n 0, 10, 0, 0, 0)))) (.branch 11 (.leaf (10, (.iconst 5, 11, 0, 5, 0))) (.branch 13 (.leaf (11, (.newarray .int, 13, 0, 13, 0))) (.leaf (13, (.putfield 15, 16, 2, 0, 1))))))) (.branch 23 (.branch 18 (.branch 17 (.leaf (16, (.aload_n 0, 17, 0, 0, 0))) (.leaf (17, (.iconst 5, 18, 0, 5, 0)))) (.branch 20 (.leaf (18, (.newarray .long, 20, 0, 14, 1))) (.leaf (20, (.putfield 19, 23, 2, 0, 2))))) (.branch 25 (.branch 24 (.leaf (23, (.aload_n 0, 24, 0, 0, 0))) (.leaf (24, (.iconst 0, 25, 0, 0, 0)))) (.branch 28 (.leaf (25, (.putfield 23, 28, 0, 0, 3))) (.branch 29 (.leaf (28, (.aload_n 0, 29, 0, 0, 0))) (.leaf (29, (.bipush 6, 31, 0, 6, 0)))))))) (.branch 48 (.branch 39 (.branch 37 (.branch 34 (.leaf (31, (.anewarray 26, 34, 0, 22, 0))) (.leaf (34, (.putfield 28, 37, 2, 0, 4)))) (.branch 38 (.leaf (37, (.aload_n 0, 38, 0, 0, 0))) (.leaf (38, (.iconst 5, 39, 0, 5, 0))))) (.branch 43 (.branch 42 (.leaf (39, (.putfield 32, 42, 0, 0, 5))) (.leaf (42, (.aload_n 0, 43, 0, 0, 0)))) (.branch 44 (.leaf (43, (.iconst 2, 44, 0, 2, 0))) (.branch 47 (.leaf (44, (.putfield 35, 47, 0, 0, 6))) (.leaf (47, (.aload_n 0, 48, 0, 0, 0))))))) (.branch 55 (.branch 53 (.branch 50 (.leaf (48, (.bipush 10, 50, 0, 10, 0))) (.leaf (50, (.putfield 38, 53, 0, 0, 7)))) (.branch 54 (.leaf (53, (.aload_n 0, 54, 0, 0, 0))) (.leaf (54, (.iconst 0, 55, 0, 0, 0))))) (.branch 59 (.branch 58 (.leaf (55, (.putfield 41, 58, 0, 0, 8))) (.leaf (58, (.aload_n 0, 59, 0, 0, 0)))) (.branch 60 (.leaf (59, (.iconst 0, 60, 0, 0, 0))) (.branch 63 (.leaf (60, (.putfield 44, 63, 0, 0, 9))) (.leaf (63, (.aload_n 0, 64, 0, 0, 0))))))))) (.branch 100 (.branch 84 (.branch 73 (.branch 69 (.branch 66 (.leaf (64, (.bipush 16, 66, 0, 16, 0))) (.leaf (66, (.anewarray 47, 69, 0, 21, 0)))) (.branch 72 (.leaf (69, (.putfield 49, 72, 2, 0, 10))) (.leaf (72, (.aload_n 0, 73, 0, 0, 0))))) (.branch 77 (.branch 76 (.leaf (73, (.new 53, 76, 0, 9, 0))) (.leaf (76, (.dup, 77, 0, 0, 0)))) (.branch 80 (.leaf (77, (.invokespecial 55, 80, 0, 3, 5))) (.branch 83 (.leaf (80, (.putfield 56, 83, 2, 0, 11))) (.leaf (83, (.iconst 0, 84, 0, 0, 0))))))) (.branch 91 (.branch 86 (.branch 85 (.leaf (84, (.istore_n 1, 85, 0, 1, 0))) (.leaf (85, (.iload_n 1, 86, 0, 1, 0)))) (.branch 88 (.leaf (86, (.bipush 6, 88, 0, 6, 0))) (.leaf (88, (.if_icmp .ge 22, 91, 110, 0, 0))))) (.branch 95 (.branch 92 (.leaf (91, (.aload_n 0, 92, 0, 0, 0))) (.leaf (92, (.getfield 28, 95, 0, 0, 4)))) (.branch 96 (.leaf (95, (.iload_n 1, 96, 0, 1, 0))) (.branch 99 (.leaf (96, (.new 26, 99, 0, 2, 0))) (.leaf (99, (.dup, 100, 0, 0, 0)))))))) (.branch 118 (.branch 110 (.branch 104 (.branch 103 (.leaf (100, (.invokespecial 60, 103, 0, 4, 5))) (.leaf (103, (.aastore, 104, 0, 0, 0)))) (.branch 107 (.leaf (104, (.iinc 1 1, 107, 0, 1, 1))) (.leaf (107, (.goto (-22), 110, 85, 0, 0))))) (.branch 112 (.branch 111 (.leaf (110, (.iconst 0, 111, 0, 0, 0))) (.leaf (111, (.istore_n 1, 112, 0, 1, 0)))) (.branch 113 (.leaf (112, (.iload_n 1, 113, 0, 1, 0))) (.branch 115 (.leaf (113, (.bipush 16, 115, 0, 16, 0))) (.leaf (115, (.if_icmp .ge 22, 118, 137, 0, 0))))))) (.branch 127 (.branch 122 (.branch 119 (.leaf (118, (.aload_n 0, 119, 0, 0, 0))) (.leaf (119, (.getfield 49, 122, 0, 0, 10)))) (.branch 123 (.leaf (122, (.iload_n 1, 123, 0, 1, 0))) (.branch 126 (.leaf (123, (.new 47, 126, 0, 1, 0))) (.leaf (126, (.dup, 127, 0, 0, 0)))))) (.branch 131 (.branch 130 (.leaf (127, (.invokespecial 61, 130, 0, 5, 5))) (.leaf (130, (.aastore, 131, 0, 0, 0)))) (.branch 134 (.leaf (131, (.iinc 1 1, 134, 0, 1, 1))) (.branch 137 (.leaf (134, (.goto (-22), 137, 112, 0, 0))) (.leaf (137, (.return_, 138, 0, 0, 0)))))))))
noncomputable def xt_2 : Lean.RArray (Nat × xins) := xt_2_0
set_option maxRecDepth 100000 in
noncomputable def xt_3_0 : Lean.RArray (Nat × xins) := .branch 40 (.branch 19 (.branch 9 (.branch 4 (.branch 1 (.leaf (0, (.aload_n 0, 1, 0, 0, 0))) (.leaf (1, (.invokespecial 1, 4, 0, 0, 6)))) (.branch 5 (.leaf (4, (.aload_n 0, 5, 0, 0, 0))) (.branch 6 (.leaf (5, (.iconst 0, 6, 0, 0, 0))) (.leaf (6, (.putfield 7, 9, 3, 9, 0)))))) (.branch 14 (.branch 10 (.leaf (9, (.aload_n 0, 10, 0, 0, 0))) (.branch 11 (.leaf (10, (.iconst 0, 11, 0, 0, 0))) (.leaf (11, (.putfield 13, 14, 0, 9, 1))))) (.branch 15 (.leaf (14, (.aload_n 0, 15, 0, 0, 0))) (.branch 16 (.leaf (15, (.iconst 0, 16, 0, 0, 0))) (.leaf (16, (.putfield 17, 19, 0, 9, 2))))))) (.branch 28 (.branch 22 (.branch 20 (.leaf (19, (.aload_n 0, 20, 0, 0, 0))) (.leaf (20, (.bipush 60, 22, 0, 60, 0)))) (.branch 24 (.leaf (22, (.newarray .int, 24, 0, 13, 0))) (.branch 27 (.leaf (24, (.putfield 20, 27, 2, 9, 3))) (.leaf (27, (.aload_n 0, 28, 0, 0, 0)))))) (.branch 35 (.branch 30 (.leaf (28, (.bipush 60, 30, 0, 60, 0))) (.branch 32 (.leaf (30, (.newarray .int, 32, 0, 13, 0))) (.leaf (32, (.putfield 24, 35, 2, 9, 4))))) (.branch 36 (.leaf (35, (.aload_n 0, 36, 0, 0, 0))) (.branch 38 (.leaf (36, (.bipush 60, 38, 0, 60, 0))) (.leaf (38, (.newarray .int, 40, 0, 13, 0)))))))) (.branch 62 (.branch 51 (.branch 44 (.branch 43 (.leaf (40, (.putfield 27, 43, 2, 9, 5))) (.leaf (43, (.aload_n 0, 44, 0, 0, 0)))) (.branch 46 (.leaf (44, (.bipush 60, 46, 0, 60, 0))) (.branch 48 (.leaf (46, (.newarray .int, 48, 0, 13, 0))) (.leaf (48, (.putfield 30, 51, 2, 9, 6)))))) (.branch 56 (.branch 52 (.leaf (51, (.aload_n 0, 52, 0, 0, 0))) (.branch 54 (.leaf (52, (.bipush 60, 54, 0, 60, 0))) (.leaf (54, (.newarray .int, 56, 0, 13, 0))))) (.branch 59 (.leaf (56, (.putfield 33, 59, 2, 9, 7))) (.branch 60 (.leaf (59, (.aload_n 0, 60, 0, 0, 0))) (.leaf (60, (.bipush 60, 62, 0, 60, 0))))))) (.branch 72 (.branch 67 (.branch 64 (.leaf (62, (.newarray .int, 64, 0, 13, 0))) (.leaf (64, (.putfield 36, 67, 2, 9, 8)))) (.branch 68 (.leaf (67, (.aload_n 0, 68, 0, 0, 0))) (.branch 70 (.leaf (68, (.bipush 60, 70, 0, 60, 0))) (.leaf (70, (.newarray .int, 72, 0, 13, 0)))))) (.branch 78 (.branch 75 (.leaf (72, (.putfield 39, 75, 2, 9, 9))) (.branch 76 (.leaf (75, (.aload_n 0, 76, 0, 0, 0))) (.leaf (76, (.bipush 60, 78, 0, 60, 0))))) (.branch 80 (.leaf (78, (.newarray .int, 80, 0, 13, 0))) (.branch 83 (.leaf (80, (.putfield 42, 83, 2, 9, 10))) (.leaf (83, (.return_, 84, 0, 0, 0))))))))
noncomputable def xt_3 : Lean.RArray (Nat × xins) := xt_3_0
set_option maxRecDepth 100000 in
noncomputable def xt_4_0 : Lean.RArray (Nat × xins) := .branch 20 (.branch 10 (.branch 5 (.branch 1 (.leaf (0, (.aload_n 0, 1, 0, 0, 0))) (.branch 4 (.leaf (1, (.invokespecial 3, 4, 0, 0, 6))) (.leaf (4, (.aload_n 0, 5, 0, 0, 0))))) (.branch 6 (.leaf (5, (.lconst 0, 6, 0, 0, 0))) (.branch 9 (.leaf (6, (.putfield 9, 9, 1, 2, 0))) (.leaf (9, (.aload_n 0, 10, 0, 0, 0)))))) (.branch 15 (.branch 11 (.leaf (10, (.iconst 0, 11, 0, 0, 0))) (.branch 14 (.leaf (11, (.putfield 15, 14, 0, 2, 1))) (.leaf (14, (.aload_n 0, 15, 0, 0, 0))))) (.branch 16 (.leaf (15, (.iconst 0, 16, 0, 0, 0))) (.branch 19 (.leaf (16, (.putfield 19, 19, 3, 2, 2))) (.leaf (19, (.aload_n 0, 20, 0, 0, 0))))))) (.branch 30 (.branch 25 (.branch 21 (.leaf (20, (.iconst 0, 21, 0, 0, 0))) (.branch 24 (.leaf (21, (.putfield 23, 24, 3, 2, 3))) (.leaf (24, (.aload_n 0, 25, 0, 0, 0))))) (.branch 26 (.leaf (25, (.iconst (-1), 26, 0, 4294967295, 0))) (.branch 29 (.leaf (26, (.putfield 26, 29, 0, 2, 4))) (.leaf (29, (.aload_n 0, 30, 0, 0, 0)))))) (.branch 35 (.branch 31 (.leaf (30, (.iconst 0, 31, 0, 0, 0))) (.branch 34 (.leaf (31, (.putfield 29, 34, 0, 2, 5))) (.leaf (34, (.aload_n 0, 35, 0, 0, 0))))) (.branch 39 (.branch 37 (.leaf (35, (.bipush 8, 37, 0, 8, 0))) (.leaf (37, (.newarray .int, 39, 0, 13, 0)))) (.branch 42 (.leaf (39, (.putfield 32, 42, 2, 2, 6))) (.leaf (42, (.return_, 43, 0, 0, 0)))))))
noncomputable def xt_4 : Lean.RArray (Nat × xins) := xt_4_0
set_option maxRecDepth 100000 in
noncomputable def xt_5_0 : Lean.RArray (Nat × xins) := .branch 21 (.branch 10 (.branch 5 (.branch 1 (.leaf (0, (.aload_n 0, 1, 0, 0, 0))) (.branch 4 (.leaf (1, (.invokespecial 3, 4, 0, 0, 6))) (.leaf (4, (.aload_n 0, 5, 0, 0, 0))))) (.branch 6 (.leaf (5, (.iconst 0, 6, 0, 0, 0))) (.branch 9 (.leaf (6, (.putfield 9, 9, 0, 1, 0))) (.leaf (9, (.aload_n 0, 10, 0, 0, 0)))))) (.branch 15 (.branch 11 (.leaf (10, (.iconst 0, 11, 0, 0, 0))) (.branch 14 (.leaf (11, (.putfield 15, 14, 0, 1, 1))) (.leaf (14, (.aload_n 0, 15, 0, 0, 0))))) (.branch 19 (.branch 16 (.leaf (15, (.iconst 0, 16, 0, 0, 0))) (.leaf (16, (.putfield 18, 19, 0, 1, 2)))) (.branch 20 (.leaf (19, (.aload_n 0, 20, 0, 0, 0))) (.leaf (20, (.iconst 0, 21, 0, 0, 0))))))) (.branch 34 (.branch 26 (.branch 24 (.leaf (21, (.putfield 21, 24, 0, 1, 3))) (.branch 25 (.leaf (24, (.aload_n 0, 25, 0, 0, 0))) (.leaf (25, (.iconst 0, 26, 0, 0, 0))))) (.branch 30 (.branch 29 (.leaf (26, (.putfield 24, 29, 0, 1, 4))) (.leaf (29, (.aload_n 0, 30, 0, 0, 0)))) (.branch 31 (.leaf (30, (.iconst 0, 31, 0, 0, 0))) (.leaf (31, (.putfield 27, 34, 0, 1, 5)))))) (.branch 39 (.branch 35 (.leaf (34, (.aload_n 0, 35, 0, 0, 0))) (.branch 36 (.leaf (35, (.iconst 0, 36, 0, 0, 0))) (.leaf (36, (.putfield 30, 39, 3, 1, 6))))) (.branch 41 (.branch 40 (.leaf (39, (.aload_n 0, 40, 0, 0, 0))) (.leaf (40, (.iconst 0, 41, 0, 0, 0)))) (.branch 44 (.leaf (41, (.putfield 34, 44, 0, 1, 7))) (.leaf (44, (.return_, 45, 0, 0, 0)))))))
noncomputable def xt_5 : Lean.RArray (Nat × xins) := xt_5_0
set_option maxRecDepth 100000 in
noncomputable def xt_6_0 : Lean.RArray (Nat × xins) := .branch 69 (.branch 34 (.branch 18 (.branch 9 (.branch 4 (.branch 1 (.leaf (0, (.aload_n 0, 1, 0, 0, 0))) (.leaf (1, (.invokespecial 3, 4, 0, 0, 6)))) (.branch 5 (.leaf (4, (.aload_n 0, 5, 0, 0, 0))) (.branch 7 (.leaf (5, (.bipush 25, 7, 0, 25, 0))) (.leaf (7, (.newarray .long, 9, 0, 14, 1)))))) (.branch 13 (.branch 12 (.leaf (9, (.putfield 11, 12, 2, 7, 1))) (.leaf (12, (.aload_n 0, 13, 0, 0, 0)))) (.branch 14 (.leaf (13, (.iconst 0, 14, 0, 0, 0))) (.branch 17 (.leaf (14, (.putfield 15, 17, 0, 7, 2))) (.leaf (17, (.aload_n 0, 18, 0, 0, 0))))))) (.branch 27 (.branch 22 (.branch 19 (.leaf (18, (.iconst 0, 19, 0, 0, 0))) (.leaf (19, (.putfield 19, 22, 0, 7, 3)))) (.branch 23 (.leaf (22, (.aload_n 0, 23, 0, 0, 0))) (.branch 24 (.leaf (23, (.iconst 0, 24, 0, 0, 0))) (.leaf (24, (.putfield 22, 27, 0, 7, 4)))))) (.branch 29 (.branch 28 (.leaf (27, (.aload_n 0, 28, 0, 0, 0))) (.leaf (28, (.iconst 0, 29, 0, 0, 0)))) (.branch 32 (.leaf (29, (.putfield 25, 32, 0, 7, 5))) (.branch 33 (.leaf (32, (.aload_n 0, 33, 0, 0, 0))) (.leaf (33, (.lconst 0, 34, 0, 0, 0)))))))) (.branch 52 (.branch 43 (.branch 38 (.branch 37 (.leaf (34, (.putfield 28, 37, 1, 7, 6))) (.leaf (37, (.aload_n 0, 38, 0, 0, 0)))) (.branch 39 (.leaf (38, (.iconst (-1), 39, 0, 4294967295, 0))) (.branch 42 (.leaf (39, (.putfield 32, 42, 0, 7, 7))) (.leaf (42, (.aload_n 0, 43, 0, 0, 0)))))) (.branch 47 (.branch 44 (.leaf (43, (.iconst 0, 44, 0, 0, 0))) (.leaf (44, (.putfield 35, 47, 0, 7, 8)))) (.branch 48 (.leaf (47, (.aload_n 0, 48, 0, 0, 0))) (.branch 49 (.leaf (48, (.iconst 0, 49, 0, 0, 0))) (.leaf (49, (.putfield 38, 52, 0, 7, 9))))))) (.branch 59 (.branch 54 (.branch 53 (.leaf (52, (.aload_n 0, 53, 0, 0, 0))) (.leaf (53, (.iconst (-1), 54, 0, 4294967295, 0)))) (.branch 57 (.leaf (54, (.putfield 41, 57, 0, 7, 10))) (.branch 58 (.leaf (57, (.aload_n 0, 58, 0, 0, 0))) (.leaf (58, (.iconst (-1), 59, 0, 4294967295, 0)))))) (.branch 64 (.branch 62 (.leaf (59, (.putfield 44, 62, 0, 7, 11))) (.branch 63 (.leaf (62, (.aload_n 0, 63, 0, 0, 0))) (.leaf (63, (.aload_n 1, 64, 0, 1, 0))))) (.branch 67 (.leaf (64, (.putfield 47, 67, 2, 7, 0))) (.branch 68 (.leaf (67, (.lconst 0, 68, 0, 0, 0))) (.leaf (68, (.lstore_n 2, 69, 0, 2, 0))))))))) (.branch 110 (.branch 89 (.branch 77 (.branch 72 (.branch 70 (.leaf (69, (.iconst 0, 70, 0, 0, 0))) (.leaf (70, (.istore 4, 72, 0, 4, 0)))) (.branch 73 (.leaf (72, (.iconst 0, 73, 0, 0, 0))) (.branch 75 (.leaf (73, (.istore 5, 75, 0, 5, 0))) (.leaf (75, (.iload 5, 77, 0, 5, 0)))))) (.branch 82 (.branch 79 (.leaf (77, (.ldc 51, 79, 0, 0, 1))) (.leaf (79, (.invokevirtual 53, 82, 0, 7, 0)))) (.branch 85 (.leaf (82, (.if_icmp .ge 63, 85, 145, 0, 0))) (.branch 87 (.leaf (85, (.ldc 51, 87, 0, 0, 1))) (.leaf (87, (.iload 5, 89, 0, 5, 0))))))) (.branch 101 (.branch 94 (.branch 92 (.leaf (89, (.invokevirtual 58, 92, 0, 9, 0))) (.leaf (92, (.istore 6, 94, 0, 6, 0)))) (.branch 96 (.leaf (94, (.iload 6, 96, 0, 6, 0))) (.branch 98 (.leaf (96, (.bipush 32, 98, 0, 32, 0))) (.leaf (98, (.if_icmp .eq 21, 101, 119, 0, 0)))))) (.branch 105 (.branch 102 (.leaf (101, (.lload_n 2, 102, 0, 2, 0))) (.leaf (102, (.ldc2_w 62, 105, 0, 32, 0)))) (.branch 106 (.leaf (105, (.lmul, 106, 0, 0, 0))) (.branch 108 (.leaf (106, (.iload 6, 108, 0, 6, 0))) (.leaf (108, (.bipush 97, 110, 0, 97, 0)))))))) (.branch 126 (.branch 115 (.branch 112 (.branch 111 (.leaf (110, (.isub, 111, 0, 0, 0))) (.leaf (111, (.iconst 1, 112, 0, 1, 0)))) (.branch 113 (.leaf (112, (.iadd, 113, 0, 0, 0))) (.branch 114 (.leaf (113, (.i2l, 114, 0, 0, 0))) (.leaf (114, (.ladd, 115, 0, 0, 0)))))) (.branch 119 (.branch 116 (.leaf (115, (.lstore_n 2, 116, 0, 2, 0))) (.leaf (116, (.goto 23, 119, 139, 0, 0)))) (.branch 121 (.leaf (119, (.iload 4, 121, 0, 4, 0))) (.branch 123 (.leaf (121, (.bipush 25, 123, 0, 25, 0))) (.leaf (123, (.if_icmp .ge 16, 126, 139, 0, 0))))))) (.branch 134 (.branch 130 (.branch 127 (.leaf (126, (.aload_n 0, 127, 0, 0, 0))) (.leaf (127, (.getfield 11, 130, 0, 7, 1)))) (.branch 132 (.leaf (130, (.iload 4, 132, 0, 4, 0))) (.branch 133 (.leaf (132, (.lload_n 2, 133, 0, 2, 0))) (.leaf (133, (.lastore, 134, 0, 0, 0)))))) (.branch 139 (.branch 137 (.leaf (134, (.iinc 4 1, 137, 0, 4, 1))) (.branch 138 (.leaf (137, (.lconst 0, 138, 0, 0, 0))) (.leaf (138, (.lstore_n 2, 139, 0, 2, 0))))) (.branch 142 (.leaf (139, (.iinc 5 1, 142, 0, 5, 1))) (.branch 145 (.leaf (142, (.goto (-67), 145, 75, 0, 0))) (.leaf (145, (.return_, 146, 0, 0, 0)))))))))
noncomputable def xt_6 : Lean.RArray (Nat × xins) := xt_6_0
set_option maxRecDepth 100000 in
noncomputable def xt_7_0 : Lean.RArray (Nat × xins) := .branch 5 (.branch 1 (.leaf (0, (.aload_n 0, 1, 0, 0, 0))) (.branch 4 (.leaf (1, (.getfield 9, 4, 0, 98, 0))) (.leaf (4, (.arraylength, 5, 0, 0, 0))))) (.branch 9 (.branch 6 (.leaf (5, (.aload_n 0, 6, 0, 0, 0))) (.leaf (6, (.invokevirtual 335, 9, 0, 8, 0)))) (.branch 10 (.leaf (9, (.ishr, 10, 0, 0, 0))) (.leaf (10, (.ireturn, 11, 0, 0, 0)))))
noncomputable def xt_7 : Lean.RArray (Nat × xins) := xt_7_0
set_option maxRecDepth 100000 in
noncomputable def xt_8_0 : Lean.RArray (Nat × xins) := .branch 7 (.branch 3 (.leaf (0, (.getstatic 38, 3, 0, 0, 0))) (.branch 6 (.leaf (3, (.ifCond .eq 10, 6, 13, 0, 0))) (.leaf (6, (.aload_n 0, 7, 0, 0, 0))))) (.branch 10 (.leaf (7, (.getfield 15, 10, 0, 98, 1))) (.branch 14 (.leaf (10, (.goto 4, 13, 14, 0, 0))) (.leaf (14, (.ireturn, 15, 0, 0, 0)))))
noncomputable def xt_8 : Lean.RArray (Nat × xins) := xt_8_0
set_option maxRecDepth 100000 in
noncomputable def xt_9_0 : Lean.RArray (Nat × xins) := .branch 8 (.branch 4 (.branch 1 (.leaf (0, (.aload_n 0, 1, 0, 0, 0))) (.leaf (1, (.invokevirtual 492, 4, 0, 10, 0)))) (.branch 7 (.leaf (4, (.ifCond .eq 12, 7, 16, 0, 0))) (.leaf (7, (.aload_n 0, 8, 0, 0, 0))))) (.branch 12 (.branch 11 (.leaf (8, (.getfield 9, 11, 0, 98, 0))) (.leaf (11, (.iload_n 1, 12, 0, 1, 0)))) (.branch 15 (.leaf (12, (.invokestatic 495, 15, 0, 11, 0))) (.leaf (15, (.ireturn, 16, 0, 0, 0)))))
noncomputable def xt_9 : Lean.RArray (Nat × xins) := xt_9_0
set_option maxRecDepth 100000 in
noncomputable def xt_10_0 : Lean.RArray (Nat × xins) := .branch 10 (.branch 6 (.branch 3 (.leaf (0, (.getstatic 38, 3, 0, 0, 0))) (.leaf (3, (.ifCond .eq 14, 6, 17, 0, 0)))) (.branch 7 (.leaf (6, (.aload_n 0, 7, 0, 0, 0))) (.leaf (7, (.getfield 15, 10, 0, 98, 1))))) (.branch 14 (.branch 13 (.leaf (10, (.ifCond .ne 7, 13, 17, 0, 0))) (.leaf (13, (.iconst 1, 14, 0, 1, 0)))) (.branch 18 (.leaf (14, (.goto 4, 17, 18, 0, 0))) (.leaf (18, (.ireturn, 19, 0, 0, 0)))))
noncomputable def xt_10 : Lean.RArray (Nat × xins) := xt_10_0
set_option maxRecDepth 100000 in
noncomputable def xt_11_0 : Lean.RArray (Nat × xins) := .branch 7 (.branch 2 (.branch 1 (.leaf (0, (.iload_n 1, 1, 0, 1, 0))) (.leaf (1, (.aload_n 0, 2, 0, 0, 0)))) (.branch 3 (.leaf (2, (.arraylength, 3, 0, 0, 0))) (.branch 6 (.leaf (3, (.invokestatic 9, 6, 0, 12, 0))) (.leaf (6, (.aload_n 0, 7, 0, 0, 0)))))) (.branch 12 (.branch 8 (.leaf (7, (.iload_n 1, 8, 0, 1, 0))) (.branch 9 (.leaf (8, (.baload, 9, 0, 0, 0))) (.leaf (9, (.sipush 255, 12, 0, 255, 0))))) (.branch 13 (.leaf (12, (.iand, 13, 0, 0, 0))) (.branch 14 (.leaf (13, (.i2c, 14, 0, 0, 0))) (.leaf (14, (.ireturn, 15, 0, 0, 0))))))
noncomputable def xt_11 : Lean.RArray (Nat × xins) := xt_11_0
set_option maxRecDepth 100000 in
noncomputable def xt_12_0 : Lean.RArray (Nat × xins) := .branch 5 (.branch 1 (.leaf (0, (.iload_n 0, 1, 0, 0, 0))) (.branch 2 (.leaf (1, (.iload_n 1, 2, 0, 1, 0))) (.leaf (2, (.getstatic 1053, 5, 0, 1, 0))))) (.branch 8 (.leaf (5, (.invokestatic 1059, 8, 0, 13, 0))) (.branch 9 (.leaf (8, (.pop, 9, 0, 0, 0))) (.leaf (9, (.return_, 10, 0, 0, 0)))))
noncomputable def xt_12 : Lean.RArray (Nat × xins) := xt_12_0
set_option maxRecDepth 100000 in
noncomputable def xt_13_0 : Lean.RArray (Nat × xins) := .branch 5 (.branch 1 (.leaf (0, (.iload_n 0, 1, 0, 0, 0))) (.branch 4 (.leaf (1, (.ifCond .lt 8, 4, 9, 0, 0))) (.leaf (4, (.iload_n 0, 5, 0, 0, 0))))) (.branch 16 (.branch 6 (.leaf (5, (.iload_n 1, 6, 0, 1, 0))) (.leaf (6, (.if_icmp .lt 10, 9, 16, 0, 0)))) (.branch 17 (.leaf (16, (.iload_n 0, 17, 0, 0, 0))) (.leaf (17, (.ireturn, 18, 0, 0, 0)))))
noncomputable def xt_13 : Lean.RArray (Nat × xins) := xt_13_0
set_option maxRecDepth 100000 in
noncomputable def xt_14_0 : Lean.RArray (Nat × xins) := .branch 22 (.branch 10 (.branch 5 (.branch 1 (.leaf (0, (.aload_n 0, 1, 0, 0, 0))) (.branch 4 (.leaf (1, (.invokespecial 3, 4, 0, 0, 6))) (.leaf (4, (.aload_n 0, 5, 0, 0, 0))))) (.branch 6 (.leaf (5, (.iconst 0, 6, 0, 0, 0))) (.branch 9 (.leaf (6, (.putfield 9, 9, 0, 4, 4))) (.leaf (9, (.aload_n 0, 10, 0, 0, 0)))))) (.branch 16 (.branch 11 (.leaf (10, (.iconst 3, 11, 0, 3, 0))) (.branch 13 (.leaf (11, (.newarray .int, 13, 0, 13, 0))) (.leaf (13, (.putfield 17, 16, 2, 4, 5))))) (.branch 18 (.branch 17 (.leaf (16, (.aload_n 0, 17, 0, 0, 0))) (.leaf (17, (.iconst 0, 18, 0, 0, 0)))) (.branch 21 (.leaf (18, (.putfield 21, 21, 0, 4, 6))) (.leaf (21, (.aload_n 0, 22, 0, 0, 0))))))) (.branch 32 (.branch 27 (.branch 23 (.leaf (22, (.aload_n 1, 23, 0, 1, 0))) (.branch 26 (.leaf (23, (.putfield 24, 26, 2, 4, 0))) (.leaf (26, (.aload_n 0, 27, 0, 0, 0))))) (.branch 28 (.leaf (27, (.aload_n 2, 28, 0, 2, 0))) (.branch 31 (.leaf (28, (.putfield 28, 31, 2, 4, 1))) (.leaf (31, (.aload_n 0, 32, 0, 0, 0)))))) (.branch 37 (.branch 33 (.leaf (32, (.aload_n 3, 33, 0, 3, 0))) (.branch 36 (.leaf (33, (.putfield 32, 36, 2, 4, 2))) (.leaf (36, (.aload_n 0, 37, 0, 0, 0))))) (.branch 41 (.branch 38 (.leaf (37, (.aload_n 3, 38, 0, 3, 0))) (.leaf (38, (.getfield 35, 41, 0, 0, 11)))) (.branch 44 (.leaf (41, (.putfield 41, 44, 2, 4, 3))) (.leaf (44, (.return_, 45, 0, 0, 0)))))))
noncomputable def xt_14 : Lean.RArray (Nat × xins) := xt_14_0
set_option maxRecDepth 100000 in
noncomputable def xt_15_0 : Lean.RArray (Nat × xins) := .branch 26 (.branch 14 (.branch 6 (.branch 4 (.branch 1 (.leaf (0, (.aload_n 0, 1, 0, 0, 0))) (.leaf (1, (.invokespecial 3, 4, 0, 0, 6)))) (.branch 5 (.leaf (4, (.aload_n 0, 5, 0, 0, 0))) (.leaf (5, (.iconst 0, 6, 0, 0, 0))))) (.branch 10 (.branch 9 (.leaf (6, (.putfield 9, 9, 0, 6, 1))) (.leaf (9, (.aload_n 0, 10, 0, 0, 0)))) (.branch 11 (.leaf (10, (.iconst 0, 11, 0, 0, 0))) (.leaf (11, (.putfield 15, 14, 0, 6, 2)))))) (.branch 20 (.branch 16 (.branch 15 (.leaf (14, (.aload_n 0, 15, 0, 0, 0))) (.leaf (15, (.iconst 0, 16, 0, 0, 0)))) (.branch 19 (.leaf (16, (.putfield 18, 19, 0, 6, 3))) (.leaf (19, (.aload_n 0, 20, 0, 0, 0))))) (.branch 24 (.branch 21 (.leaf (20, (.iconst 0, 21, 0, 0, 0))) (.leaf (21, (.putfield 21, 24, 3, 6, 4)))) (.branch 25 (.leaf (24, (.aload_n 0, 25, 0, 0, 0))) (.leaf (25, (.iconst 0, 26, 0, 0, 0))))))) (.branch 42 (.branch 34 (.branch 30 (.branch 29 (.leaf (26, (.putfield 25, 29, 3, 6, 5))) (.leaf (29, (.aload_n 0, 30, 0, 0, 0)))) (.branch 32 (.leaf (30, (.bipush 8, 32, 0, 8, 0))) (.leaf (32, (.newarray .int, 34, 0, 13, 0))))) (.branch 38 (.branch 37 (.leaf (34, (.putfield 28, 37, 2, 6, 6))) (.leaf (37, (.aload_n 0, 38, 0, 0, 0)))) (.branch 40 (.leaf (38, (.bipush 40, 40, 0, 40, 0))) (.leaf (40, (.newarray .int, 42, 0, 13, 0)))))) (.branch 50 (.branch 46 (.branch 45 (.leaf (42, (.putfield 32, 45, 2, 6, 7))) (.leaf (45, (.aload_n 0, 46, 0, 0, 0)))) (.branch 47 (.leaf (46, (.lconst 0, 47, 0, 0, 0))) (.leaf (47, (.putfield 35, 50, 1, 6, 8))))) (.branch 52 (.branch 51 (.leaf (50, (.aload_n 0, 51, 0, 0, 0))) (.leaf (51, (.aload_n 1, 52, 0, 1, 0)))) (.branch 55 (.leaf (52, (.putfield 39, 55, 2, 6, 0))) (.leaf (55, (.return_, 56, 0, 0, 0)))))))
noncomputable def xt_15 : Lean.RArray (Nat × xins) := xt_15_0
set_option maxRecDepth 100000 in
noncomputable def xt_16_0 : Lean.RArray (Nat × xins) := .branch 35 (.branch 16 (.branch 9 (.branch 4 (.branch 1 (.leaf (0, (.aload_n 0, 1, 0, 0, 0))) (.leaf (1, (.invokespecial 3, 4, 0, 0, 6)))) (.branch 5 (.leaf (4, (.aload_n 0, 5, 0, 0, 0))) (.branch 6 (.leaf (5, (.iconst 0, 6, 0, 0, 0))) (.leaf (6, (.putfield 9, 9, 3, 3, 4)))))) (.branch 11 (.branch 10 (.leaf (9, (.aload_n 0, 10, 0, 0, 0))) (.leaf (10, (.iconst (-1), 11, 0, 4294967295, 0)))) (.branch 14 (.leaf (11, (.putfield 15, 14, 0, 3, 5))) (.branch 15 (.leaf (14, (.aload_n 0, 15, 0, 0, 0))) (.leaf (15, (.iconst 0, 16, 0, 0, 0))))))) (.branch 25 (.branch 20 (.branch 19 (.leaf (16, (.putfield 19, 19, 0, 3, 6))) (.leaf (19, (.aload_n 0, 20, 0, 0, 0)))) (.branch 21 (.leaf (20, (.iconst 0, 21, 0, 0, 0))) (.branch 24 (.leaf (21, (.putfield 22, 24, 3, 3, 7))) (.leaf (24, (.aload_n 0, 25, 0, 0, 0)))))) (.branch 30 (.branch 26 (.leaf (25, (.iconst (-1), 26, 0, 4294967295, 0))) (.branch 29 (.leaf (26, (.putfield 25, 29, 0, 3, 8))) (.leaf (29, (.aload_n 0, 30, 0, 0, 0))))) (.branch 31 (.leaf (30, (.iconst (-1), 31, 0, 4294967295, 0))) (.branch 34 (.leaf (31, (.putfield 28, 34, 0, 3, 9))) (.leaf (34, (.aload_n 0, 35, 0, 0, 0)))))))) (.branch 53 (.branch 44 (.branch 39 (.branch 36 (.leaf (35, (.iconst 0, 36, 0, 0, 0))) (.leaf (36, (.putfield 31, 39, 0, 3, 10)))) (.branch 40 (.leaf (39, (.aload_n 0, 40, 0, 0, 0))) (.branch 41 (.leaf (40, (.aload_n 1, 41, 0, 1, 0))) (.leaf (41, (.putfield 34, 44, 2, 3, 0)))))) (.branch 46 (.branch 45 (.leaf (44, (.aload_n 0, 45, 0, 0, 0))) (.leaf (45, (.aload_n 2, 46, 0, 2, 0)))) (.branch 49 (.leaf (46, (.putfield 38, 49, 2, 3, 1))) (.branch 50 (.leaf (49, (.aload_n 0, 50, 0, 0, 0))) (.leaf (50, (.new 41, 53, 0, 6, 0))))))) (.branch 62 (.branch 55 (.branch 54 (.leaf (53, (.dup, 54, 0, 0, 0))) (.leaf (54, (.aload_n 1, 55, 0, 1, 0)))) (.branch 58 (.leaf (55, (.invokespecial 43, 58, 0, 15, 0))) (.branch 61 (.leaf (58, (.putfield 46, 61, 2, 3, 2))) (.leaf (61, (.aload_n 0, 62, 0, 0, 0)))))) (.branch 67 (.branch 65 (.leaf (62, (.new 41, 65, 0, 6, 0))) (.branch 66 (.leaf (65, (.dup, 66, 0, 0, 0))) (.leaf (66, (.aload_n 2, 67, 0, 2, 0))))) (.branch 70 (.leaf (67, (.invokespecial 43, 70, 0, 15, 0))) (.branch 73 (.leaf (70, (.putfield 50, 73, 2, 3, 3))) (.leaf (73, (.return_, 74, 0, 0, 0))))))))
noncomputable def xt_16 : Lean.RArray (Nat × xins) := xt_16_0
set_option maxRecDepth 100000 in
noncomputable def xt_17_0 : Lean.RArray (Nat × xins) := .branch 20 (.branch 9 (.branch 4 (.branch 1 (.leaf (0, (.aload_n 0, 1, 0, 0, 0))) (.leaf (1, (.invokespecial 3, 4, 0, 0, 6)))) (.branch 5 (.leaf (4, (.aload_n 0, 5, 0, 0, 0))) (.branch 7 (.leaf (5, (.bipush 8, 7, 0, 8, 0))) (.leaf (7, (.newarray .int, 9, 0, 13, 0)))))) (.branch 14 (.branch 12 (.leaf (9, (.putfield 9, 12, 2, 10, 1))) (.branch 13 (.leaf (12, (.aload_n 0, 13, 0, 0, 0))) (.leaf (13, (.iconst 5, 14, 0, 5, 0))))) (.branch 16 (.leaf (14, (.newarray .int, 16, 0, 13, 0))) (.branch 19 (.leaf (16, (.putfield 15, 19, 2, 10, 2))) (.leaf (19, (.aload_n 0, 20, 0, 0, 0))))))) (.branch 29 (.branch 23 (.branch 21 (.leaf (20, (.iconst 5, 21, 0, 5, 0))) (.leaf (21, (.newarray .int, 23, 0, 13, 0)))) (.branch 26 (.leaf (23, (.putfield 18, 26, 2, 10, 3))) (.branch 27 (.leaf (26, (.aload_n 0, 27, 0, 0, 0))) (.leaf (27, (.bipush 40, 29, 0, 40, 0)))))) (.branch 35 (.branch 31 (.leaf (29, (.newarray .int, 31, 0, 13, 0))) (.branch 34 (.leaf (31, (.putfield 21, 34, 2, 10, 4))) (.leaf (34, (.aload_n 0, 35, 0, 0, 0))))) (.branch 36 (.leaf (35, (.aload_n 1, 36, 0, 1, 0))) (.branch 39 (.leaf (36, (.putfield 24, 39, 2, 10, 0))) (.leaf (39, (.return_, 40, 0, 0, 0)))))))
noncomputable def xt_17 : Lean.RArray (Nat × xins) := xt_17_0
set_option maxRecDepth 100000 in
noncomputable def xt_18_0 : Lean.RArray (Nat × xins) := .branch 39 (.branch 20 (.branch 8 (.branch 4 (.branch 1 (.leaf (0, (.aload_n 0, 1, 0, 0, 0))) (.leaf (1, (.invokespecial 3, 4, 0, 0, 6)))) (.branch 5 (.leaf (4, (.aload_n 0, 5, 0, 0, 0))) (.branch 6 (.leaf (5, (.iconst 3, 6, 0, 3, 0))) (.leaf (6, (.newarray .int, 8, 0, 13, 0)))))) (.branch 14 (.branch 11 (.leaf (8, (.putfield 11, 11, 2, 5, 3))) (.branch 12 (.leaf (11, (.aload_n 0, 12, 0, 0, 0))) (.leaf (12, (.bipush 40, 14, 0, 40, 0))))) (.branch 16 (.leaf (14, (.newarray .int, 16, 0, 13, 0))) (.branch 19 (.leaf (16, (.putfield 17, 19, 2, 5, 4))) (.leaf (19, (.aload_n 0, 20, 0, 0, 0))))))) (.branch 29 (.branch 24 (.branch 21 (.leaf (20, (.iconst 0, 21, 0, 0, 0))) (.leaf (21, (.putfield 20, 24, 0, 5, 5)))) (.branch 25 (.leaf (24, (.aload_n 0, 25, 0, 0, 0))) (.branch 26 (.leaf (25, (.iconst 0, 26, 0, 0, 0))) (.leaf (26, (.putfield 24, 29, 0, 5, 6)))))) (.branch 34 (.branch 30 (.leaf (29, (.aload_n 0, 30, 0, 0, 0))) (.branch 31 (.leaf (30, (.iconst 0, 31, 0, 0, 0))) (.leaf (31, (.putfield 27, 34, 0, 5, 7))))) (.branch 35 (.leaf (34, (.aload_n 0, 35, 0, 0, 0))) (.branch 36 (.leaf (35, (.iconst 0, 36, 0, 0, 0))) (.leaf (36, (.putfield 30, 39, 0, 5, 8)))))))) (.branch 56 (.branch 46 (.branch 41 (.branch 40 (.leaf (39, (.aload_n 0, 40, 0, 0, 0))) (.leaf (40, (.iconst 0, 41, 0, 0, 0)))) (.branch 44 (.leaf (41, (.putfield 33, 44, 0, 5, 9))) (.branch 45 (.leaf (44, (.aload_n 0, 45, 0, 0, 0))) (.leaf (45, (.iconst 0, 46, 0, 0, 0)))))) (.branch 51 (.branch 49 (.leaf (46, (.putfield 36, 49, 0, 5, 10))) (.branch 50 (.leaf (49, (.aload_n 0, 50, 0, 0, 0))) (.leaf (50, (.iconst 0, 51, 0, 0, 0))))) (.branch 54 (.leaf (51, (.putfield 39, 54, 3, 5, 11))) (.branch 55 (.leaf (54, (.aload_n 0, 55, 0, 0, 0))) (.leaf (55, (.aload_n 1, 56, 0, 1, 0))))))) (.branch 65 (.branch 60 (.branch 59 (.leaf (56, (.putfield 43, 59, 2, 5, 0))) (.leaf (59, (.aload_n 0, 60, 0, 0, 0)))) (.branch 61 (.leaf (60, (.aload_n 2, 61, 0, 2, 0))) (.branch 64 (.leaf (61, (.putfield 47, 64, 2, 5, 1))) (.leaf (64, (.aload_n 0, 65, 0, 0, 0)))))) (.branch 70 (.branch 68 (.leaf (65, (.new 51, 68, 0, 6, 0))) (.branch 69 (.leaf (68, (.dup, 69, 0, 0, 0))) (.leaf (69, (.aload_n 1, 70, 0, 1, 0))))) (.branch 73 (.leaf (70, (.invokespecial 53, 73, 0, 15, 0))) (.branch 76 (.leaf (73, (.putfield 56, 76, 2, 5, 2))) (.leaf (76, (.return_, 77, 0, 0, 0))))))))
noncomputable def xt_18 : Lean.RArray (Nat × xins) := xt_18_0
set_option maxRecDepth 100000 in
noncomputable def xt_19_0 : Lean.RArray (Nat × xins) := .branch 14 (.branch 6 (.branch 4 (.branch 1 (.leaf (0, (.aload_n 0, 1, 0, 0, 0))) (.leaf (1, (.invokespecial 3, 4, 0, 0, 6)))) (.branch 5 (.leaf (4, (.aload_n 0, 5, 0, 0, 0))) (.leaf (5, (.iconst 0, 6, 0, 0, 0))))) (.branch 10 (.branch 9 (.leaf (6, (.putfield 9, 9, 3, 8, 0))) (.leaf (9, (.aload_n 0, 10, 0, 0, 0)))) (.branch 11 (.leaf (10, (.iconst 0, 11, 0, 0, 0))) (.leaf (11, (.putfield 15, 14, 0, 8, 1)))))) (.branch 20 (.branch 16 (.branch 15 (.leaf (14, (.aload_n 0, 15, 0, 0, 0))) (.leaf (15, (.iconst 0, 16, 0, 0, 0)))) (.branch 19 (.leaf (16, (.putfield 19, 19, 0, 8, 2))) (.leaf (19, (.aload_n 0, 20, 0, 0, 0))))) (.branch 24 (.branch 22 (.leaf (20, (.bipush 60, 22, 0, 60, 0))) (.leaf (22, (.newarray .long, 24, 0, 14, 1)))) (.branch 27 (.leaf (24, (.putfield 22, 27, 2, 8, 3))) (.leaf (27, (.return_, 28, 0, 0, 0))))))
noncomputable def xt_19 : Lean.RArray (Nat × xins) := xt_19_0
set_option maxRecDepth 100000 in
noncomputable def xt_20_0 : Lean.RArray (Nat × xins) := .branch 78 (.branch 40 (.branch 22 (.branch 10 (.branch 4 (.branch 1 (.leaf (0, (.aload_n 0, 1, 0, 0, 0))) (.leaf (1, (.invokespecial 1, 4, 0, 0, 6)))) (.branch 5 (.leaf (4, (.aload_n 0, 5, 0, 0, 0))) (.branch 8 (.leaf (5, (.sipush 5208, 8, 0, 5208, 0))) (.leaf (8, (.newarray .int, 10, 0, 13, 0)))))) (.branch 16 (.branch 13 (.leaf (10, (.putfield 7, 13, 2, 12, 0))) (.branch 14 (.leaf (13, (.aload_n 0, 14, 0, 0, 0))) (.leaf (14, (.bipush 72, 16, 0, 72, 0))))) (.branch 18 (.leaf (16, (.newarray .long, 18, 0, 14, 1))) (.branch 21 (.leaf (18, (.putfield 13, 21, 2, 12, 1))) (.leaf (21, (.aload_n 0, 22, 0, 0, 0))))))) (.branch 33 (.branch 27 (.branch 23 (.leaf (22, (.lconst 1, 23, 0, 1, 0))) (.branch 26 (.leaf (23, (.putfield 17, 26, 1, 12, 4))) (.leaf (26, (.aload_n 0, 27, 0, 0, 0))))) (.branch 28 (.leaf (27, (.iconst 4, 28, 0, 4, 0))) (.branch 30 (.leaf (28, (.newarray .int, 30, 0, 13, 0))) (.leaf (30, (.putfield 21, 33, 2, 12, 5)))))) (.branch 37 (.branch 34 (.leaf (33, (.aload_n 0, 34, 0, 0, 0))) (.branch 35 (.leaf (34, (.iconst 4, 35, 0, 4, 0))) (.leaf (35, (.newarray .int, 37, 0, 13, 0))))) (.branch 38 (.leaf (37, (.dup, 38, 0, 0, 0))) (.branch 39 (.leaf (38, (.iconst 0, 39, 0, 0, 0))) (.leaf (39, (.iconst (-1), 40, 0, 4294967295, 0)))))))) (.branch 52 (.branch 46 (.branch 43 (.branch 41 (.leaf (40, (.iastore, 41, 0, 0, 0))) (.branch 42 (.leaf (41, (.dup, 42, 0, 0, 0))) (.leaf (42, (.iconst 1, 43, 0, 1, 0))))) (.branch 44 (.leaf (43, (.iconst (-1), 44, 0, 4294967295, 0))) (.branch 45 (.leaf (44, (.iastore, 45, 0, 0, 0))) (.leaf (45, (.dup, 46, 0, 0, 0)))))) (.branch 49 (.branch 47 (.leaf (46, (.iconst 2, 47, 0, 2, 0))) (.branch 48 (.leaf (47, (.iconst (-1), 48, 0, 4294967295, 0))) (.leaf (48, (.iastore, 49, 0, 0, 0))))) (.branch 50 (.leaf (49, (.dup, 50, 0, 0, 0))) (.branch 51 (.leaf (50, (.iconst 3, 51, 0, 3, 0))) (.leaf (51, (.iconst (-1), 52, 0, 4294967295, 0))))))) (.branch 65 (.branch 57 (.branch 53 (.leaf (52, (.iastore, 53, 0, 0, 0))) (.branch 56 (.leaf (53, (.putfield 24, 56, 2, 12, 6))) (.leaf (56, (.aload_n 0, 57, 0, 0, 0))))) (.branch 60 (.leaf (57, (.sipush 240, 60, 0, 240, 0))) (.branch 62 (.leaf (60, (.newarray .long, 62, 0, 14, 1))) (.leaf (62, (.putfield 27, 65, 2, 12, 7)))))) (.branch 71 (.branch 66 (.leaf (65, (.aload_n 0, 66, 0, 0, 0))) (.branch 69 (.leaf (66, (.sipush 900, 69, 0, 900, 0))) (.leaf (69, (.newarray .byte, 71, 0, 15, 0))))) (.branch 74 (.leaf (71, (.putfield 30, 74, 2, 12, 8))) (.branch 75 (.leaf (74, (.aload_n 0, 75, 0, 0, 0))) (.leaf (75, (.sipush 900, 78, 0, 900, 0))))))))) (.branch 124 (.branch 100 (.branch 89 (.branch 84 (.branch 80 (.leaf (78, (.newarray .byte, 80, 0, 15, 0))) (.branch 83 (.leaf (80, (.putfield 34, 83, 2, 12, 9))) (.leaf (83, (.aload_n 0, 84, 0, 0, 0))))) (.branch 85 (.leaf (84, (.iconst (-1), 85, 0, 4294967295, 0))) (.branch 88 (.leaf (85, (.putfield 37, 88, 0, 12, 16))) (.leaf (88, (.aload_n 0, 89, 0, 0, 0)))))) (.branch 94 (.branch 90 (.leaf (89, (.iconst (-1), 90, 0, 4294967295, 0))) (.branch 93 (.leaf (90, (.putfield 41, 93, 0, 12, 17))) (.leaf (93, (.aload_n 0, 94, 0, 0, 0))))) (.branch 95 (.leaf (94, (.iconst 3, 95, 0, 3, 0))) (.branch 97 (.leaf (95, (.newarray .int, 97, 0, 13, 0))) (.leaf (97, (.putfield 44, 100, 2, 12, 21))))))) (.branch 111 (.branch 105 (.branch 101 (.leaf (100, (.aload_n 0, 101, 0, 0, 0))) (.branch 103 (.leaf (101, (.bipush 40, 103, 0, 40, 0))) (.leaf (103, (.newarray .int, 105, 0, 13, 0))))) (.branch 108 (.leaf (105, (.putfield 47, 108, 2, 12, 24))) (.branch 109 (.leaf (108, (.aload_n 0, 109, 0, 0, 0))) (.leaf (109, (.bipush 40, 111, 0, 40, 0)))))) (.branch 117 (.branch 113 (.leaf (111, (.newarray .int, 113, 0, 13, 0))) (.branch 116 (.leaf (113, (.putfield 50, 116, 2, 12, 25))) (.leaf (116, (.aload_n 0, 117, 0, 0, 0))))) (.branch 119 (.leaf (117, (.bipush 40, 119, 0, 40, 0))) (.branch 121 (.leaf (119, (.newarray .int, 121, 0, 13, 0))) (.leaf (121, (.putfield 53, 124, 2, 12, 26)))))))) (.branch 147 (.branch 134 (.branch 129 (.branch 125 (.leaf (124, (.aload_n 0, 125, 0, 0, 0))) (.branch 127 (.leaf (125, (.bipush 40, 127, 0, 40, 0))) (.leaf (127, (.newarray .int, 129, 0, 13, 0))))) (.branch 132 (.leaf (129, (.putfield 56, 132, 2, 12, 27))) (.branch 133 (.leaf (132, (.aload_n 0, 133, 0, 0, 0))) (.leaf (133, (.iconst 3, 134, 0, 3, 0)))))) (.branch 140 (.branch 136 (.leaf (134, (.newarray .int, 136, 0, 13, 0))) (.branch 139 (.leaf (136, (.putfield 59, 139, 2, 12, 31))) (.leaf (139, (.aload_n 0, 140, 0, 0, 0))))) (.branch 142 (.leaf (140, (.bipush 80, 142, 0, 80, 0))) (.branch 144 (.leaf (142, (.newarray .int, 144, 0, 13, 0))) (.leaf (144, (.putfield 62, 147, 2, 12, 35))))))) (.branch 156 (.branch 151 (.branch 148 (.leaf (147, (.aload_n 0, 148, 0, 0, 0))) (.branch 149 (.leaf (148, (.iconst 5, 149, 0, 5, 0))) (.leaf (149, (.newarray .int, 151, 0, 13, 0))))) (.branch 154 (.leaf (151, (.putfield 65, 154, 2, 12, 36))) (.branch 155 (.leaf (154, (.aload_n 0, 155, 0, 0, 0))) (.leaf (155, (.iconst 5, 156, 0, 5, 0)))))) (.branch 162 (.branch 158 (.leaf (156, (.newarray .int, 158, 0, 13, 0))) (.branch 161 (.leaf (158, (.putfield 68, 161, 2, 12, 37))) (.leaf (161, (.aload_n 0, 162, 0, 0, 0))))) (.branch 163 (.leaf (162, (.iconst 0, 163, 0, 0, 0))) (.branch 166 (.leaf (163, (.invokevirtual 71, 166, 0, 21, 0))) (.leaf (166, (.return_, 167, 0, 0, 0)))))))))
noncomputable def xt_20 : Lean.RArray (Nat × xins) := xt_20_0
set_option maxRecDepth 100000 in
noncomputable def xt_21_0 : Lean.RArray (Nat × xins) := .branch 50 (.branch 25 (.branch 13 (.branch 3 (.branch 1 (.leaf (0, (.iconst 0, 1, 0, 0, 0))) (.branch 2 (.leaf (1, (.istore_n 2, 2, 0, 2, 0))) (.leaf (2, (.iload_n 2, 3, 0, 2, 0))))) (.branch 9 (.branch 6 (.leaf (3, (.sipush 744, 6, 0, 744, 0))) (.leaf (6, (.if_icmp .ge 18, 9, 24, 0, 0)))) (.branch 10 (.leaf (9, (.aload_n 0, 10, 0, 0, 0))) (.leaf (10, (.getfield 7, 13, 0, 12, 0)))))) (.branch 17 (.branch 15 (.branch 14 (.leaf (13, (.iload_n 1, 14, 0, 1, 0))) (.leaf (14, (.iload_n 2, 15, 0, 2, 0)))) (.branch 16 (.leaf (15, (.iadd, 16, 0, 0, 0))) (.leaf (16, (.iconst 0, 17, 0, 0, 0))))) (.branch 21 (.branch 18 (.leaf (17, (.iastore, 18, 0, 0, 0))) (.leaf (18, (.iinc 2 1, 21, 0, 2, 1)))) (.branch 24 (.leaf (21, (.goto (-19), 24, 2, 0, 0))) (.leaf (24, (.iconst 0, 25, 0, 0, 0))))))) (.branch 37 (.branch 29 (.branch 26 (.leaf (25, (.istore_n 2, 26, 0, 2, 0))) (.branch 27 (.leaf (26, (.iload_n 2, 27, 0, 2, 0))) (.leaf (27, (.bipush 48, 29, 0, 48, 0))))) (.branch 33 (.branch 32 (.leaf (29, (.if_icmp .ge 21, 32, 50, 0, 0))) (.leaf (32, (.aload_n 0, 33, 0, 0, 0)))) (.branch 36 (.leaf (33, (.getfield 7, 36, 0, 12, 0))) (.leaf (36, (.iload_n 1, 37, 0, 1, 0)))))) (.branch 42 (.branch 40 (.branch 39 (.leaf (37, (.bipush 51, 39, 0, 51, 0))) (.leaf (39, (.iadd, 40, 0, 0, 0)))) (.branch 41 (.leaf (40, (.iload_n 2, 41, 0, 2, 0))) (.leaf (41, (.iadd, 42, 0, 0, 0))))) (.branch 44 (.branch 43 (.leaf (42, (.iconst (-1), 43, 0, 4294967295, 0))) (.leaf (43, (.iastore, 44, 0, 0, 0)))) (.branch 47 (.leaf (44, (.iinc 2 1, 47, 0, 2, 1))) (.leaf (47, (.goto (-21), 50, 26, 0, 0)))))))) (.branch 69 (.branch 59 (.branch 55 (.branch 51 (.leaf (50, (.aload_n 0, 51, 0, 0, 0))) (.branch 54 (.leaf (51, (.getfield 7, 54, 0, 12, 0))) (.leaf (54, (.iload_n 1, 55, 0, 1, 0))))) (.branch 57 (.branch 56 (.leaf (55, (.iconst 3, 56, 0, 3, 0))) (.leaf (56, (.iadd, 57, 0, 0, 0)))) (.branch 58 (.leaf (57, (.iconst 5, 58, 0, 5, 0))) (.leaf (58, (.iastore, 59, 0, 0, 0)))))) (.branch 65 (.branch 63 (.branch 60 (.leaf (59, (.aload_n 0, 60, 0, 0, 0))) (.leaf (60, (.getfield 7, 63, 0, 12, 0)))) (.branch 64 (.leaf (63, (.iload_n 1, 64, 0, 1, 0))) (.leaf (64, (.iconst 3, 65, 0, 3, 0))))) (.branch 67 (.branch 66 (.leaf (65, (.iadd, 66, 0, 0, 0))) (.leaf (66, (.iconst 1, 67, 0, 1, 0)))) (.branch 68 (.leaf (67, (.iadd, 68, 0, 0, 0))) (.leaf (68, (.iconst 2, 69, 0, 2, 0))))))) (.branch 80 (.branch 75 (.branch 71 (.branch 70 (.leaf (69, (.iastore, 70, 0, 0, 0))) (.leaf (70, (.aload_n 0, 71, 0, 0, 0)))) (.branch 74 (.leaf (71, (.getfield 7, 74, 0, 12, 0))) (.leaf (74, (.iload_n 1, 75, 0, 1, 0))))) (.branch 77 (.branch 76 (.leaf (75, (.iconst 5, 76, 0, 5, 0))) (.leaf (76, (.iadd, 77, 0, 0, 0)))) (.branch 79 (.leaf (77, (.bipush 10, 79, 0, 10, 0))) (.leaf (79, (.iastore, 80, 0, 0, 0)))))) (.branch 87 (.branch 84 (.branch 81 (.leaf (80, (.aload_n 0, 81, 0, 0, 0))) (.leaf (81, (.getfield 7, 84, 0, 12, 0)))) (.branch 85 (.leaf (84, (.iload_n 1, 85, 0, 1, 0))) (.leaf (85, (.bipush 7, 87, 0, 7, 0))))) (.branch 89 (.branch 88 (.leaf (87, (.iadd, 88, 0, 0, 0))) (.leaf (88, (.iconst (-1), 89, 0, 4294967295, 0)))) (.branch 90 (.leaf (89, (.iastore, 90, 0, 0, 0))) (.leaf (90, (.return_, 91, 0, 0, 0))))))))
noncomputable def xt_21 : Lean.RArray (Nat × xins) := xt_21_0
set_option maxRecDepth 100000 in
noncomputable def xt_22_0 : Lean.RArray (Nat × xins) := .branch 1 (.leaf (0, (.aload_n 0, 1, 0, 0, 0))) (.branch 4 (.leaf (1, (.getfield 9, 4, 0, 11, 0))) (.leaf (4, (.ireturn, 5, 0, 0, 0))))
noncomputable def xt_22 : Lean.RArray (Nat × xins) := xt_22_0
set_option maxRecDepth 100000 in
noncomputable def xt_23_0 : Lean.RArray (Nat × xins) := .branch 1 (.leaf (0, (.aload_n 0, 1, 0, 0, 0))) (.branch 4 (.leaf (1, (.getfield 75, 4, 0, 12, 2))) (.leaf (4, (.ireturn, 5, 0, 0, 0))))
noncomputable def xt_23 : Lean.RArray (Nat × xins) := xt_23_0
set_option maxRecDepth 100000 in
noncomputable def xt_24_0 : Lean.RArray (Nat × xins) := .branch 1 (.leaf (0, (.aload_n 0, 1, 0, 0, 0))) (.branch 4 (.leaf (1, (.getfield 13, 4, 0, 11, 1))) (.leaf (4, (.lreturn, 5, 0, 0, 0))))
noncomputable def xt_24 : Lean.RArray (Nat × xins) := xt_24_0
set_option maxRecDepth 100000 in
noncomputable def xt_25_0 : Lean.RArray (Nat × xins) := .branch 1 (.leaf (0, (.aload_n 0, 1, 0, 0, 0))) (.branch 4 (.leaf (1, (.getfield 78, 4, 0, 12, 3))) (.leaf (4, (.lreturn, 5, 0, 0, 0))))
noncomputable def xt_25 : Lean.RArray (Nat × xins) := xt_25_0
set_option maxRecDepth 100000 in
noncomputable def xt_26_0 : Lean.RArray (Nat × xins) := .branch 1 (.leaf (0, (.aload_n 0, 1, 0, 0, 0))) (.branch 4 (.leaf (1, (.getfield 17, 4, 0, 11, 2))) (.leaf (4, (.lreturn, 5, 0, 0, 0))))
noncomputable def xt_26 : Lean.RArray (Nat × xins) := xt_26_0
set_option maxRecDepth 100000 in
noncomputable def xt_27_0 : Lean.RArray (Nat × xins) := .branch 1 (.leaf (0, (.aload_n 0, 1, 0, 0, 0))) (.branch 4 (.leaf (1, (.getfield 17, 4, 0, 12, 4))) (.leaf (4, (.lreturn, 5, 0, 0, 0))))
noncomputable def xt_27 : Lean.RArray (Nat × xins) := xt_27_0
set_option maxRecDepth 100000 in
noncomputable def xt_28_0 : Lean.RArray (Nat × xins) := .branch 26 (.branch 10 (.branch 7 (.branch 1 (.leaf (0, (.iload_n 1, 1, 0, 1, 0))) (.branch 4 (.leaf (1, (.invokestatic 121, 4, 0, 29, 0))) (.leaf (4, (.ifCond .eq 22, 7, 26, 0, 0))))) (.branch 8 (.leaf (7, (.iload_n 2, 8, 0, 2, 0))) (.branch 9 (.leaf (8, (.iconst 0, 9, 0, 0, 0))) (.leaf (9, (.iconst 3, 10, 0, 3, 0)))))) (.branch 17 (.branch 13 (.leaf (10, (.invokestatic 117, 13, 0, 30, 0))) (.branch 16 (.leaf (13, (.ifCond .eq 13, 16, 26, 0, 0))) (.leaf (16, (.iload_n 3, 17, 0, 3, 0))))) (.branch 20 (.branch 18 (.leaf (17, (.iconst 0, 18, 0, 0, 0))) (.leaf (18, (.bipush 60, 20, 0, 60, 0)))) (.branch 23 (.leaf (20, (.invokestatic 117, 23, 0, 30, 0))) (.leaf (23, (.ifCond .ne 9, 26, 32, 0, 0))))))) (.branch 37 (.branch 31 (.branch 27 (.leaf (26, (.aload_n 0, 27, 0, 0, 0))) (.branch 28 (.leaf (27, (.iconst 1, 28, 0, 1, 0))) (.leaf (28, (.invokevirtual 125, 31, 0, 31, 0))))) (.branch 33 (.branch 32 (.leaf (31, (.ireturn, 32, 0, 0, 0))) (.leaf (32, (.aload_n 0, 33, 0, 0, 0)))) (.branch 36 (.leaf (33, (.getfield 22, 36, 0, 11, 3))) (.leaf (36, (.iload_n 1, 37, 0, 1, 0)))))) (.branch 40 (.branch 38 (.leaf (37, (.aaload, 38, 0, 0, 0))) (.branch 39 (.leaf (38, (.iload_n 2, 39, 0, 2, 0))) (.leaf (39, (.iload_n 3, 40, 0, 3, 0))))) (.branch 44 (.branch 43 (.leaf (40, (.invokevirtual 128, 43, 0, 32, 0))) (.leaf (43, (.aload_n 0, 44, 0, 0, 0)))) (.branch 47 (.leaf (44, (.invokevirtual 132, 47, 0, 33, 0))) (.leaf (47, (.ireturn, 48, 0, 0, 0)))))))
noncomputable def xt_28 : Lean.RArray (Nat × xins) := xt_28_0
set_option maxRecDepth 100000 in
noncomputable def xt_29_0 : Lean.RArray (Nat × xins) := .branch 2 (.branch 1 (.leaf (0, (.iload_n 0, 1, 0, 0, 0))) (.leaf (1, (.iconst 0, 2, 0, 0, 0)))) (.branch 3 (.leaf (2, (.iconst 3, 3, 0, 3, 0))) (.branch 6 (.leaf (3, (.invokestatic 117, 6, 0, 30, 0))) (.leaf (6, (.ireturn, 7, 0, 0, 0)))))
noncomputable def xt_29 : Lean.RArray (Nat × xins) := xt_29_0
set_option maxRecDepth 100000 in
noncomputable def xt_30_0 : Lean.RArray (Nat × xins) := .branch 7 (.branch 2 (.branch 1 (.leaf (0, (.iload_n 0, 1, 0, 0, 0))) (.leaf (1, (.iload_n 1, 2, 0, 1, 0)))) (.branch 5 (.leaf (2, (.if_icmp .lt 12, 5, 14, 0, 0))) (.branch 6 (.leaf (5, (.iload_n 0, 6, 0, 0, 0))) (.leaf (6, (.iload_n 2, 7, 0, 2, 0)))))) (.branch 11 (.branch 10 (.leaf (7, (.if_icmp .gt 7, 10, 14, 0, 0))) (.leaf (10, (.iconst 1, 11, 0, 1, 0)))) (.branch 14 (.leaf (11, (.goto 4, 14, 15, 0, 0))) (.branch 15 (.leaf (14, (.iconst 0, 15, 0, 0, 0))) (.leaf (15, (.ireturn, 16, 0, 0, 0))))))
noncomputable def xt_30 : Lean.RArray (Nat × xins) := xt_30_0
set_option maxRecDepth 100000 in
noncomputable def xt_31_0 : Lean.RArray (Nat × xins) := .branch 2 (.branch 1 (.leaf (0, (.aload_n 0, 1, 0, 0, 0))) (.leaf (1, (.iload_n 1, 2, 0, 1, 0)))) (.branch 5 (.leaf (2, (.putfield 9, 5, 0, 11, 0))) (.branch 6 (.leaf (5, (.iconst 0, 6, 0, 0, 0))) (.leaf (6, (.ireturn, 7, 0, 0, 0)))))
noncomputable def xt_31 : Lean.RArray (Nat × xins) := xt_31_0
set_option maxRecDepth 100000 in
noncomputable def xt_32_0 : Lean.RArray (Nat × xins) := .branch 17 (.branch 7 (.branch 2 (.branch 1 (.leaf (0, (.aload_n 0, 1, 0, 0, 0))) (.leaf (1, (.iconst 1, 2, 0, 1, 0)))) (.branch 5 (.leaf (2, (.putfield 9, 5, 3, 8, 0))) (.branch 6 (.leaf (5, (.aload_n 0, 6, 0, 0, 0))) (.leaf (6, (.iload_n 1, 7, 0, 1, 0)))))) (.branch 12 (.branch 10 (.leaf (7, (.putfield 15, 10, 0, 8, 1))) (.branch 11 (.leaf (10, (.aload_n 0, 11, 0, 0, 0))) (.leaf (11, (.iload_n 2, 12, 0, 2, 0))))) (.branch 15 (.leaf (12, (.putfield 19, 15, 0, 8, 2))) (.branch 16 (.leaf (15, (.iconst 0, 16, 0, 0, 0))) (.leaf (16, (.istore_n 3, 17, 0, 3, 0))))))) (.branch 27 (.branch 20 (.branch 18 (.leaf (17, (.iload_n 3, 18, 0, 3, 0))) (.leaf (18, (.bipush 60, 20, 0, 60, 0)))) (.branch 23 (.leaf (20, (.if_icmp .ge 16, 23, 36, 0, 0))) (.branch 24 (.leaf (23, (.aload_n 0, 24, 0, 0, 0))) (.leaf (24, (.getfield 22, 27, 0, 8, 3)))))) (.branch 30 (.branch 28 (.leaf (27, (.iload_n 3, 28, 0, 3, 0))) (.branch 29 (.leaf (28, (.lconst 0, 29, 0, 0, 0))) (.leaf (29, (.lastore, 30, 0, 0, 0))))) (.branch 33 (.leaf (30, (.iinc 3 1, 33, 0, 3, 1))) (.branch 36 (.leaf (33, (.goto (-16), 36, 17, 0, 0))) (.leaf (36, (.return_, 37, 0, 0, 0)))))))
noncomputable def xt_32 : Lean.RArray (Nat × xins) := xt_32_0
set_option maxRecDepth 100000 in
noncomputable def xt_33_0 : Lean.RArray (Nat × xins) := .branch 2 (.branch 1 (.leaf (0, (.aload_n 0, 1, 0, 0, 0))) (.leaf (1, (.iconst 0, 2, 0, 0, 0)))) (.branch 5 (.leaf (2, (.putfield 9, 5, 0, 11, 0))) (.branch 6 (.leaf (5, (.iconst 1, 6, 0, 1, 0))) (.leaf (6, (.ireturn, 7, 0, 0, 0)))))
noncomputable def xt_33 : Lean.RArray (Nat × xins) := xt_33_0
set_option maxRecDepth 100000 in
noncomputable def xt_34_0 : Lean.RArray (Nat × xins) := .branch 40 (.branch 21 (.branch 11 (.branch 4 (.branch 1 (.leaf (0, (.iload_n 1, 1, 0, 1, 0))) (.leaf (1, (.invokestatic 92, 4, 0, 35, 0)))) (.branch 7 (.leaf (4, (.ifCond .eq 22, 7, 26, 0, 0))) (.branch 8 (.leaf (7, (.iload_n 2, 8, 0, 2, 0))) (.leaf (8, (.ifCond .lt 18, 11, 26, 0, 0)))))) (.branch 16 (.branch 12 (.leaf (11, (.iload_n 2, 12, 0, 2, 0))) (.branch 13 (.leaf (12, (.iconst 3, 13, 0, 3, 0))) (.leaf (13, (.if_icmp .gt 13, 16, 26, 0, 0))))) (.branch 17 (.leaf (16, (.iload_n 3, 17, 0, 3, 0))) (.branch 20 (.leaf (17, (.ifCond .lt 9, 20, 26, 0, 0))) (.leaf (20, (.iload_n 3, 21, 0, 3, 0))))))) (.branch 32 (.branch 27 (.branch 23 (.leaf (21, (.bipush 60, 23, 0, 60, 0))) (.branch 26 (.leaf (23, (.if_icmp .le 9, 26, 32, 0, 0))) (.leaf (26, (.aload_n 0, 27, 0, 0, 0))))) (.branch 28 (.leaf (27, (.iconst 1, 28, 0, 1, 0))) (.branch 31 (.leaf (28, (.invokevirtual 88, 31, 0, 36, 0))) (.leaf (31, (.ireturn, 32, 0, 0, 0)))))) (.branch 37 (.branch 33 (.leaf (32, (.aload_n 0, 33, 0, 0, 0))) (.branch 36 (.leaf (33, (.getfield 21, 36, 0, 12, 5))) (.leaf (36, (.iload_n 1, 37, 0, 1, 0))))) (.branch 38 (.leaf (37, (.iload_n 2, 38, 0, 2, 0))) (.branch 39 (.leaf (38, (.iastore, 39, 0, 0, 0))) (.leaf (39, (.aload_n 0, 40, 0, 0, 0)))))))) (.branch 61 (.branch 49 (.branch 45 (.branch 43 (.leaf (40, (.getfield 24, 43, 0, 12, 6))) (.branch 44 (.leaf (43, (.iload_n 1, 44, 0, 1, 0))) (.leaf (44, (.iload_n 3, 45, 0, 3, 0))))) (.branch 46 (.leaf (45, (.iastore, 46, 0, 0, 0))) (.branch 47 (.leaf (46, (.iconst 0, 47, 0, 0, 0))) (.leaf (47, (.istore 4, 49, 0, 4, 0)))))) (.branch 55 (.branch 51 (.leaf (49, (.iload 4, 51, 0, 4, 0))) (.branch 52 (.leaf (51, (.iload_n 3, 52, 0, 3, 0))) (.leaf (52, (.if_icmp .ge 22, 55, 74, 0, 0))))) (.branch 56 (.leaf (55, (.aload_n 0, 56, 0, 0, 0))) (.branch 59 (.leaf (56, (.getfield 27, 59, 0, 12, 7))) (.leaf (59, (.bipush 60, 61, 0, 60, 0))))))) (.branch 68 (.branch 65 (.branch 62 (.leaf (61, (.iload_n 1, 62, 0, 1, 0))) (.branch 63 (.leaf (62, (.imul, 63, 0, 0, 0))) (.leaf (63, (.iload 4, 65, 0, 4, 0))))) (.branch 66 (.leaf (65, (.iadd, 66, 0, 0, 0))) (.branch 67 (.leaf (66, (.lconst 0, 67, 0, 0, 0))) (.leaf (67, (.lastore, 68, 0, 0, 0)))))) (.branch 75 (.branch 71 (.leaf (68, (.iinc 4 1, 71, 0, 4, 1))) (.branch 74 (.leaf (71, (.goto (-22), 74, 49, 0, 0))) (.leaf (74, (.aload_n 0, 75, 0, 0, 0))))) (.branch 76 (.leaf (75, (.iconst 0, 76, 0, 0, 0))) (.branch 79 (.leaf (76, (.invokevirtual 88, 79, 0, 36, 0))) (.leaf (79, (.ireturn, 80, 0, 0, 0))))))))
noncomputable def xt_34 : Lean.RArray (Nat × xins) := xt_34_0
set_option maxRecDepth 100000 in
noncomputable def xt_35_0 : Lean.RArray (Nat × xins) := .branch 6 (.branch 4 (.branch 1 (.leaf (0, (.iload_n 0, 1, 0, 0, 0))) (.leaf (1, (.ifCond .lt 12, 4, 13, 0, 0)))) (.branch 5 (.leaf (4, (.iload_n 0, 5, 0, 0, 0))) (.leaf (5, (.iconst 4, 6, 0, 4, 0))))) (.branch 10 (.branch 9 (.leaf (6, (.if_icmp .ge 7, 9, 13, 0, 0))) (.leaf (9, (.iconst 1, 10, 0, 1, 0)))) (.branch 13 (.leaf (10, (.goto 4, 13, 14, 0, 0))) (.branch 14 (.leaf (13, (.iconst 0, 14, 0, 0, 0))) (.leaf (14, (.ireturn, 15, 0, 0, 0))))))
noncomputable def xt_35 : Lean.RArray (Nat × xins) := xt_35_0
set_option maxRecDepth 100000 in
noncomputable def xt_36_0 : Lean.RArray (Nat × xins) := .branch 6 (.branch 2 (.branch 1 (.leaf (0, (.aload_n 0, 1, 0, 0, 0))) (.leaf (1, (.iload_n 1, 2, 0, 1, 0)))) (.branch 5 (.leaf (2, (.putfield 75, 5, 0, 12, 2))) (.leaf (5, (.iload_n 1, 6, 0, 1, 0))))) (.branch 10 (.branch 9 (.leaf (6, (.ifCond .ne 7, 9, 13, 0, 0))) (.leaf (9, (.iconst 1, 10, 0, 1, 0)))) (.branch 13 (.leaf (10, (.goto 4, 13, 14, 0, 0))) (.branch 14 (.leaf (13, (.iconst 0, 14, 0, 0, 0))) (.leaf (14, (.ireturn, 15, 0, 0, 0))))))
noncomputable def xt_36 : Lean.RArray (Nat × xins) := xt_36_0
set_option maxRecDepth 100000 in
noncomputable def xt_37_0 : Lean.RArray (Nat × xins) := .branch 8 (.branch 2 (.branch 1 (.leaf (0, (.aload_n 0, 1, 0, 0, 0))) (.leaf (1, (.iload_n 1, 2, 0, 1, 0)))) (.branch 3 (.leaf (2, (.iload_n 2, 3, 0, 2, 0))) (.branch 6 (.leaf (3, (.invokevirtual 143, 6, 0, 38, 0))) (.leaf (6, (.istore 5, 8, 0, 5, 0)))))) (.branch 14 (.branch 10 (.leaf (8, (.iload 5, 10, 0, 5, 0))) (.branch 13 (.leaf (10, (.ifCond .eq 10, 13, 20, 0, 0))) (.leaf (13, (.aload_n 0, 14, 0, 0, 0))))) (.branch 16 (.leaf (14, (.iload 5, 16, 0, 5, 0))) (.branch 19 (.leaf (16, (.invokevirtual 125, 19, 0, 31, 0))) (.leaf (19, (.ireturn, 20, 0, 0, 0))))))
noncomputable def xt_37 : Lean.RArray (Nat × xins) := xt_37_0
set_option maxRecDepth 100000 in
noncomputable def xt_38_0 : Lean.RArray (Nat × xins) := .branch 10 (.branch 7 (.branch 1 (.leaf (0, (.iload_n 1, 1, 0, 1, 0))) (.branch 4 (.leaf (1, (.invokestatic 121, 4, 0, 29, 0))) (.leaf (4, (.ifCond .ne 5, 7, 9, 0, 0))))) (.branch 8 (.leaf (7, (.iconst 1, 8, 0, 1, 0))) (.branch 9 (.leaf (8, (.ireturn, 9, 0, 0, 0))) (.leaf (9, (.aload_n 0, 10, 0, 0, 0)))))) (.branch 15 (.branch 13 (.leaf (10, (.getfield 22, 13, 0, 11, 3))) (.branch 14 (.leaf (13, (.iload_n 1, 14, 0, 1, 0))) (.leaf (14, (.aaload, 15, 0, 0, 0))))) (.branch 21 (.branch 18 (.leaf (15, (.getfield 136, 18, 0, 8, 0))) (.leaf (18, (.ifCond .ne 5, 21, 23, 0, 0)))) (.branch 22 (.leaf (21, (.iconst 2, 22, 0, 2, 0))) (.leaf (22, (.ireturn, 23, 0, 0, 0))))))
noncomputable def xt_38 : Lean.RArray (Nat × xins) := xt_38_0
set_option maxRecDepth 100000 in
noncomputable def xt_39_0 : Lean.RArray (Nat × xins) := .branch 8 (.branch 2 (.branch 1 (.leaf (0, (.aload_n 0, 1, 0, 0, 0))) (.leaf (1, (.iload_n 1, 2, 0, 1, 0)))) (.branch 3 (.leaf (2, (.iload_n 2, 3, 0, 2, 0))) (.branch 6 (.leaf (3, (.invokevirtual 95, 6, 0, 40, 0))) (.leaf (6, (.istore 5, 8, 0, 5, 0)))))) (.branch 35 (.branch 10 (.leaf (8, (.iload 5, 10, 0, 5, 0))) (.branch 34 (.leaf (10, (.ifCond .ne 24, 13, 34, 0, 0))) (.leaf (34, (.aload_n 0, 35, 0, 0, 0))))) (.branch 37 (.leaf (35, (.iload 5, 37, 0, 5, 0))) (.branch 40 (.leaf (37, (.invokevirtual 88, 40, 0, 36, 0))) (.leaf (40, (.ireturn, 41, 0, 0, 0))))))
noncomputable def xt_39 : Lean.RArray (Nat × xins) := xt_39_0
set_option maxRecDepth 100000 in
noncomputable def xt_40_0 : Lean.RArray (Nat × xins) := .branch 15 (.branch 7 (.branch 1 (.leaf (0, (.iload_n 1, 1, 0, 1, 0))) (.branch 4 (.leaf (1, (.invokestatic 92, 4, 0, 35, 0))) (.leaf (4, (.ifCond .ne 7, 7, 11, 0, 0))))) (.branch 11 (.branch 8 (.leaf (7, (.iconst 1, 8, 0, 1, 0))) (.leaf (8, (.goto 36, 11, 44, 0, 0)))) (.branch 12 (.leaf (11, (.aload_n 0, 12, 0, 0, 0))) (.leaf (12, (.getfield 24, 15, 0, 12, 6)))))) (.branch 18 (.branch 16 (.leaf (15, (.iload_n 1, 16, 0, 1, 0))) (.branch 17 (.leaf (16, (.iaload, 17, 0, 0, 0))) (.leaf (17, (.iconst (-1), 18, 0, 4294967295, 0))))) (.branch 22 (.branch 21 (.leaf (18, (.if_icmp .ne 7, 21, 25, 0, 0))) (.leaf (21, (.iconst 2, 22, 0, 2, 0)))) (.branch 44 (.leaf (22, (.goto 22, 25, 44, 0, 0))) (.leaf (44, (.ireturn, 45, 0, 0, 0))))))
noncomputable def xt_40 : Lean.RArray (Nat × xins) := xt_40_0
set_option maxRecDepth 100000 in
noncomputable def xt_41_0 : Lean.RArray (Nat × xins) := .branch 8 (.branch 3 (.branch 1 (.leaf (0, (.aload_n 0, 1, 0, 0, 0))) (.branch 2 (.leaf (1, (.iload_n 1, 2, 0, 1, 0))) (.leaf (2, (.iload_n 2, 3, 0, 2, 0))))) (.branch 6 (.leaf (3, (.invokevirtual 143, 6, 0, 38, 0))) (.branch 7 (.leaf (6, (.istore_n 3, 7, 0, 3, 0))) (.leaf (7, (.iload_n 3, 8, 0, 3, 0)))))) (.branch 13 (.branch 11 (.leaf (8, (.ifCond .eq 10, 11, 18, 0, 0))) (.branch 12 (.leaf (11, (.aload_n 0, 12, 0, 0, 0))) (.leaf (12, (.iload_n 3, 13, 0, 3, 0))))) (.branch 16 (.leaf (13, (.invokevirtual 151, 16, 0, 42, 0))) (.branch 17 (.leaf (16, (.i2l, 17, 0, 0, 0))) (.leaf (17, (.lreturn, 18, 0, 0, 0))))))
noncomputable def xt_41 : Lean.RArray (Nat × xins) := xt_41_0
set_option maxRecDepth 100000 in
noncomputable def xt_42_0 : Lean.RArray (Nat × xins) := .branch 2 (.branch 1 (.leaf (0, (.aload_n 0, 1, 0, 0, 0))) (.leaf (1, (.iload_n 1, 2, 0, 1, 0)))) (.branch 5 (.leaf (2, (.putfield 9, 5, 0, 11, 0))) (.branch 6 (.leaf (5, (.iconst (-1), 6, 0, 4294967295, 0))) (.leaf (6, (.ireturn, 7, 0, 0, 0)))))
noncomputable def xt_42 : Lean.RArray (Nat × xins) := xt_42_0
set_option maxRecDepth 100000 in
noncomputable def xt_43_0 : Lean.RArray (Nat × xins) := .branch 10 (.branch 3 (.branch 1 (.leaf (0, (.aload_n 0, 1, 0, 0, 0))) (.branch 2 (.leaf (1, (.aload_n 0, 2, 0, 0, 0))) (.leaf (2, (.iload_n 1, 3, 0, 1, 0))))) (.branch 4 (.leaf (3, (.iload_n 2, 4, 0, 2, 0))) (.branch 7 (.leaf (4, (.invokevirtual 95, 7, 0, 40, 0))) (.leaf (7, (.putfield 75, 10, 0, 12, 2)))))) (.branch 17 (.branch 11 (.leaf (10, (.aload_n 0, 11, 0, 0, 0))) (.branch 14 (.leaf (11, (.getfield 75, 14, 0, 12, 2))) (.leaf (14, (.ifCond .le 9, 17, 23, 0, 0))))) (.branch 20 (.leaf (17, (.ldc2_w 103, 20, 0, 18446744073709551615, 0))) (.branch 34 (.leaf (20, (.goto 14, 23, 34, 0, 0))) (.leaf (34, (.lreturn, 35, 0, 0, 0))))))
noncomputable def xt_43 : Lean.RArray (Nat × xins) := xt_43_0
set_option maxRecDepth 100000 in
noncomputable def xt_44_0 : Lean.RArray (Nat × xins) := .branch 11 (.branch 3 (.branch 1 (.leaf (0, (.aload_n 0, 1, 0, 0, 0))) (.branch 2 (.leaf (1, (.iload_n 1, 2, 0, 1, 0))) (.leaf (2, (.iload_n 2, 3, 0, 2, 0))))) (.branch 6 (.branch 4 (.leaf (3, (.iload_n 3, 4, 0, 3, 0))) (.leaf (4, (.iload 4, 6, 0, 4, 0)))) (.branch 8 (.leaf (6, (.iload 5, 8, 0, 5, 0))) (.leaf (8, (.invokevirtual 162, 11, 0, 45, 0)))))) (.branch 18 (.branch 13 (.leaf (11, (.istore 6, 13, 0, 6, 0))) (.branch 15 (.leaf (13, (.iload 6, 15, 0, 6, 0))) (.leaf (15, (.ifCond .eq 10, 18, 25, 0, 0))))) (.branch 21 (.branch 19 (.leaf (18, (.aload_n 0, 19, 0, 0, 0))) (.leaf (19, (.iload 6, 21, 0, 6, 0)))) (.branch 24 (.leaf (21, (.invokevirtual 125, 24, 0, 31, 0))) (.leaf (24, (.ireturn, 25, 0, 0, 0))))))
noncomputable def xt_44 : Lean.RArray (Nat × xins) := xt_44_0
set_option maxRecDepth 100000 in
noncomputable def xt_45_0 : Lean.RArray (Nat × xins) := .branch 25 (.branch 11 (.branch 4 (.branch 1 (.leaf (0, (.iload_n 1, 1, 0, 1, 0))) (.leaf (1, (.invokestatic 121, 4, 0, 29, 0)))) (.branch 7 (.leaf (4, (.ifCond .eq 24, 7, 28, 0, 0))) (.branch 8 (.leaf (7, (.iload_n 3, 8, 0, 3, 0))) (.leaf (8, (.invokestatic 121, 11, 0, 29, 0)))))) (.branch 18 (.branch 14 (.leaf (11, (.ifCond .eq 17, 14, 28, 0, 0))) (.branch 15 (.leaf (14, (.iload_n 2, 15, 0, 2, 0))) (.leaf (15, (.ifCond .lt 13, 18, 28, 0, 0))))) (.branch 20 (.leaf (18, (.iload 4, 20, 0, 4, 0))) (.branch 23 (.leaf (20, (.ifCond .lt 8, 23, 28, 0, 0))) (.leaf (23, (.iload 5, 25, 0, 5, 0))))))) (.branch 34 (.branch 29 (.branch 28 (.leaf (25, (.ifCond .ge 5, 28, 30, 0, 0))) (.leaf (28, (.iconst 1, 29, 0, 1, 0)))) (.branch 30 (.leaf (29, (.ireturn, 30, 0, 0, 0))) (.branch 31 (.leaf (30, (.aload_n 0, 31, 0, 0, 0))) (.leaf (31, (.getfield 22, 34, 0, 11, 3)))))) (.branch 39 (.branch 35 (.leaf (34, (.iload_n 1, 35, 0, 1, 0))) (.branch 36 (.leaf (35, (.aaload, 36, 0, 0, 0))) (.leaf (36, (.getfield 136, 39, 0, 8, 0))))) (.branch 54 (.leaf (39, (.ifCond .eq 15, 42, 54, 0, 0))) (.branch 55 (.leaf (54, (.iconst 2, 55, 0, 2, 0))) (.leaf (55, (.ireturn, 56, 0, 0, 0)))))))
noncomputable def xt_45 : Lean.RArray (Nat × xins) := xt_45_0
set_option maxRecDepth 100000 in
noncomputable def xt_46_0 : Lean.RArray (Nat × xins) := .branch 29 (.branch 14 (.branch 7 (.branch 1 (.leaf (0, (.iload_n 1, 1, 0, 1, 0))) (.branch 4 (.leaf (1, (.invokestatic 92, 4, 0, 35, 0))) (.leaf (4, (.ifCond .eq 24, 7, 28, 0, 0))))) (.branch 8 (.leaf (7, (.iload_n 3, 8, 0, 3, 0))) (.branch 11 (.leaf (8, (.invokestatic 92, 11, 0, 35, 0))) (.leaf (11, (.ifCond .eq 17, 14, 28, 0, 0)))))) (.branch 20 (.branch 15 (.leaf (14, (.iload_n 2, 15, 0, 2, 0))) (.branch 18 (.leaf (15, (.ifCond .lt 13, 18, 28, 0, 0))) (.leaf (18, (.iload 4, 20, 0, 4, 0))))) (.branch 25 (.branch 23 (.leaf (20, (.ifCond .lt 8, 23, 28, 0, 0))) (.leaf (23, (.iload 5, 25, 0, 5, 0)))) (.branch 28 (.leaf (25, (.ifCond .ge 9, 28, 34, 0, 0))) (.leaf (28, (.aload_n 0, 29, 0, 0, 0))))))) (.branch 39 (.branch 34 (.branch 30 (.leaf (29, (.iconst 1, 30, 0, 1, 0))) (.branch 33 (.leaf (30, (.invokevirtual 88, 33, 0, 36, 0))) (.leaf (33, (.ireturn, 34, 0, 0, 0))))) (.branch 35 (.leaf (34, (.aload_n 0, 35, 0, 0, 0))) (.branch 38 (.leaf (35, (.getfield 24, 38, 0, 12, 6))) (.leaf (38, (.iload_n 1, 39, 0, 1, 0)))))) (.branch 54 (.branch 40 (.leaf (39, (.iaload, 40, 0, 0, 0))) (.branch 41 (.leaf (40, (.iconst (-1), 41, 0, 4294967295, 0))) (.leaf (41, (.if_icmp .eq 13, 44, 54, 0, 0))))) (.branch 56 (.branch 55 (.leaf (54, (.aload_n 0, 55, 0, 0, 0))) (.leaf (55, (.iconst 2, 56, 0, 2, 0)))) (.branch 59 (.leaf (56, (.invokevirtual 88, 59, 0, 36, 0))) (.leaf (59, (.ireturn, 60, 0, 0, 0)))))))
noncomputable def xt_46 : Lean.RArray (Nat × xins) := xt_46_0
set_option maxRecDepth 100000 in
noncomputable def xt_47_0 : Lean.RArray (Nat × xins) := .branch 25 (.branch 15 (.branch 6 (.branch 1 (.leaf (0, (.aload_n 0, 1, 0, 0, 0))) (.branch 4 (.leaf (1, (.getfield 30, 4, 0, 11, 5))) (.leaf (4, (.bipush 20, 6, 0, 20, 0))))) (.branch 7 (.leaf (6, (.iadd, 7, 0, 0, 0))) (.branch 10 (.leaf (7, (.sipush 900, 10, 0, 900, 0))) (.leaf (10, (.if_icmp .le 5, 13, 15, 0, 0)))))) (.branch 20 (.branch 16 (.leaf (15, (.aload_n 0, 16, 0, 0, 0))) (.branch 17 (.leaf (16, (.iload_n 1, 17, 0, 1, 0))) (.leaf (17, (.invokevirtual 172, 20, 0, 48, 0))))) (.branch 21 (.leaf (20, (.aload_n 0, 21, 0, 0, 0))) (.branch 22 (.leaf (21, (.iload_n 2, 22, 0, 2, 0))) (.leaf (22, (.invokevirtual 172, 25, 0, 48, 0))))))) (.branch 36 (.branch 30 (.branch 26 (.leaf (25, (.aload_n 0, 26, 0, 0, 0))) (.branch 27 (.leaf (26, (.iload_n 3, 27, 0, 3, 0))) (.leaf (27, (.invokevirtual 172, 30, 0, 48, 0))))) (.branch 31 (.leaf (30, (.aload_n 0, 31, 0, 0, 0))) (.branch 33 (.leaf (31, (.iload 4, 33, 0, 4, 0))) (.leaf (33, (.invokevirtual 172, 36, 0, 48, 0)))))) (.branch 42 (.branch 37 (.leaf (36, (.aload_n 0, 37, 0, 0, 0))) (.branch 39 (.leaf (37, (.iload 5, 39, 0, 5, 0))) (.leaf (39, (.invokevirtual 172, 42, 0, 48, 0))))) (.branch 43 (.leaf (42, (.aload_n 0, 43, 0, 0, 0))) (.branch 46 (.leaf (43, (.getfield 30, 46, 0, 11, 5))) (.leaf (46, (.ireturn, 47, 0, 0, 0)))))))
noncomputable def xt_47 : Lean.RArray (Nat × xins) := xt_47_0
set_option maxRecDepth 100000 in
noncomputable def xt_48_0 : Lean.RArray (Nat × xins) := .branch 26 (.branch 11 (.branch 4 (.branch 2 (.leaf (0, (.bipush 24, 2, 0, 24, 0))) (.branch 3 (.leaf (2, (.istore_n 2, 3, 0, 2, 0))) (.leaf (3, (.iload_n 2, 4, 0, 2, 0))))) (.branch 7 (.leaf (4, (.ifCond .lt 42, 7, 46, 0, 0))) (.branch 8 (.leaf (7, (.aload_n 0, 8, 0, 0, 0))) (.leaf (8, (.getfield 30, 11, 0, 11, 5)))))) (.branch 18 (.branch 14 (.leaf (11, (.sipush 900, 14, 0, 900, 0))) (.branch 17 (.leaf (14, (.if_icmp .ge 26, 17, 40, 0, 0))) (.leaf (17, (.aload_n 0, 18, 0, 0, 0))))) (.branch 22 (.branch 21 (.leaf (18, (.getfield 26, 21, 0, 11, 4))) (.leaf (21, (.aload_n 0, 22, 0, 0, 0)))) (.branch 25 (.leaf (22, (.getfield 30, 25, 0, 11, 5))) (.leaf (25, (.iload_n 1, 26, 0, 1, 0))))))) (.branch 32 (.branch 29 (.branch 27 (.leaf (26, (.iload_n 2, 27, 0, 2, 0))) (.branch 28 (.leaf (27, (.ishr, 28, 0, 0, 0))) (.leaf (28, (.i2b, 29, 0, 0, 0))))) (.branch 30 (.leaf (29, (.bastore, 30, 0, 0, 0))) (.branch 31 (.leaf (30, (.aload_n 0, 31, 0, 0, 0))) (.leaf (31, (.dup, 32, 0, 0, 0)))))) (.branch 37 (.branch 35 (.leaf (32, (.getfield 30, 35, 0, 11, 5))) (.branch 36 (.leaf (35, (.iconst 1, 36, 0, 1, 0))) (.leaf (36, (.iadd, 37, 0, 0, 0))))) (.branch 43 (.branch 40 (.leaf (37, (.putfield 30, 40, 0, 11, 5))) (.leaf (40, (.iinc 2 (-8), 43, 0, 2, 4294967288)))) (.branch 46 (.leaf (43, (.goto (-40), 46, 3, 0, 0))) (.leaf (46, (.return_, 47, 0, 0, 0)))))))
noncomputable def xt_48 : Lean.RArray (Nat × xins) := xt_48_0
set_option maxRecDepth 100000 in
noncomputable def xt_49_0 : Lean.RArray (Nat × xins) := .branch 25 (.branch 15 (.branch 6 (.branch 1 (.leaf (0, (.aload_n 0, 1, 0, 0, 0))) (.branch 4 (.leaf (1, (.getfield 105, 4, 0, 12, 10))) (.leaf (4, (.bipush 20, 6, 0, 20, 0))))) (.branch 7 (.leaf (6, (.iadd, 7, 0, 0, 0))) (.branch 10 (.leaf (7, (.sipush 900, 10, 0, 900, 0))) (.leaf (10, (.if_icmp .le 5, 13, 15, 0, 0)))))) (.branch 20 (.branch 16 (.leaf (15, (.aload_n 0, 16, 0, 0, 0))) (.branch 17 (.leaf (16, (.iload_n 1, 17, 0, 1, 0))) (.leaf (17, (.invokevirtual 108, 20, 0, 50, 0))))) (.branch 21 (.leaf (20, (.aload_n 0, 21, 0, 0, 0))) (.branch 22 (.leaf (21, (.iload_n 2, 22, 0, 2, 0))) (.leaf (22, (.invokevirtual 108, 25, 0, 50, 0))))))) (.branch 36 (.branch 30 (.branch 26 (.leaf (25, (.aload_n 0, 26, 0, 0, 0))) (.branch 27 (.leaf (26, (.iload_n 3, 27, 0, 3, 0))) (.leaf (27, (.invokevirtual 108, 30, 0, 50, 0))))) (.branch 31 (.leaf (30, (.aload_n 0, 31, 0, 0, 0))) (.branch 33 (.leaf (31, (.iload 4, 33, 0, 4, 0))) (.leaf (33, (.invokevirtual 108, 36, 0, 50, 0)))))) (.branch 42 (.branch 37 (.leaf (36, (.aload_n 0, 37, 0, 0, 0))) (.branch 39 (.leaf (37, (.iload 5, 39, 0, 5, 0))) (.leaf (39, (.invokevirtual 108, 42, 0, 50, 0))))) (.branch 43 (.leaf (42, (.aload_n 0, 43, 0, 0, 0))) (.branch 46 (.leaf (43, (.getfield 105, 46, 0, 12, 10))) (.leaf (46, (.ireturn, 47, 0, 0, 0)))))))
noncomputable def xt_49 : Lean.RArray (Nat × xins) := xt_49_0
set_option maxRecDepth 100000 in
noncomputable def xt_50_0 : Lean.RArray (Nat × xins) := .branch 18 (.branch 8 (.branch 3 (.branch 2 (.leaf (0, (.bipush 24, 2, 0, 24, 0))) (.leaf (2, (.istore_n 2, 3, 0, 2, 0)))) (.branch 4 (.leaf (3, (.iload_n 2, 4, 0, 2, 0))) (.branch 7 (.leaf (4, (.ifCond .lt 32, 7, 36, 0, 0))) (.leaf (7, (.aload_n 0, 8, 0, 0, 0)))))) (.branch 15 (.branch 11 (.leaf (8, (.getfield 30, 11, 0, 12, 8))) (.branch 12 (.leaf (11, (.aload_n 0, 12, 0, 0, 0))) (.leaf (12, (.getfield 105, 15, 0, 12, 10))))) (.branch 16 (.leaf (15, (.iload_n 1, 16, 0, 1, 0))) (.branch 17 (.leaf (16, (.iload_n 2, 17, 0, 2, 0))) (.leaf (17, (.ishr, 18, 0, 0, 0))))))) (.branch 25 (.branch 20 (.branch 19 (.leaf (18, (.i2b, 19, 0, 0, 0))) (.leaf (19, (.bastore, 20, 0, 0, 0)))) (.branch 21 (.leaf (20, (.aload_n 0, 21, 0, 0, 0))) (.branch 22 (.leaf (21, (.dup, 22, 0, 0, 0))) (.leaf (22, (.getfield 105, 25, 0, 12, 10)))))) (.branch 30 (.branch 26 (.leaf (25, (.iconst 1, 26, 0, 1, 0))) (.branch 27 (.leaf (26, (.iadd, 27, 0, 0, 0))) (.leaf (27, (.putfield 105, 30, 0, 12, 10))))) (.branch 33 (.leaf (30, (.iinc 2 (-8), 33, 0, 2, 4294967288))) (.branch 36 (.leaf (33, (.goto (-30), 36, 3, 0, 0))) (.leaf (36, (.return_, 37, 0, 0, 0)))))))
noncomputable def xt_50 : Lean.RArray (Nat × xins) := xt_50_0
set_option maxRecDepth 100000 in
noncomputable def xt_51_0 : Lean.RArray (Nat × xins) := .branch 24 (.branch 13 (.branch 3 (.branch 1 (.leaf (0, (.iload_n 1, 1, 0, 1, 0))) (.branch 2 (.leaf (1, (.iconst 0, 2, 0, 0, 0))) (.leaf (2, (.aload_n 0, 3, 0, 0, 0))))) (.branch 9 (.branch 6 (.leaf (3, (.getfield 30, 6, 0, 11, 5))) (.leaf (6, (.invokestatic 117, 9, 0, 30, 0)))) (.branch 12 (.leaf (9, (.ifCond .ne 9, 12, 18, 0, 0))) (.leaf (12, (.aload_n 0, 13, 0, 0, 0)))))) (.branch 18 (.branch 14 (.leaf (13, (.iconst 1, 14, 0, 1, 0))) (.branch 17 (.leaf (14, (.invokevirtual 151, 17, 0, 42, 0))) (.leaf (17, (.ireturn, 18, 0, 0, 0))))) (.branch 20 (.branch 19 (.leaf (18, (.aload_n 0, 19, 0, 0, 0))) (.leaf (19, (.iconst 0, 20, 0, 0, 0)))) (.branch 23 (.leaf (20, (.putfield 30, 23, 0, 11, 5))) (.leaf (23, (.aload_n 0, 24, 0, 0, 0))))))) (.branch 46 (.branch 31 (.branch 27 (.leaf (24, (.getfield 64, 27, 0, 11, 11))) (.branch 28 (.leaf (27, (.iload_n 1, 28, 0, 1, 0))) (.leaf (28, (.invokevirtual 176, 31, 0, 52, 0))))) (.branch 42 (.branch 41 (.leaf (31, (.ifCond .ne 10, 34, 41, 0, 0))) (.leaf (41, (.aload_n 0, 42, 0, 0, 0)))) (.branch 45 (.leaf (42, (.getfield 36, 45, 0, 11, 6))) (.leaf (45, (.aload_n 0, 46, 0, 0, 0)))))) (.branch 54 (.branch 52 (.branch 49 (.leaf (46, (.getfield 40, 49, 0, 11, 7))) (.leaf (49, (.invokevirtual 179, 52, 0, 58, 0)))) (.branch 53 (.leaf (52, (.aload_n 0, 53, 0, 0, 0))) (.leaf (53, (.aload_n 0, 54, 0, 0, 0))))) (.branch 60 (.branch 57 (.leaf (54, (.getfield 36, 57, 0, 11, 6))) (.leaf (57, (.getfield 182, 60, 0, 0, 3)))) (.branch 63 (.leaf (60, (.invokevirtual 185, 63, 0, 61, 0))) (.leaf (63, (.ireturn, 64, 0, 0, 0)))))))
noncomputable def xt_51 : Lean.RArray (Nat × xins) := xt_51_0
set_option maxRecDepth 100000 in
noncomputable def xt_52_0 : Lean.RArray (Nat × xins) := .branch 20 (.branch 9 (.branch 4 (.branch 1 (.leaf (0, (.aload_n 0, 1, 0, 0, 0))) (.leaf (1, (.getfield 32, 4, 0, 4, 2)))) (.branch 7 (.leaf (4, (.invokevirtual 44, 7, 0, 53, 0))) (.branch 8 (.leaf (7, (.aload_n 0, 8, 0, 0, 0))) (.leaf (8, (.iconst 0, 9, 0, 0, 0)))))) (.branch 13 (.branch 12 (.leaf (9, (.putfield 9, 12, 0, 4, 4))) (.leaf (12, (.aload_n 0, 13, 0, 0, 0)))) (.branch 16 (.leaf (13, (.getfield 24, 16, 0, 4, 0))) (.branch 17 (.leaf (16, (.iload_n 1, 17, 0, 1, 0))) (.leaf (17, (.invokevirtual 47, 20, 0, 55, 0))))))) (.branch 29 (.branch 22 (.branch 21 (.leaf (20, (.iconst 0, 21, 0, 0, 0))) (.leaf (21, (.istore_n 2, 22, 0, 2, 0)))) (.branch 23 (.leaf (22, (.iload_n 2, 23, 0, 2, 0))) (.branch 26 (.leaf (23, (.sipush 900, 26, 0, 900, 0))) (.leaf (26, (.if_icmp .ge 28, 29, 54, 0, 0)))))) (.branch 36 (.branch 30 (.leaf (29, (.aload_n 0, 30, 0, 0, 0))) (.branch 33 (.leaf (30, (.getfield 24, 33, 0, 4, 0))) (.leaf (33, (.getfield 53, 36, 0, 7, 4))))) (.branch 54 (.leaf (36, (.ifCond .eq 18, 39, 54, 0, 0))) (.branch 55 (.leaf (54, (.iconst 1, 55, 0, 1, 0))) (.leaf (55, (.ireturn, 56, 0, 0, 0)))))))
noncomputable def xt_52 : Lean.RArray (Nat × xins) := xt_52_0
set_option maxRecDepth 100000 in
noncomputable def xt_53_0 : Lean.RArray (Nat × xins) := .branch 20 (.branch 10 (.branch 5 (.branch 1 (.leaf (0, (.aload_n 0, 1, 0, 0, 0))) (.branch 2 (.leaf (1, (.iconst 0, 2, 0, 0, 0))) (.leaf (2, (.putfield 9, 5, 0, 0, 0))))) (.branch 6 (.leaf (5, (.aload_n 0, 6, 0, 0, 0))) (.branch 7 (.leaf (6, (.iconst 0, 7, 0, 0, 0))) (.leaf (7, (.putfield 23, 10, 0, 0, 3)))))) (.branch 15 (.branch 11 (.leaf (10, (.aload_n 0, 11, 0, 0, 0))) (.branch 12 (.leaf (11, (.iconst 5, 12, 0, 5, 0))) (.leaf (12, (.putfield 32, 15, 0, 0, 5))))) (.branch 16 (.leaf (15, (.aload_n 0, 16, 0, 0, 0))) (.branch 17 (.leaf (16, (.iconst 2, 17, 0, 2, 0))) (.leaf (17, (.putfield 35, 20, 0, 0, 6))))))) (.branch 31 (.branch 26 (.branch 21 (.leaf (20, (.aload_n 0, 21, 0, 0, 0))) (.branch 23 (.leaf (21, (.bipush 10, 23, 0, 10, 0))) (.leaf (23, (.putfield 38, 26, 0, 0, 7))))) (.branch 27 (.leaf (26, (.aload_n 0, 27, 0, 0, 0))) (.branch 28 (.leaf (27, (.iconst 0, 28, 0, 0, 0))) (.leaf (28, (.putfield 41, 31, 0, 0, 8)))))) (.branch 36 (.branch 32 (.leaf (31, (.aload_n 0, 32, 0, 0, 0))) (.branch 33 (.leaf (32, (.iconst 0, 33, 0, 0, 0))) (.leaf (33, (.putfield 44, 36, 0, 0, 9))))) (.branch 40 (.branch 37 (.leaf (36, (.aload_n 0, 37, 0, 0, 0))) (.leaf (37, (.getfield 56, 40, 0, 0, 11)))) (.branch 43 (.leaf (40, (.invokevirtual 62, 43, 0, 54, 0))) (.leaf (43, (.return_, 44, 0, 0, 0)))))))
noncomputable def xt_53 : Lean.RArray (Nat × xins) := xt_53_0
set_option maxRecDepth 100000 in
noncomputable def xt_54_0 : Lean.RArray (Nat × xins) := .branch 7 (.branch 2 (.branch 1 (.leaf (0, (.aload_n 0, 1, 0, 0, 0))) (.leaf (1, (.iconst 0, 2, 0, 0, 0)))) (.branch 5 (.leaf (2, (.putfield 7, 5, 3, 9, 0))) (.branch 6 (.leaf (5, (.aload_n 0, 6, 0, 0, 0))) (.leaf (6, (.iconst 0, 7, 0, 0, 0)))))) (.branch 11 (.branch 10 (.leaf (7, (.putfield 13, 10, 0, 9, 1))) (.leaf (10, (.aload_n 0, 11, 0, 0, 0)))) (.branch 12 (.leaf (11, (.iconst 0, 12, 0, 0, 0))) (.branch 15 (.leaf (12, (.putfield 17, 15, 0, 9, 2))) (.leaf (15, (.return_, 16, 0, 0, 0))))))
noncomputable def xt_54 : Lean.RArray (Nat × xins) := xt_54_0
set_option maxRecDepth 100000 in
noncomputable def xt_55_0 : Lean.RArray (Nat × xins) := .branch 15 (.branch 6 (.branch 2 (.branch 1 (.leaf (0, (.aload_n 0, 1, 0, 0, 0))) (.leaf (1, (.iload_n 1, 2, 0, 1, 0)))) (.branch 3 (.leaf (2, (.aload_n 0, 3, 0, 0, 0))) (.leaf (3, (.getfield 47, 6, 0, 7, 0))))) (.branch 10 (.branch 7 (.leaf (6, (.arraylength, 7, 0, 0, 0))) (.leaf (7, (.invokestatic 64, 10, 0, 56, 0)))) (.branch 13 (.leaf (10, (.putfield 15, 13, 0, 7, 2))) (.branch 14 (.leaf (13, (.aload_n 0, 14, 0, 0, 0))) (.leaf (14, (.iconst 0, 15, 0, 0, 0))))))) (.branch 24 (.branch 19 (.branch 18 (.leaf (15, (.putfield 19, 18, 0, 7, 3))) (.leaf (18, (.aload_n 0, 19, 0, 0, 0)))) (.branch 20 (.leaf (19, (.iconst 0, 20, 0, 0, 0))) (.branch 23 (.leaf (20, (.putfield 41, 23, 0, 7, 10))) (.leaf (23, (.aload_n 0, 24, 0, 0, 0)))))) (.branch 28 (.branch 25 (.leaf (24, (.iconst (-1), 25, 0, 4294967295, 0))) (.leaf (25, (.putfield 44, 28, 0, 7, 11)))) (.branch 29 (.leaf (28, (.aload_n 0, 29, 0, 0, 0))) (.branch 32 (.leaf (29, (.invokevirtual 70, 32, 0, 57, 0))) (.leaf (32, (.return_, 33, 0, 0, 0)))))))
noncomputable def xt_55 : Lean.RArray (Nat × xins) := xt_55_0
set_option maxRecDepth 100000 in
noncomputable def xt_56_0 : Lean.RArray (Nat × xins) := .branch 5 (.branch 1 (.leaf (0, (.iload_n 0, 1, 0, 0, 0))) (.branch 2 (.leaf (1, (.iload_n 1, 2, 0, 1, 0))) (.leaf (2, (.if_icmp .gt 7, 5, 9, 0, 0))))) (.branch 6 (.leaf (5, (.iload_n 0, 6, 0, 0, 0))) (.branch 10 (.leaf (6, (.goto 4, 9, 10, 0, 0))) (.leaf (10, (.ireturn, 11, 0, 0, 0)))))
noncomputable def xt_56 : Lean.RArray (Nat × xins) := xt_56_0
set_option maxRecDepth 100000 in
noncomputable def xt_57_0 : Lean.RArray (Nat × xins) := .branch 75 (.branch 60 (.branch 8 (.branch 4 (.branch 1 (.leaf (0, (.aload_n 0, 1, 0, 0, 0))) (.leaf (1, (.getfield 19, 4, 0, 7, 3)))) (.branch 5 (.leaf (4, (.aload_n 0, 5, 0, 0, 0))) (.leaf (5, (.getfield 15, 8, 0, 7, 2))))) (.branch 53 (.branch 52 (.leaf (8, (.if_icmp .ge 44, 11, 52, 0, 0))) (.leaf (52, (.aload_n 0, 53, 0, 0, 0)))) (.branch 54 (.leaf (53, (.aload_n 0, 54, 0, 0, 0))) (.branch 57 (.leaf (54, (.getfield 19, 57, 0, 7, 3))) (.leaf (57, (.putfield 25, 60, 0, 7, 5))))))) (.branch 66 (.branch 62 (.branch 61 (.leaf (60, (.aload_n 0, 61, 0, 0, 0))) (.leaf (61, (.iconst (-1), 62, 0, 4294967295, 0)))) (.branch 65 (.leaf (62, (.putfield 32, 65, 0, 7, 7))) (.leaf (65, (.aload_n 0, 66, 0, 0, 0))))) (.branch 70 (.branch 67 (.leaf (66, (.lconst 0, 67, 0, 0, 0))) (.leaf (67, (.putfield 28, 70, 1, 7, 6)))) (.branch 71 (.leaf (70, (.aload_n 0, 71, 0, 0, 0))) (.branch 72 (.leaf (71, (.iconst 0, 72, 0, 0, 0))) (.leaf (72, (.putfield 35, 75, 0, 7, 8)))))))) (.branch 104 (.branch 81 (.branch 77 (.branch 76 (.leaf (75, (.aload_n 0, 76, 0, 0, 0))) (.leaf (76, (.aload_n 0, 77, 0, 0, 0)))) (.branch 80 (.leaf (77, (.getfield 19, 80, 0, 7, 3))) (.leaf (80, (.aload_n 0, 81, 0, 0, 0))))) (.branch 99 (.branch 84 (.leaf (81, (.getfield 15, 84, 0, 7, 2))) (.leaf (84, (.if_icmp .ge 15, 87, 99, 0, 0)))) (.branch 100 (.leaf (99, (.iconst 0, 100, 0, 0, 0))) (.branch 103 (.leaf (100, (.putfield 38, 103, 0, 7, 9))) (.leaf (103, (.aload_n 0, 104, 0, 0, 0))))))) (.branch 114 (.branch 108 (.branch 107 (.leaf (104, (.getfield 19, 107, 0, 7, 3))) (.leaf (107, (.aload_n 0, 108, 0, 0, 0)))) (.branch 111 (.leaf (108, (.getfield 15, 111, 0, 7, 2))) (.leaf (111, (.if_icmp .lt 11, 114, 122, 0, 0))))) (.branch 116 (.branch 115 (.leaf (114, (.aload_n 0, 115, 0, 0, 0))) (.leaf (115, (.iconst 0, 116, 0, 0, 0)))) (.branch 119 (.leaf (116, (.putfield 22, 119, 0, 7, 4))) (.branch 513 (.leaf (119, (.goto 394, 122, 513, 0, 0))) (.leaf (513, (.return_, 514, 0, 0, 0))))))))
noncomputable def xt_57 : Lean.RArray (Nat × xins) := xt_57_0
set_option maxRecDepth 100000 in
noncomputable def xt_58_0 : Lean.RArray (Nat × xins) := .branch 6 (.branch 2 (.branch 1 (.leaf (0, (.aload_n 0, 1, 0, 0, 0))) (.leaf (1, (.aload_n 1, 2, 0, 1, 0)))) (.branch 5 (.leaf (2, (.invokevirtual 65, 5, 0, 59, 0))) (.leaf (5, (.aload_n 0, 6, 0, 0, 0))))) (.branch 10 (.branch 9 (.leaf (6, (.getfield 56, 9, 0, 0, 11))) (.leaf (9, (.aload_n 1, 10, 0, 1, 0)))) (.branch 13 (.leaf (10, (.getfield 56, 13, 0, 0, 11))) (.branch 16 (.leaf (13, (.invokevirtual 69, 16, 0, 60, 0))) (.leaf (16, (.return_, 17, 0, 0, 0))))))
noncomputable def xt_58 : Lean.RArray (Nat × xins) := xt_58_0
set_option maxRecDepth 100000 in
noncomputable def xt_59_0 : Lean.RArray (Nat × xins) := .branch 56 (.branch 26 (.branch 13 (.branch 5 (.branch 1 (.leaf (0, (.aload_n 0, 1, 0, 0, 0))) (.branch 2 (.leaf (1, (.aload_n 1, 2, 0, 1, 0))) (.leaf (2, (.getfield 9, 5, 0, 0, 0))))) (.branch 9 (.branch 8 (.leaf (5, (.putfield 9, 8, 0, 0, 0))) (.leaf (8, (.aload_n 0, 9, 0, 0, 0)))) (.branch 10 (.leaf (9, (.aload_n 1, 10, 0, 1, 0))) (.leaf (10, (.getfield 23, 13, 0, 0, 3)))))) (.branch 18 (.branch 16 (.leaf (13, (.putfield 23, 16, 0, 0, 3))) (.branch 17 (.leaf (16, (.aload_n 0, 17, 0, 0, 0))) (.leaf (17, (.aload_n 1, 18, 0, 1, 0))))) (.branch 24 (.branch 21 (.leaf (18, (.getfield 32, 21, 0, 0, 5))) (.leaf (21, (.putfield 32, 24, 0, 0, 5)))) (.branch 25 (.leaf (24, (.aload_n 0, 25, 0, 0, 0))) (.leaf (25, (.aload_n 1, 26, 0, 1, 0))))))) (.branch 41 (.branch 33 (.branch 29 (.leaf (26, (.getfield 35, 29, 0, 0, 6))) (.branch 32 (.leaf (29, (.putfield 35, 32, 0, 0, 6))) (.leaf (32, (.aload_n 0, 33, 0, 0, 0))))) (.branch 37 (.branch 34 (.leaf (33, (.aload_n 1, 34, 0, 1, 0))) (.leaf (34, (.getfield 38, 37, 0, 0, 7)))) (.branch 40 (.leaf (37, (.putfield 38, 40, 0, 0, 7))) (.leaf (40, (.aload_n 0, 41, 0, 0, 0)))))) (.branch 48 (.branch 42 (.leaf (41, (.aload_n 1, 42, 0, 1, 0))) (.branch 45 (.leaf (42, (.getfield 41, 45, 0, 0, 8))) (.leaf (45, (.putfield 41, 48, 0, 0, 8))))) (.branch 50 (.branch 49 (.leaf (48, (.aload_n 0, 49, 0, 0, 0))) (.leaf (49, (.aload_n 1, 50, 0, 1, 0)))) (.branch 53 (.leaf (50, (.getfield 44, 53, 0, 0, 9))) (.leaf (53, (.putfield 44, 56, 0, 0, 9)))))))) (.branch 80 (.branch 67 (.branch 61 (.branch 57 (.leaf (56, (.aload_n 1, 57, 0, 1, 0))) (.branch 60 (.leaf (57, (.getfield 15, 60, 0, 0, 1))) (.leaf (60, (.iconst 0, 61, 0, 0, 0))))) (.branch 65 (.branch 62 (.leaf (61, (.aload_n 0, 62, 0, 0, 0))) (.leaf (62, (.getfield 15, 65, 0, 0, 1)))) (.branch 66 (.leaf (65, (.iconst 0, 66, 0, 0, 0))) (.leaf (66, (.iconst 5, 67, 0, 5, 0)))))) (.branch 74 (.branch 70 (.leaf (67, (.invokestatic 73, 70, 0, 0, 8))) (.branch 71 (.leaf (70, (.aload_n 1, 71, 0, 1, 0))) (.leaf (71, (.getfield 19, 74, 0, 0, 2))))) (.branch 76 (.branch 75 (.leaf (74, (.iconst 0, 75, 0, 0, 0))) (.leaf (75, (.aload_n 0, 76, 0, 0, 0)))) (.branch 79 (.leaf (76, (.getfield 19, 79, 0, 0, 2))) (.leaf (79, (.iconst 0, 80, 0, 0, 0))))))) (.branch 91 (.branch 85 (.branch 81 (.leaf (80, (.iconst 5, 81, 0, 5, 0))) (.branch 84 (.leaf (81, (.invokestatic 73, 84, 0, 0, 8))) (.leaf (84, (.iconst 0, 85, 0, 0, 0))))) (.branch 87 (.branch 86 (.leaf (85, (.istore_n 2, 86, 0, 2, 0))) (.leaf (86, (.iload_n 2, 87, 0, 2, 0)))) (.branch 88 (.leaf (87, (.aload_n 0, 88, 0, 0, 0))) (.leaf (88, (.getfield 23, 91, 0, 0, 3)))))) (.branch 124 (.branch 122 (.branch 121 (.leaf (91, (.if_icmp .ge 30, 94, 121, 0, 0))) (.leaf (121, (.iconst 0, 122, 0, 0, 0)))) (.branch 123 (.leaf (122, (.istore_n 2, 123, 0, 2, 0))) (.leaf (123, (.iload_n 2, 124, 0, 2, 0))))) (.branch 128 (.branch 125 (.leaf (124, (.aload_n 0, 125, 0, 0, 0))) (.leaf (125, (.getfield 44, 128, 0, 0, 9)))) (.branch 158 (.leaf (128, (.if_icmp .ge 30, 131, 158, 0, 0))) (.leaf (158, (.return_, 159, 0, 0, 0))))))))
noncomputable def xt_59 : Lean.RArray (Nat × xins) := xt_59_0
set_option maxRecDepth 100000 in
noncomputable def xt_60_0 : Lean.RArray (Nat × xins) := .branch 80 (.branch 41 (.branch 18 (.branch 9 (.branch 2 (.branch 1 (.leaf (0, (.aload_n 0, 1, 0, 0, 0))) (.leaf (1, (.aload_n 1, 2, 0, 1, 0)))) (.branch 5 (.leaf (2, (.getfield 7, 5, 0, 9, 0))) (.branch 8 (.leaf (5, (.putfield 7, 8, 3, 9, 0))) (.leaf (8, (.aload_n 0, 9, 0, 0, 0)))))) (.branch 13 (.branch 10 (.leaf (9, (.aload_n 1, 10, 0, 1, 0))) (.leaf (10, (.getfield 13, 13, 0, 9, 1)))) (.branch 16 (.leaf (13, (.putfield 13, 16, 0, 9, 1))) (.branch 17 (.leaf (16, (.aload_n 0, 17, 0, 0, 0))) (.leaf (17, (.aload_n 1, 18, 0, 1, 0))))))) (.branch 29 (.branch 24 (.branch 21 (.leaf (18, (.getfield 17, 21, 0, 9, 2))) (.leaf (21, (.putfield 17, 24, 0, 9, 2)))) (.branch 25 (.leaf (24, (.aload_n 1, 25, 0, 1, 0))) (.branch 28 (.leaf (25, (.getfield 20, 28, 0, 9, 3))) (.leaf (28, (.iconst 0, 29, 0, 0, 0)))))) (.branch 34 (.branch 30 (.leaf (29, (.aload_n 0, 30, 0, 0, 0))) (.branch 33 (.leaf (30, (.getfield 20, 33, 0, 9, 3))) (.leaf (33, (.iconst 0, 34, 0, 0, 0))))) (.branch 35 (.leaf (34, (.aload_n 0, 35, 0, 0, 0))) (.branch 38 (.leaf (35, (.getfield 17, 38, 0, 9, 2))) (.leaf (38, (.invokestatic 45, 41, 0, 0, 8)))))))) (.branch 59 (.branch 50 (.branch 45 (.branch 42 (.leaf (41, (.aload_n 1, 42, 0, 1, 0))) (.leaf (42, (.getfield 24, 45, 0, 9, 4)))) (.branch 46 (.leaf (45, (.iconst 0, 46, 0, 0, 0))) (.branch 47 (.leaf (46, (.aload_n 0, 47, 0, 0, 0))) (.leaf (47, (.getfield 24, 50, 0, 9, 4)))))) (.branch 52 (.branch 51 (.leaf (50, (.iconst 0, 51, 0, 0, 0))) (.leaf (51, (.aload_n 0, 52, 0, 0, 0)))) (.branch 55 (.leaf (52, (.getfield 17, 55, 0, 9, 2))) (.branch 58 (.leaf (55, (.invokestatic 45, 58, 0, 0, 8))) (.leaf (58, (.aload_n 1, 59, 0, 1, 0))))))) (.branch 68 (.branch 63 (.branch 62 (.leaf (59, (.getfield 27, 62, 0, 9, 5))) (.leaf (62, (.iconst 0, 63, 0, 0, 0)))) (.branch 64 (.leaf (63, (.aload_n 0, 64, 0, 0, 0))) (.branch 67 (.leaf (64, (.getfield 27, 67, 0, 9, 5))) (.leaf (67, (.iconst 0, 68, 0, 0, 0)))))) (.branch 75 (.branch 69 (.leaf (68, (.aload_n 0, 69, 0, 0, 0))) (.branch 72 (.leaf (69, (.getfield 17, 72, 0, 9, 2))) (.leaf (72, (.invokestatic 45, 75, 0, 0, 8))))) (.branch 76 (.leaf (75, (.aload_n 1, 76, 0, 1, 0))) (.branch 79 (.leaf (76, (.getfield 30, 79, 0, 9, 6))) (.leaf (79, (.iconst 0, 80, 0, 0, 0))))))))) (.branch 119 (.branch 98 (.branch 89 (.branch 84 (.branch 81 (.leaf (80, (.aload_n 0, 81, 0, 0, 0))) (.leaf (81, (.getfield 30, 84, 0, 9, 6)))) (.branch 85 (.leaf (84, (.iconst 0, 85, 0, 0, 0))) (.branch 86 (.leaf (85, (.aload_n 0, 86, 0, 0, 0))) (.leaf (86, (.getfield 17, 89, 0, 9, 2)))))) (.branch 93 (.branch 92 (.leaf (89, (.invokestatic 45, 92, 0, 0, 8))) (.leaf (92, (.aload_n 1, 93, 0, 1, 0)))) (.branch 96 (.leaf (93, (.getfield 33, 96, 0, 9, 7))) (.branch 97 (.leaf (96, (.iconst 0, 97, 0, 0, 0))) (.leaf (97, (.aload_n 0, 98, 0, 0, 0))))))) (.branch 109 (.branch 102 (.branch 101 (.leaf (98, (.getfield 33, 101, 0, 9, 7))) (.leaf (101, (.iconst 0, 102, 0, 0, 0)))) (.branch 103 (.leaf (102, (.aload_n 0, 103, 0, 0, 0))) (.branch 106 (.leaf (103, (.getfield 17, 106, 0, 9, 2))) (.leaf (106, (.invokestatic 45, 109, 0, 0, 8)))))) (.branch 114 (.branch 110 (.leaf (109, (.aload_n 1, 110, 0, 1, 0))) (.branch 113 (.leaf (110, (.getfield 36, 113, 0, 9, 8))) (.leaf (113, (.iconst 0, 114, 0, 0, 0))))) (.branch 115 (.leaf (114, (.aload_n 0, 115, 0, 0, 0))) (.branch 118 (.leaf (115, (.getfield 36, 118, 0, 9, 8))) (.leaf (118, (.iconst 0, 119, 0, 0, 0)))))))) (.branch 140 (.branch 130 (.branch 123 (.branch 120 (.leaf (119, (.aload_n 0, 120, 0, 0, 0))) (.leaf (120, (.getfield 17, 123, 0, 9, 2)))) (.branch 126 (.leaf (123, (.invokestatic 45, 126, 0, 0, 8))) (.branch 127 (.leaf (126, (.aload_n 1, 127, 0, 1, 0))) (.leaf (127, (.getfield 39, 130, 0, 9, 9)))))) (.branch 135 (.branch 131 (.leaf (130, (.iconst 0, 131, 0, 0, 0))) (.branch 132 (.leaf (131, (.aload_n 0, 132, 0, 0, 0))) (.leaf (132, (.getfield 39, 135, 0, 9, 9))))) (.branch 136 (.leaf (135, (.iconst 0, 136, 0, 0, 0))) (.branch 137 (.leaf (136, (.aload_n 0, 137, 0, 0, 0))) (.leaf (137, (.getfield 17, 140, 0, 9, 2))))))) (.branch 149 (.branch 144 (.branch 143 (.leaf (140, (.invokestatic 45, 143, 0, 0, 8))) (.leaf (143, (.aload_n 1, 144, 0, 1, 0)))) (.branch 147 (.leaf (144, (.getfield 42, 147, 0, 9, 10))) (.branch 148 (.leaf (147, (.iconst 0, 148, 0, 0, 0))) (.leaf (148, (.aload_n 0, 149, 0, 0, 0)))))) (.branch 154 (.branch 152 (.leaf (149, (.getfield 42, 152, 0, 9, 10))) (.branch 153 (.leaf (152, (.iconst 0, 153, 0, 0, 0))) (.leaf (153, (.aload_n 0, 154, 0, 0, 0))))) (.branch 157 (.leaf (154, (.getfield 17, 157, 0, 9, 2))) (.branch 160 (.leaf (157, (.invokestatic 45, 160, 0, 0, 8))) (.leaf (160, (.return_, 161, 0, 0, 0)))))))))
noncomputable def xt_60 : Lean.RArray (Nat × xins) := xt_60_0
set_option maxRecDepth 100000 in
noncomputable def xt_61_0 : Lean.RArray (Nat × xins) := .branch 2 (.branch 1 (.leaf (0, (.aload_n 0, 1, 0, 0, 0))) (.leaf (1, (.iconst 0, 2, 0, 0, 0)))) (.branch 5 (.leaf (2, (.putfield 9, 5, 0, 11, 0))) (.branch 6 (.leaf (5, (.iload_n 1, 6, 0, 1, 0))) (.leaf (6, (.ireturn, 7, 0, 0, 0)))))
noncomputable def xt_61 : Lean.RArray (Nat × xins) := xt_61_0
set_option maxRecDepth 100000 in
noncomputable def xt_62_0 : Lean.RArray (Nat × xins) := .branch 71 (.branch 30 (.branch 16 (.branch 8 (.branch 2 (.branch 1 (.leaf (0, (.aload_n 0, 1, 0, 0, 0))) (.leaf (1, (.iload_n 1, 2, 0, 1, 0)))) (.branch 5 (.leaf (2, (.sipush 900, 5, 0, 900, 0))) (.leaf (5, (.invokevirtual 230, 8, 0, 63, 0))))) (.branch 12 (.branch 11 (.leaf (8, (.ifCond .ne 9, 11, 17, 0, 0))) (.leaf (11, (.aload_n 0, 12, 0, 0, 0)))) (.branch 13 (.leaf (12, (.iconst 1, 13, 0, 1, 0))) (.leaf (13, (.invokevirtual 81, 16, 0, 64, 0)))))) (.branch 24 (.branch 18 (.branch 17 (.leaf (16, (.ireturn, 17, 0, 0, 0))) (.leaf (17, (.aload_n 0, 18, 0, 0, 0)))) (.branch 21 (.leaf (18, (.sipush 2976, 21, 0, 2976, 0))) (.leaf (21, (.invokevirtual 71, 24, 0, 21, 0))))) (.branch 26 (.branch 25 (.leaf (24, (.aload_n 0, 25, 0, 0, 0))) (.leaf (25, (.iconst 0, 26, 0, 0, 0)))) (.branch 29 (.leaf (26, (.putfield 207, 29, 0, 12, 20))) (.leaf (29, (.iconst 1, 30, 0, 1, 0))))))) (.branch 54 (.branch 36 (.branch 32 (.branch 31 (.leaf (30, (.istore_n 2, 31, 0, 2, 0))) (.leaf (31, (.iload_n 2, 32, 0, 2, 0)))) (.branch 35 (.leaf (32, (.ifCond .eq 18, 35, 50, 0, 0))) (.leaf (35, (.aload_n 0, 36, 0, 0, 0))))) (.branch 50 (.branch 39 (.leaf (36, (.getfield 126, 39, 0, 12, 12))) (.leaf (39, (.ifCond .eq 11, 42, 50, 0, 0)))) (.branch 51 (.leaf (50, (.aload_n 0, 51, 0, 0, 0))) (.leaf (51, (.getfield 151, 54, 0, 12, 18)))))) (.branch 60 (.branch 58 (.branch 57 (.leaf (54, (.ifCond .ne 63, 57, 117, 0, 0))) (.leaf (57, (.iconst 0, 58, 0, 0, 0)))) (.branch 59 (.leaf (58, (.istore_n 3, 59, 0, 3, 0))) (.leaf (59, (.iload_n 3, 60, 0, 3, 0))))) (.branch 66 (.branch 63 (.leaf (60, (.sipush 744, 63, 0, 744, 0))) (.leaf (63, (.if_icmp .ge 25, 66, 88, 0, 0)))) (.branch 67 (.leaf (66, (.aload_n 0, 67, 0, 0, 0))) (.branch 70 (.leaf (67, (.getfield 7, 70, 0, 12, 0))) (.leaf (70, (.iload_n 3, 71, 0, 3, 0))))))))) (.branch 100 (.branch 85 (.branch 79 (.branch 75 (.branch 72 (.leaf (71, (.aload_n 0, 72, 0, 0, 0))) (.leaf (72, (.getfield 7, 75, 0, 12, 0)))) (.branch 78 (.leaf (75, (.sipush 2976, 78, 0, 2976, 0))) (.leaf (78, (.iload_n 3, 79, 0, 3, 0))))) (.branch 81 (.branch 80 (.leaf (79, (.iadd, 80, 0, 0, 0))) (.leaf (80, (.iaload, 81, 0, 0, 0)))) (.branch 82 (.leaf (81, (.iastore, 82, 0, 0, 0))) (.leaf (82, (.iinc 3 1, 85, 0, 3, 1)))))) (.branch 91 (.branch 89 (.branch 88 (.leaf (85, (.goto (-26), 88, 59, 0, 0))) (.leaf (88, (.iconst 0, 89, 0, 0, 0)))) (.branch 90 (.leaf (89, (.istore_n 3, 90, 0, 3, 0))) (.leaf (90, (.iload_n 3, 91, 0, 3, 0))))) (.branch 96 (.branch 93 (.leaf (91, (.bipush 12, 93, 0, 12, 0))) (.leaf (93, (.if_icmp .ge 24, 96, 117, 0, 0)))) (.branch 97 (.leaf (96, (.aload_n 0, 97, 0, 0, 0))) (.leaf (97, (.getfield 13, 100, 0, 12, 1))))))) (.branch 111 (.branch 107 (.branch 102 (.branch 101 (.leaf (100, (.iload_n 3, 101, 0, 3, 0))) (.leaf (101, (.aload_n 0, 102, 0, 0, 0)))) (.branch 105 (.leaf (102, (.getfield 13, 105, 0, 12, 1))) (.leaf (105, (.bipush 48, 107, 0, 48, 0))))) (.branch 109 (.branch 108 (.leaf (107, (.iload_n 3, 108, 0, 3, 0))) (.leaf (108, (.iadd, 109, 0, 0, 0)))) (.branch 110 (.leaf (109, (.laload, 110, 0, 0, 0))) (.leaf (110, (.lastore, 111, 0, 0, 0)))))) (.branch 119 (.branch 117 (.branch 114 (.leaf (111, (.iinc 3 1, 114, 0, 3, 1))) (.leaf (114, (.goto (-24), 117, 90, 0, 0)))) (.branch 118 (.leaf (117, (.aload_n 0, 118, 0, 0, 0))) (.leaf (118, (.aload_n 0, 119, 0, 0, 0))))) (.branch 123 (.branch 122 (.leaf (119, (.getfield 7, 122, 0, 12, 0))) (.leaf (122, (.iconst 1, 123, 0, 1, 0)))) (.branch 124 (.leaf (123, (.iaload, 124, 0, 0, 0))) (.branch 127 (.leaf (124, (.invokevirtual 237, 127, 0, 67, 0))) (.leaf (127, (.ireturn, 128, 0, 0, 0)))))))))
noncomputable def xt_62 : Lean.RArray (Nat × xins) := xt_62_0
set_option maxRecDepth 100000 in
noncomputable def xt_63_0 : Lean.RArray (Nat × xins) := .branch 49 (.branch 17 (.branch 6 (.branch 4 (.branch 1 (.leaf (0, (.iload_n 1, 1, 0, 1, 0))) (.leaf (1, (.ifCond .lt 16, 4, 17, 0, 0)))) (.branch 5 (.leaf (4, (.iload_n 1, 5, 0, 1, 0))) (.leaf (5, (.aload_n 0, 6, 0, 0, 0))))) (.branch 12 (.branch 9 (.leaf (6, (.getfield 105, 9, 0, 12, 10))) (.leaf (9, (.if_icmp .gt 8, 12, 17, 0, 0)))) (.branch 13 (.leaf (12, (.iload_n 1, 13, 0, 1, 0))) (.branch 14 (.leaf (13, (.iload_n 2, 14, 0, 2, 0))) (.leaf (14, (.if_icmp .le 5, 17, 19, 0, 0))))))) (.branch 24 (.branch 19 (.branch 18 (.leaf (17, (.iconst 0, 18, 0, 0, 0))) (.leaf (18, (.ireturn, 19, 0, 0, 0)))) (.branch 20 (.leaf (19, (.aload_n 0, 20, 0, 0, 0))) (.branch 21 (.leaf (20, (.iload_n 1, 21, 0, 1, 0))) (.leaf (21, (.putfield 111, 24, 0, 12, 11)))))) (.branch 26 (.branch 25 (.leaf (24, (.iconst 0, 25, 0, 0, 0))) (.leaf (25, (.istore_n 3, 26, 0, 3, 0)))) (.branch 27 (.leaf (26, (.iload_n 3, 27, 0, 3, 0))) (.branch 28 (.leaf (27, (.iload_n 1, 28, 0, 1, 0))) (.leaf (28, (.if_icmp .ge 21, 31, 49, 0, 0)))))))) (.branch 64 (.branch 55 (.branch 51 (.branch 50 (.leaf (49, (.aload_n 0, 50, 0, 0, 0))) (.leaf (50, (.iconst 0, 51, 0, 0, 0)))) (.branch 54 (.leaf (51, (.putfield 105, 54, 0, 12, 10))) (.leaf (54, (.aload_n 0, 55, 0, 0, 0))))) (.branch 59 (.branch 56 (.leaf (55, (.iconst 0, 56, 0, 0, 0))) (.leaf (56, (.putfield 151, 59, 0, 12, 18)))) (.branch 60 (.leaf (59, (.aload_n 0, 60, 0, 0, 0))) (.branch 61 (.leaf (60, (.iconst (-1), 61, 0, 4294967295, 0))) (.leaf (61, (.putfield 41, 64, 0, 12, 17))))))) (.branch 71 (.branch 66 (.branch 65 (.leaf (64, (.aload_n 0, 65, 0, 0, 0))) (.leaf (65, (.iconst 0, 66, 0, 0, 0)))) (.branch 69 (.leaf (66, (.putfield 114, 69, 0, 12, 14))) (.branch 70 (.leaf (69, (.aload_n 0, 70, 0, 0, 0))) (.leaf (70, (.iconst 0, 71, 0, 0, 0)))))) (.branch 75 (.branch 74 (.leaf (71, (.putfield 154, 74, 0, 12, 19))) (.leaf (74, (.aload_n 0, 75, 0, 0, 0)))) (.branch 78 (.leaf (75, (.invokevirtual 157, 78, 0, 65, 0))) (.branch 79 (.leaf (78, (.iconst 1, 79, 0, 1, 0))) (.leaf (79, (.ireturn, 80, 0, 0, 0))))))))
noncomputable def xt_63 : Lean.RArray (Nat × xins) := xt_63_0
set_option maxRecDepth 100000 in
noncomputable def xt_64_0 : Lean.RArray (Nat × xins) := .branch 2 (.branch 1 (.leaf (0, (.aload_n 0, 1, 0, 0, 0))) (.leaf (1, (.iload_n 1, 2, 0, 1, 0)))) (.branch 5 (.leaf (2, (.putfield 75, 5, 0, 12, 2))) (.branch 6 (.leaf (5, (.iconst (-1), 6, 0, 4294967295, 0))) (.leaf (6, (.ireturn, 7, 0, 0, 0)))))
noncomputable def xt_64 : Lean.RArray (Nat × xins) := xt_64_0
set_option maxRecDepth 100000 in
noncomputable def xt_65_0 : Lean.RArray (Nat × xins) := .branch 47 (.branch 15 (.branch 8 (.branch 2 (.branch 1 (.leaf (0, (.aload_n 0, 1, 0, 0, 0))) (.leaf (1, (.aload_n 0, 2, 0, 0, 0)))) (.branch 5 (.leaf (2, (.getfield 114, 5, 0, 12, 14))) (.leaf (5, (.invokevirtual 117, 8, 0, 66, 0))))) (.branch 13 (.branch 10 (.leaf (8, (.bipush 32, 10, 0, 32, 0))) (.leaf (10, (.if_icmp .eq 16, 13, 26, 0, 0)))) (.branch 14 (.leaf (13, (.aload_n 0, 14, 0, 0, 0))) (.leaf (14, (.aload_n 0, 15, 0, 0, 0)))))) (.branch 39 (.branch 21 (.branch 18 (.leaf (15, (.getfield 114, 18, 0, 12, 14))) (.leaf (18, (.invokevirtual 117, 21, 0, 66, 0)))) (.branch 23 (.leaf (21, (.bipush 10, 23, 0, 10, 0))) (.leaf (23, (.if_icmp .ne 16, 26, 39, 0, 0))))) (.branch 41 (.branch 40 (.leaf (39, (.aload_n 0, 40, 0, 0, 0))) (.leaf (40, (.aload_n 0, 41, 0, 0, 0)))) (.branch 44 (.leaf (41, (.getfield 114, 44, 0, 12, 14))) (.leaf (44, (.putfield 120, 47, 0, 12, 13))))))) (.branch 61 (.branch 55 (.branch 49 (.branch 48 (.leaf (47, (.aload_n 0, 48, 0, 0, 0))) (.leaf (48, (.aload_n 0, 49, 0, 0, 0)))) (.branch 52 (.leaf (49, (.getfield 114, 52, 0, 12, 14))) (.leaf (52, (.invokevirtual 117, 55, 0, 66, 0))))) (.branch 57 (.branch 56 (.leaf (55, (.istore_n 1, 56, 0, 1, 0))) (.leaf (56, (.aload_n 0, 57, 0, 0, 0)))) (.branch 58 (.leaf (57, (.iload_n 1, 58, 0, 1, 0))) (.leaf (58, (.putfield 123, 61, 0, 12, 15)))))) (.branch 67 (.branch 63 (.branch 62 (.leaf (61, (.iload_n 1, 62, 0, 1, 0))) (.leaf (62, (.iconst (-1), 63, 0, 4294967295, 0)))) (.branch 66 (.leaf (63, (.if_icmp .ne 11, 66, 74, 0, 0))) (.leaf (66, (.aload_n 0, 67, 0, 0, 0))))) (.branch 71 (.branch 68 (.leaf (67, (.iconst 0, 68, 0, 0, 0))) (.leaf (68, (.putfield 126, 71, 0, 12, 12)))) (.branch 251 (.leaf (71, (.goto 180, 74, 251, 0, 0))) (.leaf (251, (.return_, 252, 0, 0, 0)))))))
noncomputable def xt_65 : Lean.RArray (Nat × xins) := xt_65_0
set_option maxRecDepth 100000 in
noncomputable def xt_66_0 : Lean.RArray (Nat × xins) := .branch 5 (.branch 1 (.leaf (0, (.iload_n 1, 1, 0, 1, 0))) (.branch 2 (.leaf (1, (.aload_n 0, 2, 0, 0, 0))) (.leaf (2, (.getfield 111, 5, 0, 12, 11))))) (.branch 21 (.leaf (5, (.if_icmp .ge 16, 8, 21, 0, 0))) (.branch 22 (.leaf (21, (.iconst (-1), 22, 0, 4294967295, 0))) (.leaf (22, (.ireturn, 23, 0, 0, 0)))))
noncomputable def xt_66 : Lean.RArray (Nat × xins) := xt_66_0
set_option maxRecDepth 100000 in
noncomputable def xt_67_0 : Lean.RArray (Nat × xins) := .branch 9 (.branch 2 (.branch 1 (.leaf (0, (.aload_n 0, 1, 0, 0, 0))) (.leaf (1, (.aload_n 0, 2, 0, 0, 0)))) (.branch 5 (.leaf (2, (.getfield 151, 5, 0, 12, 18))) (.branch 8 (.leaf (5, (.putfield 37, 8, 0, 12, 16))) (.leaf (8, (.aload_n 0, 9, 0, 0, 0)))))) (.branch 25 (.branch 12 (.leaf (9, (.getfield 151, 12, 0, 12, 18))) (.branch 24 (.leaf (12, (.ifCond .le 12, 15, 24, 0, 0))) (.leaf (24, (.aload_n 0, 25, 0, 0, 0))))) (.branch 26 (.leaf (25, (.iload_n 1, 26, 0, 1, 0))) (.branch 29 (.leaf (26, (.invokevirtual 85, 29, 0, 68, 0))) (.leaf (29, (.ireturn, 30, 0, 0, 0))))))
noncomputable def xt_67 : Lean.RArray (Nat × xins) := xt_67_0
set_option maxRecDepth 100000 in
noncomputable def xt_68_0 : Lean.RArray (Nat × xins) := .branch 2 (.branch 1 (.leaf (0, (.aload_n 0, 1, 0, 0, 0))) (.leaf (1, (.iconst 0, 2, 0, 0, 0)))) (.branch 5 (.leaf (2, (.putfield 75, 5, 0, 12, 2))) (.branch 6 (.leaf (5, (.iload_n 1, 6, 0, 1, 0))) (.leaf (6, (.ireturn, 7, 0, 0, 0)))))
noncomputable def xt_68 : Lean.RArray (Nat × xins) := xt_68_0
set_option maxRecDepth 100000 in
noncomputable def xt_69_0 : Lean.RArray (Nat × xins) := .branch 31 (.branch 16 (.branch 6 (.branch 2 (.branch 1 (.leaf (0, (.iload_n 1, 1, 0, 1, 0))) (.leaf (1, (.iconst 0, 2, 0, 0, 0)))) (.branch 3 (.leaf (2, (.aload_n 0, 3, 0, 0, 0))) (.leaf (3, (.getfield 30, 6, 0, 11, 5))))) (.branch 12 (.branch 9 (.leaf (6, (.invokestatic 117, 9, 0, 30, 0))) (.leaf (9, (.ifCond .eq 10, 12, 19, 0, 0)))) (.branch 13 (.leaf (12, (.iload_n 1, 13, 0, 1, 0))) (.leaf (13, (.sipush 300, 16, 0, 300, 0)))))) (.branch 24 (.branch 20 (.branch 19 (.leaf (16, (.if_icmp .le 9, 19, 25, 0, 0))) (.leaf (19, (.aload_n 0, 20, 0, 0, 0)))) (.branch 21 (.leaf (20, (.iconst 1, 21, 0, 1, 0))) (.leaf (21, (.invokevirtual 151, 24, 0, 42, 0))))) (.branch 26 (.branch 25 (.leaf (24, (.ireturn, 25, 0, 0, 0))) (.leaf (25, (.aload_n 0, 26, 0, 0, 0)))) (.branch 27 (.leaf (26, (.iconst 0, 27, 0, 0, 0))) (.branch 30 (.leaf (27, (.putfield 30, 30, 0, 11, 5))) (.leaf (30, (.aload_n 0, 31, 0, 0, 0)))))))) (.branch 59 (.branch 48 (.branch 35 (.branch 34 (.leaf (31, (.getfield 64, 34, 0, 11, 11))) (.leaf (34, (.iload_n 1, 35, 0, 1, 0)))) (.branch 38 (.leaf (35, (.invokevirtual 188, 38, 0, 70, 0))) (.leaf (38, (.ifCond .ne 10, 41, 48, 0, 0))))) (.branch 52 (.branch 49 (.leaf (48, (.aload_n 0, 49, 0, 0, 0))) (.leaf (49, (.getfield 36, 52, 0, 11, 6)))) (.branch 55 (.leaf (52, (.getfield 95, 55, 0, 0, 11))) (.branch 56 (.leaf (55, (.aload_n 0, 56, 0, 0, 0))) (.leaf (56, (.getfield 40, 59, 0, 11, 7))))))) (.branch 67 (.branch 65 (.branch 62 (.leaf (59, (.getfield 95, 62, 0, 0, 11))) (.leaf (62, (.invokevirtual 191, 65, 0, 60, 0)))) (.branch 66 (.leaf (65, (.aload_n 0, 66, 0, 0, 0))) (.leaf (66, (.aload_n 0, 67, 0, 0, 0))))) (.branch 73 (.branch 70 (.leaf (67, (.getfield 36, 70, 0, 11, 6))) (.leaf (70, (.getfield 95, 73, 0, 0, 11)))) (.branch 76 (.leaf (73, (.getfield 196, 76, 0, 9, 1))) (.branch 79 (.leaf (76, (.invokevirtual 185, 79, 0, 61, 0))) (.leaf (79, (.ireturn, 80, 0, 0, 0))))))))
noncomputable def xt_69 : Lean.RArray (Nat × xins) := xt_69_0
set_option maxRecDepth 100000 in
noncomputable def xt_70_0 : Lean.RArray (Nat × xins) := .branch 26 (.branch 13 (.branch 7 (.branch 1 (.leaf (0, (.aload_n 0, 1, 0, 0, 0))) (.branch 4 (.leaf (1, (.getfield 41, 4, 0, 4, 3))) (.leaf (4, (.invokevirtual 184, 7, 0, 54, 0))))) (.branch 9 (.branch 8 (.leaf (7, (.aload_n 0, 8, 0, 0, 0))) (.leaf (8, (.iconst 0, 9, 0, 0, 0)))) (.branch 12 (.leaf (9, (.putfield 21, 12, 0, 4, 6))) (.leaf (12, (.aload_n 0, 13, 0, 0, 0)))))) (.branch 20 (.branch 16 (.leaf (13, (.getfield 24, 16, 0, 4, 0))) (.branch 17 (.leaf (16, (.iload_n 1, 17, 0, 1, 0))) (.leaf (17, (.invokevirtual 47, 20, 0, 55, 0))))) (.branch 22 (.branch 21 (.leaf (20, (.iconst 0, 21, 0, 0, 0))) (.leaf (21, (.istore_n 2, 22, 0, 2, 0)))) (.branch 23 (.leaf (22, (.iload_n 2, 23, 0, 2, 0))) (.leaf (23, (.sipush 900, 26, 0, 900, 0))))))) (.branch 79 (.branch 33 (.branch 29 (.leaf (26, (.if_icmp .ge 49, 29, 75, 0, 0))) (.branch 30 (.leaf (29, (.aload_n 0, 30, 0, 0, 0))) (.leaf (30, (.getfield 24, 33, 0, 4, 0))))) (.branch 75 (.branch 36 (.leaf (33, (.getfield 53, 36, 0, 7, 4))) (.leaf (36, (.ifCond .eq 39, 39, 75, 0, 0)))) (.branch 76 (.leaf (75, (.aload_n 0, 76, 0, 0, 0))) (.leaf (76, (.getfield 21, 79, 0, 4, 6)))))) (.branch 95 (.branch 91 (.leaf (79, (.ifCond .le 12, 82, 91, 0, 0))) (.branch 92 (.leaf (91, (.aload_n 0, 92, 0, 0, 0))) (.leaf (92, (.getfield 41, 95, 0, 4, 3))))) (.branch 99 (.branch 96 (.leaf (95, (.iconst 1, 96, 0, 1, 0))) (.leaf (96, (.putfield 191, 99, 3, 9, 0)))) (.branch 100 (.leaf (99, (.iconst 1, 100, 0, 1, 0))) (.leaf (100, (.ireturn, 101, 0, 0, 0)))))))
noncomputable def xt_70 : Lean.RArray (Nat × xins) := xt_70_0
set_option maxRecDepth 100000 in
noncomputable def xt_71_0 : Lean.RArray (Nat × xins) := .branch 77 (.branch 28 (.branch 16 (.branch 8 (.branch 2 (.branch 1 (.leaf (0, (.aload_n 0, 1, 0, 0, 0))) (.leaf (1, (.iload_n 1, 2, 0, 1, 0)))) (.branch 5 (.leaf (2, (.sipush 300, 5, 0, 300, 0))) (.leaf (5, (.invokevirtual 230, 8, 0, 63, 0))))) (.branch 12 (.branch 11 (.leaf (8, (.ifCond .ne 9, 11, 17, 0, 0))) (.leaf (11, (.aload_n 0, 12, 0, 0, 0)))) (.branch 13 (.leaf (12, (.iconst 1, 13, 0, 1, 0))) (.leaf (13, (.invokevirtual 81, 16, 0, 64, 0)))))) (.branch 24 (.branch 18 (.branch 17 (.leaf (16, (.ireturn, 17, 0, 0, 0))) (.leaf (17, (.aload_n 0, 18, 0, 0, 0)))) (.branch 21 (.leaf (18, (.getfield 7, 21, 0, 12, 0))) (.leaf (21, (.sipush 2983, 24, 0, 2983, 0))))) (.branch 26 (.branch 25 (.leaf (24, (.iconst 0, 25, 0, 0, 0))) (.leaf (25, (.iastore, 26, 0, 0, 0)))) (.branch 27 (.leaf (26, (.aload_n 0, 27, 0, 0, 0))) (.leaf (27, (.iconst 0, 28, 0, 0, 0))))))) (.branch 42 (.branch 36 (.branch 32 (.branch 31 (.leaf (28, (.putfield 252, 31, 0, 12, 22))) (.leaf (31, (.aload_n 0, 32, 0, 0, 0)))) (.branch 33 (.leaf (32, (.iconst 0, 33, 0, 0, 0))) (.leaf (33, (.putfield 255, 36, 0, 12, 23))))) (.branch 38 (.branch 37 (.leaf (36, (.iconst 1, 37, 0, 1, 0))) (.leaf (37, (.istore_n 2, 38, 0, 2, 0)))) (.branch 39 (.leaf (38, (.iload_n 2, 39, 0, 2, 0))) (.leaf (39, (.ifCond .eq 18, 42, 57, 0, 0)))))) (.branch 58 (.branch 46 (.branch 43 (.leaf (42, (.aload_n 0, 43, 0, 0, 0))) (.leaf (43, (.getfield 126, 46, 0, 12, 12)))) (.branch 57 (.leaf (46, (.ifCond .eq 11, 49, 57, 0, 0))) (.leaf (57, (.aload_n 0, 58, 0, 0, 0))))) (.branch 64 (.branch 61 (.leaf (58, (.getfield 151, 61, 0, 12, 18))) (.leaf (61, (.ifCond .ne 16, 64, 77, 0, 0)))) (.branch 65 (.leaf (64, (.aload_n 0, 65, 0, 0, 0))) (.branch 68 (.leaf (65, (.getfield 252, 68, 0, 12, 22))) (.leaf (68, (.ifCond .le 9, 71, 77, 0, 0))))))))) (.branch 110 (.branch 94 (.branch 85 (.branch 81 (.branch 78 (.leaf (77, (.aload_n 0, 78, 0, 0, 0))) (.leaf (78, (.getfield 151, 81, 0, 12, 18)))) (.branch 84 (.leaf (81, (.ifCond .ne 51, 84, 132, 0, 0))) (.leaf (84, (.aload_n 0, 85, 0, 0, 0))))) (.branch 90 (.branch 88 (.leaf (85, (.getfield 7, 88, 0, 12, 0))) (.leaf (88, (.bipush 7, 90, 0, 7, 0)))) (.branch 91 (.leaf (90, (.aload_n 0, 91, 0, 0, 0))) (.leaf (91, (.getfield 7, 94, 0, 12, 0)))))) (.branch 102 (.branch 98 (.branch 97 (.leaf (94, (.sipush 2983, 97, 0, 2983, 0))) (.leaf (97, (.iaload, 98, 0, 0, 0)))) (.branch 99 (.leaf (98, (.iastore, 99, 0, 0, 0))) (.leaf (99, (.sipush 260, 102, 0, 260, 0))))) (.branch 104 (.branch 103 (.leaf (102, (.istore_n 3, 103, 0, 3, 0))) (.leaf (103, (.iload_n 3, 104, 0, 3, 0)))) (.branch 107 (.leaf (104, (.sipush 740, 107, 0, 740, 0))) (.leaf (107, (.if_icmp .ge 25, 110, 132, 0, 0))))))) (.branch 124 (.branch 116 (.branch 114 (.branch 111 (.leaf (110, (.aload_n 0, 111, 0, 0, 0))) (.leaf (111, (.getfield 7, 114, 0, 12, 0)))) (.branch 115 (.leaf (114, (.iload_n 3, 115, 0, 3, 0))) (.leaf (115, (.aload_n 0, 116, 0, 0, 0))))) (.branch 122 (.branch 119 (.leaf (116, (.getfield 7, 119, 0, 12, 0))) (.leaf (119, (.sipush 2976, 122, 0, 2976, 0)))) (.branch 123 (.leaf (122, (.iload_n 3, 123, 0, 3, 0))) (.leaf (123, (.iadd, 124, 0, 0, 0)))))) (.branch 132 (.branch 126 (.branch 125 (.leaf (124, (.iaload, 125, 0, 0, 0))) (.leaf (125, (.iastore, 126, 0, 0, 0)))) (.branch 129 (.leaf (126, (.iinc 3 1, 129, 0, 3, 1))) (.leaf (129, (.goto (-26), 132, 103, 0, 0))))) (.branch 134 (.branch 133 (.leaf (132, (.aload_n 0, 133, 0, 0, 0))) (.leaf (133, (.aload_n 0, 134, 0, 0, 0)))) (.branch 137 (.leaf (134, (.getfield 255, 137, 0, 12, 23))) (.branch 140 (.leaf (137, (.invokevirtual 237, 140, 0, 67, 0))) (.leaf (140, (.ireturn, 141, 0, 0, 0)))))))))
noncomputable def xt_71 : Lean.RArray (Nat × xins) := xt_71_0
set_option maxRecDepth 100000 in
noncomputable def xt_72_0 : Lean.RArray (Nat × xins) := .branch 13 (.branch 5 (.branch 1 (.leaf (0, (.iload_n 1, 1, 0, 1, 0))) (.branch 4 (.leaf (1, (.ifCond .ne 11, 4, 12, 0, 0))) (.leaf (4, (.aload_n 0, 5, 0, 0, 0))))) (.branch 11 (.branch 8 (.leaf (5, (.getfield 55, 8, 0, 11, 10))) (.leaf (8, (.getfield 199, 11, 0, 7, 10)))) (.branch 12 (.leaf (11, (.ireturn, 12, 0, 0, 0))) (.leaf (12, (.iload_n 1, 13, 0, 1, 0)))))) (.branch 21 (.branch 17 (.branch 14 (.leaf (13, (.iconst 1, 14, 0, 1, 0))) (.leaf (14, (.if_icmp .ne 13, 17, 27, 0, 0)))) (.branch 18 (.leaf (17, (.aload_n 0, 18, 0, 0, 0))) (.leaf (18, (.getfield 55, 21, 0, 11, 10))))) (.branch 27 (.branch 24 (.leaf (21, (.getfield 202, 24, 0, 7, 11))) (.leaf (24, (.goto 4, 27, 28, 0, 0)))) (.branch 28 (.leaf (27, (.iconst (-1), 28, 0, 4294967295, 0))) (.leaf (28, (.ireturn, 29, 0, 0, 0))))))
noncomputable def xt_72 : Lean.RArray (Nat × xins) := xt_72_0
set_option maxRecDepth 100000 in
noncomputable def xt_73_0 : Lean.RArray (Nat × xins) := .branch 12 (.branch 5 (.branch 1 (.leaf (0, (.iload_n 1, 1, 0, 1, 0))) (.branch 4 (.leaf (1, (.ifCond .ne 10, 4, 11, 0, 0))) (.leaf (4, (.aload_n 0, 5, 0, 0, 0))))) (.branch 8 (.leaf (5, (.getfield 37, 8, 0, 12, 16))) (.branch 11 (.leaf (8, (.goto 16, 11, 24, 0, 0))) (.leaf (11, (.iload_n 1, 12, 0, 1, 0)))))) (.branch 17 (.branch 13 (.leaf (12, (.iconst 1, 13, 0, 1, 0))) (.branch 16 (.leaf (13, (.if_icmp .ne 10, 16, 23, 0, 0))) (.leaf (16, (.aload_n 0, 17, 0, 0, 0))))) (.branch 23 (.branch 20 (.leaf (17, (.getfield 41, 20, 0, 12, 17))) (.leaf (20, (.goto 4, 23, 24, 0, 0)))) (.branch 24 (.leaf (23, (.iconst (-1), 24, 0, 4294967295, 0))) (.leaf (24, (.ireturn, 25, 0, 0, 0))))))
noncomputable def xt_73 : Lean.RArray (Nat × xins) := xt_73_0
set_option maxRecDepth 100000 in
noncomputable def xt_74_0 : Lean.RArray (Nat × xins) := .branch 138 (.branch 100 (.branch 78 (.branch 69 (.branch 64 (.branch 1 (.leaf (0, (.iload_n 1, 1, 0, 1, 0))) (.leaf (1, (.tableswitch 210 0 11 #[63, 75, 87, 99, 112, 124, 137, 149, 162, 174, 186, 198], 64, 0, 0, 0)))) (.branch 65 (.leaf (64, (.aload_n 0, 65, 0, 0, 0))) (.branch 66 (.leaf (65, (.aload_n 0, 66, 0, 0, 0))) (.leaf (66, (.getfield 36, 69, 0, 11, 6)))))) (.branch 75 (.branch 72 (.leaf (69, (.getfield 205, 72, 0, 0, 0))) (.leaf (72, (.invokevirtual 185, 75, 0, 61, 0)))) (.branch 76 (.leaf (75, (.ireturn, 76, 0, 0, 0))) (.branch 77 (.leaf (76, (.aload_n 0, 77, 0, 0, 0))) (.leaf (77, (.aload_n 0, 78, 0, 0, 0))))))) (.branch 89 (.branch 84 (.branch 81 (.leaf (78, (.getfield 36, 81, 0, 11, 6))) (.leaf (81, (.getfield 182, 84, 0, 0, 3)))) (.branch 87 (.leaf (84, (.invokevirtual 185, 87, 0, 61, 0))) (.branch 88 (.leaf (87, (.ireturn, 88, 0, 0, 0))) (.leaf (88, (.aload_n 0, 89, 0, 0, 0)))))) (.branch 93 (.branch 90 (.leaf (89, (.aload_n 0, 90, 0, 0, 0))) (.leaf (90, (.getfield 36, 93, 0, 11, 6)))) (.branch 96 (.leaf (93, (.getfield 208, 96, 0, 0, 9))) (.branch 99 (.leaf (96, (.invokevirtual 185, 99, 0, 61, 0))) (.leaf (99, (.ireturn, 100, 0, 0, 0)))))))) (.branch 118 (.branch 109 (.branch 102 (.branch 101 (.leaf (100, (.aload_n 0, 101, 0, 0, 0))) (.leaf (101, (.aload_n 0, 102, 0, 0, 0)))) (.branch 105 (.leaf (102, (.getfield 36, 105, 0, 11, 6))) (.branch 106 (.leaf (105, (.iconst 0, 106, 0, 0, 0))) (.leaf (106, (.invokevirtual 211, 109, 0, 75, 0)))))) (.branch 113 (.branch 112 (.leaf (109, (.invokevirtual 185, 112, 0, 61, 0))) (.leaf (112, (.ireturn, 113, 0, 0, 0)))) (.branch 114 (.leaf (113, (.aload_n 0, 114, 0, 0, 0))) (.branch 115 (.leaf (114, (.aload_n 0, 115, 0, 0, 0))) (.leaf (115, (.getfield 36, 118, 0, 11, 6))))))) (.branch 127 (.branch 124 (.branch 121 (.leaf (118, (.invokevirtual 214, 121, 0, 76, 0))) (.leaf (121, (.invokevirtual 185, 124, 0, 61, 0)))) (.branch 125 (.leaf (124, (.ireturn, 125, 0, 0, 0))) (.branch 126 (.leaf (125, (.aload_n 0, 126, 0, 0, 0))) (.leaf (126, (.aload_n 0, 127, 0, 0, 0)))))) (.branch 131 (.branch 130 (.leaf (127, (.getfield 36, 130, 0, 11, 6))) (.leaf (130, (.iconst 1, 131, 0, 1, 0)))) (.branch 134 (.leaf (131, (.invokevirtual 211, 134, 0, 75, 0))) (.branch 137 (.leaf (134, (.invokevirtual 185, 137, 0, 61, 0))) (.leaf (137, (.ireturn, 138, 0, 0, 0))))))))) (.branch 176 (.branch 156 (.branch 149 (.branch 140 (.branch 139 (.leaf (138, (.aload_n 0, 139, 0, 0, 0))) (.leaf (139, (.aload_n 0, 140, 0, 0, 0)))) (.branch 143 (.leaf (140, (.getfield 36, 143, 0, 11, 6))) (.branch 146 (.leaf (143, (.invokevirtual 218, 146, 0, 77, 0))) (.leaf (146, (.invokevirtual 185, 149, 0, 61, 0)))))) (.branch 151 (.branch 150 (.leaf (149, (.ireturn, 150, 0, 0, 0))) (.leaf (150, (.aload_n 0, 151, 0, 0, 0)))) (.branch 152 (.leaf (151, (.aload_n 0, 152, 0, 0, 0))) (.branch 155 (.leaf (152, (.getfield 36, 155, 0, 11, 6))) (.leaf (155, (.iconst 2, 156, 0, 2, 0))))))) (.branch 165 (.branch 162 (.branch 159 (.leaf (156, (.invokevirtual 211, 159, 0, 75, 0))) (.leaf (159, (.invokevirtual 185, 162, 0, 61, 0)))) (.branch 163 (.leaf (162, (.ireturn, 163, 0, 0, 0))) (.branch 164 (.leaf (163, (.aload_n 0, 164, 0, 0, 0))) (.leaf (164, (.aload_n 0, 165, 0, 0, 0)))))) (.branch 171 (.branch 168 (.leaf (165, (.getfield 36, 168, 0, 11, 6))) (.leaf (168, (.getfield 221, 171, 0, 0, 5)))) (.branch 174 (.leaf (171, (.invokevirtual 185, 174, 0, 61, 0))) (.branch 175 (.leaf (174, (.ireturn, 175, 0, 0, 0))) (.leaf (175, (.aload_n 0, 176, 0, 0, 0)))))))) (.branch 198 (.branch 187 (.branch 180 (.branch 177 (.leaf (176, (.aload_n 0, 177, 0, 0, 0))) (.leaf (177, (.getfield 36, 180, 0, 11, 6)))) (.branch 183 (.leaf (180, (.getfield 224, 183, 0, 0, 6))) (.branch 186 (.leaf (183, (.invokevirtual 185, 186, 0, 61, 0))) (.leaf (186, (.ireturn, 187, 0, 0, 0)))))) (.branch 189 (.branch 188 (.leaf (187, (.aload_n 0, 188, 0, 0, 0))) (.leaf (188, (.aload_n 0, 189, 0, 0, 0)))) (.branch 192 (.leaf (189, (.getfield 36, 192, 0, 11, 6))) (.branch 195 (.leaf (192, (.getfield 227, 195, 0, 0, 7))) (.leaf (195, (.invokevirtual 185, 198, 0, 61, 0))))))) (.branch 207 (.branch 200 (.branch 199 (.leaf (198, (.ireturn, 199, 0, 0, 0))) (.leaf (199, (.aload_n 0, 200, 0, 0, 0)))) (.branch 201 (.leaf (200, (.aload_n 0, 201, 0, 0, 0))) (.branch 204 (.leaf (201, (.getfield 36, 204, 0, 11, 6))) (.leaf (204, (.getfield 230, 207, 0, 0, 8)))))) (.branch 212 (.branch 210 (.leaf (207, (.invokevirtual 185, 210, 0, 61, 0))) (.branch 211 (.leaf (210, (.ireturn, 211, 0, 0, 0))) (.leaf (211, (.aload_n 0, 212, 0, 0, 0))))) (.branch 213 (.leaf (212, (.iconst 1, 213, 0, 1, 0))) (.branch 216 (.leaf (213, (.invokevirtual 151, 216, 0, 42, 0))) (.leaf (216, (.ireturn, 217, 0, 0, 0)))))))))
noncomputable def xt_74 : Lean.RArray (Nat × xins) := xt_74_0
set_option maxRecDepth 100000 in
noncomputable def xt_75_0 : Lean.RArray (Nat × xins) := .branch 5 (.branch 2 (.branch 1 (.leaf (0, (.iconst 0, 1, 0, 0, 0))) (.leaf (1, (.istore_n 2, 2, 0, 2, 0)))) (.branch 3 (.leaf (2, (.iconst 0, 3, 0, 0, 0))) (.branch 4 (.leaf (3, (.istore_n 3, 4, 0, 3, 0))) (.leaf (4, (.iload_n 3, 5, 0, 3, 0)))))) (.branch 9 (.branch 6 (.leaf (5, (.aload_n 0, 6, 0, 0, 0))) (.leaf (6, (.getfield 44, 9, 0, 0, 9)))) (.branch 34 (.leaf (9, (.if_icmp .ge 25, 12, 34, 0, 0))) (.branch 35 (.leaf (34, (.iload_n 2, 35, 0, 2, 0))) (.leaf (35, (.ireturn, 36, 0, 0, 0))))))
noncomputable def xt_75 : Lean.RArray (Nat × xins) := xt_75_0
set_option maxRecDepth 100000 in
noncomputable def xt_76_0 : Lean.RArray (Nat × xins) := .branch 5 (.branch 2 (.branch 1 (.leaf (0, (.iconst 0, 1, 0, 0, 0))) (.leaf (1, (.istore_n 1, 2, 0, 1, 0)))) (.branch 3 (.leaf (2, (.iconst 0, 3, 0, 0, 0))) (.branch 4 (.leaf (3, (.istore_n 2, 4, 0, 2, 0))) (.leaf (4, (.iload_n 2, 5, 0, 2, 0)))))) (.branch 9 (.branch 6 (.leaf (5, (.aload_n 0, 6, 0, 0, 0))) (.leaf (6, (.getfield 44, 9, 0, 0, 9)))) (.branch 34 (.leaf (9, (.if_icmp .ge 25, 12, 34, 0, 0))) (.branch 35 (.leaf (34, (.iload_n 1, 35, 0, 1, 0))) (.leaf (35, (.ireturn, 36, 0, 0, 0))))))
noncomputable def xt_76 : Lean.RArray (Nat × xins) := xt_76_0
set_option maxRecDepth 100000 in
noncomputable def xt_77_0 : Lean.RArray (Nat × xins) := .branch 5 (.branch 2 (.branch 1 (.leaf (0, (.iconst 0, 1, 0, 0, 0))) (.leaf (1, (.istore_n 1, 2, 0, 1, 0)))) (.branch 3 (.leaf (2, (.iconst 0, 3, 0, 0, 0))) (.branch 4 (.leaf (3, (.istore_n 2, 4, 0, 2, 0))) (.leaf (4, (.iload_n 2, 5, 0, 2, 0)))))) (.branch 9 (.branch 6 (.leaf (5, (.aload_n 0, 6, 0, 0, 0))) (.leaf (6, (.getfield 44, 9, 0, 0, 9)))) (.branch 33 (.leaf (9, (.if_icmp .ge 24, 12, 33, 0, 0))) (.branch 34 (.leaf (33, (.iload_n 1, 34, 0, 1, 0))) (.leaf (34, (.ireturn, 35, 0, 0, 0))))))
noncomputable def xt_77 : Lean.RArray (Nat × xins) := xt_77_0
set_option maxRecDepth 100000 in
noncomputable def xt_78_0 : Lean.RArray (Nat × xins) := .branch 143 (.branch 17 (.branch 10 (.branch 4 (.branch 1 (.leaf (0, (.iload_n 1, 1, 0, 1, 0))) (.leaf (1, (.ifCond .lt 9, 4, 10, 0, 0)))) (.branch 5 (.leaf (4, (.iload_n 1, 5, 0, 1, 0))) (.branch 7 (.leaf (5, (.bipush 11, 7, 0, 11, 0))) (.leaf (7, (.if_icmp .le 9, 10, 16, 0, 0)))))) (.branch 12 (.branch 11 (.leaf (10, (.aload_n 0, 11, 0, 0, 0))) (.leaf (11, (.iconst 1, 12, 0, 1, 0)))) (.branch 15 (.leaf (12, (.invokevirtual 81, 15, 0, 64, 0))) (.branch 16 (.leaf (15, (.ireturn, 16, 0, 0, 0))) (.leaf (16, (.iconst 0, 17, 0, 0, 0))))))) (.branch 22 (.branch 19 (.branch 18 (.leaf (17, (.istore_n 2, 18, 0, 2, 0))) (.leaf (18, (.iconst 0, 19, 0, 0, 0)))) (.branch 20 (.leaf (19, (.istore_n 3, 20, 0, 3, 0))) (.branch 21 (.leaf (20, (.iload_n 3, 21, 0, 3, 0))) (.leaf (21, (.aload_n 0, 22, 0, 0, 0)))))) (.branch 26 (.branch 25 (.leaf (22, (.getfield 7, 25, 0, 12, 0))) (.leaf (25, (.iconst 2, 26, 0, 2, 0)))) (.branch 27 (.leaf (26, (.iaload, 27, 0, 0, 0))) (.branch 142 (.leaf (27, (.if_icmp .ge 115, 30, 142, 0, 0))) (.leaf (142, (.aload_n 0, 143, 0, 0, 0)))))))) (.branch 160 (.branch 152 (.branch 145 (.branch 144 (.leaf (143, (.iload_n 1, 144, 0, 1, 0))) (.leaf (144, (.iconst 3, 145, 0, 3, 0)))) (.branch 148 (.leaf (145, (.if_icmp .ge 12, 148, 157, 0, 0))) (.branch 149 (.leaf (148, (.aload_n 0, 149, 0, 0, 0))) (.leaf (149, (.getfield 7, 152, 0, 12, 0)))))) (.branch 154 (.branch 153 (.leaf (152, (.iload_n 1, 153, 0, 1, 0))) (.leaf (153, (.iaload, 154, 0, 0, 0)))) (.branch 157 (.leaf (154, (.goto 21, 157, 175, 0, 0))) (.branch 158 (.leaf (157, (.iload_n 1, 158, 0, 1, 0))) (.leaf (158, (.bipush 8, 160, 0, 8, 0))))))) (.branch 171 (.branch 164 (.branch 163 (.leaf (160, (.if_icmp .ge 7, 163, 167, 0, 0))) (.leaf (163, (.iload_n 2, 164, 0, 2, 0)))) (.branch 167 (.leaf (164, (.goto 11, 167, 175, 0, 0))) (.branch 168 (.leaf (167, (.aload_n 0, 168, 0, 0, 0))) (.leaf (168, (.getfield 7, 171, 0, 12, 0)))))) (.branch 174 (.branch 172 (.leaf (171, (.iload_n 1, 172, 0, 1, 0))) (.branch 173 (.leaf (172, (.iconst 5, 173, 0, 5, 0))) (.leaf (173, (.isub, 174, 0, 0, 0))))) (.branch 175 (.leaf (174, (.iaload, 175, 0, 0, 0))) (.branch 178 (.leaf (175, (.invokevirtual 85, 178, 0, 68, 0))) (.leaf (178, (.ireturn, 179, 0, 0, 0))))))))
noncomputable def xt_78 : Lean.RArray (Nat × xins) := xt_78_0
set_option maxRecDepth 100000 in
noncomputable def xt_79_0 : Lean.RArray (Nat × xins) := .branch 8 (.branch 4 (.branch 1 (.leaf (0, (.aload_n 0, 1, 0, 0, 0))) (.leaf (1, (.getfield 36, 4, 0, 11, 6)))) (.branch 5 (.leaf (4, (.iload_n 1, 5, 0, 1, 0))) (.leaf (5, (.invokevirtual 233, 8, 0, 80, 0))))) (.branch 28 (.branch 27 (.leaf (8, (.ifCond .eq 19, 11, 27, 0, 0))) (.leaf (27, (.aload_n 0, 28, 0, 0, 0)))) (.branch 29 (.leaf (28, (.iconst 1, 29, 0, 1, 0))) (.branch 32 (.leaf (29, (.invokevirtual 151, 32, 0, 42, 0))) (.leaf (32, (.ireturn, 33, 0, 0, 0))))))
noncomputable def xt_79 : Lean.RArray (Nat × xins) := xt_79_0
set_option maxRecDepth 100000 in
noncomputable def xt_80_0 : Lean.RArray (Nat × xins) := .branch 6 (.branch 4 (.branch 1 (.leaf (0, (.iload_n 1, 1, 0, 1, 0))) (.leaf (1, (.ifCond .lt 15, 4, 16, 0, 0)))) (.branch 5 (.leaf (4, (.iload_n 1, 5, 0, 1, 0))) (.leaf (5, (.aload_n 0, 6, 0, 0, 0))))) (.branch 16 (.branch 9 (.leaf (6, (.getfield 9, 9, 0, 0, 0))) (.leaf (9, (.if_icmp .ge 7, 12, 16, 0, 0)))) (.branch 17 (.leaf (16, (.iconst 0, 17, 0, 0, 0))) (.leaf (17, (.ireturn, 18, 0, 0, 0)))))
noncomputable def xt_80 : Lean.RArray (Nat × xins) := xt_80_0
set_option maxRecDepth 100000 in
noncomputable def xt_81_0 : Lean.RArray (Nat × xins) := .branch 24 (.branch 2 (.branch 1 (.leaf (0, (.aload_n 0, 1, 0, 0, 0))) (.leaf (1, (.iload_n 1, 2, 0, 1, 0)))) (.branch 5 (.leaf (2, (.invokevirtual 267, 5, 0, 82, 0))) (.leaf (5, (.ifCond .eq 19, 8, 24, 0, 0))))) (.branch 26 (.branch 25 (.leaf (24, (.aload_n 0, 25, 0, 0, 0))) (.leaf (25, (.iconst 1, 26, 0, 1, 0)))) (.branch 29 (.leaf (26, (.invokevirtual 81, 29, 0, 64, 0))) (.leaf (29, (.ireturn, 30, 0, 0, 0)))))
noncomputable def xt_81 : Lean.RArray (Nat × xins) := xt_81_0
set_option maxRecDepth 100000 in
noncomputable def xt_82_0 : Lean.RArray (Nat × xins) := .branch 9 (.branch 4 (.branch 1 (.leaf (0, (.iload_n 1, 1, 0, 1, 0))) (.leaf (1, (.ifCond .lt 17, 4, 18, 0, 0)))) (.branch 5 (.leaf (4, (.iload_n 1, 5, 0, 1, 0))) (.branch 6 (.leaf (5, (.aload_n 0, 6, 0, 0, 0))) (.leaf (6, (.getfield 7, 9, 0, 12, 0)))))) (.branch 11 (.branch 10 (.leaf (9, (.iconst 0, 10, 0, 0, 0))) (.leaf (10, (.iaload, 11, 0, 0, 0)))) (.branch 18 (.leaf (11, (.if_icmp .ge 7, 14, 18, 0, 0))) (.branch 19 (.leaf (18, (.iconst 0, 19, 0, 0, 0))) (.leaf (19, (.ireturn, 20, 0, 0, 0))))))
noncomputable def xt_82 : Lean.RArray (Nat × xins) := xt_82_0
set_option maxRecDepth 100000 in
noncomputable def xt_83_0 : Lean.RArray (Nat × xins) := .branch 8 (.branch 4 (.branch 1 (.leaf (0, (.aload_n 0, 1, 0, 0, 0))) (.leaf (1, (.getfield 36, 4, 0, 11, 6)))) (.branch 5 (.leaf (4, (.iload_n 1, 5, 0, 1, 0))) (.leaf (5, (.invokevirtual 240, 8, 0, 84, 0))))) (.branch 12 (.branch 11 (.leaf (8, (.ifCond .ne 9, 11, 17, 0, 0))) (.leaf (11, (.aload_n 0, 12, 0, 0, 0)))) (.branch 13 (.leaf (12, (.iconst 1, 13, 0, 1, 0))) (.branch 16 (.leaf (13, (.invokevirtual 151, 16, 0, 42, 0))) (.leaf (16, (.ireturn, 17, 0, 0, 0))))))
noncomputable def xt_83 : Lean.RArray (Nat × xins) := xt_83_0
set_option maxRecDepth 100000 in
noncomputable def xt_84_0 : Lean.RArray (Nat × xins) := .branch 6 (.branch 4 (.branch 1 (.leaf (0, (.iload_n 1, 1, 0, 1, 0))) (.leaf (1, (.ifCond .lt 15, 4, 16, 0, 0)))) (.branch 5 (.leaf (4, (.iload_n 1, 5, 0, 1, 0))) (.leaf (5, (.aload_n 0, 6, 0, 0, 0))))) (.branch 16 (.branch 9 (.leaf (6, (.getfield 23, 9, 0, 0, 3))) (.leaf (9, (.if_icmp .ge 7, 12, 16, 0, 0)))) (.branch 17 (.leaf (16, (.iconst 0, 17, 0, 0, 0))) (.leaf (17, (.ireturn, 18, 0, 0, 0)))))
noncomputable def xt_84 : Lean.RArray (Nat × xins) := xt_84_0
set_option maxRecDepth 100000 in
noncomputable def xt_85_0 : Lean.RArray (Nat × xins) := .branch 17 (.branch 2 (.branch 1 (.leaf (0, (.aload_n 0, 1, 0, 0, 0))) (.leaf (1, (.iload_n 1, 2, 0, 1, 0)))) (.branch 5 (.leaf (2, (.invokevirtual 264, 5, 0, 86, 0))) (.leaf (5, (.ifCond .eq 12, 8, 17, 0, 0))))) (.branch 19 (.branch 18 (.leaf (17, (.aload_n 0, 18, 0, 0, 0))) (.leaf (18, (.iconst 1, 19, 0, 1, 0)))) (.branch 22 (.leaf (19, (.invokevirtual 81, 22, 0, 64, 0))) (.leaf (22, (.ireturn, 23, 0, 0, 0)))))
noncomputable def xt_85 : Lean.RArray (Nat × xins) := xt_85_0
set_option maxRecDepth 100000 in
noncomputable def xt_86_0 : Lean.RArray (Nat × xins) := .branch 9 (.branch 4 (.branch 1 (.leaf (0, (.iload_n 1, 1, 0, 1, 0))) (.leaf (1, (.ifCond .lt 17, 4, 18, 0, 0)))) (.branch 5 (.leaf (4, (.iload_n 1, 5, 0, 1, 0))) (.branch 6 (.leaf (5, (.aload_n 0, 6, 0, 0, 0))) (.leaf (6, (.getfield 7, 9, 0, 12, 0)))))) (.branch 11 (.branch 10 (.leaf (9, (.iconst 1, 10, 0, 1, 0))) (.leaf (10, (.iaload, 11, 0, 0, 0)))) (.branch 18 (.leaf (11, (.if_icmp .ge 7, 14, 18, 0, 0))) (.branch 19 (.leaf (18, (.iconst 0, 19, 0, 0, 0))) (.leaf (19, (.ireturn, 20, 0, 0, 0))))))
noncomputable def xt_86 : Lean.RArray (Nat × xins) := xt_86_0
set_option maxRecDepth 100000 in
noncomputable def xt_87_0 : Lean.RArray (Nat × xins) := .branch 6 (.branch 2 (.branch 1 (.leaf (0, (.aload_n 0, 1, 0, 0, 0))) (.leaf (1, (.iload_n 1, 2, 0, 1, 0)))) (.branch 3 (.leaf (2, (.iload_n 2, 3, 0, 2, 0))) (.leaf (3, (.invokevirtual 267, 6, 0, 88, 0))))) (.branch 10 (.branch 9 (.leaf (6, (.ifCond .ne 9, 9, 15, 0, 0))) (.leaf (9, (.aload_n 0, 10, 0, 0, 0)))) (.branch 11 (.leaf (10, (.iconst 1, 11, 0, 1, 0))) (.branch 14 (.leaf (11, (.invokevirtual 151, 14, 0, 42, 0))) (.leaf (14, (.ireturn, 15, 0, 0, 0))))))
noncomputable def xt_87 : Lean.RArray (Nat × xins) := xt_87_0
set_option maxRecDepth 100000 in
noncomputable def xt_88_0 : Lean.RArray (Nat × xins) := .branch 5 (.branch 1 (.leaf (0, (.aload_n 0, 1, 0, 0, 0))) (.branch 4 (.leaf (1, (.getfield 36, 4, 0, 11, 6))) (.leaf (4, (.iload_n 1, 5, 0, 1, 0))))) (.branch 31 (.branch 8 (.leaf (5, (.invokevirtual 240, 8, 0, 84, 0))) (.leaf (8, (.ifCond .eq 23, 11, 31, 0, 0)))) (.branch 32 (.leaf (31, (.iconst 0, 32, 0, 0, 0))) (.leaf (32, (.ireturn, 33, 0, 0, 0)))))
noncomputable def xt_88 : Lean.RArray (Nat × xins) := xt_88_0
set_option maxRecDepth 100000 in
noncomputable def xt_89_0 : Lean.RArray (Nat × xins) := .branch 6 (.branch 2 (.branch 1 (.leaf (0, (.aload_n 0, 1, 0, 0, 0))) (.leaf (1, (.iload_n 1, 2, 0, 1, 0)))) (.branch 3 (.leaf (2, (.iload_n 2, 3, 0, 2, 0))) (.leaf (3, (.invokevirtual 312, 6, 0, 90, 0))))) (.branch 31 (.branch 30 (.leaf (6, (.ifCond .eq 24, 9, 30, 0, 0))) (.leaf (30, (.aload_n 0, 31, 0, 0, 0)))) (.branch 32 (.leaf (31, (.iconst 1, 32, 0, 1, 0))) (.branch 35 (.leaf (32, (.invokevirtual 81, 35, 0, 64, 0))) (.leaf (35, (.ireturn, 36, 0, 0, 0))))))
noncomputable def xt_89 : Lean.RArray (Nat × xins) := xt_89_0
set_option maxRecDepth 100000 in
noncomputable def xt_90_0 : Lean.RArray (Nat × xins) := .branch 5 (.branch 1 (.leaf (0, (.aload_n 0, 1, 0, 0, 0))) (.branch 2 (.leaf (1, (.iload_n 1, 2, 0, 1, 0))) (.leaf (2, (.invokevirtual 264, 5, 0, 86, 0))))) (.branch 25 (.leaf (5, (.ifCond .eq 20, 8, 25, 0, 0))) (.branch 26 (.leaf (25, (.iconst 0, 26, 0, 0, 0))) (.leaf (26, (.ireturn, 27, 0, 0, 0)))))
noncomputable def xt_90 : Lean.RArray (Nat × xins) := xt_90_0
set_option maxRecDepth 100000 in
noncomputable def xt_91_0 : Lean.RArray (Nat × xins) := .branch 8 (.branch 4 (.branch 1 (.leaf (0, (.aload_n 0, 1, 0, 0, 0))) (.leaf (1, (.getfield 36, 4, 0, 11, 6)))) (.branch 5 (.leaf (4, (.iload_n 1, 5, 0, 1, 0))) (.leaf (5, (.invokevirtual 240, 8, 0, 84, 0))))) (.branch 27 (.branch 26 (.leaf (8, (.ifCond .eq 18, 11, 26, 0, 0))) (.leaf (26, (.aload_n 0, 27, 0, 0, 0)))) (.branch 28 (.leaf (27, (.iconst 1, 28, 0, 1, 0))) (.branch 31 (.leaf (28, (.invokevirtual 151, 31, 0, 42, 0))) (.leaf (31, (.ireturn, 32, 0, 0, 0))))))
noncomputable def xt_91 : Lean.RArray (Nat × xins) := xt_91_0
set_option maxRecDepth 100000 in
noncomputable def xt_92_0 : Lean.RArray (Nat × xins) := .branch 8 (.branch 2 (.branch 1 (.leaf (0, (.aload_n 0, 1, 0, 0, 0))) (.leaf (1, (.iload_n 1, 2, 0, 1, 0)))) (.branch 5 (.leaf (2, (.invokevirtual 264, 5, 0, 86, 0))) (.leaf (5, (.ifCond .ne 9, 8, 14, 0, 0))))) (.branch 10 (.branch 9 (.leaf (8, (.aload_n 0, 9, 0, 0, 0))) (.leaf (9, (.iconst 1, 10, 0, 1, 0)))) (.branch 13 (.leaf (10, (.invokevirtual 81, 13, 0, 64, 0))) (.leaf (13, (.ireturn, 14, 0, 0, 0)))))
noncomputable def xt_92 : Lean.RArray (Nat × xins) := xt_92_0
set_option maxRecDepth 100000 in
noncomputable def xt_93_0 : Lean.RArray (Nat × xins) := .branch 8 (.branch 4 (.branch 1 (.leaf (0, (.aload_n 0, 1, 0, 0, 0))) (.leaf (1, (.getfield 36, 4, 0, 11, 6)))) (.branch 5 (.leaf (4, (.iload_n 1, 5, 0, 1, 0))) (.leaf (5, (.invokevirtual 240, 8, 0, 84, 0))))) (.branch 19 (.branch 18 (.leaf (8, (.ifCond .eq 10, 11, 18, 0, 0))) (.leaf (18, (.aload_n 0, 19, 0, 0, 0)))) (.branch 20 (.leaf (19, (.iconst 1, 20, 0, 1, 0))) (.branch 23 (.leaf (20, (.invokevirtual 151, 23, 0, 42, 0))) (.leaf (23, (.ireturn, 24, 0, 0, 0))))))
noncomputable def xt_93 : Lean.RArray (Nat × xins) := xt_93_0
set_option maxRecDepth 100000 in
noncomputable def xt_94_0 : Lean.RArray (Nat × xins) := .branch 28 (.branch 2 (.branch 1 (.leaf (0, (.aload_n 0, 1, 0, 0, 0))) (.leaf (1, (.iload_n 1, 2, 0, 1, 0)))) (.branch 5 (.leaf (2, (.invokevirtual 264, 5, 0, 86, 0))) (.leaf (5, (.ifCond .eq 23, 8, 28, 0, 0))))) (.branch 30 (.branch 29 (.leaf (28, (.aload_n 0, 29, 0, 0, 0))) (.leaf (29, (.iconst 1, 30, 0, 1, 0)))) (.branch 33 (.leaf (30, (.invokevirtual 81, 33, 0, 64, 0))) (.leaf (33, (.ireturn, 34, 0, 0, 0)))))
noncomputable def xt_94 : Lean.RArray (Nat × xins) := xt_94_0
set_option maxRecDepth 100000 in
noncomputable def xt_95_0 : Lean.RArray (Nat × xins) := .branch 8 (.branch 4 (.branch 1 (.leaf (0, (.aload_n 0, 1, 0, 0, 0))) (.leaf (1, (.getfield 36, 4, 0, 11, 6)))) (.branch 5 (.leaf (4, (.iload_n 1, 5, 0, 1, 0))) (.leaf (5, (.invokevirtual 283, 8, 0, 96, 0))))) (.branch 12 (.branch 11 (.leaf (8, (.ifCond .ne 9, 11, 17, 0, 0))) (.leaf (11, (.aload_n 0, 12, 0, 0, 0)))) (.branch 13 (.leaf (12, (.iconst 1, 13, 0, 1, 0))) (.branch 16 (.leaf (13, (.invokevirtual 151, 16, 0, 42, 0))) (.leaf (16, (.ireturn, 17, 0, 0, 0))))))
noncomputable def xt_95 : Lean.RArray (Nat × xins) := xt_95_0
set_option maxRecDepth 100000 in
noncomputable def xt_96_0 : Lean.RArray (Nat × xins) := .branch 6 (.branch 4 (.branch 1 (.leaf (0, (.iload_n 1, 1, 0, 1, 0))) (.leaf (1, (.ifCond .lt 15, 4, 16, 0, 0)))) (.branch 5 (.leaf (4, (.iload_n 1, 5, 0, 1, 0))) (.leaf (5, (.aload_n 0, 6, 0, 0, 0))))) (.branch 16 (.branch 9 (.leaf (6, (.getfield 44, 9, 0, 0, 9))) (.leaf (9, (.if_icmp .ge 7, 12, 16, 0, 0)))) (.branch 17 (.leaf (16, (.iconst 0, 17, 0, 0, 0))) (.leaf (17, (.ireturn, 18, 0, 0, 0)))))
noncomputable def xt_96 : Lean.RArray (Nat × xins) := xt_96_0
set_option maxRecDepth 100000 in
noncomputable def xt_97_0 : Lean.RArray (Nat × xins) := .branch 18 (.branch 2 (.branch 1 (.leaf (0, (.aload_n 0, 1, 0, 0, 0))) (.leaf (1, (.iload_n 1, 2, 0, 1, 0)))) (.branch 5 (.leaf (2, (.invokevirtual 318, 5, 0, 98, 0))) (.leaf (5, (.ifCond .eq 13, 8, 18, 0, 0))))) (.branch 20 (.branch 19 (.leaf (18, (.aload_n 0, 19, 0, 0, 0))) (.leaf (19, (.iconst 1, 20, 0, 1, 0)))) (.branch 23 (.leaf (20, (.invokevirtual 81, 23, 0, 64, 0))) (.leaf (23, (.ireturn, 24, 0, 0, 0)))))
noncomputable def xt_97 : Lean.RArray (Nat × xins) := xt_97_0
set_option maxRecDepth 100000 in
noncomputable def xt_98_0 : Lean.RArray (Nat × xins) := .branch 9 (.branch 4 (.branch 1 (.leaf (0, (.iload_n 1, 1, 0, 1, 0))) (.leaf (1, (.ifCond .lt 17, 4, 18, 0, 0)))) (.branch 5 (.leaf (4, (.iload_n 1, 5, 0, 1, 0))) (.branch 6 (.leaf (5, (.aload_n 0, 6, 0, 0, 0))) (.leaf (6, (.getfield 7, 9, 0, 12, 0)))))) (.branch 11 (.branch 10 (.leaf (9, (.iconst 2, 10, 0, 2, 0))) (.leaf (10, (.iaload, 11, 0, 0, 0)))) (.branch 18 (.leaf (11, (.if_icmp .ge 7, 14, 18, 0, 0))) (.branch 19 (.leaf (18, (.iconst 0, 19, 0, 0, 0))) (.leaf (19, (.ireturn, 20, 0, 0, 0))))))
noncomputable def xt_98 : Lean.RArray (Nat × xins) := xt_98_0
set_option maxRecDepth 100000 in
noncomputable def xt_99_0 : Lean.RArray (Nat × xins) := .branch 6 (.branch 2 (.branch 1 (.leaf (0, (.aload_n 0, 1, 0, 0, 0))) (.leaf (1, (.iload_n 1, 2, 0, 1, 0)))) (.branch 3 (.leaf (2, (.iload_n 2, 3, 0, 2, 0))) (.branch 4 (.leaf (3, (.iload_n 3, 4, 0, 3, 0))) (.leaf (4, (.iload 4, 6, 0, 4, 0)))))) (.branch 30 (.branch 9 (.leaf (6, (.invokevirtual 323, 9, 0, 100, 0))) (.branch 29 (.leaf (9, (.ifCond .eq 20, 12, 29, 0, 0))) (.leaf (29, (.aload_n 0, 30, 0, 0, 0))))) (.branch 31 (.leaf (30, (.iconst 1, 31, 0, 1, 0))) (.branch 34 (.leaf (31, (.invokevirtual 151, 34, 0, 42, 0))) (.leaf (34, (.ireturn, 35, 0, 0, 0))))))
noncomputable def xt_99 : Lean.RArray (Nat × xins) := xt_99_0
set_option maxRecDepth 100000 in
noncomputable def xt_100_0 : Lean.RArray (Nat × xins) := .branch 5 (.branch 1 (.leaf (0, (.aload_n 0, 1, 0, 0, 0))) (.branch 4 (.leaf (1, (.getfield 36, 4, 0, 11, 6))) (.leaf (4, (.iload_n 1, 5, 0, 1, 0))))) (.branch 25 (.branch 8 (.leaf (5, (.invokevirtual 240, 8, 0, 84, 0))) (.leaf (8, (.ifCond .eq 17, 11, 25, 0, 0)))) (.branch 26 (.leaf (25, (.iconst 0, 26, 0, 0, 0))) (.leaf (26, (.ireturn, 27, 0, 0, 0)))))
noncomputable def xt_100 : Lean.RArray (Nat × xins) := xt_100_0
set_option maxRecDepth 100000 in
noncomputable def xt_101_0 : Lean.RArray (Nat × xins) := .branch 6 (.branch 2 (.branch 1 (.leaf (0, (.aload_n 0, 1, 0, 0, 0))) (.leaf (1, (.iload_n 1, 2, 0, 1, 0)))) (.branch 3 (.leaf (2, (.iload_n 2, 3, 0, 2, 0))) (.branch 4 (.leaf (3, (.iload_n 3, 4, 0, 3, 0))) (.leaf (4, (.iload 4, 6, 0, 4, 0)))))) (.branch 29 (.branch 9 (.leaf (6, (.invokevirtual 343, 9, 0, 102, 0))) (.branch 28 (.leaf (9, (.ifCond .eq 19, 12, 28, 0, 0))) (.leaf (28, (.aload_n 0, 29, 0, 0, 0))))) (.branch 30 (.leaf (29, (.iconst 1, 30, 0, 1, 0))) (.branch 33 (.leaf (30, (.invokevirtual 81, 33, 0, 64, 0))) (.leaf (33, (.ireturn, 34, 0, 0, 0))))))
noncomputable def xt_101 : Lean.RArray (Nat × xins) := xt_101_0
set_option maxRecDepth 100000 in
noncomputable def xt_102_0 : Lean.RArray (Nat × xins) := .branch 5 (.branch 1 (.leaf (0, (.aload_n 0, 1, 0, 0, 0))) (.branch 2 (.leaf (1, (.iload_n 1, 2, 0, 1, 0))) (.leaf (2, (.invokevirtual 264, 5, 0, 86, 0))))) (.branch 23 (.leaf (5, (.ifCond .eq 18, 8, 23, 0, 0))) (.branch 24 (.leaf (23, (.iconst 0, 24, 0, 0, 0))) (.leaf (24, (.ireturn, 25, 0, 0, 0)))))
noncomputable def xt_102 : Lean.RArray (Nat × xins) := xt_102_0
set_option maxRecDepth 100000 in
noncomputable def xt_103_0 : Lean.RArray (Nat × xins) := .branch 6 (.branch 2 (.branch 1 (.leaf (0, (.aload_n 0, 1, 0, 0, 0))) (.leaf (1, (.iload_n 1, 2, 0, 1, 0)))) (.branch 3 (.leaf (2, (.iload_n 2, 3, 0, 2, 0))) (.branch 4 (.leaf (3, (.iload_n 3, 4, 0, 3, 0))) (.leaf (4, (.iload 4, 6, 0, 4, 0)))))) (.branch 30 (.branch 9 (.leaf (6, (.invokevirtual 323, 9, 0, 100, 0))) (.branch 29 (.leaf (9, (.ifCond .eq 20, 12, 29, 0, 0))) (.leaf (29, (.aload_n 0, 30, 0, 0, 0))))) (.branch 31 (.leaf (30, (.iconst 1, 31, 0, 1, 0))) (.branch 34 (.leaf (31, (.invokevirtual 151, 34, 0, 42, 0))) (.leaf (34, (.ireturn, 35, 0, 0, 0))))))
noncomputable def xt_103 : Lean.RArray (Nat × xins) := xt_103_0
set_option maxRecDepth 100000 in
noncomputable def xt_104_0 : Lean.RArray (Nat × xins) := .branch 6 (.branch 2 (.branch 1 (.leaf (0, (.aload_n 0, 1, 0, 0, 0))) (.leaf (1, (.iload_n 1, 2, 0, 1, 0)))) (.branch 3 (.leaf (2, (.iload_n 2, 3, 0, 2, 0))) (.branch 4 (.leaf (3, (.iload_n 3, 4, 0, 3, 0))) (.leaf (4, (.iload 4, 6, 0, 4, 0)))))) (.branch 29 (.branch 9 (.leaf (6, (.invokevirtual 343, 9, 0, 102, 0))) (.branch 28 (.leaf (9, (.ifCond .eq 19, 12, 28, 0, 0))) (.leaf (28, (.aload_n 0, 29, 0, 0, 0))))) (.branch 30 (.leaf (29, (.iconst 1, 30, 0, 1, 0))) (.branch 33 (.leaf (30, (.invokevirtual 81, 33, 0, 64, 0))) (.leaf (33, (.ireturn, 34, 0, 0, 0))))))
noncomputable def xt_104 : Lean.RArray (Nat × xins) := xt_104_0
set_option maxRecDepth 100000 in
noncomputable def xt_105_0 : Lean.RArray (Nat × xins) := .branch 6 (.branch 2 (.branch 1 (.leaf (0, (.aload_n 0, 1, 0, 0, 0))) (.leaf (1, (.iload_n 1, 2, 0, 1, 0)))) (.branch 3 (.leaf (2, (.iload_n 2, 3, 0, 2, 0))) (.branch 4 (.leaf (3, (.iload_n 3, 4, 0, 3, 0))) (.leaf (4, (.iload 4, 6, 0, 4, 0)))))) (.branch 30 (.branch 9 (.leaf (6, (.invokevirtual 323, 9, 0, 100, 0))) (.branch 29 (.leaf (9, (.ifCond .eq 20, 12, 29, 0, 0))) (.leaf (29, (.aload_n 0, 30, 0, 0, 0))))) (.branch 31 (.leaf (30, (.iconst 1, 31, 0, 1, 0))) (.branch 34 (.leaf (31, (.invokevirtual 151, 34, 0, 42, 0))) (.leaf (34, (.ireturn, 35, 0, 0, 0))))))
noncomputable def xt_105 : Lean.RArray (Nat × xins) := xt_105_0
set_option maxRecDepth 100000 in
noncomputable def xt_106_0 : Lean.RArray (Nat × xins) := .branch 6 (.branch 2 (.branch 1 (.leaf (0, (.aload_n 0, 1, 0, 0, 0))) (.leaf (1, (.iload_n 1, 2, 0, 1, 0)))) (.branch 3 (.leaf (2, (.iload_n 2, 3, 0, 2, 0))) (.branch 4 (.leaf (3, (.iload_n 3, 4, 0, 3, 0))) (.leaf (4, (.iload 4, 6, 0, 4, 0)))))) (.branch 29 (.branch 9 (.leaf (6, (.invokevirtual 343, 9, 0, 102, 0))) (.branch 28 (.leaf (9, (.ifCond .eq 19, 12, 28, 0, 0))) (.leaf (28, (.aload_n 0, 29, 0, 0, 0))))) (.branch 30 (.leaf (29, (.iconst 1, 30, 0, 1, 0))) (.branch 33 (.leaf (30, (.invokevirtual 81, 33, 0, 64, 0))) (.leaf (33, (.ireturn, 34, 0, 0, 0))))))
noncomputable def xt_106 : Lean.RArray (Nat × xins) := xt_106_0
set_option maxRecDepth 100000 in
noncomputable def xt_107_0 : Lean.RArray (Nat × xins) := .branch 7 (.branch 4 (.branch 1 (.leaf (0, (.aload_n 0, 1, 0, 0, 0))) (.leaf (1, (.getfield 36, 4, 0, 11, 6)))) (.branch 5 (.leaf (4, (.iload_n 1, 5, 0, 1, 0))) (.branch 6 (.leaf (5, (.iload_n 2, 6, 0, 2, 0))) (.leaf (6, (.iload_n 3, 7, 0, 3, 0)))))) (.branch 14 (.branch 10 (.leaf (7, (.invokevirtual 317, 10, 0, 108, 0))) (.branch 13 (.leaf (10, (.ifCond .ne 9, 13, 19, 0, 0))) (.leaf (13, (.aload_n 0, 14, 0, 0, 0))))) (.branch 15 (.leaf (14, (.iconst 1, 15, 0, 1, 0))) (.branch 18 (.leaf (15, (.invokevirtual 151, 18, 0, 42, 0))) (.leaf (18, (.ireturn, 19, 0, 0, 0))))))
noncomputable def xt_107 : Lean.RArray (Nat × xins) := xt_107_0
set_option maxRecDepth 100000 in
noncomputable def xt_108_0 : Lean.RArray (Nat × xins) := .branch 5 (.branch 1 (.leaf (0, (.aload_n 0, 1, 0, 0, 0))) (.branch 2 (.leaf (1, (.iload_n 1, 2, 0, 1, 0))) (.leaf (2, (.invokevirtual 92, 5, 0, 84, 0))))) (.branch 27 (.leaf (5, (.ifCond .eq 22, 8, 27, 0, 0))) (.branch 28 (.leaf (27, (.iconst 0, 28, 0, 0, 0))) (.leaf (28, (.ireturn, 29, 0, 0, 0)))))
noncomputable def xt_108 : Lean.RArray (Nat × xins) := xt_108_0
set_option maxRecDepth 100000 in
noncomputable def xt_109_0 : Lean.RArray (Nat × xins) := .branch 7 (.branch 2 (.branch 1 (.leaf (0, (.aload_n 0, 1, 0, 0, 0))) (.leaf (1, (.iload_n 1, 2, 0, 1, 0)))) (.branch 3 (.leaf (2, (.iload_n 2, 3, 0, 2, 0))) (.branch 4 (.leaf (3, (.iload_n 3, 4, 0, 3, 0))) (.leaf (4, (.invokevirtual 340, 7, 0, 110, 0)))))) (.branch 26 (.branch 25 (.leaf (7, (.ifCond .eq 18, 10, 25, 0, 0))) (.leaf (25, (.aload_n 0, 26, 0, 0, 0)))) (.branch 27 (.leaf (26, (.iconst 1, 27, 0, 1, 0))) (.branch 30 (.leaf (27, (.invokevirtual 81, 30, 0, 64, 0))) (.leaf (30, (.ireturn, 31, 0, 0, 0))))))
noncomputable def xt_109 : Lean.RArray (Nat × xins) := xt_109_0
set_option maxRecDepth 100000 in
noncomputable def xt_110_0 : Lean.RArray (Nat × xins) := .branch 5 (.branch 1 (.leaf (0, (.aload_n 0, 1, 0, 0, 0))) (.branch 2 (.leaf (1, (.iload_n 1, 2, 0, 1, 0))) (.leaf (2, (.invokevirtual 264, 5, 0, 86, 0))))) (.branch 27 (.leaf (5, (.ifCond .eq 22, 8, 27, 0, 0))) (.branch 28 (.leaf (27, (.iconst 0, 28, 0, 0, 0))) (.leaf (28, (.ireturn, 29, 0, 0, 0)))))
noncomputable def xt_110 : Lean.RArray (Nat × xins) := xt_110_0
set_option maxRecDepth 100000 in
noncomputable def xt_111_0 : Lean.RArray (Nat × xins) := .branch 6 (.branch 2 (.branch 1 (.leaf (0, (.aload_n 0, 1, 0, 0, 0))) (.leaf (1, (.iload_n 1, 2, 0, 1, 0)))) (.branch 3 (.leaf (2, (.iload_n 2, 3, 0, 2, 0))) (.branch 4 (.leaf (3, (.iload_n 3, 4, 0, 3, 0))) (.leaf (4, (.iload 4, 6, 0, 4, 0)))))) (.branch 13 (.branch 9 (.leaf (6, (.invokevirtual 323, 9, 0, 100, 0))) (.branch 12 (.leaf (9, (.ifCond .ne 9, 12, 18, 0, 0))) (.leaf (12, (.aload_n 0, 13, 0, 0, 0))))) (.branch 14 (.leaf (13, (.iconst 1, 14, 0, 1, 0))) (.branch 17 (.leaf (14, (.invokevirtual 151, 17, 0, 42, 0))) (.leaf (17, (.ireturn, 18, 0, 0, 0))))))
noncomputable def xt_111 : Lean.RArray (Nat × xins) := xt_111_0
set_option maxRecDepth 100000 in
noncomputable def xt_112_0 : Lean.RArray (Nat × xins) := .branch 6 (.branch 2 (.branch 1 (.leaf (0, (.aload_n 0, 1, 0, 0, 0))) (.leaf (1, (.iload_n 1, 2, 0, 1, 0)))) (.branch 3 (.leaf (2, (.iload_n 2, 3, 0, 2, 0))) (.branch 4 (.leaf (3, (.iload_n 3, 4, 0, 3, 0))) (.leaf (4, (.iload 4, 6, 0, 4, 0)))))) (.branch 13 (.branch 9 (.leaf (6, (.invokevirtual 343, 9, 0, 102, 0))) (.branch 12 (.leaf (9, (.ifCond .ne 9, 12, 18, 0, 0))) (.leaf (12, (.aload_n 0, 13, 0, 0, 0))))) (.branch 14 (.leaf (13, (.iconst 1, 14, 0, 1, 0))) (.branch 17 (.leaf (14, (.invokevirtual 81, 17, 0, 64, 0))) (.leaf (17, (.ireturn, 18, 0, 0, 0))))))
noncomputable def xt_112 : Lean.RArray (Nat × xins) := xt_112_0
set_option maxRecDepth 100000 in
noncomputable def xt_113_0 : Lean.RArray (Nat × xins) := .branch 6 (.branch 2 (.branch 1 (.leaf (0, (.aload_n 0, 1, 0, 0, 0))) (.leaf (1, (.iload_n 1, 2, 0, 1, 0)))) (.branch 3 (.leaf (2, (.iload_n 2, 3, 0, 2, 0))) (.branch 4 (.leaf (3, (.iload_n 3, 4, 0, 3, 0))) (.leaf (4, (.iload 4, 6, 0, 4, 0)))))) (.branch 13 (.branch 9 (.leaf (6, (.invokevirtual 323, 9, 0, 100, 0))) (.branch 12 (.leaf (9, (.ifCond .ne 9, 12, 18, 0, 0))) (.leaf (12, (.aload_n 0, 13, 0, 0, 0))))) (.branch 14 (.leaf (13, (.iconst 1, 14, 0, 1, 0))) (.branch 17 (.leaf (14, (.invokevirtual 151, 17, 0, 42, 0))) (.leaf (17, (.ireturn, 18, 0, 0, 0))))))
noncomputable def xt_113 : Lean.RArray (Nat × xins) := xt_113_0
set_option maxRecDepth 100000 in
noncomputable def xt_114_0 : Lean.RArray (Nat × xins) := .branch 6 (.branch 2 (.branch 1 (.leaf (0, (.aload_n 0, 1, 0, 0, 0))) (.leaf (1, (.iload_n 1, 2, 0, 1, 0)))) (.branch 3 (.leaf (2, (.iload_n 2, 3, 0, 2, 0))) (.branch 4 (.leaf (3, (.iload_n 3, 4, 0, 3, 0))) (.leaf (4, (.iload 4, 6, 0, 4, 0)))))) (.branch 13 (.branch 9 (.leaf (6, (.invokevirtual 343, 9, 0, 102, 0))) (.branch 12 (.leaf (9, (.ifCond .ne 9, 12, 18, 0, 0))) (.leaf (12, (.aload_n 0, 13, 0, 0, 0))))) (.branch 14 (.leaf (13, (.iconst 1, 14, 0, 1, 0))) (.branch 17 (.leaf (14, (.invokevirtual 81, 17, 0, 64, 0))) (.leaf (17, (.ireturn, 18, 0, 0, 0))))))
noncomputable def xt_114 : Lean.RArray (Nat × xins) := xt_114_0
set_option maxRecDepth 100000 in
noncomputable def xt_115_0 : Lean.RArray (Nat × xins) := .branch 7 (.branch 4 (.branch 1 (.leaf (0, (.aload_n 0, 1, 0, 0, 0))) (.leaf (1, (.getfield 36, 4, 0, 11, 6)))) (.branch 5 (.leaf (4, (.iload_n 1, 5, 0, 1, 0))) (.branch 6 (.leaf (5, (.iload_n 2, 6, 0, 2, 0))) (.leaf (6, (.iload_n 3, 7, 0, 3, 0)))))) (.branch 14 (.branch 10 (.leaf (7, (.invokevirtual 317, 10, 0, 108, 0))) (.branch 13 (.leaf (10, (.ifCond .ne 9, 13, 19, 0, 0))) (.leaf (13, (.aload_n 0, 14, 0, 0, 0))))) (.branch 15 (.leaf (14, (.iconst 1, 15, 0, 1, 0))) (.branch 18 (.leaf (15, (.invokevirtual 151, 18, 0, 42, 0))) (.leaf (18, (.ireturn, 19, 0, 0, 0))))))
noncomputable def xt_115 : Lean.RArray (Nat × xins) := xt_115_0
set_option maxRecDepth 100000 in
noncomputable def xt_116_0 : Lean.RArray (Nat × xins) := .branch 7 (.branch 2 (.branch 1 (.leaf (0, (.aload_n 0, 1, 0, 0, 0))) (.leaf (1, (.iload_n 1, 2, 0, 1, 0)))) (.branch 3 (.leaf (2, (.iload_n 2, 3, 0, 2, 0))) (.branch 4 (.leaf (3, (.iload_n 3, 4, 0, 3, 0))) (.leaf (4, (.invokevirtual 340, 7, 0, 110, 0)))))) (.branch 25 (.branch 24 (.leaf (7, (.ifCond .eq 17, 10, 24, 0, 0))) (.leaf (24, (.aload_n 0, 25, 0, 0, 0)))) (.branch 26 (.leaf (25, (.iconst 1, 26, 0, 1, 0))) (.branch 29 (.leaf (26, (.invokevirtual 81, 29, 0, 64, 0))) (.leaf (29, (.ireturn, 30, 0, 0, 0))))))
noncomputable def xt_116 : Lean.RArray (Nat × xins) := xt_116_0
set_option maxRecDepth 100000 in
noncomputable def xt_117_0 : Lean.RArray (Nat × xins) := .branch 8 (.branch 4 (.branch 1 (.leaf (0, (.aload_n 0, 1, 0, 0, 0))) (.leaf (1, (.getfield 36, 4, 0, 11, 6)))) (.branch 5 (.leaf (4, (.iload_n 1, 5, 0, 1, 0))) (.leaf (5, (.invokevirtual 283, 8, 0, 96, 0))))) (.branch 12 (.branch 11 (.leaf (8, (.ifCond .ne 9, 11, 17, 0, 0))) (.leaf (11, (.aload_n 0, 12, 0, 0, 0)))) (.branch 13 (.leaf (12, (.iconst 1, 13, 0, 1, 0))) (.branch 16 (.leaf (13, (.invokevirtual 151, 16, 0, 42, 0))) (.leaf (16, (.ireturn, 17, 0, 0, 0))))))
noncomputable def xt_117 : Lean.RArray (Nat × xins) := xt_117_0
set_option maxRecDepth 100000 in
noncomputable def xt_118_0 : Lean.RArray (Nat × xins) := .branch 8 (.branch 2 (.branch 1 (.leaf (0, (.aload_n 0, 1, 0, 0, 0))) (.leaf (1, (.iload_n 1, 2, 0, 1, 0)))) (.branch 5 (.leaf (2, (.invokevirtual 318, 5, 0, 98, 0))) (.leaf (5, (.ifCond .ne 9, 8, 14, 0, 0))))) (.branch 10 (.branch 9 (.leaf (8, (.aload_n 0, 9, 0, 0, 0))) (.leaf (9, (.iconst 1, 10, 0, 1, 0)))) (.branch 13 (.leaf (10, (.invokevirtual 81, 13, 0, 64, 0))) (.leaf (13, (.ireturn, 14, 0, 0, 0)))))
noncomputable def xt_118 : Lean.RArray (Nat × xins) := xt_118_0
set_option maxRecDepth 100000 in
noncomputable def xt_119_0 : Lean.RArray (Nat × xins) := .branch 8 (.branch 4 (.branch 1 (.leaf (0, (.aload_n 0, 1, 0, 0, 0))) (.leaf (1, (.getfield 36, 4, 0, 11, 6)))) (.branch 5 (.leaf (4, (.iload_n 1, 5, 0, 1, 0))) (.leaf (5, (.invokevirtual 240, 8, 0, 84, 0))))) (.branch 23 (.branch 22 (.leaf (8, (.ifCond .eq 14, 11, 22, 0, 0))) (.leaf (22, (.aload_n 0, 23, 0, 0, 0)))) (.branch 24 (.leaf (23, (.iconst 1, 24, 0, 1, 0))) (.branch 27 (.leaf (24, (.invokevirtual 151, 27, 0, 42, 0))) (.leaf (27, (.ireturn, 28, 0, 0, 0))))))
noncomputable def xt_119 : Lean.RArray (Nat × xins) := xt_119_0
set_option maxRecDepth 100000 in
noncomputable def xt_120_0 : Lean.RArray (Nat × xins) := .branch 20 (.branch 2 (.branch 1 (.leaf (0, (.aload_n 0, 1, 0, 0, 0))) (.leaf (1, (.iload_n 1, 2, 0, 1, 0)))) (.branch 5 (.leaf (2, (.invokevirtual 264, 5, 0, 86, 0))) (.leaf (5, (.ifCond .eq 15, 8, 20, 0, 0))))) (.branch 22 (.branch 21 (.leaf (20, (.aload_n 0, 21, 0, 0, 0))) (.leaf (21, (.iconst 1, 22, 0, 1, 0)))) (.branch 25 (.leaf (22, (.invokevirtual 81, 25, 0, 64, 0))) (.leaf (25, (.ireturn, 26, 0, 0, 0)))))
noncomputable def xt_120 : Lean.RArray (Nat × xins) := xt_120_0
set_option maxRecDepth 100000 in
noncomputable def xt_121_0 : Lean.RArray (Nat × xins) := .branch 6 (.branch 2 (.branch 1 (.leaf (0, (.aload_n 0, 1, 0, 0, 0))) (.leaf (1, (.iload_n 1, 2, 0, 1, 0)))) (.branch 3 (.leaf (2, (.iload_n 2, 3, 0, 2, 0))) (.leaf (3, (.invokevirtual 267, 6, 0, 88, 0))))) (.branch 10 (.branch 9 (.leaf (6, (.ifCond .ne 9, 9, 15, 0, 0))) (.leaf (9, (.aload_n 0, 10, 0, 0, 0)))) (.branch 11 (.leaf (10, (.iconst 1, 11, 0, 1, 0))) (.branch 14 (.leaf (11, (.invokevirtual 125, 14, 0, 31, 0))) (.leaf (14, (.ireturn, 15, 0, 0, 0))))))
noncomputable def xt_121 : Lean.RArray (Nat × xins) := xt_121_0
set_option maxRecDepth 100000 in
noncomputable def xt_122_0 : Lean.RArray (Nat × xins) := .branch 6 (.branch 2 (.branch 1 (.leaf (0, (.aload_n 0, 1, 0, 0, 0))) (.leaf (1, (.iload_n 1, 2, 0, 1, 0)))) (.branch 3 (.leaf (2, (.iload_n 2, 3, 0, 2, 0))) (.leaf (3, (.invokevirtual 312, 6, 0, 90, 0))))) (.branch 10 (.branch 9 (.leaf (6, (.ifCond .ne 9, 9, 15, 0, 0))) (.leaf (9, (.aload_n 0, 10, 0, 0, 0)))) (.branch 11 (.leaf (10, (.iconst 1, 11, 0, 1, 0))) (.branch 14 (.leaf (11, (.invokevirtual 88, 14, 0, 36, 0))) (.leaf (14, (.ireturn, 15, 0, 0, 0))))))
noncomputable def xt_122 : Lean.RArray (Nat × xins) := xt_122_0
set_option maxRecDepth 100000 in
noncomputable def xt_123_0 : Lean.RArray (Nat × xins) := .branch 15 (.branch 7 (.branch 2 (.branch 1 (.leaf (0, (.iload_n 1, 1, 0, 1, 0))) (.leaf (1, (.iconst 0, 2, 0, 0, 0)))) (.branch 4 (.leaf (2, (.bipush 60, 4, 0, 60, 0))) (.leaf (4, (.invokestatic 117, 7, 0, 30, 0))))) (.branch 11 (.branch 10 (.leaf (7, (.ifCond .ne 9, 10, 16, 0, 0))) (.leaf (10, (.aload_n 0, 11, 0, 0, 0)))) (.branch 12 (.leaf (11, (.iconst 1, 12, 0, 1, 0))) (.leaf (12, (.invokevirtual 125, 15, 0, 31, 0)))))) (.branch 21 (.branch 17 (.branch 16 (.leaf (15, (.ireturn, 16, 0, 0, 0))) (.leaf (16, (.aload_n 0, 17, 0, 0, 0)))) (.branch 20 (.leaf (17, (.getfield 36, 20, 0, 11, 6))) (.leaf (20, (.iload_n 1, 21, 0, 1, 0))))) (.branch 25 (.branch 24 (.leaf (21, (.putfield 227, 24, 0, 0, 7))) (.leaf (24, (.aload_n 0, 25, 0, 0, 0)))) (.branch 28 (.leaf (25, (.invokevirtual 132, 28, 0, 33, 0))) (.leaf (28, (.ireturn, 29, 0, 0, 0))))))
noncomputable def xt_123 : Lean.RArray (Nat × xins) := xt_123_0
set_option maxRecDepth 100000 in
noncomputable def xt_124_0 : Lean.RArray (Nat × xins) := .branch 17 (.branch 6 (.branch 2 (.branch 1 (.leaf (0, (.iload_n 1, 1, 0, 1, 0))) (.leaf (1, (.i2l, 2, 0, 0, 0)))) (.branch 3 (.leaf (2, (.lconst 0, 3, 0, 0, 0))) (.leaf (3, (.ldc2_w 388, 6, 0, 60, 0))))) (.branch 12 (.branch 9 (.leaf (6, (.invokestatic 384, 9, 0, 125, 0))) (.leaf (9, (.ifCond .ne 9, 12, 18, 0, 0)))) (.branch 13 (.leaf (12, (.aload_n 0, 13, 0, 0, 0))) (.branch 14 (.leaf (13, (.iconst 1, 14, 0, 1, 0))) (.leaf (14, (.invokevirtual 88, 17, 0, 36, 0))))))) (.branch 24 (.branch 19 (.branch 18 (.leaf (17, (.ireturn, 18, 0, 0, 0))) (.leaf (18, (.aload_n 0, 19, 0, 0, 0)))) (.branch 22 (.leaf (19, (.getfield 7, 22, 0, 12, 0))) (.branch 23 (.leaf (22, (.iconst 5, 23, 0, 5, 0))) (.leaf (23, (.iload_n 1, 24, 0, 1, 0)))))) (.branch 26 (.branch 25 (.leaf (24, (.iastore, 25, 0, 0, 0))) (.leaf (25, (.aload_n 0, 26, 0, 0, 0)))) (.branch 27 (.leaf (26, (.iconst 0, 27, 0, 0, 0))) (.branch 30 (.leaf (27, (.invokevirtual 88, 30, 0, 36, 0))) (.leaf (30, (.ireturn, 31, 0, 0, 0)))))))
noncomputable def xt_124 : Lean.RArray (Nat × xins) := xt_124_0
set_option maxRecDepth 100000 in
noncomputable def xt_125_0 : Lean.RArray (Nat × xins) := .branch 9 (.branch 3 (.branch 1 (.leaf (0, (.lload_n 0, 1, 0, 0, 0))) (.branch 2 (.leaf (1, (.lload_n 2, 2, 0, 2, 0))) (.leaf (2, (.lcmp, 3, 0, 0, 0))))) (.branch 6 (.leaf (3, (.ifCond .lt 14, 6, 17, 0, 0))) (.branch 7 (.leaf (6, (.lload_n 0, 7, 0, 0, 0))) (.leaf (7, (.lload 4, 9, 0, 4, 0)))))) (.branch 14 (.branch 10 (.leaf (9, (.lcmp, 10, 0, 0, 0))) (.branch 13 (.leaf (10, (.ifCond .gt 7, 13, 17, 0, 0))) (.leaf (13, (.iconst 1, 14, 0, 1, 0))))) (.branch 17 (.leaf (14, (.goto 4, 17, 18, 0, 0))) (.branch 18 (.leaf (17, (.iconst 0, 18, 0, 0, 0))) (.leaf (18, (.ireturn, 19, 0, 0, 0))))))
noncomputable def xt_125 : Lean.RArray (Nat × xins) := xt_125_0
set_option maxRecDepth 100000 in
noncomputable def xt_126_0 : Lean.RArray (Nat × xins) := .branch 8 (.branch 4 (.branch 1 (.leaf (0, (.aload_n 0, 1, 0, 0, 0))) (.leaf (1, (.getfield 36, 4, 0, 11, 6)))) (.branch 5 (.leaf (4, (.iload_n 1, 5, 0, 1, 0))) (.leaf (5, (.invokevirtual 283, 8, 0, 96, 0))))) (.branch 23 (.branch 22 (.leaf (8, (.ifCond .eq 14, 11, 22, 0, 0))) (.leaf (22, (.aload_n 0, 23, 0, 0, 0)))) (.branch 24 (.leaf (23, (.iconst 1, 24, 0, 1, 0))) (.branch 27 (.leaf (24, (.invokevirtual 151, 27, 0, 42, 0))) (.leaf (27, (.ireturn, 28, 0, 0, 0))))))
noncomputable def xt_126 : Lean.RArray (Nat × xins) := xt_126_0
set_option maxRecDepth 100000 in
noncomputable def xt_127_0 : Lean.RArray (Nat × xins) := .branch 16 (.branch 2 (.branch 1 (.leaf (0, (.aload_n 0, 1, 0, 0, 0))) (.leaf (1, (.iload_n 1, 2, 0, 1, 0)))) (.branch 5 (.leaf (2, (.invokevirtual 318, 5, 0, 98, 0))) (.leaf (5, (.ifCond .eq 11, 8, 16, 0, 0))))) (.branch 18 (.branch 17 (.leaf (16, (.aload_n 0, 17, 0, 0, 0))) (.leaf (17, (.iconst 1, 18, 0, 1, 0)))) (.branch 21 (.leaf (18, (.invokevirtual 81, 21, 0, 64, 0))) (.leaf (21, (.ireturn, 22, 0, 0, 0)))))
noncomputable def xt_127 : Lean.RArray (Nat × xins) := xt_127_0
set_option maxRecDepth 100000 in
noncomputable def xt_128_0 : Lean.RArray (Nat × xins) := .branch 8 (.branch 4 (.branch 1 (.leaf (0, (.aload_n 0, 1, 0, 0, 0))) (.leaf (1, (.getfield 36, 4, 0, 11, 6)))) (.branch 5 (.leaf (4, (.iload_n 1, 5, 0, 1, 0))) (.leaf (5, (.invokevirtual 233, 8, 0, 80, 0))))) (.branch 23 (.branch 22 (.leaf (8, (.ifCond .eq 14, 11, 22, 0, 0))) (.leaf (22, (.aload_n 0, 23, 0, 0, 0)))) (.branch 24 (.leaf (23, (.iconst 1, 24, 0, 1, 0))) (.branch 27 (.leaf (24, (.invokevirtual 151, 27, 0, 42, 0))) (.leaf (27, (.ireturn, 28, 0, 0, 0))))))
noncomputable def xt_128 : Lean.RArray (Nat × xins) := xt_128_0
set_option maxRecDepth 100000 in
noncomputable def xt_129_0 : Lean.RArray (Nat × xins) := .branch 16 (.branch 2 (.branch 1 (.leaf (0, (.aload_n 0, 1, 0, 0, 0))) (.leaf (1, (.iload_n 1, 2, 0, 1, 0)))) (.branch 5 (.leaf (2, (.invokevirtual 267, 5, 0, 82, 0))) (.leaf (5, (.ifCond .eq 11, 8, 16, 0, 0))))) (.branch 18 (.branch 17 (.leaf (16, (.aload_n 0, 17, 0, 0, 0))) (.leaf (17, (.iconst 1, 18, 0, 1, 0)))) (.branch 21 (.leaf (18, (.invokevirtual 81, 21, 0, 64, 0))) (.leaf (21, (.ireturn, 22, 0, 0, 0)))))
noncomputable def xt_129 : Lean.RArray (Nat × xins) := xt_129_0
set_option maxRecDepth 100000 in
noncomputable def xt_130_0 : Lean.RArray (Nat × xins) := .branch 6 (.branch 2 (.branch 1 (.leaf (0, (.aload_n 0, 1, 0, 0, 0))) (.leaf (1, (.iload_n 1, 2, 0, 1, 0)))) (.branch 3 (.leaf (2, (.iload_n 2, 3, 0, 2, 0))) (.leaf (3, (.invokevirtual 367, 6, 0, 131, 0))))) (.branch 10 (.branch 9 (.leaf (6, (.ifCond .ne 9, 9, 15, 0, 0))) (.leaf (9, (.aload_n 0, 10, 0, 0, 0)))) (.branch 11 (.leaf (10, (.iconst 1, 11, 0, 1, 0))) (.branch 14 (.leaf (11, (.invokevirtual 151, 14, 0, 42, 0))) (.leaf (14, (.ireturn, 15, 0, 0, 0))))))
noncomputable def xt_130 : Lean.RArray (Nat × xins) := xt_130_0
set_option maxRecDepth 100000 in
noncomputable def xt_131_0 : Lean.RArray (Nat × xins) := .branch 5 (.branch 1 (.leaf (0, (.aload_n 0, 1, 0, 0, 0))) (.branch 4 (.leaf (1, (.getfield 36, 4, 0, 11, 6))) (.leaf (4, (.iload_n 1, 5, 0, 1, 0))))) (.branch 22 (.branch 8 (.leaf (5, (.invokevirtual 240, 8, 0, 84, 0))) (.leaf (8, (.ifCond .eq 14, 11, 22, 0, 0)))) (.branch 23 (.leaf (22, (.iconst 0, 23, 0, 0, 0))) (.leaf (23, (.ireturn, 24, 0, 0, 0)))))
noncomputable def xt_131 : Lean.RArray (Nat × xins) := xt_131_0
set_option maxRecDepth 100000 in
noncomputable def xt_132_0 : Lean.RArray (Nat × xins) := .branch 15 (.branch 2 (.branch 1 (.leaf (0, (.aload_n 0, 1, 0, 0, 0))) (.leaf (1, (.iload_n 1, 2, 0, 1, 0)))) (.branch 5 (.leaf (2, (.invokevirtual 264, 5, 0, 86, 0))) (.leaf (5, (.ifCond .eq 10, 8, 15, 0, 0))))) (.branch 17 (.branch 16 (.leaf (15, (.aload_n 0, 16, 0, 0, 0))) (.leaf (16, (.iconst 1, 17, 0, 1, 0)))) (.branch 20 (.leaf (17, (.invokevirtual 81, 20, 0, 64, 0))) (.leaf (20, (.ireturn, 21, 0, 0, 0)))))
noncomputable def xt_132 : Lean.RArray (Nat × xins) := xt_132_0
set_option maxRecDepth 100000 in
noncomputable def xt_133_0 : Lean.RArray (Nat × xins) := .branch 8 (.branch 4 (.branch 1 (.leaf (0, (.aload_n 0, 1, 0, 0, 0))) (.leaf (1, (.getfield 36, 4, 0, 11, 6)))) (.branch 5 (.leaf (4, (.iload_n 1, 5, 0, 1, 0))) (.leaf (5, (.invokevirtual 240, 8, 0, 84, 0))))) (.branch 12 (.branch 11 (.leaf (8, (.ifCond .ne 9, 11, 17, 0, 0))) (.leaf (11, (.aload_n 0, 12, 0, 0, 0)))) (.branch 13 (.leaf (12, (.iconst 1, 13, 0, 1, 0))) (.branch 16 (.leaf (13, (.invokevirtual 151, 16, 0, 42, 0))) (.leaf (16, (.ireturn, 17, 0, 0, 0))))))
noncomputable def xt_133 : Lean.RArray (Nat × xins) := xt_133_0
set_option maxRecDepth 100000 in
noncomputable def xt_134_0 : Lean.RArray (Nat × xins) := .branch 21 (.branch 2 (.branch 1 (.leaf (0, (.aload_n 0, 1, 0, 0, 0))) (.leaf (1, (.iload_n 1, 2, 0, 1, 0)))) (.branch 5 (.leaf (2, (.invokevirtual 264, 5, 0, 86, 0))) (.leaf (5, (.ifCond .eq 16, 8, 21, 0, 0))))) (.branch 23 (.branch 22 (.leaf (21, (.aload_n 0, 22, 0, 0, 0))) (.leaf (22, (.iconst 1, 23, 0, 1, 0)))) (.branch 26 (.leaf (23, (.invokevirtual 81, 26, 0, 64, 0))) (.leaf (26, (.ireturn, 27, 0, 0, 0)))))
noncomputable def xt_134 : Lean.RArray (Nat × xins) := xt_134_0
set_option maxRecDepth 100000 in
noncomputable def xt_135_0 : Lean.RArray (Nat × xins) := .branch 6 (.branch 2 (.branch 1 (.leaf (0, (.aload_n 0, 1, 0, 0, 0))) (.leaf (1, (.iload_n 1, 2, 0, 1, 0)))) (.branch 3 (.leaf (2, (.iload_n 2, 3, 0, 2, 0))) (.leaf (3, (.invokevirtual 367, 6, 0, 131, 0))))) (.branch 10 (.branch 9 (.leaf (6, (.ifCond .ne 9, 9, 15, 0, 0))) (.leaf (9, (.aload_n 0, 10, 0, 0, 0)))) (.branch 11 (.leaf (10, (.iconst 1, 11, 0, 1, 0))) (.branch 14 (.leaf (11, (.invokevirtual 151, 14, 0, 42, 0))) (.leaf (14, (.ireturn, 15, 0, 0, 0))))))
noncomputable def xt_135 : Lean.RArray (Nat × xins) := xt_135_0
set_option maxRecDepth 100000 in
noncomputable def xt_136_0 : Lean.RArray (Nat × xins) := .branch 15 (.branch 2 (.branch 1 (.leaf (0, (.aload_n 0, 1, 0, 0, 0))) (.leaf (1, (.iload_n 1, 2, 0, 1, 0)))) (.branch 5 (.leaf (2, (.invokevirtual 264, 5, 0, 86, 0))) (.leaf (5, (.ifCond .eq 10, 8, 15, 0, 0))))) (.branch 17 (.branch 16 (.leaf (15, (.aload_n 0, 16, 0, 0, 0))) (.leaf (16, (.iconst 1, 17, 0, 1, 0)))) (.branch 20 (.leaf (17, (.invokevirtual 81, 20, 0, 64, 0))) (.leaf (20, (.ireturn, 21, 0, 0, 0)))))
noncomputable def xt_136 : Lean.RArray (Nat × xins) := xt_136_0
set_option maxRecDepth 100000 in
noncomputable def xt_137_0 : Lean.RArray (Nat × xins) := .branch 8 (.branch 4 (.branch 1 (.leaf (0, (.aload_n 0, 1, 0, 0, 0))) (.leaf (1, (.getfield 36, 4, 0, 11, 6)))) (.branch 5 (.leaf (4, (.iload_n 1, 5, 0, 1, 0))) (.leaf (5, (.invokevirtual 240, 8, 0, 84, 0))))) (.branch 12 (.branch 11 (.leaf (8, (.ifCond .ne 9, 11, 17, 0, 0))) (.leaf (11, (.aload_n 0, 12, 0, 0, 0)))) (.branch 13 (.leaf (12, (.iconst 1, 13, 0, 1, 0))) (.branch 16 (.leaf (13, (.invokevirtual 151, 16, 0, 42, 0))) (.leaf (16, (.ireturn, 17, 0, 0, 0))))))
noncomputable def xt_137 : Lean.RArray (Nat × xins) := xt_137_0
set_option maxRecDepth 100000 in
noncomputable def xt_138_0 : Lean.RArray (Nat × xins) := .branch 23 (.branch 2 (.branch 1 (.leaf (0, (.aload_n 0, 1, 0, 0, 0))) (.leaf (1, (.iload_n 1, 2, 0, 1, 0)))) (.branch 5 (.leaf (2, (.invokevirtual 264, 5, 0, 86, 0))) (.leaf (5, (.ifCond .eq 18, 8, 23, 0, 0))))) (.branch 25 (.branch 24 (.leaf (23, (.aload_n 0, 24, 0, 0, 0))) (.leaf (24, (.iconst 1, 25, 0, 1, 0)))) (.branch 28 (.leaf (25, (.invokevirtual 81, 28, 0, 64, 0))) (.leaf (28, (.ireturn, 29, 0, 0, 0)))))
noncomputable def xt_138 : Lean.RArray (Nat × xins) := xt_138_0
set_option maxRecDepth 100000 in
noncomputable def xt_139_0 : Lean.RArray (Nat × xins) := .branch 8 (.branch 4 (.branch 1 (.leaf (0, (.aload_n 0, 1, 0, 0, 0))) (.leaf (1, (.getfield 36, 4, 0, 11, 6)))) (.branch 5 (.leaf (4, (.iload_n 1, 5, 0, 1, 0))) (.leaf (5, (.invokevirtual 240, 8, 0, 84, 0))))) (.branch 12 (.branch 11 (.leaf (8, (.ifCond .ne 9, 11, 17, 0, 0))) (.leaf (11, (.aload_n 0, 12, 0, 0, 0)))) (.branch 13 (.leaf (12, (.iconst 1, 13, 0, 1, 0))) (.branch 16 (.leaf (13, (.invokevirtual 151, 16, 0, 42, 0))) (.leaf (16, (.ireturn, 17, 0, 0, 0))))))
noncomputable def xt_139 : Lean.RArray (Nat × xins) := xt_139_0
set_option maxRecDepth 100000 in
noncomputable def xt_140_0 : Lean.RArray (Nat × xins) := .branch 20 (.branch 2 (.branch 1 (.leaf (0, (.aload_n 0, 1, 0, 0, 0))) (.leaf (1, (.iload_n 1, 2, 0, 1, 0)))) (.branch 5 (.leaf (2, (.invokevirtual 264, 5, 0, 86, 0))) (.leaf (5, (.ifCond .eq 15, 8, 20, 0, 0))))) (.branch 22 (.branch 21 (.leaf (20, (.aload_n 0, 21, 0, 0, 0))) (.leaf (21, (.iconst 1, 22, 0, 1, 0)))) (.branch 25 (.leaf (22, (.invokevirtual 81, 25, 0, 64, 0))) (.leaf (25, (.ireturn, 26, 0, 0, 0)))))
noncomputable def xt_140 : Lean.RArray (Nat × xins) := xt_140_0
set_option maxRecDepth 100000 in
noncomputable def xt_141_0 : Lean.RArray (Nat × xins) := .branch 8 (.branch 4 (.branch 1 (.leaf (0, (.aload_n 0, 1, 0, 0, 0))) (.leaf (1, (.getfield 36, 4, 0, 11, 6)))) (.branch 5 (.leaf (4, (.iload_n 1, 5, 0, 1, 0))) (.leaf (5, (.invokevirtual 240, 8, 0, 84, 0))))) (.branch 27 (.branch 26 (.leaf (8, (.ifCond .eq 18, 11, 26, 0, 0))) (.leaf (26, (.aload_n 0, 27, 0, 0, 0)))) (.branch 28 (.leaf (27, (.iconst 1, 28, 0, 1, 0))) (.branch 31 (.leaf (28, (.invokevirtual 151, 31, 0, 42, 0))) (.leaf (31, (.ireturn, 32, 0, 0, 0))))))
noncomputable def xt_141 : Lean.RArray (Nat × xins) := xt_141_0
set_option maxRecDepth 100000 in
noncomputable def xt_142_0 : Lean.RArray (Nat × xins) := .branch 8 (.branch 2 (.branch 1 (.leaf (0, (.aload_n 0, 1, 0, 0, 0))) (.leaf (1, (.iload_n 1, 2, 0, 1, 0)))) (.branch 5 (.leaf (2, (.invokevirtual 264, 5, 0, 86, 0))) (.leaf (5, (.ifCond .ne 9, 8, 14, 0, 0))))) (.branch 10 (.branch 9 (.leaf (8, (.aload_n 0, 9, 0, 0, 0))) (.leaf (9, (.iconst 1, 10, 0, 1, 0)))) (.branch 13 (.leaf (10, (.invokevirtual 81, 13, 0, 64, 0))) (.leaf (13, (.ireturn, 14, 0, 0, 0)))))
noncomputable def xt_142 : Lean.RArray (Nat × xins) := xt_142_0
set_option maxRecDepth 100000 in
noncomputable def xt_143_0 : Lean.RArray (Nat × xins) := .branch 8 (.branch 4 (.branch 1 (.leaf (0, (.aload_n 0, 1, 0, 0, 0))) (.leaf (1, (.getfield 36, 4, 0, 11, 6)))) (.branch 5 (.leaf (4, (.iload_n 1, 5, 0, 1, 0))) (.leaf (5, (.invokevirtual 240, 8, 0, 84, 0))))) (.branch 27 (.branch 26 (.leaf (8, (.ifCond .eq 18, 11, 26, 0, 0))) (.leaf (26, (.aload_n 0, 27, 0, 0, 0)))) (.branch 28 (.leaf (27, (.iconst 1, 28, 0, 1, 0))) (.branch 31 (.leaf (28, (.invokevirtual 151, 31, 0, 42, 0))) (.leaf (31, (.ireturn, 32, 0, 0, 0))))))
noncomputable def xt_143 : Lean.RArray (Nat × xins) := xt_143_0
set_option maxRecDepth 100000 in
noncomputable def xt_144_0 : Lean.RArray (Nat × xins) := .branch 20 (.branch 2 (.branch 1 (.leaf (0, (.aload_n 0, 1, 0, 0, 0))) (.leaf (1, (.iload_n 1, 2, 0, 1, 0)))) (.branch 5 (.leaf (2, (.invokevirtual 264, 5, 0, 86, 0))) (.leaf (5, (.ifCond .eq 15, 8, 20, 0, 0))))) (.branch 22 (.branch 21 (.leaf (20, (.aload_n 0, 21, 0, 0, 0))) (.leaf (21, (.iconst 1, 22, 0, 1, 0)))) (.branch 25 (.leaf (22, (.invokevirtual 81, 25, 0, 64, 0))) (.leaf (25, (.ireturn, 26, 0, 0, 0)))))
noncomputable def xt_144 : Lean.RArray (Nat × xins) := xt_144_0
set_option maxRecDepth 100000 in
noncomputable def xt_145_0 : Lean.RArray (Nat × xins) := .branch 6 (.branch 2 (.branch 1 (.leaf (0, (.aload_n 0, 1, 0, 0, 0))) (.leaf (1, (.iload_n 1, 2, 0, 1, 0)))) (.branch 3 (.leaf (2, (.iload_n 2, 3, 0, 2, 0))) (.leaf (3, (.invokevirtual 367, 6, 0, 131, 0))))) (.branch 10 (.branch 9 (.leaf (6, (.ifCond .ne 9, 9, 15, 0, 0))) (.leaf (9, (.aload_n 0, 10, 0, 0, 0)))) (.branch 11 (.leaf (10, (.iconst 1, 11, 0, 1, 0))) (.branch 14 (.leaf (11, (.invokevirtual 151, 14, 0, 42, 0))) (.leaf (14, (.ireturn, 15, 0, 0, 0))))))
noncomputable def xt_145 : Lean.RArray (Nat × xins) := xt_145_0
set_option maxRecDepth 100000 in
noncomputable def xt_146_0 : Lean.RArray (Nat × xins) := .branch 15 (.branch 2 (.branch 1 (.leaf (0, (.aload_n 0, 1, 0, 0, 0))) (.leaf (1, (.iload_n 1, 2, 0, 1, 0)))) (.branch 5 (.leaf (2, (.invokevirtual 264, 5, 0, 86, 0))) (.leaf (5, (.ifCond .eq 10, 8, 15, 0, 0))))) (.branch 17 (.branch 16 (.leaf (15, (.aload_n 0, 16, 0, 0, 0))) (.leaf (16, (.iconst 1, 17, 0, 1, 0)))) (.branch 20 (.leaf (17, (.invokevirtual 81, 20, 0, 64, 0))) (.leaf (20, (.ireturn, 21, 0, 0, 0)))))
noncomputable def xt_146 : Lean.RArray (Nat × xins) := xt_146_0
set_option maxRecDepth 100000 in
noncomputable def xt_147_0 : Lean.RArray (Nat × xins) := .branch 7 (.branch 4 (.branch 1 (.leaf (0, (.aload_n 0, 1, 0, 0, 0))) (.leaf (1, (.getfield 36, 4, 0, 11, 6)))) (.branch 5 (.leaf (4, (.iload_n 1, 5, 0, 1, 0))) (.branch 6 (.leaf (5, (.iload_n 2, 6, 0, 2, 0))) (.leaf (6, (.iload_n 3, 7, 0, 3, 0)))))) (.branch 25 (.branch 10 (.leaf (7, (.invokevirtual 317, 10, 0, 108, 0))) (.branch 24 (.leaf (10, (.ifCond .eq 14, 13, 24, 0, 0))) (.leaf (24, (.aload_n 0, 25, 0, 0, 0))))) (.branch 26 (.leaf (25, (.iconst 1, 26, 0, 1, 0))) (.branch 29 (.leaf (26, (.invokevirtual 151, 29, 0, 42, 0))) (.leaf (29, (.ireturn, 30, 0, 0, 0))))))
noncomputable def xt_147 : Lean.RArray (Nat × xins) := xt_147_0
set_option maxRecDepth 100000 in
noncomputable def xt_148_0 : Lean.RArray (Nat × xins) := .branch 7 (.branch 2 (.branch 1 (.leaf (0, (.aload_n 0, 1, 0, 0, 0))) (.leaf (1, (.iload_n 1, 2, 0, 1, 0)))) (.branch 3 (.leaf (2, (.iload_n 2, 3, 0, 2, 0))) (.branch 4 (.leaf (3, (.iload_n 3, 4, 0, 3, 0))) (.leaf (4, (.invokevirtual 340, 7, 0, 110, 0)))))) (.branch 24 (.branch 23 (.leaf (7, (.ifCond .eq 16, 10, 23, 0, 0))) (.leaf (23, (.aload_n 0, 24, 0, 0, 0)))) (.branch 25 (.leaf (24, (.iconst 1, 25, 0, 1, 0))) (.branch 28 (.leaf (25, (.invokevirtual 81, 28, 0, 64, 0))) (.leaf (28, (.ireturn, 29, 0, 0, 0))))))
noncomputable def xt_148 : Lean.RArray (Nat × xins) := xt_148_0
set_option maxRecDepth 100000 in
noncomputable def xt_149_0 : Lean.RArray (Nat × xins) := .branch 14 (.branch 6 (.branch 2 (.branch 1 (.leaf (0, (.iload_n 1, 1, 0, 1, 0))) (.leaf (1, (.iconst 0, 2, 0, 0, 0)))) (.branch 3 (.leaf (2, (.iconst 1, 3, 0, 1, 0))) (.leaf (3, (.invokestatic 117, 6, 0, 30, 0))))) (.branch 10 (.branch 9 (.leaf (6, (.ifCond .ne 9, 9, 15, 0, 0))) (.leaf (9, (.aload_n 0, 10, 0, 0, 0)))) (.branch 11 (.leaf (10, (.iconst 1, 11, 0, 1, 0))) (.leaf (11, (.invokevirtual 151, 14, 0, 42, 0)))))) (.branch 22 (.branch 16 (.branch 15 (.leaf (14, (.ireturn, 15, 0, 0, 0))) (.leaf (15, (.aload_n 0, 16, 0, 0, 0)))) (.branch 19 (.leaf (16, (.getfield 82, 19, 0, 11, 13))) (.leaf (19, (.getfield 396, 22, 0, 3, 4))))) (.branch 26 (.branch 25 (.leaf (22, (.ifCond .ne 10, 25, 32, 0, 0))) (.leaf (25, (.aload_n 0, 26, 0, 0, 0)))) (.branch 28 (.leaf (26, (.bipush 6, 28, 0, 6, 0))) (.branch 31 (.leaf (28, (.invokevirtual 151, 31, 0, 42, 0))) (.leaf (31, (.ireturn, 32, 0, 0, 0)))))))
noncomputable def xt_149 : Lean.RArray (Nat × xins) := xt_149_0
set_option maxRecDepth 100000 in
noncomputable def xt_150_0 : Lean.RArray (Nat × xins) := .branch 14 (.branch 6 (.branch 4 (.branch 1 (.leaf (0, (.iload_n 1, 1, 0, 1, 0))) (.leaf (1, (.ifCond .lt 8, 4, 9, 0, 0)))) (.branch 5 (.leaf (4, (.iload_n 1, 5, 0, 1, 0))) (.leaf (5, (.iconst 1, 6, 0, 1, 0))))) (.branch 10 (.branch 9 (.leaf (6, (.if_icmp .le 11, 9, 17, 0, 0))) (.leaf (9, (.aload_n 0, 10, 0, 0, 0)))) (.branch 11 (.leaf (10, (.iconst 1, 11, 0, 1, 0))) (.leaf (11, (.invokevirtual 81, 14, 0, 64, 0)))))) (.branch 46 (.branch 18 (.branch 17 (.leaf (14, (.goto 38, 17, 52, 0, 0))) (.leaf (17, (.aload_n 0, 18, 0, 0, 0)))) (.branch 21 (.leaf (18, (.getfield 415, 21, 0, 12, 30))) (.leaf (21, (.ifCond .eq 25, 24, 46, 0, 0))))) (.branch 49 (.branch 47 (.leaf (46, (.aload_n 0, 47, 0, 0, 0))) (.leaf (47, (.bipush 6, 49, 0, 6, 0)))) (.branch 52 (.leaf (49, (.invokevirtual 81, 52, 0, 64, 0))) (.leaf (52, (.ireturn, 53, 0, 0, 0))))))
noncomputable def xt_150 : Lean.RArray (Nat × xins) := xt_150_0
set_option maxRecDepth 100000 in
noncomputable def xt_151_0 : Lean.RArray (Nat × xins) := .branch 8 (.branch 4 (.branch 1 (.leaf (0, (.aload_n 0, 1, 0, 0, 0))) (.leaf (1, (.getfield 36, 4, 0, 11, 6)))) (.branch 5 (.leaf (4, (.iload_n 1, 5, 0, 1, 0))) (.leaf (5, (.invokevirtual 240, 8, 0, 84, 0))))) (.branch 23 (.branch 22 (.leaf (8, (.ifCond .eq 14, 11, 22, 0, 0))) (.leaf (22, (.aload_n 0, 23, 0, 0, 0)))) (.branch 24 (.leaf (23, (.iconst 1, 24, 0, 1, 0))) (.branch 27 (.leaf (24, (.invokevirtual 151, 27, 0, 42, 0))) (.leaf (27, (.ireturn, 28, 0, 0, 0))))))
noncomputable def xt_151 : Lean.RArray (Nat × xins) := xt_151_0
set_option maxRecDepth 100000 in
noncomputable def xt_152_0 : Lean.RArray (Nat × xins) := .branch 16 (.branch 2 (.branch 1 (.leaf (0, (.aload_n 0, 1, 0, 0, 0))) (.leaf (1, (.iload_n 1, 2, 0, 1, 0)))) (.branch 5 (.leaf (2, (.invokevirtual 264, 5, 0, 86, 0))) (.leaf (5, (.ifCond .eq 11, 8, 16, 0, 0))))) (.branch 18 (.branch 17 (.leaf (16, (.aload_n 0, 17, 0, 0, 0))) (.leaf (17, (.iconst 1, 18, 0, 1, 0)))) (.branch 21 (.leaf (18, (.invokevirtual 81, 21, 0, 64, 0))) (.leaf (21, (.ireturn, 22, 0, 0, 0)))))
noncomputable def xt_152 : Lean.RArray (Nat × xins) := xt_152_0
set_option maxRecDepth 100000 in
noncomputable def xt_153_0 : Lean.RArray (Nat × xins) := .branch 14 (.branch 6 (.branch 2 (.branch 1 (.leaf (0, (.iload_n 1, 1, 0, 1, 0))) (.leaf (1, (.iconst 0, 2, 0, 0, 0)))) (.branch 3 (.leaf (2, (.iconst 2, 3, 0, 2, 0))) (.leaf (3, (.invokestatic 117, 6, 0, 30, 0))))) (.branch 10 (.branch 9 (.leaf (6, (.ifCond .ne 9, 9, 15, 0, 0))) (.leaf (9, (.aload_n 0, 10, 0, 0, 0)))) (.branch 11 (.leaf (10, (.iconst 1, 11, 0, 1, 0))) (.leaf (11, (.invokevirtual 151, 14, 0, 42, 0)))))) (.branch 22 (.branch 16 (.branch 15 (.leaf (14, (.ireturn, 15, 0, 0, 0))) (.leaf (15, (.aload_n 0, 16, 0, 0, 0)))) (.branch 19 (.leaf (16, (.getfield 82, 19, 0, 11, 13))) (.leaf (19, (.getfield 408, 22, 0, 3, 7))))) (.branch 26 (.branch 25 (.leaf (22, (.ifCond .ne 10, 25, 32, 0, 0))) (.leaf (25, (.aload_n 0, 26, 0, 0, 0)))) (.branch 28 (.leaf (26, (.bipush 6, 28, 0, 6, 0))) (.branch 31 (.leaf (28, (.invokevirtual 151, 31, 0, 42, 0))) (.leaf (31, (.ireturn, 32, 0, 0, 0)))))))
noncomputable def xt_153 : Lean.RArray (Nat × xins) := xt_153_0
set_option maxRecDepth 100000 in
noncomputable def xt_154_0 : Lean.RArray (Nat × xins) := .branch 14 (.branch 6 (.branch 4 (.branch 1 (.leaf (0, (.iload_n 1, 1, 0, 1, 0))) (.leaf (1, (.ifCond .lt 8, 4, 9, 0, 0)))) (.branch 5 (.leaf (4, (.iload_n 1, 5, 0, 1, 0))) (.leaf (5, (.iconst 2, 6, 0, 2, 0))))) (.branch 10 (.branch 9 (.leaf (6, (.if_icmp .le 11, 9, 17, 0, 0))) (.leaf (9, (.aload_n 0, 10, 0, 0, 0)))) (.branch 11 (.leaf (10, (.iconst 1, 11, 0, 1, 0))) (.leaf (11, (.invokevirtual 81, 14, 0, 64, 0)))))) (.branch 37 (.branch 18 (.branch 17 (.leaf (14, (.goto 29, 17, 43, 0, 0))) (.leaf (17, (.aload_n 0, 18, 0, 0, 0)))) (.branch 21 (.leaf (18, (.getfield 420, 21, 0, 12, 32))) (.leaf (21, (.ifCond .eq 16, 24, 37, 0, 0))))) (.branch 40 (.branch 38 (.leaf (37, (.aload_n 0, 38, 0, 0, 0))) (.leaf (38, (.bipush 6, 40, 0, 6, 0)))) (.branch 43 (.leaf (40, (.invokevirtual 81, 43, 0, 64, 0))) (.leaf (43, (.ireturn, 44, 0, 0, 0))))))
noncomputable def xt_154 : Lean.RArray (Nat × xins) := xt_154_0
set_option maxRecDepth 100000 in
noncomputable def xt_155_0 : Lean.RArray (Nat × xins) := .branch 8 (.branch 4 (.branch 1 (.leaf (0, (.aload_n 0, 1, 0, 0, 0))) (.leaf (1, (.getfield 36, 4, 0, 11, 6)))) (.branch 5 (.leaf (4, (.iload_n 1, 5, 0, 1, 0))) (.leaf (5, (.invokevirtual 240, 8, 0, 84, 0))))) (.branch 23 (.branch 22 (.leaf (8, (.ifCond .eq 14, 11, 22, 0, 0))) (.leaf (22, (.aload_n 0, 23, 0, 0, 0)))) (.branch 24 (.leaf (23, (.iconst 1, 24, 0, 1, 0))) (.branch 27 (.leaf (24, (.invokevirtual 151, 27, 0, 42, 0))) (.leaf (27, (.ireturn, 28, 0, 0, 0))))))
noncomputable def xt_155 : Lean.RArray (Nat × xins) := xt_155_0
set_option maxRecDepth 100000 in
noncomputable def xt_156_0 : Lean.RArray (Nat × xins) := .branch 29 (.branch 2 (.branch 1 (.leaf (0, (.aload_n 0, 1, 0, 0, 0))) (.leaf (1, (.iload_n 1, 2, 0, 1, 0)))) (.branch 5 (.leaf (2, (.invokevirtual 264, 5, 0, 86, 0))) (.leaf (5, (.ifCond .eq 24, 8, 29, 0, 0))))) (.branch 31 (.branch 30 (.leaf (29, (.aload_n 0, 30, 0, 0, 0))) (.leaf (30, (.iconst 1, 31, 0, 1, 0)))) (.branch 34 (.leaf (31, (.invokevirtual 81, 34, 0, 64, 0))) (.leaf (34, (.ireturn, 35, 0, 0, 0)))))
noncomputable def xt_156 : Lean.RArray (Nat × xins) := xt_156_0
set_option maxRecDepth 100000 in
noncomputable def xt_157_0 : Lean.RArray (Nat × xins) := .branch 8 (.branch 4 (.branch 1 (.leaf (0, (.aload_n 0, 1, 0, 0, 0))) (.leaf (1, (.getfield 36, 4, 0, 11, 6)))) (.branch 5 (.leaf (4, (.iload_n 1, 5, 0, 1, 0))) (.leaf (5, (.invokevirtual 240, 8, 0, 84, 0))))) (.branch 23 (.branch 22 (.leaf (8, (.ifCond .eq 14, 11, 22, 0, 0))) (.leaf (22, (.aload_n 0, 23, 0, 0, 0)))) (.branch 24 (.leaf (23, (.iconst 1, 24, 0, 1, 0))) (.branch 27 (.leaf (24, (.invokevirtual 151, 27, 0, 42, 0))) (.leaf (27, (.ireturn, 28, 0, 0, 0))))))
noncomputable def xt_157 : Lean.RArray (Nat × xins) := xt_157_0
set_option maxRecDepth 100000 in
noncomputable def xt_158_0 : Lean.RArray (Nat × xins) := .branch 16 (.branch 2 (.branch 1 (.leaf (0, (.aload_n 0, 1, 0, 0, 0))) (.leaf (1, (.iload_n 1, 2, 0, 1, 0)))) (.branch 5 (.leaf (2, (.invokevirtual 264, 5, 0, 86, 0))) (.leaf (5, (.ifCond .eq 11, 8, 16, 0, 0))))) (.branch 18 (.branch 17 (.leaf (16, (.aload_n 0, 17, 0, 0, 0))) (.leaf (17, (.iconst 1, 18, 0, 1, 0)))) (.branch 21 (.leaf (18, (.invokevirtual 81, 21, 0, 64, 0))) (.leaf (21, (.ireturn, 22, 0, 0, 0)))))
noncomputable def xt_158 : Lean.RArray (Nat × xins) := xt_158_0
set_option maxRecDepth 100000 in
noncomputable def xt_159_0 : Lean.RArray (Nat × xins) := .branch 11 (.branch 4 (.branch 2 (.branch 1 (.leaf (0, (.iconst 0, 1, 0, 0, 0))) (.leaf (1, (.istore_n 1, 2, 0, 1, 0)))) (.branch 3 (.leaf (2, (.iconst (-1), 3, 0, 4294967295, 0))) (.leaf (3, (.istore_n 2, 4, 0, 2, 0))))) (.branch 6 (.branch 5 (.leaf (4, (.iconst 0, 5, 0, 0, 0))) (.leaf (5, (.istore_n 3, 6, 0, 3, 0)))) (.branch 7 (.leaf (6, (.iload_n 3, 7, 0, 3, 0))) (.branch 8 (.leaf (7, (.aload_n 0, 8, 0, 0, 0))) (.leaf (8, (.getfield 36, 11, 0, 11, 6))))))) (.branch 50 (.branch 45 (.branch 14 (.leaf (11, (.getfield 182, 14, 0, 0, 3))) (.leaf (14, (.if_icmp .ge 31, 17, 45, 0, 0)))) (.branch 46 (.leaf (45, (.iload_n 2, 46, 0, 2, 0))) (.branch 47 (.leaf (46, (.iconst (-1), 47, 0, 4294967295, 0))) (.leaf (47, (.if_icmp .ne 12, 50, 59, 0, 0)))))) (.branch 53 (.branch 51 (.leaf (50, (.aload_n 0, 51, 0, 0, 0))) (.leaf (51, (.bipush 6, 53, 0, 6, 0)))) (.branch 56 (.leaf (53, (.invokevirtual 151, 56, 0, 42, 0))) (.branch 64 (.leaf (56, (.goto 8, 59, 64, 0, 0))) (.leaf (64, (.ireturn, 65, 0, 0, 0)))))))
noncomputable def xt_159 : Lean.RArray (Nat × xins) := xt_159_0
set_option maxRecDepth 100000 in
noncomputable def xt_160_0 : Lean.RArray (Nat × xins) := .branch 9 (.branch 3 (.branch 1 (.leaf (0, (.iconst (-1), 1, 0, 4294967295, 0))) (.branch 2 (.leaf (1, (.istore_n 1, 2, 0, 1, 0))) (.leaf (2, (.iconst 0, 3, 0, 0, 0))))) (.branch 5 (.branch 4 (.leaf (3, (.istore_n 2, 4, 0, 2, 0))) (.leaf (4, (.iload_n 2, 5, 0, 2, 0)))) (.branch 6 (.leaf (5, (.aload_n 0, 6, 0, 0, 0))) (.leaf (6, (.getfield 7, 9, 0, 12, 0)))))) (.branch 46 (.branch 10 (.leaf (9, (.iconst 1, 10, 0, 1, 0))) (.branch 11 (.leaf (10, (.iaload, 11, 0, 0, 0))) (.leaf (11, (.if_icmp .ge 35, 14, 46, 0, 0))))) (.branch 48 (.branch 47 (.leaf (46, (.aload_n 0, 47, 0, 0, 0))) (.leaf (47, (.iload_n 1, 48, 0, 1, 0)))) (.branch 51 (.leaf (48, (.invokevirtual 303, 51, 0, 161, 0))) (.leaf (51, (.ireturn, 52, 0, 0, 0))))))
noncomputable def xt_160 : Lean.RArray (Nat × xins) := xt_160_0
set_option maxRecDepth 100000 in
noncomputable def xt_161_0 : Lean.RArray (Nat × xins) := .branch 6 (.branch 2 (.branch 1 (.leaf (0, (.iload_n 1, 1, 0, 1, 0))) (.leaf (1, (.iconst (-1), 2, 0, 4294967295, 0)))) (.branch 5 (.leaf (2, (.if_icmp .ne 12, 5, 14, 0, 0))) (.leaf (5, (.aload_n 0, 6, 0, 0, 0))))) (.branch 11 (.branch 8 (.leaf (6, (.bipush 6, 8, 0, 6, 0))) (.leaf (8, (.invokevirtual 81, 11, 0, 64, 0)))) (.branch 19 (.leaf (11, (.goto 8, 14, 19, 0, 0))) (.leaf (19, (.ireturn, 20, 0, 0, 0)))))
noncomputable def xt_161 : Lean.RArray (Nat × xins) := xt_161_0
set_option maxRecDepth 100000 in
noncomputable def xt_162_0 : Lean.RArray (Nat × xins) := .branch 11 (.branch 4 (.branch 2 (.branch 1 (.leaf (0, (.iconst 0, 1, 0, 0, 0))) (.leaf (1, (.istore_n 1, 2, 0, 1, 0)))) (.branch 3 (.leaf (2, (.iconst (-1), 3, 0, 4294967295, 0))) (.leaf (3, (.istore_n 2, 4, 0, 2, 0))))) (.branch 6 (.branch 5 (.leaf (4, (.iconst 0, 5, 0, 0, 0))) (.leaf (5, (.istore_n 3, 6, 0, 3, 0)))) (.branch 7 (.leaf (6, (.iload_n 3, 7, 0, 3, 0))) (.branch 8 (.leaf (7, (.aload_n 0, 8, 0, 0, 0))) (.leaf (8, (.getfield 36, 11, 0, 11, 6))))))) (.branch 49 (.branch 44 (.branch 14 (.leaf (11, (.getfield 182, 14, 0, 0, 3))) (.leaf (14, (.if_icmp .ge 30, 17, 44, 0, 0)))) (.branch 45 (.leaf (44, (.iload_n 2, 45, 0, 2, 0))) (.branch 46 (.leaf (45, (.iconst (-1), 46, 0, 4294967295, 0))) (.leaf (46, (.if_icmp .ne 12, 49, 58, 0, 0)))))) (.branch 52 (.branch 50 (.leaf (49, (.aload_n 0, 50, 0, 0, 0))) (.leaf (50, (.bipush 6, 52, 0, 6, 0)))) (.branch 55 (.leaf (52, (.invokevirtual 151, 55, 0, 42, 0))) (.branch 63 (.leaf (55, (.goto 8, 58, 63, 0, 0))) (.leaf (63, (.ireturn, 64, 0, 0, 0)))))))
noncomputable def xt_162 : Lean.RArray (Nat × xins) := xt_162_0
set_option maxRecDepth 100000 in
noncomputable def xt_163_0 : Lean.RArray (Nat × xins) := .branch 9 (.branch 3 (.branch 1 (.leaf (0, (.iconst (-1), 1, 0, 4294967295, 0))) (.branch 2 (.leaf (1, (.istore_n 1, 2, 0, 1, 0))) (.leaf (2, (.iconst 0, 3, 0, 0, 0))))) (.branch 5 (.branch 4 (.leaf (3, (.istore_n 2, 4, 0, 2, 0))) (.leaf (4, (.iload_n 2, 5, 0, 2, 0)))) (.branch 6 (.leaf (5, (.aload_n 0, 6, 0, 0, 0))) (.leaf (6, (.getfield 7, 9, 0, 12, 0)))))) (.branch 44 (.branch 10 (.leaf (9, (.iconst 1, 10, 0, 1, 0))) (.branch 11 (.leaf (10, (.iaload, 11, 0, 0, 0))) (.leaf (11, (.if_icmp .ge 33, 14, 44, 0, 0))))) (.branch 46 (.branch 45 (.leaf (44, (.aload_n 0, 45, 0, 0, 0))) (.leaf (45, (.iload_n 1, 46, 0, 1, 0)))) (.branch 49 (.leaf (46, (.invokevirtual 303, 49, 0, 161, 0))) (.leaf (49, (.ireturn, 50, 0, 0, 0))))))
noncomputable def xt_163 : Lean.RArray (Nat × xins) := xt_163_0
set_option maxRecDepth 100000 in
noncomputable def xt_164_0 : Lean.RArray (Nat × xins) := .branch 9 (.branch 4 (.branch 1 (.leaf (0, (.aload_n 0, 1, 0, 0, 0))) (.leaf (1, (.getfield 36, 4, 0, 11, 6)))) (.branch 7 (.leaf (4, (.invokevirtual 429, 7, 0, 165, 0))) (.branch 8 (.leaf (7, (.istore_n 1, 8, 0, 1, 0))) (.leaf (8, (.iload_n 1, 9, 0, 1, 0)))))) (.branch 13 (.branch 12 (.leaf (9, (.ifCond .gt 10, 12, 19, 0, 0))) (.leaf (12, (.aload_n 0, 13, 0, 0, 0)))) (.branch 15 (.leaf (13, (.bipush 6, 15, 0, 6, 0))) (.branch 18 (.leaf (15, (.invokevirtual 125, 18, 0, 31, 0))) (.leaf (18, (.ireturn, 19, 0, 0, 0))))))
noncomputable def xt_164 : Lean.RArray (Nat × xins) := xt_164_0
set_option maxRecDepth 100000 in
noncomputable def xt_165_0 : Lean.RArray (Nat × xins) := .branch 5 (.branch 2 (.branch 1 (.leaf (0, (.iconst 0, 1, 0, 0, 0))) (.leaf (1, (.istore_n 1, 2, 0, 1, 0)))) (.branch 3 (.leaf (2, (.iconst 0, 3, 0, 0, 0))) (.branch 4 (.leaf (3, (.istore_n 2, 4, 0, 2, 0))) (.leaf (4, (.iload_n 2, 5, 0, 2, 0)))))) (.branch 9 (.branch 6 (.leaf (5, (.aload_n 0, 6, 0, 0, 0))) (.leaf (6, (.getfield 44, 9, 0, 0, 9)))) (.branch 30 (.leaf (9, (.if_icmp .ge 21, 12, 30, 0, 0))) (.branch 31 (.leaf (30, (.iload_n 1, 31, 0, 1, 0))) (.leaf (31, (.ireturn, 32, 0, 0, 0))))))
noncomputable def xt_165 : Lean.RArray (Nat × xins) := xt_165_0
set_option maxRecDepth 100000 in
noncomputable def xt_166_0 : Lean.RArray (Nat × xins) := .branch 10 (.branch 4 (.branch 2 (.branch 1 (.leaf (0, (.iconst 0, 1, 0, 0, 0))) (.leaf (1, (.istore_n 1, 2, 0, 1, 0)))) (.branch 3 (.leaf (2, (.iconst 0, 3, 0, 0, 0))) (.leaf (3, (.istore_n 2, 4, 0, 2, 0))))) (.branch 6 (.branch 5 (.leaf (4, (.iload_n 2, 5, 0, 2, 0))) (.leaf (5, (.aload_n 0, 6, 0, 0, 0)))) (.branch 9 (.leaf (6, (.getfield 7, 9, 0, 12, 0))) (.leaf (9, (.iconst 2, 10, 0, 2, 0)))))) (.branch 32 (.branch 28 (.branch 11 (.leaf (10, (.iaload, 11, 0, 0, 0))) (.leaf (11, (.if_icmp .ge 17, 14, 28, 0, 0)))) (.branch 29 (.leaf (28, (.iload_n 1, 29, 0, 1, 0))) (.leaf (29, (.ifCond .ne 12, 32, 41, 0, 0))))) (.branch 35 (.branch 33 (.leaf (32, (.aload_n 0, 33, 0, 0, 0))) (.leaf (33, (.bipush 6, 35, 0, 6, 0)))) (.branch 38 (.leaf (35, (.invokevirtual 88, 38, 0, 36, 0))) (.branch 55 (.leaf (38, (.goto 17, 41, 55, 0, 0))) (.leaf (55, (.ireturn, 56, 0, 0, 0)))))))
noncomputable def xt_166 : Lean.RArray (Nat × xins) := xt_166_0
set_option maxRecDepth 100000 in
noncomputable def xt_167_0 : Lean.RArray (Nat × xins) := .branch 8 (.branch 4 (.branch 1 (.leaf (0, (.aload_n 0, 1, 0, 0, 0))) (.leaf (1, (.getfield 36, 4, 0, 11, 6)))) (.branch 5 (.leaf (4, (.iload_n 1, 5, 0, 1, 0))) (.leaf (5, (.invokevirtual 240, 8, 0, 84, 0))))) (.branch 12 (.branch 11 (.leaf (8, (.ifCond .ne 9, 11, 17, 0, 0))) (.leaf (11, (.aload_n 0, 12, 0, 0, 0)))) (.branch 13 (.leaf (12, (.iconst 1, 13, 0, 1, 0))) (.branch 16 (.leaf (13, (.invokevirtual 151, 16, 0, 42, 0))) (.leaf (16, (.ireturn, 17, 0, 0, 0))))))
noncomputable def xt_167 : Lean.RArray (Nat × xins) := xt_167_0
set_option maxRecDepth 100000 in
noncomputable def xt_168_0 : Lean.RArray (Nat × xins) := .branch 30 (.branch 2 (.branch 1 (.leaf (0, (.aload_n 0, 1, 0, 0, 0))) (.leaf (1, (.iload_n 1, 2, 0, 1, 0)))) (.branch 5 (.leaf (2, (.invokevirtual 264, 5, 0, 86, 0))) (.leaf (5, (.ifCond .eq 25, 8, 30, 0, 0))))) (.branch 32 (.branch 31 (.leaf (30, (.aload_n 0, 31, 0, 0, 0))) (.leaf (31, (.iconst 1, 32, 0, 1, 0)))) (.branch 35 (.leaf (32, (.invokevirtual 81, 35, 0, 64, 0))) (.leaf (35, (.ireturn, 36, 0, 0, 0)))))
noncomputable def xt_168 : Lean.RArray (Nat × xins) := xt_168_0
set_option maxRecDepth 100000 in
noncomputable def xt_169_0 : Lean.RArray (Nat × xins) := .branch 8 (.branch 4 (.branch 1 (.leaf (0, (.aload_n 0, 1, 0, 0, 0))) (.leaf (1, (.getfield 36, 4, 0, 11, 6)))) (.branch 5 (.leaf (4, (.iload_n 1, 5, 0, 1, 0))) (.leaf (5, (.invokevirtual 240, 8, 0, 84, 0))))) (.branch 27 (.branch 26 (.leaf (8, (.ifCond .eq 18, 11, 26, 0, 0))) (.leaf (26, (.aload_n 0, 27, 0, 0, 0)))) (.branch 28 (.leaf (27, (.iconst 1, 28, 0, 1, 0))) (.branch 31 (.leaf (28, (.invokevirtual 151, 31, 0, 42, 0))) (.leaf (31, (.ireturn, 32, 0, 0, 0))))))
noncomputable def xt_169 : Lean.RArray (Nat × xins) := xt_169_0
set_option maxRecDepth 100000 in
noncomputable def xt_170_0 : Lean.RArray (Nat × xins) := .branch 8 (.branch 2 (.branch 1 (.leaf (0, (.aload_n 0, 1, 0, 0, 0))) (.leaf (1, (.iload_n 1, 2, 0, 1, 0)))) (.branch 5 (.leaf (2, (.invokevirtual 264, 5, 0, 86, 0))) (.leaf (5, (.ifCond .ne 9, 8, 14, 0, 0))))) (.branch 10 (.branch 9 (.leaf (8, (.aload_n 0, 9, 0, 0, 0))) (.leaf (9, (.iconst 1, 10, 0, 1, 0)))) (.branch 13 (.leaf (10, (.invokevirtual 81, 13, 0, 64, 0))) (.leaf (13, (.ireturn, 14, 0, 0, 0)))))
noncomputable def xt_170 : Lean.RArray (Nat × xins) := xt_170_0
set_option maxRecDepth 100000 in
noncomputable def xt_171_0 : Lean.RArray (Nat × xins) := .branch 7 (.branch 2 (.branch 1 (.leaf (0, (.aload_n 0, 1, 0, 0, 0))) (.leaf (1, (.iload_n 1, 2, 0, 1, 0)))) (.branch 3 (.leaf (2, (.iload_n 2, 3, 0, 2, 0))) (.branch 6 (.leaf (3, (.invokevirtual 448, 6, 0, 172, 0))) (.leaf (6, (.istore_n 3, 7, 0, 3, 0)))))) (.branch 12 (.branch 8 (.leaf (7, (.iload_n 3, 8, 0, 3, 0))) (.branch 11 (.leaf (8, (.ifCond .eq 9, 11, 17, 0, 0))) (.leaf (11, (.aload_n 0, 12, 0, 0, 0))))) (.branch 13 (.leaf (12, (.iload_n 3, 13, 0, 3, 0))) (.branch 16 (.leaf (13, (.invokevirtual 151, 16, 0, 42, 0))) (.leaf (16, (.ireturn, 17, 0, 0, 0))))))
noncomputable def xt_171 : Lean.RArray (Nat × xins) := xt_171_0
set_option maxRecDepth 100000 in
noncomputable def xt_172_0 : Lean.RArray (Nat × xins) := .branch 18 (.branch 8 (.branch 4 (.branch 1 (.leaf (0, (.iload_n 1, 1, 0, 1, 0))) (.leaf (1, (.invokestatic 121, 4, 0, 29, 0)))) (.branch 7 (.leaf (4, (.ifCond .eq 13, 7, 17, 0, 0))) (.leaf (7, (.iload_n 2, 8, 0, 2, 0))))) (.branch 11 (.branch 9 (.leaf (8, (.iconst 1, 9, 0, 1, 0))) (.leaf (9, (.bipush 60, 11, 0, 60, 0)))) (.branch 14 (.leaf (11, (.invokestatic 117, 14, 0, 30, 0))) (.branch 17 (.leaf (14, (.ifCond .ne 5, 17, 19, 0, 0))) (.leaf (17, (.iconst 1, 18, 0, 1, 0))))))) (.branch 24 (.branch 20 (.branch 19 (.leaf (18, (.ireturn, 19, 0, 0, 0))) (.leaf (19, (.aload_n 0, 20, 0, 0, 0)))) (.branch 23 (.leaf (20, (.getfield 22, 23, 0, 11, 3))) (.leaf (23, (.iload_n 1, 24, 0, 1, 0))))) (.branch 28 (.branch 25 (.leaf (24, (.aaload, 25, 0, 0, 0))) (.leaf (25, (.getfield 136, 28, 0, 8, 0)))) (.branch 31 (.leaf (28, (.ifCond .ne 5, 31, 33, 0, 0))) (.branch 32 (.leaf (31, (.iconst 2, 32, 0, 2, 0))) (.leaf (32, (.ireturn, 33, 0, 0, 0)))))))
noncomputable def xt_172 : Lean.RArray (Nat × xins) := xt_172_0
set_option maxRecDepth 100000 in
noncomputable def xt_173_0 : Lean.RArray (Nat × xins) := .branch 7 (.branch 2 (.branch 1 (.leaf (0, (.aload_n 0, 1, 0, 0, 0))) (.leaf (1, (.iload_n 1, 2, 0, 1, 0)))) (.branch 3 (.leaf (2, (.iload_n 2, 3, 0, 2, 0))) (.branch 6 (.leaf (3, (.invokevirtual 441, 6, 0, 174, 0))) (.leaf (6, (.istore_n 3, 7, 0, 3, 0)))))) (.branch 12 (.branch 8 (.leaf (7, (.iload_n 3, 8, 0, 3, 0))) (.branch 11 (.leaf (8, (.ifCond .le 9, 11, 17, 0, 0))) (.leaf (11, (.aload_n 0, 12, 0, 0, 0))))) (.branch 13 (.leaf (12, (.iload_n 3, 13, 0, 3, 0))) (.branch 16 (.leaf (13, (.invokevirtual 81, 16, 0, 64, 0))) (.leaf (16, (.ireturn, 17, 0, 0, 0))))))
noncomputable def xt_173 : Lean.RArray (Nat × xins) := xt_173_0
set_option maxRecDepth 100000 in
noncomputable def xt_174_0 : Lean.RArray (Nat × xins) := .branch 19 (.branch 8 (.branch 4 (.branch 1 (.leaf (0, (.iload_n 1, 1, 0, 1, 0))) (.leaf (1, (.invokestatic 92, 4, 0, 35, 0)))) (.branch 7 (.leaf (4, (.ifCond .eq 15, 7, 19, 0, 0))) (.leaf (7, (.iload_n 2, 8, 0, 2, 0))))) (.branch 10 (.branch 9 (.leaf (8, (.i2l, 9, 0, 0, 0))) (.leaf (9, (.lconst 1, 10, 0, 1, 0)))) (.branch 13 (.leaf (10, (.ldc2_w 388, 13, 0, 60, 0))) (.branch 16 (.leaf (13, (.invokestatic 384, 16, 0, 125, 0))) (.leaf (16, (.ifCond .ne 5, 19, 21, 0, 0))))))) (.branch 26 (.branch 21 (.branch 20 (.leaf (19, (.iconst 1, 20, 0, 1, 0))) (.leaf (20, (.ireturn, 21, 0, 0, 0)))) (.branch 22 (.leaf (21, (.aload_n 0, 22, 0, 0, 0))) (.branch 25 (.leaf (22, (.getfield 24, 25, 0, 12, 6))) (.leaf (25, (.iload_n 1, 26, 0, 1, 0)))))) (.branch 28 (.branch 27 (.leaf (26, (.iaload, 27, 0, 0, 0))) (.leaf (27, (.iconst (-1), 28, 0, 4294967295, 0)))) (.branch 31 (.leaf (28, (.if_icmp .ne 5, 31, 33, 0, 0))) (.branch 32 (.leaf (31, (.iconst 2, 32, 0, 2, 0))) (.leaf (32, (.ireturn, 33, 0, 0, 0)))))))
noncomputable def xt_174 : Lean.RArray (Nat × xins) := xt_174_0
set_option maxRecDepth 100000 in
noncomputable def xt_175_0 : Lean.RArray (Nat × xins) := .branch 7 (.branch 2 (.branch 1 (.leaf (0, (.aload_n 0, 1, 0, 0, 0))) (.leaf (1, (.iload_n 1, 2, 0, 1, 0)))) (.branch 3 (.leaf (2, (.iload_n 2, 3, 0, 2, 0))) (.branch 6 (.leaf (3, (.invokevirtual 448, 6, 0, 172, 0))) (.leaf (6, (.istore_n 3, 7, 0, 3, 0)))))) (.branch 12 (.branch 8 (.leaf (7, (.iload_n 3, 8, 0, 3, 0))) (.branch 11 (.leaf (8, (.ifCond .eq 9, 11, 17, 0, 0))) (.leaf (11, (.aload_n 0, 12, 0, 0, 0))))) (.branch 13 (.leaf (12, (.iload_n 3, 13, 0, 3, 0))) (.branch 16 (.leaf (13, (.invokevirtual 151, 16, 0, 42, 0))) (.leaf (16, (.ireturn, 17, 0, 0, 0))))))
noncomputable def xt_175 : Lean.RArray (Nat × xins) := xt_175_0
set_option maxRecDepth 100000 in
noncomputable def xt_176_0 : Lean.RArray (Nat × xins) := .branch 8 (.branch 3 (.branch 1 (.leaf (0, (.aload_n 0, 1, 0, 0, 0))) (.branch 2 (.leaf (1, (.iload_n 1, 2, 0, 1, 0))) (.leaf (2, (.iload_n 2, 3, 0, 2, 0))))) (.branch 6 (.leaf (3, (.invokevirtual 441, 6, 0, 174, 0))) (.branch 7 (.leaf (6, (.istore_n 3, 7, 0, 3, 0))) (.leaf (7, (.iload_n 3, 8, 0, 3, 0)))))) (.branch 13 (.branch 11 (.leaf (8, (.ifCond .le 11, 11, 19, 0, 0))) (.branch 12 (.leaf (11, (.aload_n 0, 12, 0, 0, 0))) (.leaf (12, (.iload_n 3, 13, 0, 3, 0))))) (.branch 16 (.leaf (13, (.invokevirtual 81, 16, 0, 64, 0))) (.branch 29 (.leaf (16, (.goto 13, 19, 29, 0, 0))) (.leaf (29, (.ireturn, 30, 0, 0, 0))))))
noncomputable def xt_176 : Lean.RArray (Nat × xins) := xt_176_0
set_option maxRecDepth 100000 in
noncomputable def xt_177_0 : Lean.RArray (Nat × xins) := .branch 17 (.branch 8 (.branch 2 (.branch 1 (.leaf (0, (.iload_n 1, 1, 0, 1, 0))) (.leaf (1, (.iconst 0, 2, 0, 0, 0)))) (.branch 5 (.leaf (2, (.sipush 9999, 5, 0, 9999, 0))) (.leaf (5, (.invokestatic 117, 8, 0, 30, 0))))) (.branch 12 (.branch 11 (.leaf (8, (.ifCond .ne 9, 11, 17, 0, 0))) (.leaf (11, (.aload_n 0, 12, 0, 0, 0)))) (.branch 13 (.leaf (12, (.iconst 1, 13, 0, 1, 0))) (.branch 16 (.leaf (13, (.invokevirtual 151, 16, 0, 42, 0))) (.leaf (16, (.ireturn, 17, 0, 0, 0))))))) (.branch 27 (.branch 21 (.branch 18 (.leaf (17, (.aload_n 0, 18, 0, 0, 0))) (.leaf (18, (.getfield 36, 21, 0, 11, 6)))) (.branch 24 (.leaf (21, (.getfield 95, 24, 0, 0, 11))) (.leaf (24, (.getfield 461, 27, 0, 9, 0))))) (.branch 31 (.branch 30 (.leaf (27, (.ifCond .ne 10, 30, 37, 0, 0))) (.leaf (30, (.aload_n 0, 31, 0, 0, 0)))) (.branch 33 (.leaf (31, (.bipush 6, 33, 0, 6, 0))) (.branch 36 (.leaf (33, (.invokevirtual 151, 36, 0, 42, 0))) (.leaf (36, (.ireturn, 37, 0, 0, 0)))))))
noncomputable def xt_177 : Lean.RArray (Nat × xins) := xt_177_0
set_option maxRecDepth 100000 in
noncomputable def xt_178_0 : Lean.RArray (Nat × xins) := .branch 18 (.branch 9 (.branch 2 (.branch 1 (.leaf (0, (.iload_n 1, 1, 0, 1, 0))) (.leaf (1, (.i2l, 2, 0, 0, 0)))) (.branch 3 (.leaf (2, (.lconst 0, 3, 0, 0, 0))) (.branch 6 (.leaf (3, (.ldc2_w 475, 6, 0, 9999, 0))) (.leaf (6, (.invokestatic 384, 9, 0, 125, 0)))))) (.branch 13 (.branch 12 (.leaf (9, (.ifCond .ne 9, 12, 18, 0, 0))) (.leaf (12, (.aload_n 0, 13, 0, 0, 0)))) (.branch 14 (.leaf (13, (.iconst 1, 14, 0, 1, 0))) (.branch 17 (.leaf (14, (.invokevirtual 81, 17, 0, 64, 0))) (.leaf (17, (.ireturn, 18, 0, 0, 0))))))) (.branch 26 (.branch 22 (.branch 19 (.leaf (18, (.aload_n 0, 19, 0, 0, 0))) (.leaf (19, (.getfield 7, 22, 0, 12, 0)))) (.branch 24 (.leaf (22, (.bipush 7, 24, 0, 7, 0))) (.branch 25 (.leaf (24, (.iaload, 25, 0, 0, 0))) (.leaf (25, (.iconst (-1), 26, 0, 4294967295, 0)))))) (.branch 30 (.branch 29 (.leaf (26, (.if_icmp .ne 10, 29, 36, 0, 0))) (.leaf (29, (.aload_n 0, 30, 0, 0, 0)))) (.branch 32 (.leaf (30, (.bipush 6, 32, 0, 6, 0))) (.branch 35 (.leaf (32, (.invokevirtual 81, 35, 0, 64, 0))) (.leaf (35, (.ireturn, 36, 0, 0, 0)))))))
noncomputable def xt_178 : Lean.RArray (Nat × xins) := xt_178_0
set_option maxRecDepth 100000 in
noncomputable def xt_179_0 : Lean.RArray (Nat × xins) := .branch 14 (.branch 6 (.branch 2 (.branch 1 (.leaf (0, (.iload_n 1, 1, 0, 1, 0))) (.leaf (1, (.iconst 0, 2, 0, 0, 0)))) (.branch 3 (.leaf (2, (.iconst 4, 3, 0, 4, 0))) (.leaf (3, (.invokestatic 117, 6, 0, 30, 0))))) (.branch 10 (.branch 9 (.leaf (6, (.ifCond .ne 9, 9, 15, 0, 0))) (.leaf (9, (.aload_n 0, 10, 0, 0, 0)))) (.branch 11 (.leaf (10, (.iconst 1, 11, 0, 1, 0))) (.leaf (11, (.invokevirtual 151, 14, 0, 42, 0)))))) (.branch 22 (.branch 16 (.branch 15 (.leaf (14, (.ireturn, 15, 0, 0, 0))) (.leaf (15, (.aload_n 0, 16, 0, 0, 0)))) (.branch 19 (.leaf (16, (.getfield 109, 19, 0, 11, 17))) (.leaf (19, (.ifCond .ne 10, 22, 29, 0, 0))))) (.branch 25 (.branch 23 (.leaf (22, (.aload_n 0, 23, 0, 0, 0))) (.leaf (23, (.bipush 6, 25, 0, 6, 0)))) (.branch 28 (.leaf (25, (.invokevirtual 151, 28, 0, 42, 0))) (.leaf (28, (.ireturn, 29, 0, 0, 0))))))
noncomputable def xt_179 : Lean.RArray (Nat × xins) := xt_179_0
set_option maxRecDepth 100000 in
noncomputable def xt_180_0 : Lean.RArray (Nat × xins) := .branch 14 (.branch 6 (.branch 4 (.branch 1 (.leaf (0, (.iload_n 1, 1, 0, 1, 0))) (.leaf (1, (.ifCond .lt 8, 4, 9, 0, 0)))) (.branch 5 (.leaf (4, (.iload_n 1, 5, 0, 1, 0))) (.leaf (5, (.iconst 4, 6, 0, 4, 0))))) (.branch 10 (.branch 9 (.leaf (6, (.if_icmp .le 11, 9, 17, 0, 0))) (.leaf (9, (.aload_n 0, 10, 0, 0, 0)))) (.branch 11 (.leaf (10, (.iconst 1, 11, 0, 1, 0))) (.leaf (11, (.invokevirtual 81, 14, 0, 64, 0)))))) (.branch 37 (.branch 18 (.branch 17 (.leaf (14, (.goto 29, 17, 43, 0, 0))) (.leaf (17, (.aload_n 0, 18, 0, 0, 0)))) (.branch 21 (.leaf (18, (.getfield 480, 21, 0, 12, 38))) (.leaf (21, (.ifCond .eq 16, 24, 37, 0, 0))))) (.branch 40 (.branch 38 (.leaf (37, (.aload_n 0, 38, 0, 0, 0))) (.leaf (38, (.bipush 6, 40, 0, 6, 0)))) (.branch 43 (.leaf (40, (.invokevirtual 81, 43, 0, 64, 0))) (.leaf (43, (.ireturn, 44, 0, 0, 0))))))
noncomputable def xt_180 : Lean.RArray (Nat × xins) := xt_180_0
set_option maxRecDepth 100000 in
noncomputable def xt_181_0 : Lean.RArray (Nat × xins) := .branch 26 (.branch 13 (.branch 5 (.branch 1 (.leaf (0, (.iload_n 1, 1, 0, 1, 0))) (.branch 2 (.leaf (1, (.iconst 0, 2, 0, 0, 0))) (.leaf (2, (.sipush 9999, 5, 0, 9999, 0))))) (.branch 11 (.branch 8 (.leaf (5, (.invokestatic 117, 8, 0, 30, 0))) (.leaf (8, (.ifCond .eq 24, 11, 32, 0, 0)))) (.branch 12 (.leaf (11, (.iload_n 2, 12, 0, 2, 0))) (.leaf (12, (.iconst 1, 13, 0, 1, 0)))))) (.branch 22 (.branch 18 (.branch 15 (.leaf (13, (.bipush 20, 15, 0, 20, 0))) (.leaf (15, (.invokestatic 117, 18, 0, 30, 0)))) (.branch 21 (.leaf (18, (.ifCond .eq 14, 21, 32, 0, 0))) (.leaf (21, (.iload_n 1, 22, 0, 1, 0))))) (.branch 24 (.branch 23 (.leaf (22, (.iload_n 2, 23, 0, 2, 0))) (.leaf (23, (.iadd, 24, 0, 0, 0)))) (.branch 25 (.leaf (24, (.iconst 1, 25, 0, 1, 0))) (.leaf (25, (.isub, 26, 0, 0, 0))))))) (.branch 39 (.branch 33 (.branch 29 (.leaf (26, (.sipush 9999, 29, 0, 9999, 0))) (.branch 32 (.leaf (29, (.if_icmp .le 9, 32, 38, 0, 0))) (.leaf (32, (.aload_n 0, 33, 0, 0, 0))))) (.branch 37 (.branch 34 (.leaf (33, (.iconst 1, 34, 0, 1, 0))) (.leaf (34, (.invokevirtual 125, 37, 0, 31, 0)))) (.branch 38 (.leaf (37, (.ireturn, 38, 0, 0, 0))) (.leaf (38, (.aload_n 0, 39, 0, 0, 0)))))) (.branch 51 (.branch 45 (.branch 42 (.leaf (39, (.getfield 36, 42, 0, 11, 6))) (.leaf (42, (.getfield 95, 45, 0, 0, 11)))) (.branch 48 (.leaf (45, (.getfield 461, 48, 0, 9, 0))) (.leaf (48, (.ifCond .ne 10, 51, 58, 0, 0))))) (.branch 54 (.branch 52 (.leaf (51, (.aload_n 0, 52, 0, 0, 0))) (.leaf (52, (.bipush 6, 54, 0, 6, 0)))) (.branch 57 (.leaf (54, (.invokevirtual 125, 57, 0, 31, 0))) (.leaf (57, (.ireturn, 58, 0, 0, 0)))))))
noncomputable def xt_181 : Lean.RArray (Nat × xins) := xt_181_0
set_option maxRecDepth 100000 in
noncomputable def xt_182_0 : Lean.RArray (Nat × xins) := .branch 28 (.branch 14 (.branch 6 (.branch 2 (.branch 1 (.leaf (0, (.iload_n 1, 1, 0, 1, 0))) (.leaf (1, (.i2l, 2, 0, 0, 0)))) (.branch 3 (.leaf (2, (.lconst 0, 3, 0, 0, 0))) (.leaf (3, (.ldc2_w 475, 6, 0, 9999, 0))))) (.branch 12 (.branch 9 (.leaf (6, (.invokestatic 384, 9, 0, 125, 0))) (.leaf (9, (.ifCond .eq 26, 12, 35, 0, 0)))) (.branch 13 (.leaf (12, (.iload_n 2, 13, 0, 2, 0))) (.leaf (13, (.i2l, 14, 0, 0, 0)))))) (.branch 24 (.branch 18 (.branch 15 (.leaf (14, (.lconst 1, 15, 0, 1, 0))) (.leaf (15, (.ldc2_w 483, 18, 0, 20, 0)))) (.branch 21 (.leaf (18, (.invokestatic 384, 21, 0, 125, 0))) (.leaf (21, (.ifCond .eq 14, 24, 35, 0, 0))))) (.branch 26 (.branch 25 (.leaf (24, (.iload_n 1, 25, 0, 1, 0))) (.leaf (25, (.iload_n 2, 26, 0, 2, 0)))) (.branch 27 (.leaf (26, (.iadd, 27, 0, 0, 0))) (.leaf (27, (.iconst 1, 28, 0, 1, 0))))))) (.branch 42 (.branch 36 (.branch 32 (.branch 29 (.leaf (28, (.isub, 29, 0, 0, 0))) (.leaf (29, (.sipush 9999, 32, 0, 9999, 0)))) (.branch 35 (.leaf (32, (.if_icmp .le 9, 35, 41, 0, 0))) (.leaf (35, (.aload_n 0, 36, 0, 0, 0))))) (.branch 40 (.branch 37 (.leaf (36, (.iconst 1, 37, 0, 1, 0))) (.leaf (37, (.invokevirtual 88, 40, 0, 36, 0)))) (.branch 41 (.leaf (40, (.ireturn, 41, 0, 0, 0))) (.leaf (41, (.aload_n 0, 42, 0, 0, 0)))))) (.branch 49 (.branch 47 (.branch 45 (.leaf (42, (.getfield 7, 45, 0, 12, 0))) (.leaf (45, (.bipush 7, 47, 0, 7, 0)))) (.branch 48 (.leaf (47, (.iaload, 48, 0, 0, 0))) (.leaf (48, (.iconst (-1), 49, 0, 4294967295, 0))))) (.branch 53 (.branch 52 (.leaf (49, (.if_icmp .ne 10, 52, 59, 0, 0))) (.leaf (52, (.aload_n 0, 53, 0, 0, 0)))) (.branch 55 (.leaf (53, (.bipush 6, 55, 0, 6, 0))) (.branch 58 (.leaf (55, (.invokevirtual 88, 58, 0, 36, 0))) (.leaf (58, (.ireturn, 59, 0, 0, 0))))))))
noncomputable def xt_182 : Lean.RArray (Nat × xins) := xt_182_0
set_option maxRecDepth 100000 in
noncomputable def xt_183_0 : Lean.RArray (Nat × xins) := .branch 27 (.branch 15 (.branch 4 (.branch 1 (.leaf (0, (.aload_n 0, 1, 0, 0, 0))) (.leaf (1, (.getfield 47, 4, 0, 11, 9)))) (.branch 5 (.leaf (4, (.iconst 3, 5, 0, 3, 0))) (.branch 14 (.leaf (5, (.if_icmp .lt 9, 8, 14, 0, 0))) (.leaf (14, (.aload_n 0, 15, 0, 0, 0)))))) (.branch 22 (.branch 18 (.leaf (15, (.getfield 43, 18, 0, 11, 8))) (.branch 19 (.leaf (18, (.aload_n 0, 19, 0, 0, 0))) (.leaf (19, (.getfield 47, 22, 0, 11, 9))))) (.branch 23 (.leaf (22, (.aaload, 23, 0, 0, 0))) (.branch 24 (.leaf (23, (.aload_n 0, 24, 0, 0, 0))) (.leaf (24, (.getfield 36, 27, 0, 11, 6))))))) (.branch 37 (.branch 32 (.branch 30 (.leaf (27, (.invokevirtual 179, 30, 0, 58, 0))) (.branch 31 (.leaf (30, (.aload_n 0, 31, 0, 0, 0))) (.leaf (31, (.dup, 32, 0, 0, 0))))) (.branch 35 (.leaf (32, (.getfield 47, 35, 0, 11, 9))) (.branch 36 (.leaf (35, (.iconst 1, 36, 0, 1, 0))) (.leaf (36, (.iadd, 37, 0, 0, 0)))))) (.branch 42 (.branch 40 (.leaf (37, (.putfield 47, 40, 0, 11, 9))) (.branch 41 (.leaf (40, (.aload_n 0, 41, 0, 0, 0))) (.leaf (41, (.aload_n 0, 42, 0, 0, 0))))) (.branch 45 (.leaf (42, (.getfield 47, 45, 0, 11, 9))) (.branch 48 (.leaf (45, (.invokevirtual 185, 48, 0, 61, 0))) (.leaf (48, (.ireturn, 49, 0, 0, 0)))))))
noncomputable def xt_183 : Lean.RArray (Nat × xins) := xt_183_0
set_option maxRecDepth 100000 in
noncomputable def xt_184_0 : Lean.RArray (Nat × xins) := .branch 24 (.branch 15 (.branch 4 (.branch 1 (.leaf (0, (.aload_n 0, 1, 0, 0, 0))) (.leaf (1, (.getfield 485, 4, 0, 12, 39)))) (.branch 5 (.leaf (4, (.iconst 3, 5, 0, 3, 0))) (.branch 14 (.leaf (5, (.if_icmp .ne 9, 8, 14, 0, 0))) (.leaf (14, (.aload_n 0, 15, 0, 0, 0)))))) (.branch 19 (.branch 16 (.leaf (15, (.dup, 16, 0, 0, 0))) (.leaf (16, (.getfield 485, 19, 0, 12, 39)))) (.branch 20 (.leaf (19, (.iconst 1, 20, 0, 1, 0))) (.branch 21 (.leaf (20, (.iadd, 21, 0, 0, 0))) (.leaf (21, (.putfield 485, 24, 0, 12, 39))))))) (.branch 33 (.branch 26 (.branch 25 (.leaf (24, (.aload_n 0, 25, 0, 0, 0))) (.leaf (25, (.iconst 0, 26, 0, 0, 0)))) (.branch 27 (.leaf (26, (.aload_n 0, 27, 0, 0, 0))) (.branch 30 (.leaf (27, (.getfield 485, 30, 0, 12, 39))) (.leaf (30, (.invokevirtual 488, 33, 0, 185, 0)))))) (.branch 35 (.branch 34 (.leaf (33, (.aload_n 0, 34, 0, 0, 0))) (.leaf (34, (.aload_n 0, 35, 0, 0, 0)))) (.branch 38 (.leaf (35, (.getfield 485, 38, 0, 12, 39))) (.branch 41 (.leaf (38, (.invokevirtual 85, 41, 0, 68, 0))) (.leaf (41, (.ireturn, 42, 0, 0, 0)))))))
noncomputable def xt_184 : Lean.RArray (Nat × xins) := xt_184_0
set_option maxRecDepth 100000 in
noncomputable def xt_185_0 : Lean.RArray (Nat × xins) := .branch 39 (.branch 19 (.branch 9 (.branch 2 (.branch 1 (.leaf (0, (.iconst 0, 1, 0, 0, 0))) (.leaf (1, (.istore_n 3, 2, 0, 3, 0)))) (.branch 3 (.leaf (2, (.iload_n 3, 3, 0, 3, 0))) (.branch 6 (.leaf (3, (.sipush 744, 6, 0, 744, 0))) (.leaf (6, (.if_icmp .ge 33, 9, 39, 0, 0)))))) (.branch 16 (.branch 10 (.leaf (9, (.aload_n 0, 10, 0, 0, 0))) (.branch 13 (.leaf (10, (.getfield 7, 13, 0, 12, 0))) (.leaf (13, (.sipush 744, 16, 0, 744, 0))))) (.branch 17 (.leaf (16, (.iload_n 2, 17, 0, 2, 0))) (.branch 18 (.leaf (17, (.imul, 18, 0, 0, 0))) (.leaf (18, (.iload_n 3, 19, 0, 3, 0))))))) (.branch 29 (.branch 24 (.branch 20 (.leaf (19, (.iadd, 20, 0, 0, 0))) (.branch 21 (.leaf (20, (.aload_n 0, 21, 0, 0, 0))) (.leaf (21, (.getfield 7, 24, 0, 12, 0))))) (.branch 27 (.leaf (24, (.sipush 744, 27, 0, 744, 0))) (.branch 28 (.leaf (27, (.iload_n 1, 28, 0, 1, 0))) (.leaf (28, (.imul, 29, 0, 0, 0)))))) (.branch 32 (.branch 30 (.leaf (29, (.iload_n 3, 30, 0, 3, 0))) (.branch 31 (.leaf (30, (.iadd, 31, 0, 0, 0))) (.leaf (31, (.iaload, 32, 0, 0, 0))))) (.branch 33 (.leaf (32, (.iastore, 33, 0, 0, 0))) (.branch 36 (.leaf (33, (.iinc 3 1, 36, 0, 3, 1))) (.leaf (36, (.goto (-34), 39, 2, 0, 0)))))))) (.branch 57 (.branch 48 (.branch 42 (.branch 40 (.leaf (39, (.iconst 0, 40, 0, 0, 0))) (.branch 41 (.leaf (40, (.istore_n 3, 41, 0, 3, 0))) (.leaf (41, (.iload_n 3, 42, 0, 3, 0))))) (.branch 44 (.leaf (42, (.bipush 12, 44, 0, 12, 0))) (.branch 47 (.leaf (44, (.if_icmp .ge 31, 47, 75, 0, 0))) (.leaf (47, (.aload_n 0, 48, 0, 0, 0)))))) (.branch 54 (.branch 51 (.leaf (48, (.getfield 13, 51, 0, 12, 1))) (.branch 53 (.leaf (51, (.bipush 12, 53, 0, 12, 0))) (.leaf (53, (.iload_n 2, 54, 0, 2, 0))))) (.branch 55 (.leaf (54, (.imul, 55, 0, 0, 0))) (.branch 56 (.leaf (55, (.iload_n 3, 56, 0, 3, 0))) (.leaf (56, (.iadd, 57, 0, 0, 0))))))) (.branch 66 (.branch 63 (.branch 58 (.leaf (57, (.aload_n 0, 58, 0, 0, 0))) (.branch 61 (.leaf (58, (.getfield 13, 61, 0, 12, 1))) (.leaf (61, (.bipush 12, 63, 0, 12, 0))))) (.branch 64 (.leaf (63, (.iload_n 1, 64, 0, 1, 0))) (.branch 65 (.leaf (64, (.imul, 65, 0, 0, 0))) (.leaf (65, (.iload_n 3, 66, 0, 3, 0)))))) (.branch 69 (.branch 67 (.leaf (66, (.iadd, 67, 0, 0, 0))) (.branch 68 (.leaf (67, (.laload, 68, 0, 0, 0))) (.leaf (68, (.lastore, 69, 0, 0, 0))))) (.branch 72 (.leaf (69, (.iinc 3 1, 72, 0, 3, 1))) (.branch 75 (.leaf (72, (.goto (-31), 75, 41, 0, 0))) (.leaf (75, (.return_, 76, 0, 0, 0))))))))
noncomputable def xt_185 : Lean.RArray (Nat × xins) := xt_185_0
set_option maxRecDepth 100000 in
noncomputable def xt_186_0 : Lean.RArray (Nat × xins) := .branch 7 (.branch 1 (.leaf (0, (.aload_n 0, 1, 0, 0, 0))) (.branch 4 (.leaf (1, (.getfield 47, 4, 0, 11, 9))) (.leaf (4, (.ifCond .gt 10, 7, 14, 0, 0))))) (.branch 10 (.branch 8 (.leaf (7, (.aload_n 0, 8, 0, 0, 0))) (.leaf (8, (.bipush 6, 10, 0, 6, 0)))) (.branch 13 (.leaf (10, (.invokevirtual 151, 13, 0, 42, 0))) (.leaf (13, (.ireturn, 14, 0, 0, 0)))))
noncomputable def xt_186 : Lean.RArray (Nat × xins) := xt_186_0
set_option maxRecDepth 100000 in
noncomputable def xt_187_0 : Lean.RArray (Nat × xins) := .branch 7 (.branch 1 (.leaf (0, (.aload_n 0, 1, 0, 0, 0))) (.branch 4 (.leaf (1, (.getfield 485, 4, 0, 12, 39))) (.leaf (4, (.ifCond .ne 10, 7, 14, 0, 0))))) (.branch 10 (.branch 8 (.leaf (7, (.aload_n 0, 8, 0, 0, 0))) (.leaf (8, (.bipush 6, 10, 0, 6, 0)))) (.branch 13 (.leaf (10, (.invokevirtual 81, 13, 0, 64, 0))) (.leaf (13, (.ireturn, 14, 0, 0, 0)))))
noncomputable def xt_187 : Lean.RArray (Nat × xins) := xt_187_0
noncomputable def xcode : xcd := .branch 94 (.branch 47 (.branch 23 (.branch 11 (.branch 5 (.branch 2 (.branch 1 (.leaf (0, xt_0)) (.leaf (1, xt_1))) (.branch 3 (.leaf (2, xt_2)) (.branch 4 (.leaf (3, xt_3)) (.leaf (4, xt_4))))) (.branch 8 (.branch 6 (.leaf (5, xt_5)) (.branch 7 (.leaf (6, xt_6)) (.leaf (7, xt_7)))) (.branch 9 (.leaf (8, xt_8)) (.branch 10 (.leaf (9, xt_9)) (.leaf (10, xt_10)))))) (.branch 17 (.branch 14 (.branch 12 (.leaf (11, xt_11)) (.branch 13 (.leaf (12, xt_12)) (.leaf (13, xt_13)))) (.branch 15 (.leaf (14, xt_14)) (.branch 16 (.leaf (15, xt_15)) (.leaf (16, xt_16))))) (.branch 20 (.branch 18 (.leaf (17, xt_17)) (.branch 19 (.leaf (18, xt_18)) (.leaf (19, xt_19)))) (.branch 21 (.leaf (20, xt_20)) (.branch 22 (.leaf (21, xt_21)) (.leaf (22, xt_22))))))) (.branch 35 (.branch 29 (.branch 26 (.branch 24 (.leaf (23, xt_23)) (.branch 25 (.leaf (24, xt_24)) (.leaf (25, xt_25)))) (.branch 27 (.leaf (26, xt_26)) (.branch 28 (.leaf (27, xt_27)) (.leaf (28, xt_28))))) (.branch 32 (.branch 30 (.leaf (29, xt_29)) (.branch 31 (.leaf (30, xt_30)) (.leaf (31, xt_31)))) (.branch 33 (.leaf (32, xt_32)) (.branch 34 (.leaf (33, xt_33)) (.leaf (34, xt_34)))))) (.branch 41 (.branch 38 (.branch 36 (.leaf (35, xt_35)) (.branch 37 (.leaf (36, xt_36)) (.leaf (37, xt_37)))) (.branch 39 (.leaf (38, xt_38)) (.branch 40 (.leaf (39, xt_39)) (.leaf (40, xt_40))))) (.branch 44 (.branch 42 (.leaf (41, xt_41)) (.branch 43 (.leaf (42, xt_42)) (.leaf (43, xt_43)))) (.branch 45 (.leaf (44, xt_44)) (.branch 46 (.leaf (45, xt_45)) (.leaf (46, xt_46)))))))) (.branch 70 (.branch 58 (.branch 52 (.branch 49 (.branch 48 (.leaf (47, xt_47)) (.leaf (48, xt_48))) (.branch 50 (.leaf (49, xt_49)) (.branch 51 (.leaf (50, xt_50)) (.leaf (51, xt_51))))) (.branch 55 (.branch 53 (.leaf (52, xt_52)) (.branch 54 (.leaf (53, xt_53)) (.leaf (54, xt_54)))) (.branch 56 (.leaf (55, xt_55)) (.branch 57 (.leaf (56, xt_56)) (.leaf (57, xt_57)))))) (.branch 64 (.branch 61 (.branch 59 (.leaf (58, xt_58)) (.branch 60 (.leaf (59, xt_59)) (.leaf (60, xt_60)))) (.branch 62 (.leaf (61, xt_61)) (.branch 63 (.leaf (62, xt_62)) (.leaf (63, xt_63))))) (.branch 67 (.branch 65 (.leaf (64, xt_64)) (.branch 66 (.leaf (65, xt_65)) (.leaf (66, xt_66)))) (.branch 68 (.leaf (67, xt_67)) (.branch 69 (.leaf (68, xt_68)) (.leaf (69, xt_69))))))) (.branch 82 (.branch 76 (.branch 73 (.branch 71 (.leaf (70, xt_70)) (.branch 72 (.leaf (71, xt_71)) (.leaf (72, xt_72)))) (.branch 74 (.leaf (73, xt_73)) (.branch 75 (.leaf (74, xt_74)) (.leaf (75, xt_75))))) (.branch 79 (.branch 77 (.leaf (76, xt_76)) (.branch 78 (.leaf (77, xt_77)) (.leaf (78, xt_78)))) (.branch 80 (.leaf (79, xt_79)) (.branch 81 (.leaf (80, xt_80)) (.leaf (81, xt_81)))))) (.branch 88 (.branch 85 (.branch 83 (.leaf (82, xt_82)) (.branch 84 (.leaf (83, xt_83)) (.leaf (84, xt_84)))) (.branch 86 (.leaf (85, xt_85)) (.branch 87 (.leaf (86, xt_86)) (.leaf (87, xt_87))))) (.branch 91 (.branch 89 (.leaf (88, xt_88)) (.branch 90 (.leaf (89, xt_89)) (.leaf (90, xt_90)))) (.branch 92 (.leaf (91, xt_91)) (.branch 93 (.leaf (92, xt_92)) (.leaf (93, xt_93))))))))) (.branch 141 (.branch 117 (.branch 105 (.branch 99 (.branch 96 (.branch 95 (.leaf (94, xt_94)) (.leaf (95, xt_95))) (.branch 97 (.leaf (96, xt_96)) (.branch 98 (.leaf (97, xt_97)) (.leaf (98, xt_98))))) (.branch 102 (.branch 100 (.leaf (99, xt_99)) (.branch 101 (.leaf (100, xt_100)) (.leaf (101, xt_101)))) (.branch 103 (.leaf (102, xt_102)) (.branch 104 (.leaf (103, xt_103)) (.leaf (104, xt_104)))))) (.branch 111 (.branch 108 (.branch 106 (.leaf (105, xt_105)) (.branch 107 (.leaf (106, xt_106)) (.leaf (107, xt_107)))) (.branch 109 (.leaf (108, xt_108)) (.branch 110 (.leaf (109, xt_109)) (.leaf (110, xt_110))))) (.branch 114 (.branch 112 (.leaf (111, xt_111)) (.branch 113 (.leaf (112, xt_112)) (.leaf (113, xt_113)))) (.branch 115 (.leaf (114, xt_114)) (.branch 116 (.leaf (115, xt_115)) (.leaf (116, xt_116))))))) (.branch 129 (.branch 123 (.branch 120 (.branch 118 (.leaf (117, xt_117)) (.branch 119 (.leaf (118, xt_118)) (.leaf (119, xt_119)))) (.branch 121 (.leaf (120, xt_120)) (.branch 122 (.leaf (121, xt_121)) (.leaf (122, xt_122))))) (.branch 126 (.branch 124 (.leaf (123, xt_123)) (.branch 125 (.leaf (124, xt_124)) (.leaf (125, xt_125)))) (.branch 127 (.leaf (126, xt_126)) (.branch 128 (.leaf (127, xt_127)) (.leaf (128, xt_128)))))) (.branch 135 (.branch 132 (.branch 130 (.leaf (129, xt_129)) (.branch 131 (.leaf (130, xt_130)) (.leaf (131, xt_131)))) (.branch 133 (.leaf (132, xt_132)) (.branch 134 (.leaf (133, xt_133)) (.leaf (134, xt_134))))) (.branch 138 (.branch 136 (.leaf (135, xt_135)) (.branch 137 (.leaf (136, xt_136)) (.leaf (137, xt_137)))) (.branch 139 (.leaf (138, xt_138)) (.branch 140 (.leaf (139, xt_139)) (.leaf (140, xt_140)))))))) (.branch 164 (.branch 152 (.branch 146 (.branch 143 (.branch 142 (.leaf (141, xt_141)) (.leaf (142, xt_142))) (.branch 144 (.leaf (143, xt_143)) (.branch 145 (.leaf (144, xt_144)) (.leaf (145, xt_145))))) (.branch 149 (.branch 147 (.leaf (146, xt_146)) (.branch 148 (.leaf (147, xt_147)) (.leaf (148, xt_148)))) (.branch 150 (.leaf (149, xt_149)) (.branch 151 (.leaf (150, xt_150)) (.leaf (151, xt_151)))))) (.branch 158 (.branch 155 (.branch 153 (.leaf (152, xt_152)) (.branch 154 (.leaf (153, xt_153)) (.leaf (154, xt_154)))) (.branch 156 (.leaf (155, xt_155)) (.branch 157 (.leaf (156, xt_156)) (.leaf (157, xt_157))))) (.branch 161 (.branch 159 (.leaf (158, xt_158)) (.branch 160 (.leaf (159, xt_159)) (.leaf (160, xt_160)))) (.branch 162 (.leaf (161, xt_161)) (.branch 163 (.leaf (162, xt_162)) (.leaf (163, xt_163))))))) (.branch 176 (.branch 170 (.branch 167 (.branch 165 (.leaf (164, xt_164)) (.branch 166 (.leaf (165, xt_165)) (.leaf (166, xt_166)))) (.branch 168 (.leaf (167, xt_167)) (.branch 169 (.leaf (168, xt_168)) (.leaf (169, xt_169))))) (.branch 173 (.branch 171 (.leaf (170, xt_170)) (.branch 172 (.leaf (171, xt_171)) (.leaf (172, xt_172)))) (.branch 174 (.leaf (173, xt_173)) (.branch 175 (.leaf (174, xt_174)) (.leaf (175, xt_175)))))) (.branch 182 (.branch 179 (.branch 177 (.leaf (176, xt_176)) (.branch 178 (.leaf (177, xt_177)) (.leaf (178, xt_178)))) (.branch 180 (.leaf (179, xt_179)) (.branch 181 (.leaf (180, xt_180)) (.leaf (181, xt_181))))) (.branch 185 (.branch 183 (.leaf (182, xt_182)) (.branch 184 (.leaf (183, xt_183)) (.leaf (184, xt_184)))) (.branch 186 (.leaf (185, xt_185)) (.branch 187 (.leaf (186, xt_186)) (.leaf (187, xt_187)))))))))
noncomputable def xmeth : xmi := .branch 94 (.branch 47 (.branch 23 (.branch 11 (.branch 5 (.branch 2 (.branch 1 (.leaf (0, (600000, 7302250, 1, 99, 3, 4))) (.leaf (1, (252, 5444, 0, 11, 0, 2)))) (.branch 3 (.leaf (2, (41, 741, 0, 0, 0, 2))) (.branch 4 (.leaf (3, (8, 480, 0, 9, 0, 1))) (.leaf (4, (1, 8, 0, 2, 0, 1)))))) (.branch 8 (.branch 6 (.leaf (5, (0, 0, 0, 1, 0, 1))) (.branch 7 (.leaf (6, (1, 25, 1, 7, 0, 7))) (.leaf (7, (0, 0, 0, 98, 1, 1))))) (.branch 9 (.leaf (8, (0, 0, 0, 98, 5, 1))) (.branch 10 (.leaf (9, (0, 0, 1, 98, 4, 2))) (.leaf (10, (0, 0, 0, 98, 3, 1))))))) (.branch 17 (.branch 14 (.branch 12 (.leaf (11, (0, 0, 2, 99, 4, 2))) (.branch 13 (.leaf (12, (0, 0, 2, 98, 0, 2))) (.leaf (13, (0, 0, 3, 99, 1, 3))))) (.branch 15 (.leaf (14, (1, 3, 3, 4, 0, 4))) (.branch 16 (.leaf (15, (2, 48, 1, 6, 0, 2))) (.leaf (16, (6, 114, 2, 3, 0, 3)))))) (.branch 20 (.branch 18 (.leaf (17, (4, 58, 1, 10, 0, 2))) (.branch 19 (.leaf (18, (5, 100, 2, 5, 0, 3))) (.leaf (19, (1, 60, 0, 8, 0, 1))))) (.branch 21 (.leaf (20, (16, 7584, 0, 12, 0, 1))) (.branch 22 (.leaf (21, (0, 0, 1, 12, 0, 3))) (.leaf (22, (0, 0, 0, 11, 1, 1)))))))) (.branch 35 (.branch 29 (.branch 26 (.branch 24 (.leaf (23, (0, 0, 0, 12, 1, 1))) (.branch 25 (.leaf (24, (0, 0, 0, 11, 2, 1))) (.leaf (25, (0, 0, 0, 12, 2, 1))))) (.branch 27 (.leaf (26, (0, 0, 0, 11, 2, 1))) (.branch 28 (.leaf (27, (0, 0, 0, 12, 2, 1))) (.leaf (28, (0, 0, 3, 11, 3, 4)))))) (.branch 32 (.branch 30 (.leaf (29, (0, 0, 1, 11, 3, 1))) (.branch 31 (.leaf (30, (0, 0, 3, 11, 3, 3))) (.leaf (31, (0, 0, 1, 11, 3, 2))))) (.branch 33 (.leaf (32, (0, 0, 2, 8, 0, 4))) (.branch 34 (.leaf (33, (0, 0, 0, 11, 3, 1))) (.leaf (34, (0, 0, 3, 12, 3, 5))))))) (.branch 41 (.branch 38 (.branch 36 (.leaf (35, (0, 0, 1, 12, 3, 1))) (.branch 37 (.leaf (36, (0, 0, 1, 12, 3, 2))) (.leaf (37, (0, 0, 3, 11, 3, 6))))) (.branch 39 (.leaf (38, (0, 0, 2, 11, 1, 3))) (.branch 40 (.leaf (39, (0, 0, 3, 12, 3, 6))) (.leaf (40, (0, 0, 2, 12, 1, 3)))))) (.branch 44 (.branch 42 (.leaf (41, (0, 0, 2, 11, 2, 4))) (.branch 43 (.leaf (42, (0, 0, 1, 11, 1, 2))) (.leaf (43, (0, 0, 2, 12, 2, 3))))) (.branch 45 (.leaf (44, (0, 0, 5, 11, 3, 7))) (.branch 46 (.leaf (45, (0, 0, 5, 11, 1, 7))) (.leaf (46, (0, 0, 5, 12, 3, 8))))))))) (.branch 70 (.branch 58 (.branch 52 (.branch 49 (.branch 48 (.leaf (47, (0, 0, 5, 11, 1, 6))) (.leaf (48, (0, 0, 1, 11, 0, 3)))) (.branch 50 (.leaf (49, (0, 0, 5, 12, 1, 6))) (.branch 51 (.leaf (50, (0, 0, 1, 12, 0, 3))) (.leaf (51, (0, 0, 1, 11, 1, 2)))))) (.branch 55 (.branch 53 (.leaf (52, (0, 0, 1, 4, 3, 3))) (.branch 54 (.leaf (53, (0, 0, 0, 0, 0, 1))) (.leaf (54, (0, 0, 0, 9, 0, 1))))) (.branch 56 (.leaf (55, (0, 0, 1, 7, 0, 2))) (.branch 57 (.leaf (56, (0, 0, 2, 99, 1, 2))) (.leaf (57, (0, 0, 0, 7, 0, 2))))))) (.branch 64 (.branch 61 (.branch 59 (.leaf (58, (0, 0, 1, 0, 0, 2))) (.branch 60 (.leaf (59, (0, 0, 1, 0, 0, 3))) (.leaf (60, (0, 0, 1, 9, 0, 2))))) (.branch 62 (.leaf (61, (0, 0, 1, 11, 1, 2))) (.branch 63 (.leaf (62, (0, 0, 1, 12, 1, 4))) (.leaf (63, (0, 0, 2, 12, 3, 4)))))) (.branch 67 (.branch 65 (.leaf (64, (0, 0, 1, 12, 1, 2))) (.branch 66 (.leaf (65, (0, 0, 0, 12, 0, 2))) (.leaf (66, (0, 0, 1, 12, 1, 2))))) (.branch 68 (.leaf (67, (0, 0, 1, 12, 1, 2))) (.branch 69 (.leaf (68, (0, 0, 1, 12, 1, 2))) (.leaf (69, (0, 0, 1, 11, 1, 2)))))))) (.branch 82 (.branch 76 (.branch 73 (.branch 71 (.leaf (70, (0, 0, 1, 4, 3, 4))) (.branch 72 (.leaf (71, (0, 0, 1, 12, 1, 4))) (.leaf (72, (0, 0, 1, 11, 1, 2))))) (.branch 74 (.leaf (73, (0, 0, 1, 12, 1, 2))) (.branch 75 (.leaf (74, (0, 0, 1, 11, 1, 2))) (.leaf (75, (0, 0, 1, 0, 1, 4)))))) (.branch 79 (.branch 77 (.leaf (76, (0, 0, 0, 0, 1, 3))) (.branch 78 (.leaf (77, (0, 0, 0, 0, 1, 3))) (.leaf (78, (0, 0, 1, 12, 1, 5))))) (.branch 80 (.leaf (79, (0, 0, 1, 11, 1, 2))) (.branch 81 (.leaf (80, (0, 0, 1, 0, 3, 2))) (.leaf (81, (0, 0, 1, 12, 1, 2))))))) (.branch 88 (.branch 85 (.branch 83 (.leaf (82, (0, 0, 1, 12, 3, 2))) (.branch 84 (.leaf (83, (0, 0, 2, 11, 1, 4))) (.leaf (84, (0, 0, 1, 0, 3, 2))))) (.branch 86 (.leaf (85, (0, 0, 2, 12, 1, 6))) (.branch 87 (.leaf (86, (0, 0, 1, 12, 3, 2))) (.leaf (87, (0, 0, 2, 11, 1, 3)))))) (.branch 91 (.branch 89 (.leaf (88, (0, 0, 2, 11, 3, 3))) (.branch 90 (.leaf (89, (0, 0, 2, 12, 1, 3))) (.leaf (90, (0, 0, 2, 12, 3, 3))))) (.branch 92 (.leaf (91, (0, 0, 1, 11, 1, 2))) (.branch 93 (.leaf (92, (0, 0, 1, 12, 1, 5))) (.leaf (93, (0, 0, 2, 11, 1, 4)))))))))) (.branch 141 (.branch 117 (.branch 105 (.branch 99 (.branch 96 (.branch 95 (.leaf (94, (0, 0, 2, 12, 1, 3))) (.leaf (95, (0, 0, 2, 11, 1, 4)))) (.branch 97 (.leaf (96, (0, 0, 1, 0, 3, 2))) (.branch 98 (.leaf (97, (0, 0, 2, 12, 1, 3))) (.leaf (98, (0, 0, 1, 12, 3, 2)))))) (.branch 102 (.branch 100 (.leaf (99, (0, 0, 4, 11, 1, 5))) (.branch 101 (.leaf (100, (0, 0, 4, 11, 3, 5))) (.leaf (101, (0, 0, 4, 12, 1, 5))))) (.branch 103 (.leaf (102, (0, 0, 4, 12, 3, 5))) (.branch 104 (.leaf (103, (0, 0, 4, 11, 1, 5))) (.leaf (104, (0, 0, 4, 12, 1, 5))))))) (.branch 111 (.branch 108 (.branch 106 (.leaf (105, (0, 0, 4, 11, 1, 5))) (.branch 107 (.leaf (106, (0, 0, 4, 12, 1, 5))) (.leaf (107, (0, 0, 3, 11, 1, 4))))) (.branch 109 (.leaf (108, (0, 0, 3, 0, 3, 4))) (.branch 110 (.leaf (109, (0, 0, 3, 12, 1, 4))) (.leaf (110, (0, 0, 3, 12, 3, 4)))))) (.branch 114 (.branch 112 (.leaf (111, (0, 0, 4, 11, 1, 5))) (.branch 113 (.leaf (112, (0, 0, 4, 12, 1, 6))) (.leaf (113, (0, 0, 4, 11, 1, 5))))) (.branch 115 (.leaf (114, (0, 0, 4, 12, 1, 5))) (.branch 116 (.leaf (115, (0, 0, 3, 11, 1, 4))) (.leaf (116, (0, 0, 3, 12, 1, 4)))))))) (.branch 129 (.branch 123 (.branch 120 (.branch 118 (.leaf (117, (0, 0, 1, 11, 1, 2))) (.branch 119 (.leaf (118, (0, 0, 1, 12, 1, 2))) (.leaf (119, (0, 0, 2, 11, 1, 4))))) (.branch 121 (.leaf (120, (0, 0, 2, 12, 1, 3))) (.branch 122 (.leaf (121, (0, 0, 2, 11, 3, 3))) (.leaf (122, (0, 0, 2, 12, 3, 3)))))) (.branch 126 (.branch 124 (.leaf (123, (0, 0, 1, 11, 3, 2))) (.branch 125 (.leaf (124, (0, 0, 1, 12, 3, 2))) (.leaf (125, (0, 0, 3, 12, 3, 6))))) (.branch 127 (.leaf (126, (0, 0, 2, 11, 1, 6))) (.branch 128 (.leaf (127, (0, 0, 2, 12, 1, 3))) (.leaf (128, (0, 0, 2, 11, 1, 4))))))) (.branch 135 (.branch 132 (.branch 130 (.leaf (129, (0, 0, 2, 12, 1, 4))) (.branch 131 (.leaf (130, (0, 0, 2, 11, 1, 3))) (.leaf (131, (0, 0, 2, 11, 3, 3))))) (.branch 133 (.leaf (132, (0, 0, 2, 12, 1, 5))) (.branch 134 (.leaf (133, (0, 0, 2, 11, 1, 3))) (.leaf (134, (0, 0, 2, 12, 1, 3)))))) (.branch 138 (.branch 136 (.leaf (135, (0, 0, 3, 11, 1, 4))) (.branch 137 (.leaf (136, (0, 0, 3, 12, 1, 6))) (.leaf (137, (0, 0, 1, 11, 1, 2))))) (.branch 139 (.leaf (138, (0, 0, 1, 12, 1, 2))) (.branch 140 (.leaf (139, (0, 0, 1, 11, 1, 2))) (.leaf (140, (0, 0, 1, 12, 1, 2))))))))) (.branch 164 (.branch 152 (.branch 146 (.branch 143 (.branch 142 (.leaf (141, (0, 0, 1, 11, 1, 2))) (.leaf (142, (0, 0, 1, 12, 1, 5)))) (.branch 144 (.leaf (143, (0, 0, 1, 11, 1, 2))) (.branch 145 (.leaf (144, (0, 0, 1, 12, 1, 2))) (.leaf (145, (0, 0, 2, 11, 1, 4)))))) (.branch 149 (.branch 147 (.leaf (146, (0, 0, 2, 12, 1, 7))) (.branch 148 (.leaf (147, (0, 0, 4, 11, 1, 6))) (.leaf (148, (0, 0, 4, 12, 1, 9))))) (.branch 150 (.leaf (149, (0, 0, 1, 11, 1, 2))) (.branch 151 (.leaf (150, (0, 0, 1, 12, 1, 2))) (.leaf (151, (0, 0, 2, 11, 1, 4))))))) (.branch 158 (.branch 155 (.branch 153 (.leaf (152, (0, 0, 2, 12, 1, 10))) (.branch 154 (.leaf (153, (0, 0, 1, 11, 1, 2))) (.leaf (154, (0, 0, 1, 12, 1, 2))))) (.branch 156 (.leaf (155, (0, 0, 2, 11, 1, 3))) (.branch 157 (.leaf (156, (0, 0, 2, 12, 1, 3))) (.leaf (157, (0, 0, 2, 11, 1, 4)))))) (.branch 161 (.branch 159 (.leaf (158, (0, 0, 2, 12, 1, 6))) (.branch 160 (.leaf (159, (0, 0, 0, 11, 1, 5))) (.leaf (160, (0, 0, 0, 12, 1, 3))))) (.branch 162 (.leaf (161, (0, 0, 1, 12, 1, 2))) (.branch 163 (.leaf (162, (0, 0, 0, 11, 1, 5))) (.leaf (163, (0, 0, 0, 12, 1, 3)))))))) (.branch 176 (.branch 170 (.branch 167 (.branch 165 (.leaf (164, (0, 0, 0, 11, 3, 2))) (.branch 166 (.leaf (165, (0, 0, 0, 0, 1, 3))) (.leaf (166, (0, 0, 0, 12, 3, 3))))) (.branch 168 (.leaf (167, (0, 0, 2, 11, 1, 3))) (.branch 169 (.leaf (168, (0, 0, 2, 12, 1, 3))) (.leaf (169, (0, 0, 1, 11, 1, 2)))))) (.branch 173 (.branch 171 (.leaf (170, (0, 0, 1, 12, 1, 4))) (.branch 172 (.leaf (171, (0, 0, 2, 11, 1, 5))) (.leaf (172, (0, 0, 2, 11, 1, 3))))) (.branch 174 (.leaf (173, (0, 0, 2, 12, 1, 5))) (.branch 175 (.leaf (174, (0, 0, 2, 12, 1, 4))) (.leaf (175, (0, 0, 2, 11, 1, 4))))))) (.branch 182 (.branch 179 (.branch 177 (.leaf (176, (0, 0, 2, 12, 1, 4))) (.branch 178 (.leaf (177, (0, 0, 1, 11, 1, 2))) (.leaf (178, (0, 0, 1, 12, 1, 3))))) (.branch 180 (.leaf (179, (0, 0, 1, 11, 1, 2))) (.branch 181 (.leaf (180, (0, 0, 1, 12, 1, 2))) (.leaf (181, (0, 0, 2, 11, 3, 6)))))) (.branch 185 (.branch 183 (.leaf (182, (0, 0, 2, 12, 3, 7))) (.branch 184 (.leaf (183, (0, 0, 0, 11, 1, 1))) (.leaf (184, (0, 0, 0, 12, 1, 1))))) (.branch 186 (.leaf (185, (0, 0, 2, 12, 0, 4))) (.branch 187 (.leaf (186, (0, 0, 0, 11, 1, 1))) (.leaf (187, (0, 0, 0, 12, 1, 1))))))))))
noncomputable def xo_0 : xct := .branch 6 (.branch 3 (.branch 1 (.leaf (0, (0, 0))) (.branch 2 (.leaf (1, (5, 0))) (.leaf (2, (5, 0))))) (.branch 4 (.leaf (3, (0, 0))) (.branch 5 (.leaf (4, (5, 0))) (.leaf (5, (0, 0)))))) (.branch 9 (.branch 7 (.leaf (6, (0, 0))) (.branch 8 (.leaf (7, (0, 0))) (.leaf (8, (0, 0))))) (.branch 10 (.leaf (9, (0, 0))) (.branch 11 (.leaf (10, (5, 0))) (.leaf (11, (5, 0))))))
noncomputable def xo_1 : xct := .branch 4 (.branch 2 (.branch 1 (.leaf (0, (0, 0))) (.leaf (1, (0, 0)))) (.branch 3 (.leaf (2, (0, 0))) (.leaf (3, (0, 0))))) (.branch 6 (.branch 5 (.leaf (4, (0, 0))) (.leaf (5, (0, 0)))) (.branch 7 (.leaf (6, (0, 0))) (.leaf (7, (0, 0)))))
noncomputable def xo_2 : xct := .branch 3 (.branch 1 (.leaf (0, (2, 0))) (.branch 2 (.leaf (1, (0, 0))) (.leaf (2, (0, 0))))) (.branch 5 (.branch 4 (.leaf (3, (0, 0))) (.leaf (4, (0, 0)))) (.branch 6 (.leaf (5, (0, 0))) (.leaf (6, (5, 0)))))
noncomputable def xo_3 : xct := .branch 5 (.branch 2 (.branch 1 (.leaf (0, (5, 0))) (.leaf (1, (5, 0)))) (.branch 3 (.leaf (2, (5, 0))) (.branch 4 (.leaf (3, (5, 0))) (.leaf (4, (0, 0)))))) (.branch 8 (.branch 6 (.leaf (5, (0, 0))) (.branch 7 (.leaf (6, (0, 0))) (.leaf (7, (0, 0))))) (.branch 9 (.leaf (8, (0, 0))) (.branch 10 (.leaf (9, (0, 0))) (.leaf (10, (0, 0))))))
noncomputable def xo_4 : xct := .branch 3 (.branch 1 (.leaf (0, (5, 0))) (.branch 2 (.leaf (1, (5, 0))) (.leaf (2, (5, 0))))) (.branch 5 (.branch 4 (.leaf (3, (5, 0))) (.leaf (4, (0, 0)))) (.branch 6 (.leaf (5, (5, 0))) (.leaf (6, (0, 0)))))
noncomputable def xo_5 : xct := .branch 6 (.branch 3 (.branch 1 (.leaf (0, (5, 0))) (.branch 2 (.leaf (1, (5, 0))) (.leaf (2, (5, 0))))) (.branch 4 (.leaf (3, (5, 0))) (.branch 5 (.leaf (4, (5, 0))) (.leaf (5, (0, 0)))))) (.branch 9 (.branch 7 (.leaf (6, (0, 0))) (.branch 8 (.leaf (7, (0, 0))) (.leaf (8, (0, 0))))) (.branch 10 (.leaf (9, (0, 0))) (.branch 11 (.leaf (10, (0, 0))) (.leaf (11, (0, 0))))))
noncomputable def xo_6 : xct := .branch 4 (.branch 2 (.branch 1 (.leaf (0, (5, 0))) (.leaf (1, (0, 0)))) (.branch 3 (.leaf (2, (0, 0))) (.leaf (3, (0, 0))))) (.branch 6 (.branch 5 (.leaf (4, (0, 0))) (.leaf (5, (0, 0)))) (.branch 7 (.leaf (6, (5, 0))) (.branch 8 (.leaf (7, (5, 0))) (.leaf (8, (2, 0))))))
noncomputable def xo_7 : xct := .branch 6 (.branch 3 (.branch 1 (.leaf (0, (5, 0))) (.branch 2 (.leaf (1, (5, 0))) (.leaf (2, (0, 0))))) (.branch 4 (.leaf (3, (0, 0))) (.branch 5 (.leaf (4, (0, 0))) (.leaf (5, (0, 0)))))) (.branch 9 (.branch 7 (.leaf (6, (2, 0))) (.branch 8 (.leaf (7, (0, 0))) (.leaf (8, (0, 0))))) (.branch 10 (.leaf (9, (0, 0))) (.branch 11 (.leaf (10, (0, 0))) (.leaf (11, (0, 0))))))
noncomputable def xo_8 : xct := .branch 2 (.branch 1 (.leaf (0, (0, 0))) (.leaf (1, (0, 0)))) (.branch 3 (.leaf (2, (0, 0))) (.leaf (3, (5, 0))))
noncomputable def xo_9 : xct := .branch 5 (.branch 2 (.branch 1 (.leaf (0, (0, 0))) (.leaf (1, (0, 0)))) (.branch 3 (.leaf (2, (0, 0))) (.branch 4 (.leaf (3, (5, 0))) (.leaf (4, (5, 0)))))) (.branch 8 (.branch 6 (.leaf (5, (5, 0))) (.branch 7 (.leaf (6, (5, 0))) (.leaf (7, (5, 0))))) (.branch 9 (.leaf (8, (5, 0))) (.branch 10 (.leaf (9, (5, 0))) (.leaf (10, (5, 0))))))
noncomputable def xo_10 : xct := .branch 2 (.branch 1 (.leaf (0, (5, 0))) (.leaf (1, (5, 0)))) (.branch 3 (.leaf (2, (5, 0))) (.branch 4 (.leaf (3, (5, 0))) (.leaf (4, (5, 0)))))
noncomputable def xo_11 : xct := .branch 9 (.branch 4 (.branch 2 (.branch 1 (.leaf (0, (0, 0))) (.leaf (1, (2, 0)))) (.branch 3 (.leaf (2, (2, 0))) (.leaf (3, (5, 0))))) (.branch 6 (.branch 5 (.leaf (4, (5, 0))) (.leaf (5, (0, 0)))) (.branch 7 (.leaf (6, (5, 0))) (.branch 8 (.leaf (7, (5, 0))) (.leaf (8, (5, 0))))))) (.branch 13 (.branch 11 (.branch 10 (.leaf (9, (0, 0))) (.leaf (10, (5, 0)))) (.branch 12 (.leaf (11, (5, 0))) (.leaf (12, (5, 0))))) (.branch 15 (.branch 14 (.leaf (13, (5, 0))) (.leaf (14, (5, 0)))) (.branch 16 (.leaf (15, (5, 0))) (.branch 17 (.leaf (16, (5, 0))) (.leaf (17, (0, 0)))))))
noncomputable def xo_12 : xct := .branch 20 (.branch 10 (.branch 5 (.branch 2 (.branch 1 (.leaf (0, (5, 0))) (.leaf (1, (5, 0)))) (.branch 3 (.leaf (2, (0, 0))) (.branch 4 (.leaf (3, (2, 0))) (.leaf (4, (2, 0)))))) (.branch 7 (.branch 6 (.leaf (5, (5, 0))) (.leaf (6, (5, 0)))) (.branch 8 (.leaf (7, (5, 0))) (.branch 9 (.leaf (8, (5, 0))) (.leaf (9, (5, 0))))))) (.branch 15 (.branch 12 (.branch 11 (.leaf (10, (0, 0))) (.leaf (11, (0, 0)))) (.branch 13 (.leaf (12, (0, 0))) (.branch 14 (.leaf (13, (0, 0))) (.leaf (14, (0, 0)))))) (.branch 17 (.branch 16 (.leaf (15, (0, 0))) (.leaf (16, (0, 0)))) (.branch 18 (.leaf (17, (0, 0))) (.branch 19 (.leaf (18, (0, 0))) (.leaf (19, (0, 0)))))))) (.branch 30 (.branch 25 (.branch 22 (.branch 21 (.leaf (20, (0, 0))) (.leaf (21, (5, 0)))) (.branch 23 (.leaf (22, (0, 0))) (.branch 24 (.leaf (23, (0, 0))) (.leaf (24, (5, 0)))))) (.branch 27 (.branch 26 (.leaf (25, (5, 0))) (.leaf (26, (5, 0)))) (.branch 28 (.leaf (27, (5, 0))) (.branch 29 (.leaf (28, (0, 0))) (.leaf (29, (0, 0))))))) (.branch 35 (.branch 32 (.branch 31 (.leaf (30, (0, 0))) (.leaf (31, (5, 0)))) (.branch 33 (.leaf (32, (0, 0))) (.branch 34 (.leaf (33, (0, 0))) (.leaf (34, (0, 0)))))) (.branch 37 (.branch 36 (.leaf (35, (5, 0))) (.leaf (36, (5, 0)))) (.branch 38 (.leaf (37, (5, 0))) (.branch 39 (.leaf (38, (0, 0))) (.leaf (39, (0, 0))))))))
noncomputable def xobj : xdf := .branch 6 (.branch 3 (.branch 1 (.leaf (0, (12, xo_0))) (.branch 2 (.leaf (1, (8, xo_1))) (.leaf (2, (7, xo_2))))) (.branch 4 (.leaf (3, (11, xo_3))) (.branch 5 (.leaf (4, (7, xo_4))) (.leaf (5, (12, xo_5)))))) (.branch 9 (.branch 7 (.leaf (6, (9, xo_6))) (.branch 8 (.leaf (7, (12, xo_7))) (.leaf (8, (4, xo_8))))) (.branch 11 (.branch 10 (.leaf (9, (11, xo_9))) (.leaf (10, (5, xo_10)))) (.branch 12 (.leaf (11, (18, xo_11))) (.leaf (12, (40, xo_12))))))
def xel (L : Nat) : Nat → Nat
  | 0 => L
  | _ => 133
def xeb : List Nat := [112, 108, 97, 99, 101, 32, 97, 116, 32, 112, 101, 114, 115, 111, 110, 32, 112, 117, 114, 115, 101, 32, 99, 104, 105, 108, 100, 32, 98, 105, 115, 104, 111, 112, 32, 116, 119, 105, 110, 115, 32, 107, 110, 111, 119, 115, 32, 119, 97, 115, 32, 105, 110, 32, 104, 111, 117, 114, 32, 98, 97, 115, 101, 32, 109, 111, 114, 101, 32, 115, 112, 101, 101, 100, 32, 115, 119, 101, 97, 114, 32, 115, 97, 121, 115, 32, 102, 105, 110, 100, 32, 114, 101, 99, 97, 110, 116, 32, 97, 110, 121, 32, 119, 104, 101, 110, 32, 116, 105, 108, 108, 32, 115, 116, 97, 110, 100, 115, 32, 108, 111, 111, 112, 32, 101, 110, 100, 32, 115, 116, 111, 112, 32]
end
section
/-! names and places in the tables: printed by program -/
set_option maxRecDepth 100000 in
noncomputable def xXB : Lean.RArray (Nat × ByteArray) := .branch 94 (.branch 47 (.branch 23 (.branch 11 (.branch 5 (.branch 2 (.branch 1 (.leaf (0, code)) (.leaf (1, prog_1_method_1_code))) (.branch 3 (.leaf (2, prog_2_method_1_code)) (.branch 4 (.leaf (3, prog_11_method_1_code)) (.leaf (4, prog_4_method_1_code))))) (.branch 8 (.branch 6 (.leaf (5, prog_3_method_1_code)) (.branch 7 (.leaf (6, prog_9_method_1_code)) (.leaf (7, prog_17_method_54_code)))) (.branch 9 (.leaf (8, prog_17_method_152_code)) (.branch 10 (.leaf (9, prog_17_method_56_code)) (.leaf (10, prog_17_method_154_code)))))) (.branch 17 (.branch 14 (.branch 12 (.leaf (11, prog_18_method_2_code)) (.branch 13 (.leaf (12, prog_17_method_155_code)) (.leaf (13, prog_21_method_11_code)))) (.branch 15 (.leaf (14, prog_6_method_1_code)) (.branch 16 (.leaf (15, prog_8_method_1_code)) (.leaf (16, prog_5_method_1_code))))) (.branch 20 (.branch 18 (.leaf (17, prog_12_method_1_code)) (.branch 19 (.leaf (18, prog_7_method_1_code)) (.leaf (19, prog_10_method_1_code)))) (.branch 21 (.leaf (20, prog_14_method_1_code)) (.branch 22 (.leaf (21, prog_14_method_2_code)) (.leaf (22, prog_1_method_2_code))))))) (.branch 35 (.branch 29 (.branch 26 (.branch 24 (.leaf (23, prog_14_method_3_code)) (.branch 25 (.leaf (24, prog_1_method_3_code)) (.leaf (25, prog_14_method_4_code)))) (.branch 27 (.leaf (26, prog_1_method_4_code)) (.branch 28 (.leaf (27, prog_14_method_5_code)) (.leaf (28, prog_1_method_13_code))))) (.branch 32 (.branch 30 (.leaf (29, prog_1_method_12_code)) (.branch 31 (.leaf (30, prog_1_method_9_code)) (.leaf (31, prog_1_method_8_code)))) (.branch 33 (.leaf (32, prog_10_method_2_code)) (.branch 34 (.leaf (33, prog_1_method_7_code)) (.leaf (34, prog_14_method_13_code)))))) (.branch 41 (.branch 38 (.branch 36 (.leaf (35, prog_14_method_11_code)) (.branch 37 (.leaf (36, prog_14_method_6_code)) (.leaf (37, prog_1_method_15_code)))) (.branch 39 (.leaf (38, prog_1_method_14_code)) (.branch 40 (.leaf (39, prog_14_method_15_code)) (.leaf (40, prog_14_method_14_code))))) (.branch 44 (.branch 42 (.leaf (41, prog_1_method_16_code)) (.branch 43 (.leaf (42, prog_1_method_6_code)) (.leaf (43, prog_14_method_16_code)))) (.branch 45 (.leaf (44, prog_1_method_18_code)) (.branch 46 (.leaf (45, prog_1_method_17_code)) (.leaf (46, prog_14_method_17_code)))))))) (.branch 70 (.branch 58 (.branch 52 (.branch 49 (.branch 48 (.leaf (47, prog_1_method_20_code)) (.leaf (48, prog_1_method_19_code))) (.branch 50 (.leaf (49, prog_14_method_19_code)) (.branch 51 (.leaf (50, prog_14_method_20_code)) (.leaf (51, prog_1_method_21_code))))) (.branch 55 (.branch 53 (.leaf (52, prog_6_method_2_code)) (.branch 54 (.leaf (53, prog_2_method_2_code)) (.leaf (54, prog_11_method_2_code)))) (.branch 56 (.leaf (55, prog_9_method_2_code)) (.branch 57 (.leaf (56, prog_16_method_69_code)) (.leaf (57, prog_9_method_3_code)))))) (.branch 64 (.branch 61 (.branch 59 (.leaf (58, prog_2_method_3_code)) (.branch 60 (.leaf (59, prog_2_method_4_code)) (.leaf (60, prog_11_method_3_code)))) (.branch 62 (.leaf (61, prog_1_method_5_code)) (.branch 63 (.leaf (62, prog_14_method_48_code)) (.leaf (63, prog_14_method_28_code))))) (.branch 67 (.branch 65 (.leaf (64, prog_14_method_7_code)) (.branch 66 (.leaf (65, prog_14_method_24_code)) (.leaf (66, prog_14_method_21_code)))) (.branch 68 (.leaf (67, prog_14_method_36_code)) (.branch 69 (.leaf (68, prog_14_method_8_code)) (.leaf (69, prog_1_method_22_code))))))) (.branch 82 (.branch 76 (.branch 73 (.branch 71 (.leaf (70, prog_6_method_12_code)) (.branch 72 (.leaf (71, prog_14_method_55_code)) (.leaf (72, prog_1_method_23_code)))) (.branch 74 (.leaf (73, prog_14_method_35_code)) (.branch 75 (.leaf (74, prog_1_method_24_code)) (.leaf (75, prog_2_method_22_code))))) (.branch 79 (.branch 77 (.leaf (76, prog_2_method_23_code)) (.branch 78 (.leaf (77, prog_2_method_24_code)) (.leaf (78, prog_14_method_77_code)))) (.branch 80 (.leaf (79, prog_1_method_25_code)) (.branch 81 (.leaf (80, prog_2_method_6_code)) (.leaf (81, prog_14_method_78_code)))))) (.branch 88 (.branch 85 (.branch 83 (.leaf (82, prog_14_method_58_code)) (.branch 84 (.leaf (83, prog_1_method_26_code)) (.leaf (84, prog_2_method_7_code)))) (.branch 86 (.leaf (85, prog_14_method_79_code)) (.branch 87 (.leaf (86, prog_14_method_59_code)) (.leaf (87, prog_1_method_28_code))))) (.branch 91 (.branch 89 (.leaf (88, prog_1_method_27_code)) (.branch 90 (.leaf (89, prog_14_method_80_code)) (.leaf (90, prog_14_method_62_code)))) (.branch 92 (.leaf (91, prog_1_method_29_code)) (.branch 93 (.leaf (92, prog_14_method_81_code)) (.leaf (93, prog_1_method_30_code))))))))) (.branch 141 (.branch 117 (.branch 105 (.branch 99 (.branch 96 (.branch 95 (.leaf (94, prog_14_method_82_code)) (.leaf (95, prog_1_method_31_code))) (.branch 97 (.leaf (96, prog_2_method_8_code)) (.branch 98 (.leaf (97, prog_14_method_83_code)) (.leaf (98, prog_14_method_61_code))))) (.branch 102 (.branch 100 (.leaf (99, prog_1_method_33_code)) (.branch 101 (.leaf (100, prog_1_method_32_code)) (.leaf (101, prog_14_method_90_code)))) (.branch 103 (.leaf (102, prog_14_method_89_code)) (.branch 104 (.leaf (103, prog_1_method_34_code)) (.leaf (104, prog_14_method_91_code)))))) (.branch 111 (.branch 108 (.branch 106 (.leaf (105, prog_1_method_35_code)) (.branch 107 (.leaf (106, prog_14_method_92_code)) (.leaf (107, prog_1_method_36_code)))) (.branch 109 (.leaf (108, prog_2_method_10_code)) (.branch 110 (.leaf (109, prog_14_method_93_code)) (.leaf (110, prog_14_method_63_code))))) (.branch 114 (.branch 112 (.leaf (111, prog_1_method_37_code)) (.branch 113 (.leaf (112, prog_14_method_101_code)) (.leaf (113, prog_1_method_38_code)))) (.branch 115 (.leaf (114, prog_14_method_102_code)) (.branch 116 (.leaf (115, prog_1_method_39_code)) (.leaf (116, prog_14_method_104_code))))))) (.branch 129 (.branch 123 (.branch 120 (.branch 118 (.leaf (117, prog_1_method_40_code)) (.branch 119 (.leaf (118, prog_14_method_106_code)) (.leaf (119, prog_1_method_41_code)))) (.branch 121 (.leaf (120, prog_14_method_107_code)) (.branch 122 (.leaf (121, prog_1_method_42_code)) (.leaf (122, prog_14_method_108_code))))) (.branch 126 (.branch 124 (.leaf (123, prog_1_method_43_code)) (.branch 125 (.leaf (124, prog_14_method_109_code)) (.leaf (125, prog_14_method_18_code)))) (.branch 127 (.leaf (126, prog_1_method_44_code)) (.branch 128 (.leaf (127, prog_14_method_110_code)) (.leaf (128, prog_1_method_45_code)))))) (.branch 135 (.branch 132 (.branch 130 (.leaf (129, prog_14_method_111_code)) (.branch 131 (.leaf (130, prog_1_method_47_code)) (.leaf (131, prog_1_method_46_code)))) (.branch 133 (.leaf (132, prog_14_method_113_code)) (.branch 134 (.leaf (133, prog_1_method_48_code)) (.leaf (134, prog_14_method_116_code))))) (.branch 138 (.branch 136 (.leaf (135, prog_1_method_49_code)) (.branch 137 (.leaf (136, prog_14_method_117_code)) (.leaf (137, prog_1_method_50_code)))) (.branch 139 (.leaf (138, prog_14_method_119_code)) (.branch 140 (.leaf (139, prog_1_method_51_code)) (.leaf (140, prog_14_method_120_code)))))))) (.branch 164 (.branch 152 (.branch 146 (.branch 143 (.branch 142 (.leaf (141, prog_1_method_52_code)) (.leaf (142, prog_14_method_121_code))) (.branch 144 (.leaf (143, prog_1_method_53_code)) (.branch 145 (.leaf (144, prog_14_method_122_code)) (.leaf (145, prog_1_method_54_code))))) (.branch 149 (.branch 147 (.leaf (146, prog_14_method_123_code)) (.branch 148 (.leaf (147, prog_1_method_55_code)) (.leaf (148, prog_14_method_125_code)))) (.branch 150 (.leaf (149, prog_1_method_56_code)) (.branch 151 (.leaf (150, prog_14_method_126_code)) (.leaf (151, prog_1_method_57_code)))))) (.branch 158 (.branch 155 (.branch 153 (.leaf (152, prog_14_method_127_code)) (.branch 154 (.leaf (153, prog_1_method_58_code)) (.leaf (154, prog_14_method_128_code)))) (.branch 156 (.leaf (155, prog_1_method_59_code)) (.branch 157 (.leaf (156, prog_14_method_130_code)) (.leaf (157, prog_1_method_60_code))))) (.branch 161 (.branch 159 (.leaf (158, prog_14_method_131_code)) (.branch 160 (.leaf (159, prog_1_method_61_code)) (.leaf (160, prog_14_method_133_code)))) (.branch 162 (.leaf (161, prog_14_method_9_code)) (.branch 163 (.leaf (162, prog_1_method_62_code)) (.leaf (163, prog_14_method_134_code))))))) (.branch 176 (.branch 170 (.branch 167 (.branch 165 (.leaf (164, prog_1_method_63_code)) (.branch 166 (.leaf (165, prog_2_method_25_code)) (.leaf (166, prog_14_method_135_code)))) (.branch 168 (.leaf (167, prog_1_method_64_code)) (.branch 169 (.leaf (168, prog_14_method_136_code)) (.leaf (169, prog_1_method_65_code))))) (.branch 173 (.branch 171 (.leaf (170, prog_14_method_137_code)) (.branch 172 (.leaf (171, prog_1_method_67_code)) (.leaf (172, prog_1_method_66_code)))) (.branch 174 (.leaf (173, prog_14_method_141_code)) (.branch 175 (.leaf (174, prog_14_method_138_code)) (.leaf (175, prog_1_method_68_code)))))) (.branch 182 (.branch 179 (.branch 177 (.leaf (176, prog_14_method_142_code)) (.branch 178 (.leaf (177, prog_1_method_69_code)) (.leaf (178, prog_14_method_151_code)))) (.branch 180 (.leaf (179, prog_1_method_70_code)) (.branch 181 (.leaf (180, prog_14_method_152_code)) (.leaf (181, prog_1_method_71_code))))) (.branch 185 (.branch 183 (.leaf (182, prog_14_method_153_code)) (.branch 184 (.leaf (183, prog_1_method_72_code)) (.leaf (184, prog_14_method_155_code)))) (.branch 186 (.leaf (185, prog_14_method_154_code)) (.branch 187 (.leaf (186, prog_1_method_73_code)) (.leaf (187, prog_14_method_156_code)))))))))
set_option maxRecDepth 100000 in
noncomputable def xXN : Lean.RArray (Nat × MethodName) := .branch 94 (.branch 47 (.branch 23 (.branch 11 (.branch 5 (.branch 2 (.branch 1 (.leaf (0, ⟨"OathTillLaw", "law", "([I)Z"⟩)) (.leaf (1, ⟨"OathTill", "<init>", "()V"⟩))) (.branch 3 (.leaf (2, ⟨"OathTill$Court", "<init>", "()V"⟩)) (.branch 4 (.leaf (3, ⟨"OathTill$Trials", "<init>", "()V"⟩)) (.leaf (4, ⟨"OathTill$Person", "<init>", "()V"⟩))))) (.branch 8 (.branch 6 (.leaf (5, ⟨"OathTill$Oath", "<init>", "()V"⟩)) (.branch 7 (.leaf (6, ⟨"OathTill$Text", "<init>", "([B)V"⟩)) (.leaf (7, ⟨"java/lang/String", "length", "()I"⟩)))) (.branch 9 (.leaf (8, ⟨"java/lang/String", "coder", "()B"⟩)) (.branch 10 (.leaf (9, ⟨"java/lang/String", "charAt", "(I)C"⟩)) (.leaf (10, ⟨"java/lang/String", "isLatin1", "()Z"⟩)))))) (.branch 17 (.branch 14 (.branch 12 (.leaf (11, ⟨"java/lang/StringLatin1", "charAt", "([BI)C"⟩)) (.branch 13 (.leaf (12, ⟨"java/lang/String", "checkIndex", "(II)V"⟩)) (.leaf (13, ⟨"jdk/internal/util/Preconditions", "checkIndex", "(IILjava/util/function/BiFunction;)I"⟩)))) (.branch 15 (.leaf (14, ⟨"OathTill$Reader", "<init>", "(LOathTill$Text;LOathTill$Court;LOathTill$Court;)V"⟩)) (.branch 16 (.leaf (15, ⟨"OathTill$Stand", "<init>", "(LOathTill$Court;)V"⟩)) (.leaf (16, ⟨"OathTill$Plan", "<init>", "(LOathTill$Court;LOathTill$Court;)V"⟩))))) (.branch 20 (.branch 18 (.leaf (17, ⟨"OathTill$Whereabouts", "<init>", "(LOathTill$Court;)V"⟩)) (.branch 19 (.leaf (18, ⟨"OathTill$Runner", "<init>", "(LOathTill$Court;LOathTill$Trials;)V"⟩)) (.leaf (19, ⟨"OathTill$Tray", "<init>", "()V"⟩)))) (.branch 21 (.leaf (20, ⟨"OathTillModel", "<init>", "()V"⟩)) (.branch 22 (.leaf (21, ⟨"OathTillModel", "plain", "(I)V"⟩)) (.leaf (22, ⟨"OathTill", "status", "()I"⟩))))))) (.branch 35 (.branch 29 (.branch 26 (.branch 24 (.leaf (23, ⟨"OathTillModel", "status", "()I"⟩)) (.branch 25 (.leaf (24, ⟨"OathTill", "top", "()J"⟩)) (.leaf (25, ⟨"OathTillModel", "top", "()J"⟩)))) (.branch 27 (.leaf (26, ⟨"OathTill", "bottom", "()J"⟩)) (.branch 28 (.leaf (27, ⟨"OathTillModel", "bottom", "()J"⟩)) (.leaf (28, ⟨"OathTill", "tray", "(III)Z"⟩))))) (.branch 32 (.branch 30 (.leaf (29, ⟨"OathTill", "isTray", "(I)Z"⟩)) (.branch 31 (.leaf (30, ⟨"OathTill", "within", "(III)Z"⟩)) (.leaf (31, ⟨"OathTill", "deny", "(I)Z"⟩)))) (.branch 33 (.leaf (32, ⟨"OathTill$Tray", "lay", "(II)V"⟩)) (.branch 34 (.leaf (33, ⟨"OathTill", "agree", "()Z"⟩)) (.leaf (34, ⟨"OathTillModel", "tray", "(III)Z"⟩)))))) (.branch 41 (.branch 38 (.branch 36 (.leaf (35, ⟨"OathTillModel", "isTray", "(I)Z"⟩)) (.branch 37 (.leaf (36, ⟨"OathTillModel", "is", "(I)Z"⟩)) (.leaf (37, ⟨"OathTill", "write", "(IIJ)Z"⟩)))) (.branch 39 (.leaf (38, ⟨"OathTill", "placeTrouble", "(II)I"⟩)) (.branch 40 (.leaf (39, ⟨"OathTillModel", "write", "(IIJ)Z"⟩)) (.leaf (40, ⟨"OathTillModel", "wrongPlace", "(II)I"⟩))))) (.branch 44 (.branch 42 (.leaf (41, ⟨"OathTill", "read", "(II)J"⟩)) (.branch 43 (.leaf (42, ⟨"OathTill", "refuse", "(I)I"⟩)) (.leaf (43, ⟨"OathTillModel", "read", "(II)J"⟩)))) (.branch 45 (.leaf (44, ⟨"OathTill", "pour", "(IIIII)Z"⟩)) (.branch 46 (.leaf (45, ⟨"OathTill", "pourTrouble", "(IIIII)I"⟩)) (.leaf (46, ⟨"OathTillModel", "pour", "(IIIII)Z"⟩)))))))) (.branch 70 (.branch 58 (.branch 52 (.branch 49 (.branch 48 (.leaf (47, ⟨"OathTill", "feed", "(IIIII)I"⟩)) (.leaf (48, ⟨"OathTill", "append", "(I)V"⟩))) (.branch 50 (.leaf (49, ⟨"OathTillModel", "feed", "(IIIII)I"⟩)) (.branch 51 (.leaf (50, ⟨"OathTillModel", "four", "(I)V"⟩)) (.leaf (51, ⟨"OathTill", "court", "(I)I"⟩))))) (.branch 55 (.branch 53 (.leaf (52, ⟨"OathTill$Reader", "takeCourt", "(I)Z"⟩)) (.branch 54 (.leaf (53, ⟨"OathTill$Court", "clear", "()V"⟩)) (.leaf (54, ⟨"OathTill$Trials", "clear", "()V"⟩)))) (.branch 56 (.leaf (55, ⟨"OathTill$Text", "begin", "(I)V"⟩)) (.branch 57 (.leaf (56, ⟨"java/lang/Math", "min", "(II)I"⟩)) (.leaf (57, ⟨"OathTill$Text", "advance", "()V"⟩)))))) (.branch 64 (.branch 61 (.branch 59 (.leaf (58, ⟨"OathTill$Court", "copyAll", "(LOathTill$Court;)V"⟩)) (.branch 60 (.leaf (59, ⟨"OathTill$Court", "copyCase", "(LOathTill$Court;)V"⟩)) (.leaf (60, ⟨"OathTill$Trials", "copyAll", "(LOathTill$Trials;)V"⟩)))) (.branch 62 (.leaf (61, ⟨"OathTill", "give", "(I)I"⟩)) (.branch 63 (.leaf (62, ⟨"OathTillModel", "court", "(I)I"⟩)) (.leaf (63, ⟨"OathTillModel", "begins", "(II)Z"⟩))))) (.branch 67 (.branch 65 (.leaf (64, ⟨"OathTillModel", "refuse", "(I)I"⟩)) (.branch 66 (.leaf (65, ⟨"OathTillModel", "ahead", "()V"⟩)) (.leaf (66, ⟨"OathTillModel", "byteAt", "(I)I"⟩)))) (.branch 68 (.leaf (67, ⟨"OathTillModel", "taken", "(I)I"⟩)) (.branch 69 (.leaf (68, ⟨"OathTillModel", "gives", "(I)I"⟩)) (.leaf (69, ⟨"OathTill", "trials", "(I)I"⟩))))))) (.branch 82 (.branch 76 (.branch 73 (.branch 71 (.leaf (70, ⟨"OathTill$Reader", "takeTrials", "(I)Z"⟩)) (.branch 72 (.leaf (71, ⟨"OathTillModel", "trials", "(I)I"⟩)) (.leaf (72, ⟨"OathTill", "fault", "(I)I"⟩)))) (.branch 74 (.leaf (73, ⟨"OathTillModel", "fault", "(I)I"⟩)) (.branch 75 (.leaf (74, ⟨"OathTill", "told", "(I)I"⟩)) (.leaf (75, ⟨"OathTill$Court", "inState", "(I)I"⟩))))) (.branch 79 (.branch 77 (.leaf (76, ⟨"OathTill$Court", "lies", "()I"⟩)) (.branch 78 (.leaf (77, ⟨"OathTill$Court", "refunds", "()I"⟩)) (.leaf (78, ⟨"OathTillModel", "told", "(I)I"⟩)))) (.branch 80 (.leaf (79, ⟨"OathTill", "mile", "(I)I"⟩)) (.branch 81 (.leaf (80, ⟨"OathTill$Court", "isPlace", "(I)Z"⟩)) (.leaf (81, ⟨"OathTillModel", "mile", "(I)I"⟩)))))) (.branch 88 (.branch 85 (.branch 83 (.leaf (82, ⟨"OathTillModel", "isPlace", "(I)Z"⟩)) (.branch 84 (.leaf (83, ⟨"OathTill", "person", "(II)I"⟩)) (.leaf (84, ⟨"OathTill$Court", "isPerson", "(I)Z"⟩)))) (.branch 86 (.leaf (85, ⟨"OathTillModel", "person", "(II)I"⟩)) (.branch 87 (.leaf (86, ⟨"OathTillModel", "isPerson", "(I)Z"⟩)) (.leaf (87, ⟨"OathTill", "knows", "(II)I"⟩))))) (.branch 91 (.branch 89 (.leaf (88, ⟨"OathTill", "isCouple", "(II)Z"⟩)) (.branch 90 (.leaf (89, ⟨"OathTillModel", "knows", "(II)I"⟩)) (.leaf (90, ⟨"OathTillModel", "areTwo", "(II)Z"⟩)))) (.branch 92 (.leaf (91, ⟨"OathTill", "kin", "(I)I"⟩)) (.branch 93 (.leaf (92, ⟨"OathTillModel", "kin", "(I)I"⟩)) (.leaf (93, ⟨"OathTill", "known", "(II)I"⟩))))))))) (.branch 141 (.branch 117 (.branch 105 (.branch 99 (.branch 96 (.branch 95 (.leaf (94, ⟨"OathTillModel", "known", "(II)I"⟩)) (.leaf (95, ⟨"OathTill", "oath", "(II)I"⟩))) (.branch 97 (.leaf (96, ⟨"OathTill$Court", "isOath", "(I)Z"⟩)) (.branch 98 (.leaf (97, ⟨"OathTillModel", "oath", "(II)I"⟩)) (.leaf (98, ⟨"OathTillModel", "isOath", "(I)Z"⟩))))) (.branch 102 (.branch 100 (.leaf (99, ⟨"OathTill", "why", "(IIII)I"⟩)) (.branch 101 (.leaf (100, ⟨"OathTill", "isAsked", "(IIII)Z"⟩)) (.leaf (101, ⟨"OathTillModel", "why", "(IIII)I"⟩)))) (.branch 103 (.leaf (102, ⟨"OathTillModel", "isSworn", "(IIII)Z"⟩)) (.branch 104 (.leaf (103, ⟨"OathTill", "fee", "(IIII)I"⟩)) (.leaf (104, ⟨"OathTillModel", "fee", "(IIII)I"⟩)))))) (.branch 111 (.branch 108 (.branch 106 (.leaf (105, ⟨"OathTill", "gainsaid", "(IIII)I"⟩)) (.branch 107 (.leaf (106, ⟨"OathTillModel", "gainsaid", "(IIII)I"⟩)) (.leaf (107, ⟨"OathTill", "backed", "(III)I"⟩)))) (.branch 109 (.leaf (108, ⟨"OathTill$Court", "canBeSaid", "(III)Z"⟩)) (.branch 110 (.leaf (109, ⟨"OathTillModel", "backed", "(III)I"⟩)) (.leaf (110, ⟨"OathTillModel", "isSpot", "(III)Z"⟩))))) (.branch 114 (.branch 112 (.leaf (111, ⟨"OathTill", "voids", "(IIII)I"⟩)) (.branch 113 (.leaf (112, ⟨"OathTillModel", "voids", "(IIII)I"⟩)) (.leaf (113, ⟨"OathTill", "swear", "(IIII)I"⟩)))) (.branch 115 (.leaf (114, ⟨"OathTillModel", "swear", "(IIII)I"⟩)) (.branch 116 (.leaf (115, ⟨"OathTill", "find", "(III)I"⟩)) (.leaf (116, ⟨"OathTillModel", "find", "(III)I"⟩))))))) (.branch 129 (.branch 123 (.branch 120 (.branch 118 (.leaf (117, ⟨"OathTill", "recant", "(I)I"⟩)) (.branch 119 (.leaf (118, ⟨"OathTillModel", "recant", "(I)I"⟩)) (.leaf (119, ⟨"OathTill", "earn", "(II)I"⟩)))) (.branch 121 (.leaf (120, ⟨"OathTillModel", "earn", "(II)I"⟩)) (.branch 122 (.leaf (121, ⟨"OathTill", "meet", "(II)Z"⟩)) (.leaf (122, ⟨"OathTillModel", "meet", "(II)Z"⟩))))) (.branch 126 (.branch 124 (.leaf (123, ⟨"OathTill", "ride", "(I)Z"⟩)) (.branch 125 (.leaf (124, ⟨"OathTillModel", "ride", "(I)Z"⟩)) (.leaf (125, ⟨"OathTillModel", "isFrom", "(JJJ)Z"⟩)))) (.branch 127 (.leaf (126, ⟨"OathTill", "fits", "(II)I"⟩)) (.branch 128 (.leaf (127, ⟨"OathTillModel", "fits", "(II)I"⟩)) (.leaf (128, ⟨"OathTill", "road", "(II)I"⟩)))))) (.branch 135 (.branch 132 (.branch 130 (.leaf (129, ⟨"OathTillModel", "road", "(II)I"⟩)) (.branch 131 (.leaf (130, ⟨"OathTill", "canBe", "(II)I"⟩)) (.leaf (131, ⟨"OathTill", "isPersonsHour", "(II)Z"⟩)))) (.branch 133 (.leaf (132, ⟨"OathTillModel", "canBe", "(II)I"⟩)) (.branch 134 (.leaf (133, ⟨"OathTill", "ways", "(IZ)I"⟩)) (.leaf (134, ⟨"OathTillModel", "ways", "(IZ)I"⟩))))) (.branch 138 (.branch 136 (.leaf (135, ⟨"OathTill", "reach", "(IIZ)I"⟩)) (.branch 137 (.leaf (136, ⟨"OathTillModel", "reach", "(IIZ)I"⟩)) (.leaf (137, ⟨"OathTill", "mostTrue", "(I)I"⟩)))) (.branch 139 (.leaf (138, ⟨"OathTillModel", "mostTrue", "(I)I"⟩)) (.branch 140 (.leaf (139, ⟨"OathTill", "mostTrueSet", "(I)I"⟩)) (.leaf (140, ⟨"OathTillModel", "mostTrueSet", "(I)I"⟩)))))))) (.branch 164 (.branch 152 (.branch 146 (.branch 143 (.branch 142 (.leaf (141, ⟨"OathTill", "clashes", "(I)I"⟩)) (.leaf (142, ⟨"OathTillModel", "clashes", "(I)I"⟩))) (.branch 144 (.leaf (143, ⟨"OathTill", "doubt", "(I)I"⟩)) (.branch 145 (.leaf (144, ⟨"OathTillModel", "doubt", "(I)I"⟩)) (.leaf (145, ⟨"OathTill", "believed", "(II)I"⟩))))) (.branch 149 (.branch 147 (.leaf (146, ⟨"OathTillModel", "believed", "(II)I"⟩)) (.branch 148 (.leaf (147, ⟨"OathTill", "alibi", "(IIII)I"⟩)) (.leaf (148, ⟨"OathTillModel", "alibi", "(IIII)I"⟩)))) (.branch 150 (.leaf (149, ⟨"OathTill", "alibiBy", "(I)I"⟩)) (.branch 151 (.leaf (150, ⟨"OathTillModel", "alibiBy", "(I)I"⟩)) (.leaf (151, ⟨"OathTill", "call", "(II)I"⟩)))))) (.branch 158 (.branch 155 (.branch 153 (.leaf (152, ⟨"OathTillModel", "call", "(II)I"⟩)) (.branch 154 (.leaf (153, ⟨"OathTill", "callBy", "(I)I"⟩)) (.leaf (154, ⟨"OathTillModel", "callBy", "(I)I"⟩)))) (.branch 156 (.leaf (155, ⟨"OathTill", "sayable", "(II)I"⟩)) (.branch 157 (.leaf (156, ⟨"OathTillModel", "sayable", "(II)I"⟩)) (.leaf (157, ⟨"OathTill", "dearest", "(II)I"⟩))))) (.branch 161 (.branch 159 (.leaf (158, ⟨"OathTillModel", "dearest", "(II)I"⟩)) (.branch 160 (.leaf (159, ⟨"OathTill", "liar", "()I"⟩)) (.leaf (160, ⟨"OathTillModel", "liar", "()I"⟩)))) (.branch 162 (.leaf (161, ⟨"OathTillModel", "orNone", "(I)I"⟩)) (.branch 163 (.leaf (162, ⟨"OathTill", "doubted", "()I"⟩)) (.leaf (163, ⟨"OathTillModel", "doubted", "()I"⟩))))))) (.branch 176 (.branch 170 (.branch 167 (.branch 165 (.leaf (164, ⟨"OathTill", "kept", "()Z"⟩)) (.branch 166 (.leaf (165, ⟨"OathTill$Court", "paid", "()I"⟩)) (.leaf (166, ⟨"OathTillModel", "kept", "()Z"⟩)))) (.branch 168 (.leaf (167, ⟨"OathTill", "word", "(II)I"⟩)) (.branch 169 (.leaf (168, ⟨"OathTillModel", "word", "(II)I"⟩)) (.leaf (169, ⟨"OathTill", "liars", "(I)I"⟩))))) (.branch 173 (.branch 171 (.leaf (170, ⟨"OathTillModel", "liars", "(I)I"⟩)) (.branch 172 (.leaf (171, ⟨"OathTill", "auction", "(II)I"⟩)) (.leaf (172, ⟨"OathTill", "bidTrouble", "(II)I"⟩)))) (.branch 174 (.leaf (173, ⟨"OathTillModel", "auction", "(II)I"⟩)) (.branch 175 (.leaf (174, ⟨"OathTillModel", "wrongBids", "(II)I"⟩)) (.leaf (175, ⟨"OathTill", "hammer", "(II)I"⟩)))))) (.branch 182 (.branch 179 (.branch 177 (.leaf (176, ⟨"OathTillModel", "hammer", "(II)I"⟩)) (.branch 178 (.leaf (177, ⟨"OathTill", "live", "(I)I"⟩)) (.leaf (178, ⟨"OathTillModel", "live", "(I)I"⟩)))) (.branch 180 (.leaf (179, ⟨"OathTill", "lived", "(I)I"⟩)) (.branch 181 (.leaf (180, ⟨"OathTillModel", "lived", "(I)I"⟩)) (.leaf (181, ⟨"OathTill", "mean", "(II)Z"⟩))))) (.branch 185 (.branch 183 (.leaf (182, ⟨"OathTillModel", "mean", "(II)Z"⟩)) (.branch 184 (.leaf (183, ⟨"OathTill", "mark", "()I"⟩)) (.leaf (184, ⟨"OathTillModel", "mark", "()I"⟩)))) (.branch 186 (.leaf (185, ⟨"OathTillModel", "moves", "(II)V"⟩)) (.branch 187 (.leaf (186, ⟨"OathTill", "undo", "()I"⟩)) (.leaf (187, ⟨"OathTillModel", "undo", "()I"⟩)))))))))
set_option maxRecDepth 100000 in
noncomputable def xXR : Lean.RArray (Nat × Option FieldType) := .branch 94 (.branch 47 (.branch 23 (.branch 11 (.branch 5 (.branch 2 (.branch 1 (.leaf (0, (some .boolean))) (.leaf (1, (none)))) (.branch 3 (.leaf (2, (none))) (.branch 4 (.leaf (3, (none))) (.leaf (4, (none)))))) (.branch 8 (.branch 6 (.leaf (5, (none))) (.branch 7 (.leaf (6, (none))) (.leaf (7, (some .int))))) (.branch 9 (.leaf (8, (some .byte))) (.branch 10 (.leaf (9, (some .char))) (.leaf (10, (some .boolean))))))) (.branch 17 (.branch 14 (.branch 12 (.leaf (11, (some .char))) (.branch 13 (.leaf (12, (none))) (.leaf (13, (some .int))))) (.branch 15 (.leaf (14, (none))) (.branch 16 (.leaf (15, (none))) (.leaf (16, (none)))))) (.branch 20 (.branch 18 (.leaf (17, (none))) (.branch 19 (.leaf (18, (none))) (.leaf (19, (none))))) (.branch 21 (.leaf (20, (none))) (.branch 22 (.leaf (21, (none))) (.leaf (22, (some .int)))))))) (.branch 35 (.branch 29 (.branch 26 (.branch 24 (.leaf (23, (some .int))) (.branch 25 (.leaf (24, (some .long))) (.leaf (25, (some .long))))) (.branch 27 (.leaf (26, (some .long))) (.branch 28 (.leaf (27, (some .long))) (.leaf (28, (some .boolean)))))) (.branch 32 (.branch 30 (.leaf (29, (some .boolean))) (.branch 31 (.leaf (30, (some .boolean))) (.leaf (31, (some .boolean))))) (.branch 33 (.leaf (32, (none))) (.branch 34 (.leaf (33, (some .boolean))) (.leaf (34, (some .boolean))))))) (.branch 41 (.branch 38 (.branch 36 (.leaf (35, (some .boolean))) (.branch 37 (.leaf (36, (some .boolean))) (.leaf (37, (some .boolean))))) (.branch 39 (.leaf (38, (some .int))) (.branch 40 (.leaf (39, (some .boolean))) (.leaf (40, (some .int)))))) (.branch 44 (.branch 42 (.leaf (41, (some .long))) (.branch 43 (.leaf (42, (some .int))) (.leaf (43, (some .long))))) (.branch 45 (.leaf (44, (some .boolean))) (.branch 46 (.leaf (45, (some .int))) (.leaf (46, (some .boolean))))))))) (.branch 70 (.branch 58 (.branch 52 (.branch 49 (.branch 48 (.leaf (47, (some .int))) (.leaf (48, (none)))) (.branch 50 (.leaf (49, (some .int))) (.branch 51 (.leaf (50, (none))) (.leaf (51, (some .int)))))) (.branch 55 (.branch 53 (.leaf (52, (some .boolean))) (.branch 54 (.leaf (53, (none))) (.leaf (54, (none))))) (.branch 56 (.leaf (55, (none))) (.branch 57 (.leaf (56, (some .int))) (.leaf (57, (none))))))) (.branch 64 (.branch 61 (.branch 59 (.leaf (58, (none))) (.branch 60 (.leaf (59, (none))) (.leaf (60, (none))))) (.branch 62 (.leaf (61, (some .int))) (.branch 63 (.leaf (62, (some .int))) (.leaf (63, (some .boolean)))))) (.branch 67 (.branch 65 (.leaf (64, (some .int))) (.branch 66 (.leaf (65, (none))) (.leaf (66, (some .int))))) (.branch 68 (.leaf (67, (some .int))) (.branch 69 (.leaf (68, (some .int))) (.leaf (69, (some .int)))))))) (.branch 82 (.branch 76 (.branch 73 (.branch 71 (.leaf (70, (some .boolean))) (.branch 72 (.leaf (71, (some .int))) (.leaf (72, (some .int))))) (.branch 74 (.leaf (73, (some .int))) (.branch 75 (.leaf (74, (some .int))) (.leaf (75, (some .int)))))) (.branch 79 (.branch 77 (.leaf (76, (some .int))) (.branch 78 (.leaf (77, (some .int))) (.leaf (78, (some .int))))) (.branch 80 (.leaf (79, (some .int))) (.branch 81 (.leaf (80, (some .boolean))) (.leaf (81, (some .int))))))) (.branch 88 (.branch 85 (.branch 83 (.leaf (82, (some .boolean))) (.branch 84 (.leaf (83, (some .int))) (.leaf (84, (some .boolean))))) (.branch 86 (.leaf (85, (some .int))) (.branch 87 (.leaf (86, (some .boolean))) (.leaf (87, (some .int)))))) (.branch 91 (.branch 89 (.leaf (88, (some .boolean))) (.branch 90 (.leaf (89, (some .int))) (.leaf (90, (some .boolean))))) (.branch 92 (.leaf (91, (some .int))) (.branch 93 (.leaf (92, (some .int))) (.leaf (93, (some .int)))))))))) (.branch 141 (.branch 117 (.branch 105 (.branch 99 (.branch 96 (.branch 95 (.leaf (94, (some .int))) (.leaf (95, (some .int)))) (.branch 97 (.leaf (96, (some .boolean))) (.branch 98 (.leaf (97, (some .int))) (.leaf (98, (some .boolean)))))) (.branch 102 (.branch 100 (.leaf (99, (some .int))) (.branch 101 (.leaf (100, (some .boolean))) (.leaf (101, (some .int))))) (.branch 103 (.leaf (102, (some .boolean))) (.branch 104 (.leaf (103, (some .int))) (.leaf (104, (some .int))))))) (.branch 111 (.branch 108 (.branch 106 (.leaf (105, (some .int))) (.branch 107 (.leaf (106, (some .int))) (.leaf (107, (some .int))))) (.branch 109 (.leaf (108, (some .boolean))) (.branch 110 (.leaf (109, (some .int))) (.leaf (110, (some .boolean)))))) (.branch 114 (.branch 112 (.leaf (111, (some .int))) (.branch 113 (.leaf (112, (some .int))) (.leaf (113, (some .int))))) (.branch 115 (.leaf (114, (some .int))) (.branch 116 (.leaf (115, (some .int))) (.leaf (116, (some .int)))))))) (.branch 129 (.branch 123 (.branch 120 (.branch 118 (.leaf (117, (some .int))) (.branch 119 (.leaf (118, (some .int))) (.leaf (119, (some .int))))) (.branch 121 (.leaf (120, (some .int))) (.branch 122 (.leaf (121, (some .boolean))) (.leaf (122, (some .boolean)))))) (.branch 126 (.branch 124 (.leaf (123, (some .boolean))) (.branch 125 (.leaf (124, (some .boolean))) (.leaf (125, (some .boolean))))) (.branch 127 (.leaf (126, (some .int))) (.branch 128 (.leaf (127, (some .int))) (.leaf (128, (some .int))))))) (.branch 135 (.branch 132 (.branch 130 (.leaf (129, (some .int))) (.branch 131 (.leaf (130, (some .int))) (.leaf (131, (some .boolean))))) (.branch 133 (.leaf (132, (some .int))) (.branch 134 (.leaf (133, (some .int))) (.leaf (134, (some .int)))))) (.branch 138 (.branch 136 (.leaf (135, (some .int))) (.branch 137 (.leaf (136, (some .int))) (.leaf (137, (some .int))))) (.branch 139 (.leaf (138, (some .int))) (.branch 140 (.leaf (139, (some .int))) (.leaf (140, (some .int))))))))) (.branch 164 (.branch 152 (.branch 146 (.branch 143 (.branch 142 (.leaf (141, (some .int))) (.leaf (142, (some .int)))) (.branch 144 (.leaf (143, (some .int))) (.branch 145 (.leaf (144, (some .int))) (.leaf (145, (some .int)))))) (.branch 149 (.branch 147 (.leaf (146, (some .int))) (.branch 148 (.leaf (147, (some .int))) (.leaf (148, (some .int))))) (.branch 150 (.leaf (149, (some .int))) (.branch 151 (.leaf (150, (some .int))) (.leaf (151, (some .int))))))) (.branch 158 (.branch 155 (.branch 153 (.leaf (152, (some .int))) (.branch 154 (.leaf (153, (some .int))) (.leaf (154, (some .int))))) (.branch 156 (.leaf (155, (some .int))) (.branch 157 (.leaf (156, (some .int))) (.leaf (157, (some .int)))))) (.branch 161 (.branch 159 (.leaf (158, (some .int))) (.branch 160 (.leaf (159, (some .int))) (.leaf (160, (some .int))))) (.branch 162 (.leaf (161, (some .int))) (.branch 163 (.leaf (162, (some .int))) (.leaf (163, (some .int)))))))) (.branch 176 (.branch 170 (.branch 167 (.branch 165 (.leaf (164, (some .boolean))) (.branch 166 (.leaf (165, (some .int))) (.leaf (166, (some .boolean))))) (.branch 168 (.leaf (167, (some .int))) (.branch 169 (.leaf (168, (some .int))) (.leaf (169, (some .int)))))) (.branch 173 (.branch 171 (.leaf (170, (some .int))) (.branch 172 (.leaf (171, (some .int))) (.leaf (172, (some .int))))) (.branch 174 (.leaf (173, (some .int))) (.branch 175 (.leaf (174, (some .int))) (.leaf (175, (some .int))))))) (.branch 182 (.branch 179 (.branch 177 (.leaf (176, (some .int))) (.branch 178 (.leaf (177, (some .int))) (.leaf (178, (some .int))))) (.branch 180 (.leaf (179, (some .int))) (.branch 181 (.leaf (180, (some .int))) (.leaf (181, (some .boolean)))))) (.branch 185 (.branch 183 (.leaf (182, (some .boolean))) (.branch 184 (.leaf (183, (some .int))) (.leaf (184, (some .int))))) (.branch 186 (.leaf (185, (none))) (.branch 187 (.leaf (186, (some .int))) (.leaf (187, (some .int))))))))))
-- class, kind of call (1 virtual, 2 a constructor, 3 static), places of code, initialized, instanceMethod or static, selects
set_option maxRecDepth 100000 in
noncomputable def xXM : Lean.RArray (Nat × (Nat × Nat × Nat × Nat × Nat × Nat)) := .branch 94 (.branch 47 (.branch 23 (.branch 11 (.branch 5 (.branch 2 (.branch 1 (.leaf (0, (13, 0, 0, 0, 0, 0))) (.leaf (1, (11, 2, 165, 141, 164, 0)))) (.branch 3 (.leaf (2, (0, 2, 175, 142, 174, 0))) (.branch 4 (.leaf (3, (9, 2, 185, 143, 184, 0))) (.leaf (4, (2, 2, 249, 144, 248, 0)))))) (.branch 8 (.branch 6 (.leaf (5, (1, 2, 299, 145, 298, 0))) (.branch 7 (.leaf (6, (7, 2, 432, 146, 431, 0))) (.leaf (7, (14, 1, 438, 147, 436, 437))))) (.branch 9 (.leaf (8, (14, 1, 442, 147, 440, 441))) (.branch 10 (.leaf (9, (14, 1, 448, 147, 446, 447))) (.leaf (10, (14, 1, 452, 147, 450, 451))))))) (.branch 17 (.branch 14 (.branch 12 (.leaf (11, (15, 3, 455, 148, 454, 0))) (.branch 13 (.leaf (12, (14, 3, 458, 147, 457, 0))) (.leaf (13, (16, 3, 463, 149, 462, 0))))) (.branch 15 (.leaf (14, (4, 2, 531, 151, 530, 0))) (.branch 16 (.leaf (15, (6, 2, 559, 152, 558, 0))) (.leaf (16, (3, 2, 595, 153, 594, 0)))))) (.branch 20 (.branch 18 (.leaf (17, (10, 2, 644, 154, 643, 0))) (.branch 19 (.leaf (18, (5, 2, 666, 155, 665, 0))) (.leaf (19, (8, 2, 715, 156, 714, 0))))) (.branch 21 (.leaf (20, (12, 2, 1618, 157, 1617, 0))) (.branch 22 (.leaf (21, (12, 1, 1623, 157, 1622, 51))) (.leaf (22, (11, 1, 792, 141, 790, 791)))))))) (.branch 35 (.branch 29 (.branch 26 (.branch 24 (.leaf (23, (12, 1, 1748, 157, 1746, 1747))) (.branch 25 (.leaf (24, (11, 1, 796, 141, 794, 795))) (.leaf (25, (12, 1, 1752, 157, 1750, 1751))))) (.branch 27 (.leaf (26, (11, 1, 800, 141, 798, 799))) (.branch 28 (.leaf (27, (12, 1, 1756, 157, 1754, 1755))) (.leaf (28, (11, 1, 804, 141, 802, 803)))))) (.branch 32 (.branch 30 (.leaf (29, (11, 3, 807, 141, 806, 0))) (.branch 31 (.leaf (30, (11, 3, 810, 141, 809, 0))) (.leaf (31, (11, 1, 814, 141, 813, 0))))) (.branch 33 (.leaf (32, (8, 1, 818, 156, 816, 817))) (.branch 34 (.leaf (33, (11, 1, 822, 141, 821, 1))) (.leaf (34, (12, 1, 1760, 157, 1758, 1759))))))) (.branch 41 (.branch 38 (.branch 36 (.leaf (35, (12, 3, 1763, 157, 1762, 0))) (.branch 37 (.leaf (36, (12, 1, 1767, 157, 1766, 52))) (.leaf (37, (11, 1, 826, 141, 824, 825))))) (.branch 39 (.leaf (38, (11, 1, 830, 141, 829, 2))) (.branch 40 (.leaf (39, (12, 1, 1771, 157, 1769, 1770))) (.leaf (40, (12, 1, 1775, 157, 1774, 53)))))) (.branch 44 (.branch 42 (.leaf (41, (11, 1, 838, 141, 836, 837))) (.branch 43 (.leaf (42, (11, 1, 842, 141, 841, 3))) (.leaf (43, (12, 1, 1782, 157, 1780, 1781))))) (.branch 45 (.leaf (44, (11, 1, 846, 141, 844, 845))) (.branch 46 (.leaf (45, (11, 1, 850, 141, 849, 4))) (.leaf (46, (12, 1, 1787, 157, 1785, 1786))))))))) (.branch 70 (.branch 58 (.branch 52 (.branch 49 (.branch 48 (.leaf (47, (11, 1, 857, 141, 855, 856))) (.leaf (48, (11, 1, 861, 141, 860, 5)))) (.branch 50 (.leaf (49, (12, 1, 1791, 157, 1789, 1790))) (.branch 51 (.leaf (50, (12, 1, 1795, 157, 1794, 54))) (.leaf (51, (11, 1, 865, 141, 863, 864)))))) (.branch 55 (.branch 53 (.leaf (52, (4, 1, 869, 151, 867, 868))) (.branch 54 (.leaf (53, (0, 1, 873, 142, 871, 872))) (.leaf (54, (9, 1, 877, 143, 875, 876))))) (.branch 56 (.leaf (55, (7, 1, 881, 146, 879, 880))) (.branch 57 (.leaf (56, (17, 3, 884, 159, 883, 0))) (.leaf (57, (7, 1, 888, 146, 886, 887))))))) (.branch 64 (.branch 61 (.branch 59 (.leaf (58, (0, 1, 980, 142, 978, 979))) (.branch 60 (.leaf (59, (0, 1, 984, 142, 982, 983))) (.leaf (60, (9, 1, 998, 143, 996, 997))))) (.branch 62 (.leaf (61, (11, 1, 1003, 141, 1002, 15))) (.branch 63 (.leaf (62, (12, 1, 1803, 157, 1801, 1802))) (.leaf (63, (12, 1, 1807, 157, 1806, 55)))))) (.branch 67 (.branch 65 (.leaf (64, (12, 1, 1827, 157, 1826, 58))) (.branch 66 (.leaf (65, (12, 1, 1811, 157, 1810, 56))) (.leaf (66, (12, 1, 1815, 157, 1814, 57))))) (.branch 68 (.leaf (67, (12, 1, 1914, 157, 1913, 79))) (.branch 69 (.leaf (68, (12, 1, 1918, 157, 1917, 80))) (.leaf (69, (11, 1, 1007, 141, 1005, 1006)))))))) (.branch 82 (.branch 76 (.branch 73 (.branch 71 (.leaf (70, (4, 1, 1011, 151, 1009, 1010))) (.branch 72 (.leaf (71, (12, 1, 1922, 157, 1920, 1921))) (.leaf (72, (11, 1, 1056, 141, 1054, 1055))))) (.branch 74 (.leaf (73, (12, 1, 1799, 157, 1797, 1798))) (.branch 75 (.leaf (74, (11, 1, 1060, 141, 1058, 1059))) (.leaf (75, (0, 1, 1064, 142, 1062, 1063)))))) (.branch 79 (.branch 77 (.leaf (76, (0, 1, 1068, 142, 1066, 1067))) (.branch 78 (.leaf (77, (0, 1, 1076, 142, 1074, 1075))) (.leaf (78, (12, 1, 1950, 157, 1948, 1949))))) (.branch 80 (.leaf (79, (11, 1, 1080, 141, 1078, 1079))) (.branch 81 (.leaf (80, (0, 1, 1084, 142, 1082, 1083))) (.leaf (81, (12, 1, 1985, 157, 1983, 1984))))))) (.branch 88 (.branch 85 (.branch 83 (.leaf (82, (12, 1, 1989, 157, 1988, 94))) (.branch 84 (.leaf (83, (11, 1, 1088, 141, 1086, 1087))) (.leaf (84, (0, 1, 1092, 142, 1090, 1091))))) (.branch 86 (.leaf (85, (12, 1, 1993, 157, 1991, 1992))) (.branch 87 (.leaf (86, (12, 1, 1997, 157, 1996, 95))) (.leaf (87, (11, 1, 1104, 141, 1102, 1103)))))) (.branch 91 (.branch 89 (.leaf (88, (11, 1, 1108, 141, 1107, 24))) (.branch 90 (.leaf (89, (12, 1, 2016, 157, 2014, 2015))) (.leaf (90, (12, 1, 2020, 157, 2019, 99))))) (.branch 92 (.leaf (91, (11, 1, 1112, 141, 1110, 1111))) (.branch 93 (.leaf (92, (12, 1, 2032, 157, 2030, 2031))) (.leaf (93, (11, 1, 1120, 141, 1118, 1119)))))))))) (.branch 141 (.branch 117 (.branch 105 (.branch 99 (.branch 96 (.branch 95 (.leaf (94, (12, 1, 2036, 157, 2034, 2035))) (.leaf (95, (11, 1, 1127, 141, 1125, 1126)))) (.branch 97 (.leaf (96, (0, 1, 1131, 142, 1129, 1130))) (.branch 98 (.leaf (97, (12, 1, 2043, 157, 2041, 2042))) (.leaf (98, (12, 1, 2047, 157, 2046, 102)))))) (.branch 102 (.branch 100 (.leaf (99, (11, 1, 1139, 141, 1137, 1138))) (.branch 101 (.leaf (100, (11, 1, 1143, 141, 1142, 25))) (.leaf (101, (12, 1, 2051, 157, 2049, 2050))))) (.branch 103 (.leaf (102, (12, 1, 2055, 157, 2054, 103))) (.branch 104 (.leaf (103, (11, 1, 1184, 141, 1182, 1183))) (.leaf (104, (12, 1, 2090, 157, 2088, 2089))))))) (.branch 111 (.branch 108 (.branch 106 (.leaf (105, (11, 1, 1189, 141, 1187, 1188))) (.branch 107 (.leaf (106, (12, 1, 2094, 157, 2092, 2093))) (.leaf (107, (11, 1, 1194, 141, 1192, 1193))))) (.branch 109 (.leaf (108, (0, 1, 1147, 142, 1145, 1146))) (.branch 110 (.leaf (109, (12, 1, 2098, 157, 2096, 2097))) (.leaf (110, (12, 1, 2059, 157, 2058, 104)))))) (.branch 114 (.branch 112 (.leaf (111, (11, 1, 1206, 141, 1204, 1205))) (.branch 113 (.leaf (112, (12, 1, 2102, 157, 2100, 2101))) (.leaf (113, (11, 1, 1227, 141, 1225, 1226))))) (.branch 115 (.leaf (114, (12, 1, 2135, 157, 2133, 2134))) (.branch 116 (.leaf (115, (11, 1, 1236, 141, 1234, 1235))) (.leaf (116, (12, 1, 2139, 157, 2137, 2138)))))))) (.branch 129 (.branch 123 (.branch 120 (.branch 118 (.leaf (117, (11, 1, 1248, 141, 1246, 1247))) (.branch 119 (.leaf (118, (12, 1, 2147, 157, 2145, 2146))) (.leaf (119, (11, 1, 1252, 141, 1250, 1251))))) (.branch 121 (.leaf (120, (12, 1, 2155, 157, 2153, 2154))) (.branch 122 (.leaf (121, (11, 1, 1256, 141, 1254, 1255))) (.leaf (122, (12, 1, 2163, 157, 2161, 2162)))))) (.branch 126 (.branch 124 (.leaf (123, (11, 1, 1265, 141, 1263, 1264))) (.branch 125 (.leaf (124, (12, 1, 2167, 157, 2165, 2166))) (.leaf (125, (12, 3, 2159, 157, 2158, 0))))) (.branch 127 (.leaf (126, (11, 1, 1269, 141, 1267, 1268))) (.branch 128 (.leaf (127, (12, 1, 2172, 157, 2170, 2171))) (.leaf (128, (11, 1, 1277, 141, 1275, 1276))))))) (.branch 135 (.branch 132 (.branch 130 (.leaf (129, (12, 1, 2176, 157, 2174, 2175))) (.branch 131 (.leaf (130, (11, 1, 1288, 141, 1286, 1287))) (.leaf (131, (11, 1, 1292, 141, 1291, 28))))) (.branch 133 (.leaf (132, (12, 1, 2180, 157, 2178, 2179))) (.branch 134 (.leaf (133, (11, 1, 1310, 141, 1308, 1309))) (.leaf (134, (12, 1, 2188, 157, 2186, 2187)))))) (.branch 138 (.branch 136 (.leaf (135, (11, 1, 1327, 141, 1325, 1326))) (.branch 137 (.leaf (136, (12, 1, 2200, 157, 2198, 2199))) (.leaf (137, (11, 1, 1339, 141, 1337, 1338))))) (.branch 139 (.leaf (138, (12, 1, 2204, 157, 2202, 2203))) (.branch 140 (.leaf (139, (11, 1, 1361, 141, 1359, 1360))) (.leaf (140, (12, 1, 2212, 157, 2210, 2211))))))))) (.branch 164 (.branch 152 (.branch 146 (.branch 143 (.branch 142 (.leaf (141, (11, 1, 1365, 141, 1363, 1364))) (.leaf (142, (12, 1, 2216, 157, 2214, 2215)))) (.branch 144 (.leaf (143, (11, 1, 1374, 141, 1372, 1373))) (.branch 145 (.leaf (144, (12, 1, 2220, 157, 2218, 2219))) (.leaf (145, (11, 1, 1387, 141, 1385, 1386)))))) (.branch 149 (.branch 147 (.leaf (146, (12, 1, 2224, 157, 2222, 2223))) (.branch 148 (.leaf (147, (11, 1, 1396, 141, 1394, 1395))) (.leaf (148, (12, 1, 2228, 157, 2226, 2227))))) (.branch 150 (.leaf (149, (11, 1, 1422, 141, 1420, 1421))) (.branch 151 (.leaf (150, (12, 1, 2237, 157, 2235, 2236))) (.leaf (151, (11, 1, 1426, 141, 1424, 1425))))))) (.branch 158 (.branch 155 (.branch 153 (.leaf (152, (12, 1, 2241, 157, 2239, 2240))) (.branch 154 (.leaf (153, (11, 1, 1439, 141, 1437, 1438))) (.leaf (154, (12, 1, 2246, 157, 2244, 2245))))) (.branch 156 (.leaf (155, (11, 1, 1443, 141, 1441, 1442))) (.branch 157 (.leaf (156, (12, 1, 2250, 157, 2248, 2249))) (.leaf (157, (11, 1, 1452, 141, 1450, 1451)))))) (.branch 161 (.branch 159 (.leaf (158, (12, 1, 2258, 157, 2256, 2257))) (.branch 160 (.leaf (159, (11, 1, 1463, 141, 1461, 1462))) (.leaf (160, (12, 1, 2263, 157, 2261, 2262))))) (.branch 162 (.leaf (161, (12, 1, 2004, 157, 2003, 96))) (.branch 163 (.leaf (162, (11, 1, 1471, 141, 1469, 1470))) (.leaf (163, (12, 1, 2271, 157, 2269, 2270)))))))) (.branch 176 (.branch 170 (.branch 167 (.branch 165 (.leaf (164, (11, 1, 1475, 141, 1473, 1474))) (.branch 166 (.leaf (165, (0, 1, 1479, 142, 1477, 1478))) (.leaf (166, (12, 1, 2275, 157, 2273, 2274))))) (.branch 168 (.leaf (167, (11, 1, 1490, 141, 1488, 1489))) (.branch 169 (.leaf (168, (12, 1, 2283, 157, 2281, 2282))) (.leaf (169, (11, 1, 1498, 141, 1496, 1497)))))) (.branch 173 (.branch 171 (.leaf (170, (12, 1, 2287, 157, 2285, 2286))) (.branch 172 (.leaf (171, (11, 1, 1506, 141, 1504, 1505))) (.leaf (172, (11, 1, 1510, 141, 1509, 40))))) (.branch 174 (.leaf (173, (12, 1, 2291, 157, 2289, 2290))) (.branch 175 (.leaf (174, (12, 1, 2295, 157, 2294, 128))) (.leaf (175, (11, 1, 1527, 141, 1525, 1526))))))) (.branch 182 (.branch 179 (.branch 177 (.leaf (176, (12, 1, 2308, 157, 2306, 2307))) (.branch 178 (.leaf (177, (11, 1, 1535, 141, 1533, 1534))) (.leaf (178, (12, 1, 2312, 157, 2310, 2311))))) (.branch 180 (.leaf (179, (11, 1, 1596, 141, 1594, 1595))) (.branch 181 (.leaf (180, (12, 1, 2350, 157, 2348, 2349))) (.leaf (181, (11, 1, 1604, 141, 1602, 1603)))))) (.branch 185 (.branch 183 (.leaf (182, (12, 1, 2354, 157, 2352, 2353))) (.branch 184 (.leaf (183, (11, 1, 1609, 141, 1607, 1608))) (.leaf (184, (12, 1, 2359, 157, 2357, 2358))))) (.branch 186 (.leaf (185, (12, 1, 2363, 157, 2362, 139))) (.branch 187 (.leaf (186, (11, 1, 1613, 141, 1611, 1612))) (.leaf (187, (12, 1, 2367, 157, 2365, 2366))))))))))
set_option maxRecDepth 100000 in
noncomputable def xXF : Lean.RArray (Nat × (Nat × Nat × Nat)) := .branch 36877 (.branch 16416 (.branch 8207 (.branch 49 (.branch 32 (.branch 19 (.branch 15 (.leaf (9, (0, 0, 351))) (.leaf (15, (0, 1, 358)))) (.branch 23 (.leaf (19, (0, 2, 361))) (.branch 28 (.leaf (23, (0, 3, 363))) (.leaf (28, (0, 4, 367)))))) (.branch 38 (.branch 35 (.leaf (32, (0, 5, 373))) (.leaf (35, (0, 6, 377)))) (.branch 41 (.leaf (38, (0, 7, 381))) (.branch 44 (.leaf (41, (0, 8, 384))) (.leaf (44, (0, 9, 388))))))) (.branch 4117 (.branch 4105 (.branch 56 (.leaf (49, (0, 10, 393))) (.leaf (56, (0, 11, 400)))) (.branch 4111 (.leaf (4105, (1, 0, 301))) (.branch 4114 (.leaf (4111, (1, 1, 306))) (.leaf (4114, (1, 2, 309)))))) (.branch 4126 (.branch 4120 (.leaf (4117, (1, 3, 314))) (.branch 4123 (.leaf (4120, (1, 4, 319))) (.leaf (4123, (1, 5, 323))))) (.branch 4130 (.leaf (4126, (1, 6, 328))) (.branch 8201 (.leaf (4130, (1, 7, 331))) (.leaf (8201, (2, 0, 251)))))))) (.branch 12316 (.branch 8224 (.branch 8215 (.branch 8211 (.leaf (8207, (2, 1, 253))) (.leaf (8211, (2, 2, 259)))) (.branch 8218 (.leaf (8215, (2, 3, 263))) (.branch 8221 (.leaf (8218, (2, 4, 267))) (.leaf (8221, (2, 5, 271)))))) (.branch 12307 (.branch 12297 (.leaf (8224, (2, 6, 275))) (.branch 12303 (.leaf (12297, (3, 4, 603))) (.leaf (12303, (3, 5, 605))))) (.branch 12310 (.leaf (12307, (3, 6, 607))) (.branch 12313 (.leaf (12310, (3, 7, 609))) (.leaf (12313, (3, 8, 611))))))) (.branch 12338 (.branch 12322 (.branch 12319 (.leaf (12316, (3, 9, 613))) (.leaf (12319, (3, 10, 615)))) (.branch 12326 (.leaf (12322, (3, 0, 599))) (.branch 12334 (.leaf (12326, (3, 1, 600))) (.leaf (12334, (3, 2, 601)))))) (.branch 16405 (.branch 16393 (.leaf (12338, (3, 3, 602))) (.branch 16401 (.leaf (16393, (4, 4, 537))) (.leaf (16401, (4, 5, 538))))) (.branch 16408 (.leaf (16405, (4, 6, 539))) (.branch 16412 (.leaf (16408, (4, 0, 533))) (.leaf (16412, (4, 1, 534))))))))) (.branch 24601 (.branch 20510 (.branch 20491 (.branch 16425 (.branch 16419 (.leaf (16416, (4, 2, 535))) (.leaf (16419, (0, 11, 399)))) (.branch 16437 (.leaf (16425, (4, 3, 536))) (.branch 16575 (.leaf (16437, (7, 4, 489))) (.leaf (16575, (9, 0, 188)))))) (.branch 20500 (.branch 20497 (.leaf (20491, (5, 3, 673))) (.leaf (20497, (5, 4, 674)))) (.branch 20504 (.leaf (20500, (5, 5, 675))) (.branch 20507 (.leaf (20504, (5, 6, 676))) (.leaf (20507, (5, 7, 677))))))) (.branch 20527 (.branch 20516 (.branch 20513 (.leaf (20510, (5, 8, 679))) (.leaf (20513, (5, 9, 681)))) (.branch 20519 (.leaf (20516, (5, 10, 683))) (.branch 20523 (.leaf (20519, (5, 11, 685))) (.leaf (20523, (5, 0, 670)))))) (.branch 24591 (.branch 20536 (.leaf (20527, (5, 1, 671))) (.branch 24585 (.leaf (20536, (5, 2, 672))) (.leaf (24585, (6, 1, 562))))) (.branch 24594 (.leaf (24591, (6, 2, 564))) (.branch 24597 (.leaf (24594, (6, 3, 566))) (.leaf (24597, (6, 4, 567)))))))) (.branch 28704 (.branch 28683 (.branch 24608 (.branch 24604 (.leaf (24601, (6, 5, 568))) (.leaf (24604, (6, 6, 569)))) (.branch 24611 (.leaf (24608, (6, 7, 570))) (.branch 24615 (.leaf (24611, (6, 8, 571))) (.leaf (24615, (6, 0, 561)))))) (.branch 28694 (.branch 28687 (.leaf (28683, (7, 1, 485))) (.branch 28691 (.leaf (28687, (7, 2, 486))) (.leaf (28691, (7, 3, 487))))) (.branch 28697 (.leaf (28694, (7, 4, 488))) (.branch 28700 (.leaf (28697, (7, 5, 490))) (.leaf (28700, (7, 6, 492))))))) (.branch 28719 (.branch 28710 (.branch 28707 (.leaf (28704, (7, 7, 494))) (.leaf (28707, (7, 8, 496)))) (.branch 28713 (.leaf (28710, (7, 9, 497))) (.branch 28716 (.leaf (28713, (7, 10, 498))) (.leaf (28716, (7, 11, 500)))))) (.branch 32787 (.branch 32777 (.leaf (28719, (7, 0, 484))) (.branch 32783 (.leaf (32777, (8, 0, 717))) (.leaf (32783, (8, 1, 719))))) (.branch 32790 (.leaf (32787, (8, 2, 721))) (.branch 36871 (.leaf (32790, (8, 3, 723))) (.leaf (36871, (9, 0, 187)))))))))) (.branch 45283 (.branch 45092 (.branch 40969 (.branch 36894 (.branch 36884 (.branch 36881 (.leaf (36877, (9, 1, 190))) (.leaf (36881, (9, 2, 193)))) (.branch 36888 (.leaf (36884, (9, 3, 196))) (.branch 36891 (.leaf (36888, (9, 4, 199))) (.leaf (36891, (9, 5, 202)))))) (.branch 36900 (.branch 36897 (.leaf (36894, (9, 6, 205))) (.leaf (36897, (9, 7, 208)))) (.branch 36903 (.leaf (36900, (9, 8, 211))) (.branch 36906 (.leaf (36903, (9, 9, 214))) (.leaf (36906, (9, 10, 217))))))) (.branch 45065 (.branch 40978 (.branch 40975 (.leaf (40969, (10, 1, 647))) (.leaf (40975, (10, 2, 648)))) (.branch 40981 (.leaf (40978, (10, 3, 649))) (.branch 40984 (.leaf (40981, (10, 4, 650))) (.leaf (40984, (10, 0, 646)))))) (.branch 45078 (.branch 45069 (.leaf (45065, (11, 0, 734))) (.branch 45073 (.leaf (45069, (11, 1, 735))) (.leaf (45073, (11, 2, 736))))) (.branch 45082 (.leaf (45078, (11, 3, 737))) (.branch 45086 (.leaf (45082, (11, 4, 738))) (.leaf (45086, (11, 5, 739)))))))) (.branch 45162 (.branch 45120 (.branch 45099 (.branch 45096 (.leaf (45092, (11, 6, 740))) (.leaf (45096, (11, 7, 741)))) (.branch 45103 (.leaf (45099, (11, 8, 742))) (.branch 45111 (.leaf (45103, (11, 9, 743))) (.leaf (45111, (11, 10, 744)))))) (.branch 45145 (.branch 45129 (.leaf (45120, (11, 11, 745))) (.branch 45138 (.leaf (45129, (11, 12, 746))) (.leaf (45138, (11, 13, 747))))) (.branch 45151 (.leaf (45145, (11, 14, 748))) (.branch 45158 (.leaf (45151, (0, 11, 401))) (.leaf (45158, (11, 15, 749))))))) (.branch 45255 (.branch 45192 (.branch 45165 (.leaf (45162, (11, 16, 750))) (.leaf (45165, (11, 17, 751)))) (.branch 45238 (.leaf (45192, (8, 0, 718))) (.branch 45252 (.leaf (45238, (0, 3, 366))) (.leaf (45252, (9, 1, 192)))))) (.branch 45264 (.branch 45258 (.leaf (45255, (7, 10, 499))) (.branch 45261 (.leaf (45258, (7, 11, 501))) (.leaf (45261, (0, 0, 357))))) (.branch 45277 (.leaf (45264, (0, 9, 392))) (.branch 45280 (.leaf (45277, (0, 5, 376))) (.leaf (45280, (0, 6, 380))))))))) (.branch 49214 (.branch 49179 (.branch 49159 (.branch 45452 (.branch 45286 (.leaf (45283, (0, 7, 383))) (.leaf (45286, (0, 8, 387)))) (.branch 45464 (.leaf (45452, (3, 4, 604))) (.branch 45517 (.leaf (45464, (3, 7, 610))) (.leaf (45517, (9, 0, 189)))))) (.branch 49169 (.branch 49165 (.leaf (49159, (12, 0, 1624))) (.leaf (49165, (12, 1, 1625)))) (.branch 49173 (.leaf (49169, (12, 4, 1628))) (.branch 49176 (.leaf (49173, (12, 5, 1629))) (.leaf (49176, (12, 6, 1630))))))) (.branch 49196 (.branch 49186 (.branch 49182 (.leaf (49179, (12, 7, 1631))) (.leaf (49182, (12, 8, 1632)))) (.branch 49189 (.leaf (49186, (12, 9, 1633))) (.branch 49193 (.leaf (49189, (12, 16, 1640))) (.leaf (49193, (12, 17, 1641)))))) (.branch 49205 (.branch 49199 (.leaf (49196, (12, 21, 1645))) (.branch 49202 (.leaf (49199, (12, 24, 1648))) (.leaf (49202, (12, 25, 1649))))) (.branch 49208 (.leaf (49205, (12, 26, 1650))) (.branch 49211 (.leaf (49208, (12, 27, 1651))) (.leaf (49211, (12, 31, 1655)))))))) (.branch 49303 (.branch 49257 (.branch 49220 (.branch 49217 (.leaf (49214, (12, 35, 1659))) (.leaf (49217, (12, 36, 1660)))) (.branch 49227 (.leaf (49220, (12, 37, 1661))) (.branch 49230 (.leaf (49227, (12, 2, 1626))) (.leaf (49230, (12, 3, 1627)))))) (.branch 49272 (.branch 49263 (.leaf (49257, (12, 10, 1634))) (.branch 49266 (.leaf (49263, (12, 11, 1635))) (.leaf (49266, (12, 14, 1638))))) (.branch 49275 (.leaf (49272, (12, 13, 1637))) (.branch 49278 (.leaf (49275, (12, 15, 1639))) (.leaf (49278, (12, 12, 1636))))))) (.branch 49567 (.branch 49359 (.branch 49306 (.leaf (49303, (12, 18, 1642))) (.leaf (49306, (12, 19, 1643)))) (.branch 49404 (.leaf (49359, (12, 20, 1644))) (.branch 49407 (.leaf (49404, (12, 22, 1646))) (.leaf (49407, (12, 23, 1647)))))) (.branch 49637 (.branch 49572 (.leaf (49567, (12, 30, 1654))) (.branch 49632 (.leaf (49572, (12, 32, 1656))) (.leaf (49632, (12, 38, 1662))))) (.branch 57353 (.leaf (49637, (12, 39, 1663))) (.branch 57359 (.leaf (57353, (98, 0, 2369))) (.leaf (57359, (98, 1, 2370))))))))))
set_option maxRecDepth 100000 in
noncomputable def xXL : Lean.RArray (Nat × (Nat × Nat × Nat)) := .branch 53302 (.branch 45247 (.branch 32771 (.branch 12331 (.branch 69 (.branch 61 (.branch 55 (.leaf (3, (0, 176, 6))) (.branch 60 (.leaf (55, (3, 183, 5))) (.leaf (60, (4, 247, 5))))) (.branch 62 (.leaf (61, (5, 297, 5))) (.branch 65 (.leaf (62, (54, 874, 0))) (.leaf (65, (59, 981, 0)))))) (.branch 4099 (.branch 73 (.leaf (69, (60, 995, 0))) (.branch 92 (.leaf (73, (0, 985, 8))) (.leaf (92, (84, 1148, 0))))) (.branch 8195 (.leaf (4099, (0, 300, 6))) (.branch 12291 (.leaf (8195, (0, 250, 6))) (.leaf (12291, (0, 596, 6))))))) (.branch 20533 (.branch 16431 (.branch 16387 (.leaf (12331, (15, 598, 0))) (.branch 16428 (.leaf (16387, (0, 532, 6))) (.leaf (16428, (53, 870, 0))))) (.branch 16568 (.leaf (16431, (55, 878, 0))) (.branch 20483 (.leaf (16568, (54, 1012, 0))) (.leaf (20483, (0, 667, 6)))))) (.branch 28725 (.branch 24579 (.leaf (20533, (15, 669, 0))) (.branch 28675 (.leaf (24579, (0, 560, 6))) (.leaf (28675, (0, 433, 6))))) (.branch 28736 (.branch 28730 (.leaf (28725, (7, 435, 0))) (.leaf (28730, (9, 445, 0)))) (.branch 28742 (.leaf (28736, (56, 882, 0))) (.leaf (28742, (57, 885, 0)))))))) (.branch 45173 (.branch 45108 (.branch 40963 (.branch 36865 (.leaf (32771, (0, 716, 6))) (.branch 36909 (.leaf (36865, (0, 186, 6))) (.leaf (36909, (0, 999, 8))))) (.branch 45057 (.leaf (40963, (0, 645, 6))) (.branch 45091 (.leaf (45057, (0, 166, 6))) (.leaf (45091, (2, 173, 0)))))) (.branch 45135 (.branch 45117 (.leaf (45108, (6, 430, 0))) (.branch 45126 (.leaf (45117, (14, 529, 0))) (.leaf (45126, (15, 557, 0))))) (.branch 45155 (.branch 45144 (.leaf (45135, (16, 593, 0))) (.leaf (45144, (17, 642, 0)))) (.branch 45168 (.leaf (45155, (18, 664, 0))) (.leaf (45168, (19, 713, 5))))))) (.branch 45207 (.branch 45184 (.branch 45177 (.leaf (45173, (30, 808, 0))) (.branch 45181 (.leaf (45177, (29, 805, 0))) (.leaf (45181, (31, 811, 0))))) (.branch 45188 (.leaf (45184, (32, 815, 0))) (.branch 45199 (.leaf (45188, (33, 819, 0))) (.leaf (45199, (38, 827, 0)))))) (.branch 45232 (.branch 45218 (.leaf (45207, (42, 839, 0))) (.branch 45228 (.leaf (45218, (45, 847, 0))) (.leaf (45228, (48, 858, 0))))) (.branch 45241 (.branch 45235 (.leaf (45232, (52, 866, 0))) (.leaf (45235, (58, 977, 0)))) (.branch 45244 (.leaf (45241, (61, 1000, 0))) (.leaf (45244, (70, 1008, 0))))))))) (.branch 49416 (.branch 45504 (.branch 45323 (.branch 45274 (.branch 45267 (.leaf (45247, (60, 1052, 0))) (.branch 45270 (.leaf (45267, (75, 1061, 0))) (.leaf (45270, (76, 1065, 0))))) (.branch 45289 (.leaf (45274, (77, 1073, 0))) (.branch 45296 (.leaf (45289, (80, 1081, 0))) (.leaf (45296, (84, 1089, 0)))))) (.branch 45379 (.branch 45339 (.leaf (45323, (88, 1105, 0))) (.branch 45373 (.leaf (45339, (96, 1128, 0))) (.leaf (45373, (108, 1144, 0))))) (.branch 45423 (.leaf (45379, (100, 1140, 0))) (.branch 45485 (.leaf (45423, (131, 1289, 0))) (.leaf (45485, (165, 1476, 0))))))) (.branch 49244 (.branch 49233 (.branch 49153 (.leaf (45504, (172, 1507, 0))) (.branch 49223 (.leaf (49153, (0, 1619, 6))) (.leaf (49223, (21, 1620, 0))))) (.branch 49237 (.leaf (49233, (64, 1824, 0))) (.branch 49240 (.leaf (49237, (68, 1915, 0))) (.leaf (49240, (36, 1764, 0)))))) (.branch 49269 (.branch 49247 (.leaf (49244, (35, 1761, 0))) (.branch 49260 (.leaf (49247, (40, 1772, 0))) (.leaf (49260, (50, 1792, 0))))) (.branch 49382 (.branch 49309 (.leaf (49269, (66, 1812, 0))) (.leaf (49309, (65, 1808, 0)))) (.branch 49389 (.leaf (49382, (63, 1804, 0))) (.leaf (49389, (67, 1911, 0)))))))) (.branch 53270 (.branch 49495 (.branch 49464 (.branch 49419 (.leaf (49416, (86, 1994, 0))) (.branch 49455 (.leaf (49419, (82, 1986, 0))) (.leaf (49455, (161, 2001, 0))))) (.branch 49470 (.leaf (49464, (90, 2017, 0))) (.branch 49492 (.leaf (49470, (98, 2044, 0))) (.leaf (49492, (110, 2056, 0)))))) (.branch 49640 (.branch 49536 (.leaf (49495, (102, 2052, 0))) (.branch 49593 (.leaf (49536, (125, 2157, 0))) (.leaf (49593, (174, 2292, 0))))) (.branch 53265 (.branch 53261 (.leaf (49640, (185, 2360, 0))) (.leaf (53261, (22, 789, 0)))) (.branch 53266 (.leaf (53265, (23, 1745, 0))) (.leaf (53266, (24, 793, 0))))))) (.branch 53286 (.branch 53275 (.branch 53271 (.leaf (53270, (25, 1749, 0))) (.branch 53274 (.leaf (53271, (26, 797, 0))) (.leaf (53274, (27, 1753, 0))))) (.branch 53279 (.leaf (53275, (28, 801, 0))) (.branch 53282 (.leaf (53279, (34, 1757, 0))) (.leaf (53282, (37, 823, 0)))))) (.branch 53292 (.branch 53287 (.leaf (53286, (39, 1768, 0))) (.branch 53291 (.leaf (53287, (41, 835, 0))) (.leaf (53291, (43, 1779, 0))))) (.branch 53297 (.branch 53296 (.leaf (53292, (44, 843, 0))) (.leaf (53296, (46, 1784, 0)))) (.branch 53301 (.leaf (53297, (47, 854, 0))) (.leaf (53301, (49, 1788, 0)))))))))) (.branch 53413 (.branch 53356 (.branch 53328 (.branch 53315 (.branch 53310 (.branch 53306 (.leaf (53302, (51, 862, 0))) (.branch 53307 (.leaf (53306, (62, 1800, 0))) (.leaf (53307, (69, 1004, 0))))) (.branch 53311 (.leaf (53310, (71, 1919, 0))) (.branch 53314 (.leaf (53311, (72, 1053, 0))) (.leaf (53314, (73, 1796, 0)))))) (.branch 53322 (.branch 53318 (.leaf (53315, (74, 1057, 0))) (.branch 53319 (.leaf (53318, (78, 1947, 0))) (.leaf (53319, (79, 1077, 0))))) (.branch 53323 (.leaf (53322, (81, 1982, 0))) (.branch 53327 (.leaf (53323, (83, 1085, 0))) (.leaf (53327, (85, 1990, 0))))))) (.branch 53340 (.branch 53335 (.branch 53331 (.leaf (53328, (87, 1101, 0))) (.branch 53332 (.leaf (53331, (89, 2013, 0))) (.leaf (53332, (91, 1109, 0))))) (.branch 53336 (.leaf (53335, (92, 2029, 0))) (.branch 53339 (.leaf (53336, (93, 1117, 0))) (.leaf (53339, (94, 2033, 0)))))) (.branch 53348 (.branch 53343 (.leaf (53340, (95, 1124, 0))) (.branch 53344 (.leaf (53343, (97, 2040, 0))) (.leaf (53344, (99, 1136, 0))))) (.branch 53352 (.branch 53349 (.leaf (53348, (101, 2048, 0))) (.leaf (53349, (103, 1181, 0)))) (.branch 53353 (.leaf (53352, (104, 2087, 0))) (.leaf (53353, (105, 1186, 0)))))))) (.branch 53382 (.branch 53369 (.branch 53362 (.branch 53357 (.leaf (53356, (106, 2091, 0))) (.branch 53361 (.leaf (53357, (107, 1191, 0))) (.leaf (53361, (109, 2095, 0))))) (.branch 53365 (.leaf (53362, (111, 1203, 0))) (.branch 53366 (.leaf (53365, (112, 2099, 0))) (.leaf (53366, (113, 1224, 0)))))) (.branch 53374 (.branch 53370 (.leaf (53369, (114, 2132, 0))) (.branch 53373 (.leaf (53370, (115, 1233, 0))) (.leaf (53373, (116, 2136, 0))))) (.branch 53378 (.branch 53377 (.leaf (53374, (117, 1245, 0))) (.leaf (53377, (118, 2144, 0)))) (.branch 53381 (.leaf (53378, (119, 1249, 0))) (.leaf (53381, (120, 2152, 0))))))) (.branch 53396 (.branch 53391 (.branch 53386 (.leaf (53382, (121, 1253, 0))) (.branch 53387 (.leaf (53386, (122, 2160, 0))) (.leaf (53387, (123, 1262, 0))))) (.branch 53392 (.leaf (53391, (124, 2164, 0))) (.branch 53395 (.leaf (53392, (126, 1266, 0))) (.leaf (53395, (127, 2169, 0)))))) (.branch 53403 (.branch 53399 (.leaf (53396, (128, 1274, 0))) (.branch 53400 (.leaf (53399, (129, 2173, 0))) (.leaf (53400, (130, 1285, 0))))) (.branch 53408 (.branch 53404 (.leaf (53403, (132, 2177, 0))) (.leaf (53404, (133, 1307, 0)))) (.branch 53409 (.leaf (53408, (134, 2185, 0))) (.leaf (53409, (135, 1324, 0))))))))) (.branch 53465 (.branch 53438 (.branch 53425 (.branch 53418 (.branch 53414 (.leaf (53413, (136, 2197, 0))) (.branch 53417 (.leaf (53414, (137, 1336, 0))) (.leaf (53417, (138, 2201, 0))))) (.branch 53421 (.leaf (53418, (139, 1358, 0))) (.branch 53422 (.leaf (53421, (140, 2209, 0))) (.leaf (53422, (141, 1362, 0)))))) (.branch 53430 (.branch 53426 (.leaf (53425, (142, 2213, 0))) (.branch 53429 (.leaf (53426, (143, 1371, 0))) (.leaf (53429, (144, 2217, 0))))) (.branch 53434 (.branch 53433 (.leaf (53430, (145, 1384, 0))) (.leaf (53433, (146, 2221, 0)))) (.branch 53437 (.leaf (53434, (147, 1393, 0))) (.leaf (53437, (148, 2225, 0))))))) (.branch 53450 (.branch 53445 (.branch 53441 (.leaf (53438, (149, 1419, 0))) (.branch 53442 (.leaf (53441, (150, 2234, 0))) (.leaf (53442, (151, 1423, 0))))) (.branch 53446 (.leaf (53445, (152, 2238, 0))) (.branch 53449 (.leaf (53446, (153, 1436, 0))) (.leaf (53449, (154, 2243, 0)))))) (.branch 53457 (.branch 53453 (.leaf (53450, (155, 1440, 0))) (.branch 53454 (.leaf (53453, (156, 2247, 0))) (.leaf (53454, (157, 1449, 0))))) (.branch 53461 (.branch 53458 (.leaf (53457, (158, 2255, 0))) (.leaf (53458, (159, 1460, 0)))) (.branch 53462 (.leaf (53461, (160, 2260, 0))) (.leaf (53462, (162, 1468, 0)))))))) (.branch 53491 (.branch 53478 (.branch 53471 (.branch 53466 (.leaf (53465, (163, 2268, 0))) (.branch 53470 (.leaf (53466, (164, 1472, 0))) (.leaf (53470, (166, 2272, 0))))) (.branch 53474 (.leaf (53471, (167, 1487, 0))) (.branch 53475 (.leaf (53474, (168, 2280, 0))) (.leaf (53475, (169, 1495, 0)))))) (.branch 53483 (.branch 53479 (.leaf (53478, (170, 2284, 0))) (.branch 53482 (.leaf (53479, (171, 1503, 0))) (.leaf (53482, (173, 2288, 0))))) (.branch 53487 (.branch 53486 (.leaf (53483, (175, 1524, 0))) (.leaf (53486, (176, 2305, 0)))) (.branch 53490 (.leaf (53487, (177, 1532, 0))) (.leaf (53490, (178, 2309, 0))))))) (.branch 53503 (.branch 53498 (.branch 53494 (.leaf (53491, (179, 1593, 0))) (.branch 53495 (.leaf (53494, (180, 2347, 0))) (.leaf (53495, (181, 1601, 0))))) (.branch 53499 (.leaf (53498, (182, 2351, 0))) (.branch 53502 (.leaf (53499, (183, 1606, 0))) (.leaf (53502, (184, 2356, 0)))))) (.branch 57836 (.branch 53506 (.leaf (53503, (186, 1610, 0))) (.branch 57679 (.leaf (53506, (187, 2364, 0))) (.leaf (57679, (8, 439, 0))))) (.branch 58403 (.branch 57839 (.leaf (57836, (10, 449, 0))) (.leaf (57839, (11, 453, 0)))) (.branch 61449 (.leaf (58403, (13, 461, 0))) (.leaf (61449, (12, 456, 0))))))))))
set_option maxRecDepth 100000 in
noncomputable def xXK : Lean.RArray (Nat × (Nat × Nat)) := .branch 45089 (.branch 12329 (.branch 47 (.leaf (26, (2, 177))) (.branch 53 (.leaf (47, (1, 179))) (.leaf (53, (9, 181))))) (.branch 20531 (.leaf (12329, (6, 597))) (.branch 45076 (.leaf (20531, (6, 668))) (.leaf (45076, (8, 169)))))) (.branch 45124 (.branch 45106 (.leaf (45089, (0, 171))) (.branch 45115 (.leaf (45106, (7, 428))) (.leaf (45115, (4, 527))))) (.branch 45142 (.branch 45133 (.leaf (45124, (6, 555))) (.leaf (45133, (3, 591)))) (.branch 45149 (.leaf (45142, (10, 640))) (.leaf (45149, (5, 662))))))
set_option maxRecDepth 100000 in
noncomputable def xXC : Lean.RArray (Nat × (Nat × Nat)) := .branch 49287 (.branch 20652 (.leaf (20540, (1000000, 1540))) (.leaf (20652, (65536, 1570)))) (.branch 49571 (.leaf (49287, (100000, 1822))) (.branch 49602 (.leaf (49571, (1000000, 2242))) (.leaf (49602, (65536, 2334)))))
set_option maxRecDepth 100000 in
noncomputable def xXD : Lean.RArray (Nat × (Nat × Nat)) := .branch 49540 (.branch 45498 (.branch 28734 (.leaf (24637, (31, 1159))) (.leaf (28734, (32, 483)))) (.branch 49255 (.leaf (45498, (999999, 1511))) (.branch 49534 (.leaf (49255, (18446744073709551615, 1783))) (.leaf (49534, (999, 2156)))))) (.branch 49627 (.branch 49556 (.leaf (49540, (60, 2168))) (.branch 49588 (.leaf (49556, (6, 2229))) (.leaf (49588, (999999, 2296))))) (.branch 49635 (.leaf (49627, (9999, 2313))) (.branch 53280 (.leaf (49635, (20, 2355))) (.leaf (53280, (4294967295, 2368))))))
def xcnl : List String := ["OathTill$Court", "OathTill$Oath", "OathTill$Person", "OathTill$Plan", "OathTill$Reader", "OathTill$Runner", "OathTill$Stand", "OathTill$Text", "OathTill$Tray", "OathTill$Trials", "OathTill$Whereabouts", "OathTill", "OathTillModel", "OathTillLaw", "java/lang/String", "java/lang/StringLatin1", "jdk/internal/util/Preconditions", "java/lang/Math"]
def xcn (i : Nat) : String := xcnl.getD i ""
noncomputable def xby (y : Nat) : ByteArray := (xg xXB y).getD code
noncomputable def xnm (y : Nat) : MethodName := (xg xXN y).getD ⟨"", "", ""⟩
noncomputable def xrtt (y : Nat) : Option FieldType := (xg xXR y).getD none
noncomputable def xmh (y : Nat) : Nat × Nat × Nat × Nat × Nat × Nat := (xg xXM y).getD (0, 0, 0, 0, 0, 0)
noncomputable def xon (y : Nat) : Nat := (xmh y).1
def xnest : List (String × Nat × MethodName × String) := [("OathTill$Court", 55, ⟨"OathTill$Trials", "<init>", "()V"⟩, "OathTill"), ("OathTill$Court", 60, ⟨"OathTill$Person", "<init>", "()V"⟩, "OathTill"), ("OathTill$Court", 61, ⟨"OathTill$Oath", "<init>", "()V"⟩, "OathTill"), ("OathTill", 112, ⟨"OathTill$Tray", "<init>", "()V"⟩, "OathTill")]
def xtxt : String × Nat × String := ("OathTill$Text", 51, "place at person purse child bishop twins knows was in hour base more speed swear says find recant any when till stands loop end stop ")
def xovr : List String := ["OathTill$Court", "OathTill$Oath", "OathTill$Person", "OathTill$Tray"]
def xtyf : Nat → Nat → FieldType
  | 0 => tyX0
  | 1 => tyX1
  | 2 => tyX2
  | 3 => tyX3
  | 4 => tyX4
  | 5 => tyX5
  | 6 => tyX6
  | 7 => tyX7
  | 8 => tyX8
  | 9 => tyX9
  | 10 => tyX10
  | 11 => tyX11
  | 12 => tyX12
  | _ => fun _ => .int
-- of a class: places of instantiable, initialized, and of its fields' words
def xXK2 : List (Nat × Nat × List Nat) := [(172, 142, [402, 404, 406, 408, 410, 412, 414, 416, 418, 420, 422, 424]), (296, 145, [334, 336, 338, 340, 342, 344, 346, 348]), (246, 144, [281, 283, 285, 287, 289, 291, 293]), (592, 153, [617, 619, 621, 623, 625, 627, 629, 631, 633, 635, 637]), (528, 151, [540, 542, 544, 546, 548, 550, 552]), (663, 155, [687, 689, 691, 693, 695, 697, 699, 701, 703, 705, 707, 709]), (556, 152, [572, 574, 576, 578, 580, 582, 584, 586, 588]), (429, 146, [502, 504, 506, 508, 510, 512, 514, 516, 518, 520, 522, 524]), (712, 156, [725, 727, 729, 731]), (182, 143, [220, 222, 224, 226, 228, 230, 232, 234, 236, 238, 240]), (641, 154, [651, 653, 655, 657, 659]), (162, 141, [752, 754, 756, 758, 760, 762, 764, 766, 768, 770, 772, 774, 776, 778, 780, 782, 784, 786]), (1615, 157, [1664, 1666, 1668, 1670, 1672, 1674, 1676, 1678, 1680, 1682, 1684, 1686, 1688, 1690, 1692, 1694, 1696, 1698, 1700, 1702, 1704, 1706, 1708, 1710, 1712, 1714, 1716, 1718, 1720, 1722, 1724, 1726, 1728, 1730, 1732, 1734, 1736, 1738, 1740, 1742])]
def xhS0 : Nat := 443
def xhS1 : Nat := 459
def xhI : Nat := 167
def xhC : Nat := 168
def xhN : Nat := 853
def xhT : Nat := 852
def xhY : Nat := 158
end
section
/-! The tables say what they must: checks by computing, and what they give -/
def xgw : List Cond := lw_tbl.filter goodWord
theorem xgw_good : xGood xgw := fun w hw => good_of_word (List.mem_filter.mp hw).2
def xmem (i : Nat) (w : Cond) : Bool := decide (lw_tbl[i]? = some w)
theorem xmem_ok {i : Nat} {w : Cond} (h : xmem i w = true) (hg : goodWord w = true) : w ∈ xgw := List.mem_filter.mpr ⟨List.mem_of_getElem? (of_decide_eq_true h), hg⟩
/-! pools: a key is a class's number times 4096, and the entry -/
noncomputable def xkF (key : Nat) (v : Nat × Nat × Nat) : Bool :=
  cond (Nat.blt v.1 13)
    (match vwCl[v.1]? with
      | none => false
      | some r => Nat.blt v.2.1 r.2.2 && xmem v.2.2 (.fieldLink (xcn (key / 4096)) (key % 4096) (r.2.1 v.2.1).1 (r.2.1 v.2.1).2.1 (r.2.1 v.2.1).2.2.1))
    (Nat.beq v.1 98 && cond (Nat.beq v.2.1 0) (xmem v.2.2 (.fieldLink (xcn (key / 4096)) (key % 4096) "java/lang/String" "value" "[B")) (xmem v.2.2 (.fieldLink (xcn (key / 4096)) (key % 4096) "java/lang/String" "coder" "B")))
noncomputable def xkL (key : Nat) (v : Nat × Nat × Nat) : Bool :=
  cond (Nat.beq v.2.2 6) (xmem v.2.1 (.methodLink (xcn (key / 4096)) (key % 4096) objectInit))
    (cond (Nat.beq v.2.2 8) (xmem v.2.1 (.methodLink (xcn (key / 4096)) (key % 4096) arraycopyName))
      (cond (Nat.beq v.2.2 5) (decide ((xcn (key / 4096), key % 4096, xnm v.1, "OathTill") ∈ xnest)) (xmem v.2.1 (.methodLink (xcn (key / 4096)) (key % 4096) (xnm v.1)))))
noncomputable def xkK (key : Nat) (v : Nat × Nat) : Bool := match vwCl[v.1]? with
  | none => false
  | some r => xmem v.2 (.classLink (xcn (key / 4096)) (key % 4096) r.1)
noncomputable def xkC (key : Nat) (v : Nat × Nat) : Bool := xmem v.2 (.constant (xcn (key / 4096)) (key % 4096) (nI v.1))
noncomputable def xkD (key : Nat) (v : Nat × Nat) : Bool := xmem v.2 (.constantLong (xcn (key / 4096)) (key % 4096) (lN v.1))
/-- a method but for its code -/
noncomputable def xkM (z : Nat) (v : Nat × Nat × Nat × Nat × Nat × Nat) : Bool :=
  decide ((xnm z).cls = xcn v.1) && (Nat.beq z 0 ||
    (xmem v.2.2.2.1 (.initialized (xnm z).cls) && plainFor (xnm z) && decide ((xnm z).cls ≠ "java/lang/invoke/MethodHandle") && decide ((xnm z).cls ≠ "java/lang/invoke/VarHandle") && decide ((parseMethodDescriptor (xnm z).desc).map (fun d => d.parameters.length) = some (xu xmeth z).2.2.1) && Nat.ble (xu xmeth z).2.2.2.2.2 51 &&
      (match v.2.1 with
        | 1 => xmem v.2.2.2.2.1 (.instanceMethod (xnm z)) && xmem v.2.2.2.2.2 (.selects (xnm z).cls (xnm z) (xnm z)) && cond (Nat.blt (xu xmeth z).2.2.2.1 13) (match vwCl[(xu xmeth z).2.2.2.1]? with
          | none => false
          | some r => decide (r.1 = (xnm z).cls)) (decide ((xnm z).cls = "java/lang/String"))
        | 2 => xmem v.2.2.2.2.1 (.instanceMethod (xnm z)) && decide ((xnm z).name = "<init>") && decide (xrtt z = none)
        | _ => xmem v.2.2.2.2.1 (.static (xnm z)))))
set_option maxRecDepth 100000 in
theorem xF_ok : xall xXF xkF = true := by decide +kernel
set_option maxRecDepth 100000 in
theorem xL_ok : xall xXL xkL = true := by decide +kernel
set_option maxRecDepth 100000 in
theorem xK_ok : xall xXK xkK = true := by decide +kernel
set_option maxRecDepth 100000 in
theorem xC_ok : xall xXC xkC = true := by decide +kernel
set_option maxRecDepth 100000 in
theorem xD_ok : xall xXD xkD = true := by decide +kernel
set_option maxRecDepth 100000 in
theorem xM_ok : xall xXM xkM = true := by decide +kernel
end
section
/-! The methods' code among the words: printed by program -/
theorem xin_1 (w : Cond) (h : w ∈ tables_1_1) : w ∈ lw_tbl := List.mem_append_right _ (List.mem_append_left _ h)
theorem xin_2 (w : Cond) (h : w ∈ tables_1_2) : w ∈ lw_tbl := List.mem_append_right _ (List.mem_append_right _ (List.mem_append_left _ h))
theorem xin_3 (w : Cond) (h : w ∈ tables_1_3) : w ∈ lw_tbl := List.mem_append_right _ (List.mem_append_right _ (List.mem_append_right _ (List.mem_append_left _ h)))
theorem xin_4 (w : Cond) (h : w ∈ tables_1_4) : w ∈ lw_tbl := List.mem_append_right _ (List.mem_append_right _ (List.mem_append_right _ (List.mem_append_right _ (List.mem_append_left _ h))))
theorem xin_5 (w : Cond) (h : w ∈ tables_1_5) : w ∈ lw_tbl := List.mem_append_right _ (List.mem_append_right _ (List.mem_append_right _ (List.mem_append_right _ (List.mem_append_right _ (List.mem_append_left _ h)))))
theorem xin_6 (w : Cond) (h : w ∈ tables_1_6) : w ∈ lw_tbl := List.mem_append_right _ (List.mem_append_right _ (List.mem_append_right _ (List.mem_append_right _ (List.mem_append_right _ (List.mem_append_right _ (List.mem_append_left _ h))))))
theorem xin_7 (w : Cond) (h : w ∈ tables_1_7) : w ∈ lw_tbl := List.mem_append_right _ (List.mem_append_right _ (List.mem_append_right _ (List.mem_append_right _ (List.mem_append_right _ (List.mem_append_right _ (List.mem_append_right _ (List.mem_append_left _ h)))))))
theorem xin_8 (w : Cond) (h : w ∈ tables_1_8) : w ∈ lw_tbl := List.mem_append_right _ (List.mem_append_right _ (List.mem_append_right _ (List.mem_append_right _ (List.mem_append_right _ (List.mem_append_right _ (List.mem_append_right _ (List.mem_append_right _ (List.mem_append_left _ h))))))))
theorem xin_9 (w : Cond) (h : w ∈ tables_1_9) : w ∈ lw_tbl := List.mem_append_right _ (List.mem_append_right _ (List.mem_append_right _ (List.mem_append_right _ (List.mem_append_right _ (List.mem_append_right _ (List.mem_append_right _ (List.mem_append_right _ (List.mem_append_right _ (List.mem_append_left _ h)))))))))
theorem xin_10 (w : Cond) (h : w ∈ tables_1_10) : w ∈ lw_tbl := List.mem_append_right _ (List.mem_append_right _ (List.mem_append_right _ (List.mem_append_right _ (List.mem_append_right _ (List.mem_append_right _ (List.mem_append_right _ (List.mem_append_right _ (List.mem_append_right _ (List.mem_append_right _ (h))))))))))
theorem xcm_1 : Cond.code ⟨"OathTill", "<init>", "()V"⟩ prog_1_method_1_code 2 (none) ∈ xgw := List.mem_filter.mpr ⟨xin_1 _ (List.mem_of_getElem? (i := 25) rfl), rfl⟩
theorem xcm_2 : Cond.code ⟨"OathTill$Court", "<init>", "()V"⟩ prog_2_method_1_code 2 (none) ∈ xgw := List.mem_filter.mpr ⟨xin_1 _ (List.mem_of_getElem? (i := 35) rfl), rfl⟩
theorem xcm_3 : Cond.code ⟨"OathTill$Trials", "<init>", "()V"⟩ prog_11_method_1_code 1 (none) ∈ xgw := List.mem_filter.mpr ⟨xin_1 _ (List.mem_of_getElem? (i := 45) rfl), rfl⟩
theorem xcm_4 : Cond.code ⟨"OathTill$Person", "<init>", "()V"⟩ prog_4_method_1_code 1 (none) ∈ xgw := List.mem_filter.mpr ⟨xin_1 _ (List.mem_of_getElem? (i := 109) rfl), rfl⟩
theorem xcm_5 : Cond.code ⟨"OathTill$Oath", "<init>", "()V"⟩ prog_3_method_1_code 1 (none) ∈ xgw := List.mem_filter.mpr ⟨xin_1 _ (List.mem_of_getElem? (i := 159) rfl), rfl⟩
theorem xcm_6 : Cond.code ⟨"OathTill$Text", "<init>", "([B)V"⟩ prog_9_method_1_code 7 (none) ∈ xgw := List.mem_filter.mpr ⟨xin_2 _ (List.mem_of_getElem? (i := 52) rfl), rfl⟩
theorem xcm_7 : Cond.code ⟨"java/lang/String", "length", "()I"⟩ prog_17_method_54_code 1 (some .int) ∈ xgw := List.mem_filter.mpr ⟨xin_2 _ (List.mem_of_getElem? (i := 58) rfl), rfl⟩
theorem xcm_8 : Cond.code ⟨"java/lang/String", "coder", "()B"⟩ prog_17_method_152_code 1 (some .byte) ∈ xgw := List.mem_filter.mpr ⟨xin_2 _ (List.mem_of_getElem? (i := 62) rfl), rfl⟩
theorem xcm_9 : Cond.code ⟨"java/lang/String", "charAt", "(I)C"⟩ prog_17_method_56_code 2 (some .char) ∈ xgw := List.mem_filter.mpr ⟨xin_2 _ (List.mem_of_getElem? (i := 68) rfl), rfl⟩
theorem xcm_10 : Cond.code ⟨"java/lang/String", "isLatin1", "()Z"⟩ prog_17_method_154_code 1 (some .boolean) ∈ xgw := List.mem_filter.mpr ⟨xin_2 _ (List.mem_of_getElem? (i := 72) rfl), rfl⟩
theorem xcm_11 : Cond.code ⟨"java/lang/StringLatin1", "charAt", "([BI)C"⟩ prog_18_method_2_code 2 (some .char) ∈ xgw := List.mem_filter.mpr ⟨xin_2 _ (List.mem_of_getElem? (i := 75) rfl), rfl⟩
theorem xcm_12 : Cond.code ⟨"java/lang/String", "checkIndex", "(II)V"⟩ prog_17_method_155_code 2 (none) ∈ xgw := List.mem_filter.mpr ⟨xin_2 _ (List.mem_of_getElem? (i := 78) rfl), rfl⟩
theorem xcm_13 : Cond.code ⟨"jdk/internal/util/Preconditions", "checkIndex", "(IILjava/util/function/BiFunction;)I"⟩ prog_21_method_11_code 3 (some .int) ∈ xgw := List.mem_filter.mpr ⟨xin_2 _ (List.mem_of_getElem? (i := 83) rfl), rfl⟩
theorem xcm_14 : Cond.code ⟨"OathTill$Reader", "<init>", "(LOathTill$Text;LOathTill$Court;LOathTill$Court;)V"⟩ prog_6_method_1_code 4 (none) ∈ xgw := List.mem_filter.mpr ⟨xin_2 _ (List.mem_of_getElem? (i := 151) rfl), rfl⟩
theorem xcm_15 : Cond.code ⟨"OathTill$Stand", "<init>", "(LOathTill$Court;)V"⟩ prog_8_method_1_code 2 (none) ∈ xgw := List.mem_filter.mpr ⟨xin_2 _ (List.mem_of_getElem? (i := 179) rfl), rfl⟩
theorem xcm_16 : Cond.code ⟨"OathTill$Plan", "<init>", "(LOathTill$Court;LOathTill$Court;)V"⟩ prog_5_method_1_code 3 (none) ∈ xgw := List.mem_filter.mpr ⟨xin_2 _ (List.mem_of_getElem? (i := 215) rfl), rfl⟩
theorem xcm_17 : Cond.code ⟨"OathTill$Whereabouts", "<init>", "(LOathTill$Court;)V"⟩ prog_12_method_1_code 2 (none) ∈ xgw := List.mem_filter.mpr ⟨xin_3 _ (List.mem_of_getElem? (i := 24) rfl), rfl⟩
theorem xcm_18 : Cond.code ⟨"OathTill$Runner", "<init>", "(LOathTill$Court;LOathTill$Trials;)V"⟩ prog_7_method_1_code 3 (none) ∈ xgw := List.mem_filter.mpr ⟨xin_3 _ (List.mem_of_getElem? (i := 46) rfl), rfl⟩
theorem xcm_19 : Cond.code ⟨"OathTill$Tray", "<init>", "()V"⟩ prog_10_method_1_code 1 (none) ∈ xgw := List.mem_filter.mpr ⟨xin_3 _ (List.mem_of_getElem? (i := 95) rfl), rfl⟩
theorem xcm_20 : Cond.code ⟨"OathTillModel", "<init>", "()V"⟩ prog_14_method_1_code 1 (none) ∈ xgw := List.mem_filter.mpr ⟨xin_7 _ (List.mem_of_getElem? (i := 38) rfl), rfl⟩
theorem xcm_21 : Cond.code ⟨"OathTillModel", "plain", "(I)V"⟩ prog_14_method_2_code 3 (none) ∈ xgw := List.mem_filter.mpr ⟨xin_7 _ (List.mem_of_getElem? (i := 43) rfl), rfl⟩
theorem xcm_22 : Cond.code ⟨"OathTill", "status", "()I"⟩ prog_1_method_2_code 1 (some .int) ∈ xgw := List.mem_filter.mpr ⟨xin_3 _ (List.mem_of_getElem? (i := 172) rfl), rfl⟩
theorem xcm_23 : Cond.code ⟨"OathTillModel", "status", "()I"⟩ prog_14_method_3_code 1 (some .int) ∈ xgw := List.mem_filter.mpr ⟨xin_7 _ (List.mem_of_getElem? (i := 168) rfl), rfl⟩
theorem xcm_24 : Cond.code ⟨"OathTill", "top", "()J"⟩ prog_1_method_3_code 1 (some .long) ∈ xgw := List.mem_filter.mpr ⟨xin_3 _ (List.mem_of_getElem? (i := 176) rfl), rfl⟩
theorem xcm_25 : Cond.code ⟨"OathTillModel", "top", "()J"⟩ prog_14_method_4_code 1 (some .long) ∈ xgw := List.mem_filter.mpr ⟨xin_7 _ (List.mem_of_getElem? (i := 172) rfl), rfl⟩
theorem xcm_26 : Cond.code ⟨"OathTill", "bottom", "()J"⟩ prog_1_method_4_code 1 (some .long) ∈ xgw := List.mem_filter.mpr ⟨xin_3 _ (List.mem_of_getElem? (i := 180) rfl), rfl⟩
theorem xcm_27 : Cond.code ⟨"OathTillModel", "bottom", "()J"⟩ prog_14_method_5_code 1 (some .long) ∈ xgw := List.mem_filter.mpr ⟨xin_7 _ (List.mem_of_getElem? (i := 176) rfl), rfl⟩
theorem xcm_28 : Cond.code ⟨"OathTill", "tray", "(III)Z"⟩ prog_1_method_13_code 4 (some .boolean) ∈ xgw := List.mem_filter.mpr ⟨xin_3 _ (List.mem_of_getElem? (i := 184) rfl), rfl⟩
theorem xcm_29 : Cond.code ⟨"OathTill", "isTray", "(I)Z"⟩ prog_1_method_12_code 1 (some .boolean) ∈ xgw := List.mem_filter.mpr ⟨xin_3 _ (List.mem_of_getElem? (i := 187) rfl), rfl⟩
theorem xcm_30 : Cond.code ⟨"OathTill", "within", "(III)Z"⟩ prog_1_method_9_code 3 (some .boolean) ∈ xgw := List.mem_filter.mpr ⟨xin_3 _ (List.mem_of_getElem? (i := 190) rfl), rfl⟩
theorem xcm_31 : Cond.code ⟨"OathTill", "deny", "(I)Z"⟩ prog_1_method_8_code 2 (some .boolean) ∈ xgw := List.mem_filter.mpr ⟨xin_3 _ (List.mem_of_getElem? (i := 194) rfl), rfl⟩
theorem xcm_32 : Cond.code ⟨"OathTill$Tray", "lay", "(II)V"⟩ prog_10_method_2_code 4 (none) ∈ xgw := List.mem_filter.mpr ⟨xin_3 _ (List.mem_of_getElem? (i := 198) rfl), rfl⟩
theorem xcm_33 : Cond.code ⟨"OathTill", "agree", "()Z"⟩ prog_1_method_7_code 1 (some .boolean) ∈ xgw := List.mem_filter.mpr ⟨xin_3 _ (List.mem_of_getElem? (i := 202) rfl), rfl⟩
theorem xcm_34 : Cond.code ⟨"OathTillModel", "tray", "(III)Z"⟩ prog_14_method_13_code 5 (some .boolean) ∈ xgw := List.mem_filter.mpr ⟨xin_7 _ (List.mem_of_getElem? (i := 180) rfl), rfl⟩
theorem xcm_35 : Cond.code ⟨"OathTillModel", "isTray", "(I)Z"⟩ prog_14_method_11_code 1 (some .boolean) ∈ xgw := List.mem_filter.mpr ⟨xin_7 _ (List.mem_of_getElem? (i := 183) rfl), rfl⟩
theorem xcm_36 : Cond.code ⟨"OathTillModel", "is", "(I)Z"⟩ prog_14_method_6_code 2 (some .boolean) ∈ xgw := List.mem_filter.mpr ⟨xin_7 _ (List.mem_of_getElem? (i := 187) rfl), rfl⟩
theorem xcm_37 : Cond.code ⟨"OathTill", "write", "(IIJ)Z"⟩ prog_1_method_15_code 6 (some .boolean) ∈ xgw := List.mem_filter.mpr ⟨xin_3 _ (List.mem_of_getElem? (i := 206) rfl), rfl⟩
theorem xcm_38 : Cond.code ⟨"OathTill", "placeTrouble", "(II)I"⟩ prog_1_method_14_code 3 (some .int) ∈ xgw := List.mem_filter.mpr ⟨xin_3 _ (List.mem_of_getElem? (i := 210) rfl), rfl⟩
theorem xcm_39 : Cond.code ⟨"OathTillModel", "write", "(IIJ)Z"⟩ prog_14_method_15_code 6 (some .boolean) ∈ xgw := List.mem_filter.mpr ⟨xin_7 _ (List.mem_of_getElem? (i := 191) rfl), rfl⟩
theorem xcm_40 : Cond.code ⟨"OathTillModel", "wrongPlace", "(II)I"⟩ prog_14_method_14_code 3 (some .int) ∈ xgw := List.mem_filter.mpr ⟨xin_7 _ (List.mem_of_getElem? (i := 195) rfl), rfl⟩
theorem xcm_41 : Cond.code ⟨"OathTill", "read", "(II)J"⟩ prog_1_method_16_code 4 (some .long) ∈ xgw := List.mem_filter.mpr ⟨xin_3 _ (List.mem_of_getElem? (i := 218) rfl), rfl⟩
theorem xcm_42 : Cond.code ⟨"OathTill", "refuse", "(I)I"⟩ prog_1_method_6_code 2 (some .int) ∈ xgw := List.mem_filter.mpr ⟨xin_3 _ (List.mem_of_getElem? (i := 222) rfl), rfl⟩
theorem xcm_43 : Cond.code ⟨"OathTillModel", "read", "(II)J"⟩ prog_14_method_16_code 3 (some .long) ∈ xgw := List.mem_filter.mpr ⟨xin_7 _ (List.mem_of_getElem? (i := 202) rfl), rfl⟩
theorem xcm_44 : Cond.code ⟨"OathTill", "pour", "(IIIII)Z"⟩ prog_1_method_18_code 7 (some .boolean) ∈ xgw := List.mem_filter.mpr ⟨xin_3 _ (List.mem_of_getElem? (i := 226) rfl), rfl⟩
theorem xcm_45 : Cond.code ⟨"OathTill", "pourTrouble", "(IIIII)I"⟩ prog_1_method_17_code 7 (some .int) ∈ xgw := List.mem_filter.mpr ⟨xin_3 _ (List.mem_of_getElem? (i := 230) rfl), rfl⟩
theorem xcm_46 : Cond.code ⟨"OathTillModel", "pour", "(IIIII)Z"⟩ prog_14_method_17_code 8 (some .boolean) ∈ xgw := List.mem_filter.mpr ⟨xin_7 _ (List.mem_of_getElem? (i := 207) rfl), rfl⟩
theorem xcm_47 : Cond.code ⟨"OathTill", "feed", "(IIIII)I"⟩ prog_1_method_20_code 6 (some .int) ∈ xgw := List.mem_filter.mpr ⟨xin_3 _ (List.mem_of_getElem? (i := 237) rfl), rfl⟩
theorem xcm_48 : Cond.code ⟨"OathTill", "append", "(I)V"⟩ prog_1_method_19_code 3 (none) ∈ xgw := List.mem_filter.mpr ⟨xin_4 _ (List.mem_of_getElem? (i := 1) rfl), rfl⟩
theorem xcm_49 : Cond.code ⟨"OathTillModel", "feed", "(IIIII)I"⟩ prog_14_method_19_code 6 (some .int) ∈ xgw := List.mem_filter.mpr ⟨xin_7 _ (List.mem_of_getElem? (i := 211) rfl), rfl⟩
theorem xcm_50 : Cond.code ⟨"OathTillModel", "four", "(I)V"⟩ prog_14_method_20_code 3 (none) ∈ xgw := List.mem_filter.mpr ⟨xin_7 _ (List.mem_of_getElem? (i := 215) rfl), rfl⟩
theorem xcm_51 : Cond.code ⟨"OathTill", "court", "(I)I"⟩ prog_1_method_21_code 2 (some .int) ∈ xgw := List.mem_filter.mpr ⟨xin_4 _ (List.mem_of_getElem? (i := 5) rfl), rfl⟩
theorem xcm_52 : Cond.code ⟨"OathTill$Reader", "takeCourt", "(I)Z"⟩ prog_6_method_2_code 3 (some .boolean) ∈ xgw := List.mem_filter.mpr ⟨xin_4 _ (List.mem_of_getElem? (i := 9) rfl), rfl⟩
theorem xcm_53 : Cond.code ⟨"OathTill$Court", "clear", "()V"⟩ prog_2_method_2_code 1 (none) ∈ xgw := List.mem_filter.mpr ⟨xin_4 _ (List.mem_of_getElem? (i := 13) rfl), rfl⟩
theorem xcm_54 : Cond.code ⟨"OathTill$Trials", "clear", "()V"⟩ prog_11_method_2_code 1 (none) ∈ xgw := List.mem_filter.mpr ⟨xin_4 _ (List.mem_of_getElem? (i := 17) rfl), rfl⟩
theorem xcm_55 : Cond.code ⟨"OathTill$Text", "begin", "(I)V"⟩ prog_9_method_2_code 2 (none) ∈ xgw := List.mem_filter.mpr ⟨xin_4 _ (List.mem_of_getElem? (i := 21) rfl), rfl⟩
theorem xcm_56 : Cond.code ⟨"java/lang/Math", "min", "(II)I"⟩ prog_16_method_69_code 2 (some .int) ∈ xgw := List.mem_filter.mpr ⟨xin_4 _ (List.mem_of_getElem? (i := 24) rfl), rfl⟩
theorem xcm_57 : Cond.code ⟨"OathTill$Text", "advance", "()V"⟩ prog_9_method_3_code 2 (none) ∈ xgw := List.mem_filter.mpr ⟨xin_4 _ (List.mem_of_getElem? (i := 28) rfl), rfl⟩
theorem xcm_58 : Cond.code ⟨"OathTill$Court", "copyAll", "(LOathTill$Court;)V"⟩ prog_2_method_3_code 2 (none) ∈ xgw := List.mem_filter.mpr ⟨xin_4 _ (List.mem_of_getElem? (i := 120) rfl), rfl⟩
theorem xcm_59 : Cond.code ⟨"OathTill$Court", "copyCase", "(LOathTill$Court;)V"⟩ prog_2_method_4_code 3 (none) ∈ xgw := List.mem_filter.mpr ⟨xin_4 _ (List.mem_of_getElem? (i := 124) rfl), rfl⟩
theorem xcm_60 : Cond.code ⟨"OathTill$Trials", "copyAll", "(LOathTill$Trials;)V"⟩ prog_11_method_3_code 2 (none) ∈ xgw := List.mem_filter.mpr ⟨xin_4 _ (List.mem_of_getElem? (i := 138) rfl), rfl⟩
theorem xcm_61 : Cond.code ⟨"OathTill", "give", "(I)I"⟩ prog_1_method_5_code 2 (some .int) ∈ xgw := List.mem_filter.mpr ⟨xin_4 _ (List.mem_of_getElem? (i := 143) rfl), rfl⟩
theorem xcm_62 : Cond.code ⟨"OathTillModel", "court", "(I)I"⟩ prog_14_method_48_code 4 (some .int) ∈ xgw := List.mem_filter.mpr ⟨xin_7 _ (List.mem_of_getElem? (i := 223) rfl), rfl⟩
theorem xcm_63 : Cond.code ⟨"OathTillModel", "begins", "(II)Z"⟩ prog_14_method_28_code 4 (some .boolean) ∈ xgw := List.mem_filter.mpr ⟨xin_7 _ (List.mem_of_getElem? (i := 227) rfl), rfl⟩
theorem xcm_64 : Cond.code ⟨"OathTillModel", "refuse", "(I)I"⟩ prog_14_method_7_code 2 (some .int) ∈ xgw := List.mem_filter.mpr ⟨xin_8 _ (List.mem_of_getElem? (i := 7) rfl), rfl⟩
theorem xcm_65 : Cond.code ⟨"OathTillModel", "ahead", "()V"⟩ prog_14_method_24_code 2 (none) ∈ xgw := List.mem_filter.mpr ⟨xin_7 _ (List.mem_of_getElem? (i := 231) rfl), rfl⟩
theorem xcm_66 : Cond.code ⟨"OathTillModel", "byteAt", "(I)I"⟩ prog_14_method_21_code 2 (some .int) ∈ xgw := List.mem_filter.mpr ⟨xin_7 _ (List.mem_of_getElem? (i := 235) rfl), rfl⟩
theorem xcm_67 : Cond.code ⟨"OathTillModel", "taken", "(I)I"⟩ prog_14_method_36_code 2 (some .int) ∈ xgw := List.mem_filter.mpr ⟨xin_8 _ (List.mem_of_getElem? (i := 94) rfl), rfl⟩
theorem xcm_68 : Cond.code ⟨"OathTillModel", "gives", "(I)I"⟩ prog_14_method_8_code 2 (some .int) ∈ xgw := List.mem_filter.mpr ⟨xin_8 _ (List.mem_of_getElem? (i := 98) rfl), rfl⟩
theorem xcm_69 : Cond.code ⟨"OathTill", "trials", "(I)I"⟩ prog_1_method_22_code 2 (some .int) ∈ xgw := List.mem_filter.mpr ⟨xin_4 _ (List.mem_of_getElem? (i := 147) rfl), rfl⟩
theorem xcm_70 : Cond.code ⟨"OathTill$Reader", "takeTrials", "(I)Z"⟩ prog_6_method_12_code 4 (some .boolean) ∈ xgw := List.mem_filter.mpr ⟨xin_4 _ (List.mem_of_getElem? (i := 151) rfl), rfl⟩
theorem xcm_71 : Cond.code ⟨"OathTillModel", "trials", "(I)I"⟩ prog_14_method_55_code 4 (some .int) ∈ xgw := List.mem_filter.mpr ⟨xin_8 _ (List.mem_of_getElem? (i := 102) rfl), rfl⟩
theorem xcm_72 : Cond.code ⟨"OathTill", "fault", "(I)I"⟩ prog_1_method_23_code 2 (some .int) ∈ xgw := List.mem_filter.mpr ⟨xin_4 _ (List.mem_of_getElem? (i := 196) rfl), rfl⟩
theorem xcm_73 : Cond.code ⟨"OathTillModel", "fault", "(I)I"⟩ prog_14_method_35_code 2 (some .int) ∈ xgw := List.mem_filter.mpr ⟨xin_7 _ (List.mem_of_getElem? (i := 219) rfl), rfl⟩
theorem xcm_74 : Cond.code ⟨"OathTill", "told", "(I)I"⟩ prog_1_method_24_code 2 (some .int) ∈ xgw := List.mem_filter.mpr ⟨xin_4 _ (List.mem_of_getElem? (i := 200) rfl), rfl⟩
theorem xcm_75 : Cond.code ⟨"OathTill$Court", "inState", "(I)I"⟩ prog_2_method_22_code 4 (some .int) ∈ xgw := List.mem_filter.mpr ⟨xin_4 _ (List.mem_of_getElem? (i := 204) rfl), rfl⟩
theorem xcm_76 : Cond.code ⟨"OathTill$Court", "lies", "()I"⟩ prog_2_method_23_code 3 (some .int) ∈ xgw := List.mem_filter.mpr ⟨xin_4 _ (List.mem_of_getElem? (i := 208) rfl), rfl⟩
theorem xcm_77 : Cond.code ⟨"OathTill$Court", "refunds", "()I"⟩ prog_2_method_24_code 3 (some .int) ∈ xgw := List.mem_filter.mpr ⟨xin_4 _ (List.mem_of_getElem? (i := 216) rfl), rfl⟩
theorem xcm_78 : Cond.code ⟨"OathTillModel", "told", "(I)I"⟩ prog_14_method_77_code 5 (some .int) ∈ xgw := List.mem_filter.mpr ⟨xin_8 _ (List.mem_of_getElem? (i := 130) rfl), rfl⟩
theorem xcm_79 : Cond.code ⟨"OathTill", "mile", "(I)I"⟩ prog_1_method_25_code 2 (some .int) ∈ xgw := List.mem_filter.mpr ⟨xin_4 _ (List.mem_of_getElem? (i := 220) rfl), rfl⟩
theorem xcm_80 : Cond.code ⟨"OathTill$Court", "isPlace", "(I)Z"⟩ prog_2_method_6_code 2 (some .boolean) ∈ xgw := List.mem_filter.mpr ⟨xin_4 _ (List.mem_of_getElem? (i := 224) rfl), rfl⟩
theorem xcm_81 : Cond.code ⟨"OathTillModel", "mile", "(I)I"⟩ prog_14_method_78_code 2 (some .int) ∈ xgw := List.mem_filter.mpr ⟨xin_8 _ (List.mem_of_getElem? (i := 165) rfl), rfl⟩
theorem xcm_82 : Cond.code ⟨"OathTillModel", "isPlace", "(I)Z"⟩ prog_14_method_58_code 2 (some .boolean) ∈ xgw := List.mem_filter.mpr ⟨xin_8 _ (List.mem_of_getElem? (i := 169) rfl), rfl⟩
theorem xcm_83 : Cond.code ⟨"OathTill", "person", "(II)I"⟩ prog_1_method_26_code 4 (some .int) ∈ xgw := List.mem_filter.mpr ⟨xin_4 _ (List.mem_of_getElem? (i := 228) rfl), rfl⟩
theorem xcm_84 : Cond.code ⟨"OathTill$Court", "isPerson", "(I)Z"⟩ prog_2_method_7_code 2 (some .boolean) ∈ xgw := List.mem_filter.mpr ⟨xin_4 _ (List.mem_of_getElem? (i := 232) rfl), rfl⟩
theorem xcm_85 : Cond.code ⟨"OathTillModel", "person", "(II)I"⟩ prog_14_method_79_code 6 (some .int) ∈ xgw := List.mem_filter.mpr ⟨xin_8 _ (List.mem_of_getElem? (i := 173) rfl), rfl⟩
theorem xcm_86 : Cond.code ⟨"OathTillModel", "isPerson", "(I)Z"⟩ prog_14_method_59_code 2 (some .boolean) ∈ xgw := List.mem_filter.mpr ⟨xin_8 _ (List.mem_of_getElem? (i := 177) rfl), rfl⟩
theorem xcm_87 : Cond.code ⟨"OathTill", "knows", "(II)I"⟩ prog_1_method_28_code 3 (some .int) ∈ xgw := List.mem_filter.mpr ⟨xin_5 _ (List.mem_of_getElem? (i := 4) rfl), rfl⟩
theorem xcm_88 : Cond.code ⟨"OathTill", "isCouple", "(II)Z"⟩ prog_1_method_27_code 3 (some .boolean) ∈ xgw := List.mem_filter.mpr ⟨xin_5 _ (List.mem_of_getElem? (i := 8) rfl), rfl⟩
theorem xcm_89 : Cond.code ⟨"OathTillModel", "knows", "(II)I"⟩ prog_14_method_80_code 3 (some .int) ∈ xgw := List.mem_filter.mpr ⟨xin_8 _ (List.mem_of_getElem? (i := 196) rfl), rfl⟩
theorem xcm_90 : Cond.code ⟨"OathTillModel", "areTwo", "(II)Z"⟩ prog_14_method_62_code 3 (some .boolean) ∈ xgw := List.mem_filter.mpr ⟨xin_8 _ (List.mem_of_getElem? (i := 200) rfl), rfl⟩
theorem xcm_91 : Cond.code ⟨"OathTill", "kin", "(I)I"⟩ prog_1_method_29_code 2 (some .int) ∈ xgw := List.mem_filter.mpr ⟨xin_5 _ (List.mem_of_getElem? (i := 12) rfl), rfl⟩
theorem xcm_92 : Cond.code ⟨"OathTillModel", "kin", "(I)I"⟩ prog_14_method_81_code 5 (some .int) ∈ xgw := List.mem_filter.mpr ⟨xin_8 _ (List.mem_of_getElem? (i := 212) rfl), rfl⟩
theorem xcm_93 : Cond.code ⟨"OathTill", "known", "(II)I"⟩ prog_1_method_30_code 4 (some .int) ∈ xgw := List.mem_filter.mpr ⟨xin_5 _ (List.mem_of_getElem? (i := 20) rfl), rfl⟩
theorem xcm_94 : Cond.code ⟨"OathTillModel", "known", "(II)I"⟩ prog_14_method_82_code 3 (some .int) ∈ xgw := List.mem_filter.mpr ⟨xin_8 _ (List.mem_of_getElem? (i := 216) rfl), rfl⟩
theorem xcm_95 : Cond.code ⟨"OathTill", "oath", "(II)I"⟩ prog_1_method_31_code 4 (some .int) ∈ xgw := List.mem_filter.mpr ⟨xin_5 _ (List.mem_of_getElem? (i := 27) rfl), rfl⟩
theorem xcm_96 : Cond.code ⟨"OathTill$Court", "isOath", "(I)Z"⟩ prog_2_method_8_code 2 (some .boolean) ∈ xgw := List.mem_filter.mpr ⟨xin_5 _ (List.mem_of_getElem? (i := 31) rfl), rfl⟩
theorem xcm_97 : Cond.code ⟨"OathTillModel", "oath", "(II)I"⟩ prog_14_method_83_code 3 (some .int) ∈ xgw := List.mem_filter.mpr ⟨xin_8 _ (List.mem_of_getElem? (i := 223) rfl), rfl⟩
theorem xcm_98 : Cond.code ⟨"OathTillModel", "isOath", "(I)Z"⟩ prog_14_method_61_code 2 (some .boolean) ∈ xgw := List.mem_filter.mpr ⟨xin_8 _ (List.mem_of_getElem? (i := 227) rfl), rfl⟩
theorem xcm_99 : Cond.code ⟨"OathTill", "why", "(IIII)I"⟩ prog_1_method_33_code 5 (some .int) ∈ xgw := List.mem_filter.mpr ⟨xin_5 _ (List.mem_of_getElem? (i := 39) rfl), rfl⟩
theorem xcm_100 : Cond.code ⟨"OathTill", "isAsked", "(IIII)Z"⟩ prog_1_method_32_code 5 (some .boolean) ∈ xgw := List.mem_filter.mpr ⟨xin_5 _ (List.mem_of_getElem? (i := 43) rfl), rfl⟩
theorem xcm_101 : Cond.code ⟨"OathTillModel", "why", "(IIII)I"⟩ prog_14_method_90_code 5 (some .int) ∈ xgw := List.mem_filter.mpr ⟨xin_8 _ (List.mem_of_getElem? (i := 231) rfl), rfl⟩
theorem xcm_102 : Cond.code ⟨"OathTillModel", "isSworn", "(IIII)Z"⟩ prog_14_method_89_code 5 (some .boolean) ∈ xgw := List.mem_filter.mpr ⟨xin_8 _ (List.mem_of_getElem? (i := 235) rfl), rfl⟩
theorem xcm_103 : Cond.code ⟨"OathTill", "fee", "(IIII)I"⟩ prog_1_method_34_code 5 (some .int) ∈ xgw := List.mem_filter.mpr ⟨xin_5 _ (List.mem_of_getElem? (i := 84) rfl), rfl⟩
theorem xcm_104 : Cond.code ⟨"OathTillModel", "fee", "(IIII)I"⟩ prog_14_method_91_code 5 (some .int) ∈ xgw := List.mem_filter.mpr ⟨xin_9 _ (List.mem_of_getElem? (i := 30) rfl), rfl⟩
theorem xcm_105 : Cond.code ⟨"OathTill", "gainsaid", "(IIII)I"⟩ prog_1_method_35_code 5 (some .int) ∈ xgw := List.mem_filter.mpr ⟨xin_5 _ (List.mem_of_getElem? (i := 89) rfl), rfl⟩
theorem xcm_106 : Cond.code ⟨"OathTillModel", "gainsaid", "(IIII)I"⟩ prog_14_method_92_code 5 (some .int) ∈ xgw := List.mem_filter.mpr ⟨xin_9 _ (List.mem_of_getElem? (i := 34) rfl), rfl⟩
theorem xcm_107 : Cond.code ⟨"OathTill", "backed", "(III)I"⟩ prog_1_method_36_code 4 (some .int) ∈ xgw := List.mem_filter.mpr ⟨xin_5 _ (List.mem_of_getElem? (i := 94) rfl), rfl⟩
theorem xcm_108 : Cond.code ⟨"OathTill$Court", "canBeSaid", "(III)Z"⟩ prog_2_method_10_code 4 (some .boolean) ∈ xgw := List.mem_filter.mpr ⟨xin_5 _ (List.mem_of_getElem? (i := 47) rfl), rfl⟩
theorem xcm_109 : Cond.code ⟨"OathTillModel", "backed", "(III)I"⟩ prog_14_method_93_code 4 (some .int) ∈ xgw := List.mem_filter.mpr ⟨xin_9 _ (List.mem_of_getElem? (i := 38) rfl), rfl⟩
theorem xcm_110 : Cond.code ⟨"OathTillModel", "isSpot", "(III)Z"⟩ prog_14_method_63_code 4 (some .boolean) ∈ xgw := List.mem_filter.mpr ⟨xin_8 _ (List.mem_of_getElem? (i := 239) rfl), rfl⟩
theorem xcm_111 : Cond.code ⟨"OathTill", "voids", "(IIII)I"⟩ prog_1_method_37_code 5 (some .int) ∈ xgw := List.mem_filter.mpr ⟨xin_5 _ (List.mem_of_getElem? (i := 106) rfl), rfl⟩
theorem xcm_112 : Cond.code ⟨"OathTillModel", "voids", "(IIII)I"⟩ prog_14_method_101_code 6 (some .int) ∈ xgw := List.mem_filter.mpr ⟨xin_9 _ (List.mem_of_getElem? (i := 42) rfl), rfl⟩
theorem xcm_113 : Cond.code ⟨"OathTill", "swear", "(IIII)I"⟩ prog_1_method_38_code 5 (some .int) ∈ xgw := List.mem_filter.mpr ⟨xin_5 _ (List.mem_of_getElem? (i := 127) rfl), rfl⟩
theorem xcm_114 : Cond.code ⟨"OathTillModel", "swear", "(IIII)I"⟩ prog_14_method_102_code 5 (some .int) ∈ xgw := List.mem_filter.mpr ⟨xin_9 _ (List.mem_of_getElem? (i := 75) rfl), rfl⟩
theorem xcm_115 : Cond.code ⟨"OathTill", "find", "(III)I"⟩ prog_1_method_39_code 4 (some .int) ∈ xgw := List.mem_filter.mpr ⟨xin_5 _ (List.mem_of_getElem? (i := 136) rfl), rfl⟩
theorem xcm_116 : Cond.code ⟨"OathTillModel", "find", "(III)I"⟩ prog_14_method_104_code 4 (some .int) ∈ xgw := List.mem_filter.mpr ⟨xin_9 _ (List.mem_of_getElem? (i := 79) rfl), rfl⟩
theorem xcm_117 : Cond.code ⟨"OathTill", "recant", "(I)I"⟩ prog_1_method_40_code 2 (some .int) ∈ xgw := List.mem_filter.mpr ⟨xin_5 _ (List.mem_of_getElem? (i := 148) rfl), rfl⟩
theorem xcm_118 : Cond.code ⟨"OathTillModel", "recant", "(I)I"⟩ prog_14_method_106_code 2 (some .int) ∈ xgw := List.mem_filter.mpr ⟨xin_9 _ (List.mem_of_getElem? (i := 87) rfl), rfl⟩
theorem xcm_119 : Cond.code ⟨"OathTill", "earn", "(II)I"⟩ prog_1_method_41_code 4 (some .int) ∈ xgw := List.mem_filter.mpr ⟨xin_5 _ (List.mem_of_getElem? (i := 152) rfl), rfl⟩
theorem xcm_120 : Cond.code ⟨"OathTillModel", "earn", "(II)I"⟩ prog_14_method_107_code 3 (some .int) ∈ xgw := List.mem_filter.mpr ⟨xin_9 _ (List.mem_of_getElem? (i := 95) rfl), rfl⟩
theorem xcm_121 : Cond.code ⟨"OathTill", "meet", "(II)Z"⟩ prog_1_method_42_code 3 (some .boolean) ∈ xgw := List.mem_filter.mpr ⟨xin_5 _ (List.mem_of_getElem? (i := 156) rfl), rfl⟩
theorem xcm_122 : Cond.code ⟨"OathTillModel", "meet", "(II)Z"⟩ prog_14_method_108_code 3 (some .boolean) ∈ xgw := List.mem_filter.mpr ⟨xin_9 _ (List.mem_of_getElem? (i := 103) rfl), rfl⟩
theorem xcm_123 : Cond.code ⟨"OathTill", "ride", "(I)Z"⟩ prog_1_method_43_code 2 (some .boolean) ∈ xgw := List.mem_filter.mpr ⟨xin_5 _ (List.mem_of_getElem? (i := 165) rfl), rfl⟩
theorem xcm_124 : Cond.code ⟨"OathTillModel", "ride", "(I)Z"⟩ prog_14_method_109_code 2 (some .boolean) ∈ xgw := List.mem_filter.mpr ⟨xin_9 _ (List.mem_of_getElem? (i := 107) rfl), rfl⟩
theorem xcm_125 : Cond.code ⟨"OathTillModel", "isFrom", "(JJJ)Z"⟩ prog_14_method_18_code 6 (some .boolean) ∈ xgw := List.mem_filter.mpr ⟨xin_9 _ (List.mem_of_getElem? (i := 99) rfl), rfl⟩
theorem xcm_126 : Cond.code ⟨"OathTill", "fits", "(II)I"⟩ prog_1_method_44_code 6 (some .int) ∈ xgw := List.mem_filter.mpr ⟨xin_5 _ (List.mem_of_getElem? (i := 169) rfl), rfl⟩
theorem xcm_127 : Cond.code ⟨"OathTillModel", "fits", "(II)I"⟩ prog_14_method_110_code 3 (some .int) ∈ xgw := List.mem_filter.mpr ⟨xin_9 _ (List.mem_of_getElem? (i := 112) rfl), rfl⟩
theorem xcm_128 : Cond.code ⟨"OathTill", "road", "(II)I"⟩ prog_1_method_45_code 4 (some .int) ∈ xgw := List.mem_filter.mpr ⟨xin_5 _ (List.mem_of_getElem? (i := 177) rfl), rfl⟩
theorem xcm_129 : Cond.code ⟨"OathTillModel", "road", "(II)I"⟩ prog_14_method_111_code 4 (some .int) ∈ xgw := List.mem_filter.mpr ⟨xin_9 _ (List.mem_of_getElem? (i := 116) rfl), rfl⟩
theorem xcm_130 : Cond.code ⟨"OathTill", "canBe", "(II)I"⟩ prog_1_method_47_code 3 (some .int) ∈ xgw := List.mem_filter.mpr ⟨xin_5 _ (List.mem_of_getElem? (i := 188) rfl), rfl⟩
theorem xcm_131 : Cond.code ⟨"OathTill", "isPersonsHour", "(II)Z"⟩ prog_1_method_46_code 3 (some .boolean) ∈ xgw := List.mem_filter.mpr ⟨xin_5 _ (List.mem_of_getElem? (i := 192) rfl), rfl⟩
theorem xcm_132 : Cond.code ⟨"OathTillModel", "canBe", "(II)I"⟩ prog_14_method_113_code 5 (some .int) ∈ xgw := List.mem_filter.mpr ⟨xin_9 _ (List.mem_of_getElem? (i := 120) rfl), rfl⟩
theorem xcm_133 : Cond.code ⟨"OathTill", "ways", "(IZ)I"⟩ prog_1_method_48_code 3 (some .int) ∈ xgw := List.mem_filter.mpr ⟨xin_5 _ (List.mem_of_getElem? (i := 210) rfl), rfl⟩
theorem xcm_134 : Cond.code ⟨"OathTillModel", "ways", "(IZ)I"⟩ prog_14_method_116_code 3 (some .int) ∈ xgw := List.mem_filter.mpr ⟨xin_9 _ (List.mem_of_getElem? (i := 128) rfl), rfl⟩
theorem xcm_135 : Cond.code ⟨"OathTill", "reach", "(IIZ)I"⟩ prog_1_method_49_code 4 (some .int) ∈ xgw := List.mem_filter.mpr ⟨xin_5 _ (List.mem_of_getElem? (i := 227) rfl), rfl⟩
theorem xcm_136 : Cond.code ⟨"OathTillModel", "reach", "(IIZ)I"⟩ prog_14_method_117_code 6 (some .int) ∈ xgw := List.mem_filter.mpr ⟨xin_9 _ (List.mem_of_getElem? (i := 140) rfl), rfl⟩
theorem xcm_137 : Cond.code ⟨"OathTill", "mostTrue", "(I)I"⟩ prog_1_method_50_code 2 (some .int) ∈ xgw := List.mem_filter.mpr ⟨xin_5 _ (List.mem_of_getElem? (i := 239) rfl), rfl⟩
theorem xcm_138 : Cond.code ⟨"OathTillModel", "mostTrue", "(I)I"⟩ prog_14_method_119_code 2 (some .int) ∈ xgw := List.mem_filter.mpr ⟨xin_9 _ (List.mem_of_getElem? (i := 144) rfl), rfl⟩
theorem xcm_139 : Cond.code ⟨"OathTill", "mostTrueSet", "(I)I"⟩ prog_1_method_51_code 2 (some .int) ∈ xgw := List.mem_filter.mpr ⟨xin_6 _ (List.mem_of_getElem? (i := 21) rfl), rfl⟩
theorem xcm_140 : Cond.code ⟨"OathTillModel", "mostTrueSet", "(I)I"⟩ prog_14_method_120_code 2 (some .int) ∈ xgw := List.mem_filter.mpr ⟨xin_9 _ (List.mem_of_getElem? (i := 152) rfl), rfl⟩
theorem xcm_141 : Cond.code ⟨"OathTill", "clashes", "(I)I"⟩ prog_1_method_52_code 2 (some .int) ∈ xgw := List.mem_filter.mpr ⟨xin_6 _ (List.mem_of_getElem? (i := 25) rfl), rfl⟩
theorem xcm_142 : Cond.code ⟨"OathTillModel", "clashes", "(I)I"⟩ prog_14_method_121_code 5 (some .int) ∈ xgw := List.mem_filter.mpr ⟨xin_9 _ (List.mem_of_getElem? (i := 156) rfl), rfl⟩
theorem xcm_143 : Cond.code ⟨"OathTill", "doubt", "(I)I"⟩ prog_1_method_53_code 2 (some .int) ∈ xgw := List.mem_filter.mpr ⟨xin_6 _ (List.mem_of_getElem? (i := 34) rfl), rfl⟩
theorem xcm_144 : Cond.code ⟨"OathTillModel", "doubt", "(I)I"⟩ prog_14_method_122_code 2 (some .int) ∈ xgw := List.mem_filter.mpr ⟨xin_9 _ (List.mem_of_getElem? (i := 160) rfl), rfl⟩
theorem xcm_145 : Cond.code ⟨"OathTill", "believed", "(II)I"⟩ prog_1_method_54_code 4 (some .int) ∈ xgw := List.mem_filter.mpr ⟨xin_6 _ (List.mem_of_getElem? (i := 47) rfl), rfl⟩
theorem xcm_146 : Cond.code ⟨"OathTillModel", "believed", "(II)I"⟩ prog_14_method_123_code 7 (some .int) ∈ xgw := List.mem_filter.mpr ⟨xin_9 _ (List.mem_of_getElem? (i := 164) rfl), rfl⟩
theorem xcm_147 : Cond.code ⟨"OathTill", "alibi", "(IIII)I"⟩ prog_1_method_55_code 6 (some .int) ∈ xgw := List.mem_filter.mpr ⟨xin_6 _ (List.mem_of_getElem? (i := 56) rfl), rfl⟩
theorem xcm_148 : Cond.code ⟨"OathTillModel", "alibi", "(IIII)I"⟩ prog_14_method_125_code 9 (some .int) ∈ xgw := List.mem_filter.mpr ⟨xin_9 _ (List.mem_of_getElem? (i := 168) rfl), rfl⟩
theorem xcm_149 : Cond.code ⟨"OathTill", "alibiBy", "(I)I"⟩ prog_1_method_56_code 2 (some .int) ∈ xgw := List.mem_filter.mpr ⟨xin_6 _ (List.mem_of_getElem? (i := 82) rfl), rfl⟩
theorem xcm_150 : Cond.code ⟨"OathTillModel", "alibiBy", "(I)I"⟩ prog_14_method_126_code 2 (some .int) ∈ xgw := List.mem_filter.mpr ⟨xin_9 _ (List.mem_of_getElem? (i := 177) rfl), rfl⟩
theorem xcm_151 : Cond.code ⟨"OathTill", "call", "(II)I"⟩ prog_1_method_57_code 4 (some .int) ∈ xgw := List.mem_filter.mpr ⟨xin_6 _ (List.mem_of_getElem? (i := 86) rfl), rfl⟩
theorem xcm_152 : Cond.code ⟨"OathTillModel", "call", "(II)I"⟩ prog_14_method_127_code 10 (some .int) ∈ xgw := List.mem_filter.mpr ⟨xin_9 _ (List.mem_of_getElem? (i := 181) rfl), rfl⟩
theorem xcm_153 : Cond.code ⟨"OathTill", "callBy", "(I)I"⟩ prog_1_method_58_code 2 (some .int) ∈ xgw := List.mem_filter.mpr ⟨xin_6 _ (List.mem_of_getElem? (i := 99) rfl), rfl⟩
theorem xcm_154 : Cond.code ⟨"OathTillModel", "callBy", "(I)I"⟩ prog_14_method_128_code 2 (some .int) ∈ xgw := List.mem_filter.mpr ⟨xin_9 _ (List.mem_of_getElem? (i := 186) rfl), rfl⟩
theorem xcm_155 : Cond.code ⟨"OathTill", "sayable", "(II)I"⟩ prog_1_method_59_code 3 (some .int) ∈ xgw := List.mem_filter.mpr ⟨xin_6 _ (List.mem_of_getElem? (i := 103) rfl), rfl⟩
theorem xcm_156 : Cond.code ⟨"OathTillModel", "sayable", "(II)I"⟩ prog_14_method_130_code 3 (some .int) ∈ xgw := List.mem_filter.mpr ⟨xin_9 _ (List.mem_of_getElem? (i := 190) rfl), rfl⟩
theorem xcm_157 : Cond.code ⟨"OathTill", "dearest", "(II)I"⟩ prog_1_method_60_code 4 (some .int) ∈ xgw := List.mem_filter.mpr ⟨xin_6 _ (List.mem_of_getElem? (i := 112) rfl), rfl⟩
theorem xcm_158 : Cond.code ⟨"OathTillModel", "dearest", "(II)I"⟩ prog_14_method_131_code 6 (some .int) ∈ xgw := List.mem_filter.mpr ⟨xin_9 _ (List.mem_of_getElem? (i := 198) rfl), rfl⟩
theorem xcm_159 : Cond.code ⟨"OathTill", "liar", "()I"⟩ prog_1_method_61_code 5 (some .int) ∈ xgw := List.mem_filter.mpr ⟨xin_6 _ (List.mem_of_getElem? (i := 123) rfl), rfl⟩
theorem xcm_160 : Cond.code ⟨"OathTillModel", "liar", "()I"⟩ prog_14_method_133_code 3 (some .int) ∈ xgw := List.mem_filter.mpr ⟨xin_9 _ (List.mem_of_getElem? (i := 203) rfl), rfl⟩
theorem xcm_161 : Cond.code ⟨"OathTillModel", "orNone", "(I)I"⟩ prog_14_method_9_code 2 (some .int) ∈ xgw := List.mem_filter.mpr ⟨xin_8 _ (List.mem_of_getElem? (i := 184) rfl), rfl⟩
theorem xcm_162 : Cond.code ⟨"OathTill", "doubted", "()I"⟩ prog_1_method_62_code 5 (some .int) ∈ xgw := List.mem_filter.mpr ⟨xin_6 _ (List.mem_of_getElem? (i := 131) rfl), rfl⟩
theorem xcm_163 : Cond.code ⟨"OathTillModel", "doubted", "()I"⟩ prog_14_method_134_code 3 (some .int) ∈ xgw := List.mem_filter.mpr ⟨xin_9 _ (List.mem_of_getElem? (i := 211) rfl), rfl⟩
theorem xcm_164 : Cond.code ⟨"OathTill", "kept", "()Z"⟩ prog_1_method_63_code 2 (some .boolean) ∈ xgw := List.mem_filter.mpr ⟨xin_6 _ (List.mem_of_getElem? (i := 135) rfl), rfl⟩
theorem xcm_165 : Cond.code ⟨"OathTill$Court", "paid", "()I"⟩ prog_2_method_25_code 3 (some .int) ∈ xgw := List.mem_filter.mpr ⟨xin_6 _ (List.mem_of_getElem? (i := 139) rfl), rfl⟩
theorem xcm_166 : Cond.code ⟨"OathTillModel", "kept", "()Z"⟩ prog_14_method_135_code 3 (some .boolean) ∈ xgw := List.mem_filter.mpr ⟨xin_9 _ (List.mem_of_getElem? (i := 215) rfl), rfl⟩
theorem xcm_167 : Cond.code ⟨"OathTill", "word", "(II)I"⟩ prog_1_method_64_code 3 (some .int) ∈ xgw := List.mem_filter.mpr ⟨xin_6 _ (List.mem_of_getElem? (i := 150) rfl), rfl⟩
theorem xcm_168 : Cond.code ⟨"OathTillModel", "word", "(II)I"⟩ prog_14_method_136_code 3 (some .int) ∈ xgw := List.mem_filter.mpr ⟨xin_9 _ (List.mem_of_getElem? (i := 223) rfl), rfl⟩
theorem xcm_169 : Cond.code ⟨"OathTill", "liars", "(I)I"⟩ prog_1_method_65_code 2 (some .int) ∈ xgw := List.mem_filter.mpr ⟨xin_6 _ (List.mem_of_getElem? (i := 158) rfl), rfl⟩
theorem xcm_170 : Cond.code ⟨"OathTillModel", "liars", "(I)I"⟩ prog_14_method_137_code 4 (some .int) ∈ xgw := List.mem_filter.mpr ⟨xin_9 _ (List.mem_of_getElem? (i := 227) rfl), rfl⟩
theorem xcm_171 : Cond.code ⟨"OathTill", "auction", "(II)I"⟩ prog_1_method_67_code 5 (some .int) ∈ xgw := List.mem_filter.mpr ⟨xin_6 _ (List.mem_of_getElem? (i := 166) rfl), rfl⟩
theorem xcm_172 : Cond.code ⟨"OathTill", "bidTrouble", "(II)I"⟩ prog_1_method_66_code 3 (some .int) ∈ xgw := List.mem_filter.mpr ⟨xin_6 _ (List.mem_of_getElem? (i := 170) rfl), rfl⟩
theorem xcm_173 : Cond.code ⟨"OathTillModel", "auction", "(II)I"⟩ prog_14_method_141_code 5 (some .int) ∈ xgw := List.mem_filter.mpr ⟨xin_9 _ (List.mem_of_getElem? (i := 231) rfl), rfl⟩
theorem xcm_174 : Cond.code ⟨"OathTillModel", "wrongBids", "(II)I"⟩ prog_14_method_138_code 4 (some .int) ∈ xgw := List.mem_filter.mpr ⟨xin_9 _ (List.mem_of_getElem? (i := 235) rfl), rfl⟩
theorem xcm_175 : Cond.code ⟨"OathTill", "hammer", "(II)I"⟩ prog_1_method_68_code 4 (some .int) ∈ xgw := List.mem_filter.mpr ⟨xin_6 _ (List.mem_of_getElem? (i := 187) rfl), rfl⟩
theorem xcm_176 : Cond.code ⟨"OathTillModel", "hammer", "(II)I"⟩ prog_14_method_142_code 4 (some .int) ∈ xgw := List.mem_filter.mpr ⟨xin_10 _ (List.mem_of_getElem? (i := 8) rfl), rfl⟩
theorem xcm_177 : Cond.code ⟨"OathTill", "live", "(I)I"⟩ prog_1_method_69_code 2 (some .int) ∈ xgw := List.mem_filter.mpr ⟨xin_6 _ (List.mem_of_getElem? (i := 195) rfl), rfl⟩
theorem xcm_178 : Cond.code ⟨"OathTillModel", "live", "(I)I"⟩ prog_14_method_151_code 3 (some .int) ∈ xgw := List.mem_filter.mpr ⟨xin_10 _ (List.mem_of_getElem? (i := 12) rfl), rfl⟩
theorem xcm_179 : Cond.code ⟨"OathTill", "lived", "(I)I"⟩ prog_1_method_70_code 2 (some .int) ∈ xgw := List.mem_filter.mpr ⟨xin_7 _ (List.mem_of_getElem? (i := 16) rfl), rfl⟩
theorem xcm_180 : Cond.code ⟨"OathTillModel", "lived", "(I)I"⟩ prog_14_method_152_code 2 (some .int) ∈ xgw := List.mem_filter.mpr ⟨xin_10 _ (List.mem_of_getElem? (i := 50) rfl), rfl⟩
theorem xcm_181 : Cond.code ⟨"OathTill", "mean", "(II)Z"⟩ prog_1_method_71_code 6 (some .boolean) ∈ xgw := List.mem_filter.mpr ⟨xin_7 _ (List.mem_of_getElem? (i := 24) rfl), rfl⟩
theorem xcm_182 : Cond.code ⟨"OathTillModel", "mean", "(II)Z"⟩ prog_14_method_153_code 7 (some .boolean) ∈ xgw := List.mem_filter.mpr ⟨xin_10 _ (List.mem_of_getElem? (i := 54) rfl), rfl⟩
theorem xcm_183 : Cond.code ⟨"OathTill", "mark", "()I"⟩ prog_1_method_72_code 1 (some .int) ∈ xgw := List.mem_filter.mpr ⟨xin_7 _ (List.mem_of_getElem? (i := 29) rfl), rfl⟩
theorem xcm_184 : Cond.code ⟨"OathTillModel", "mark", "()I"⟩ prog_14_method_155_code 1 (some .int) ∈ xgw := List.mem_filter.mpr ⟨xin_10 _ (List.mem_of_getElem? (i := 59) rfl), rfl⟩
theorem xcm_185 : Cond.code ⟨"OathTillModel", "moves", "(II)V"⟩ prog_14_method_154_code 4 (none) ∈ xgw := List.mem_filter.mpr ⟨xin_10 _ (List.mem_of_getElem? (i := 63) rfl), rfl⟩
theorem xcm_186 : Cond.code ⟨"OathTill", "undo", "()I"⟩ prog_1_method_73_code 1 (some .int) ∈ xgw := List.mem_filter.mpr ⟨xin_7 _ (List.mem_of_getElem? (i := 33) rfl), rfl⟩
theorem xcm_187 : Cond.code ⟨"OathTillModel", "undo", "()I"⟩ prog_14_method_156_code 1 (some .int) ∈ xgw := List.mem_filter.mpr ⟨xin_10 _ (List.mem_of_getElem? (i := 67) rfl), rfl⟩
/-- all leaves, as a statement -/
def xallP {α : Type} (t : Lean.RArray (Nat × α)) (P : Nat → α → Prop) : Prop := Lean.RArray.rec (motive := fun _ => Prop) (fun q => P q.1 q.2) (fun _ _ _ a b => a ∧ b) t
theorem xallP_get {α : Type} (t : Lean.RArray (Nat × α)) (P : Nat → α → Prop) (h : xallP t P) (k : Nat) (v : α) (hg : xg t k = some v) : P k v := by
  induction t with
  | leaf q =>
    rw [xg_leaf] at hg
    cases hb : Nat.beq q.1 k with
    | false => rw [hb] at hg; cases hg
    | true =>
      rw [hb] at hg
      have e : q.1 = k := Nat.eq_of_beq_eq_true hb
      have e2 : q.2 = v := Option.some.inj hg
      rw [← e, ← e2]
      exact h
  | branch p a b iha ihb =>
    obtain ⟨h1, h2⟩ : xallP a P ∧ xallP b P := h
    rw [xg_branch] at hg
    cases hb : Nat.ble p k with
    | true => rw [hb] at hg; exact ihb h2 hg
    | false => rw [hb] at hg; exact iha h1 hg
set_option maxRecDepth 100000 in
theorem xW_ok : xallP xXM (fun z _ => z = 0 ∨ Cond.code (xnm z) (xby z) (xu xmeth z).2.2.2.2.2 (xrtt z) ∈ xgw) := ⟨⟨⟨⟨⟨⟨⟨Or.inl rfl, Or.inr xcm_1⟩, ⟨Or.inr xcm_2, ⟨Or.inr xcm_3, Or.inr xcm_4⟩⟩⟩, ⟨⟨Or.inr xcm_5, ⟨Or.inr xcm_6, Or.inr xcm_7⟩⟩, ⟨Or.inr xcm_8, ⟨Or.inr xcm_9, Or.inr xcm_10⟩⟩⟩⟩, ⟨⟨⟨Or.inr xcm_11, ⟨Or.inr xcm_12, Or.inr xcm_13⟩⟩, ⟨Or.inr xcm_14, ⟨Or.inr xcm_15, Or.inr xcm_16⟩⟩⟩, ⟨⟨Or.inr xcm_17, ⟨Or.inr xcm_18, Or.inr xcm_19⟩⟩, ⟨Or.inr xcm_20, ⟨Or.inr xcm_21, Or.inr xcm_22⟩⟩⟩⟩⟩, ⟨⟨⟨⟨Or.inr xcm_23, ⟨Or.inr xcm_24, Or.inr xcm_25⟩⟩, ⟨Or.inr xcm_26, ⟨Or.inr xcm_27, Or.inr xcm_28⟩⟩⟩, ⟨⟨Or.inr xcm_29, ⟨Or.inr xcm_30, Or.inr xcm_31⟩⟩, ⟨Or.inr xcm_32, ⟨Or.inr xcm_33, Or.inr xcm_34⟩⟩⟩⟩, ⟨⟨⟨Or.inr xcm_35, ⟨Or.inr xcm_36, Or.inr xcm_37⟩⟩, ⟨Or.inr xcm_38, ⟨Or.inr xcm_39, Or.inr xcm_40⟩⟩⟩, ⟨⟨Or.inr xcm_41, ⟨Or.inr xcm_42, Or.inr xcm_43⟩⟩, ⟨Or.inr xcm_44, ⟨Or.inr xcm_45, Or.inr xcm_46⟩⟩⟩⟩⟩⟩, ⟨⟨⟨⟨⟨Or.inr xcm_47, Or.inr xcm_48⟩, ⟨Or.inr xcm_49, ⟨Or.inr xcm_50, Or.inr xcm_51⟩⟩⟩, ⟨⟨Or.inr xcm_52, ⟨Or.inr xcm_53, Or.inr xcm_54⟩⟩, ⟨Or.inr xcm_55, ⟨Or.inr xcm_56, Or.inr xcm_57⟩⟩⟩⟩, ⟨⟨⟨Or.inr xcm_58, ⟨Or.inr xcm_59, Or.inr xcm_60⟩⟩, ⟨Or.inr xcm_61, ⟨Or.inr xcm_62, Or.inr xcm_63⟩⟩⟩, ⟨⟨Or.inr xcm_64, ⟨Or.inr xcm_65, Or.inr xcm_66⟩⟩, ⟨Or.inr xcm_67, ⟨Or.inr xcm_68, Or.inr xcm_69⟩⟩⟩⟩⟩, ⟨⟨⟨⟨Or.inr xcm_70, ⟨Or.inr xcm_71, Or.inr xcm_72⟩⟩, ⟨Or.inr xcm_73, ⟨Or.inr xcm_74, Or.inr xcm_75⟩⟩⟩, ⟨⟨Or.inr xcm_76, ⟨Or.inr xcm_77, Or.inr xcm_78⟩⟩, ⟨Or.inr xcm_79, ⟨Or.inr xcm_80, Or.inr xcm_81⟩⟩⟩⟩, ⟨⟨⟨Or.inr xcm_82, ⟨Or.inr xcm_83, Or.inr xcm_84⟩⟩, ⟨Or.inr xcm_85, ⟨Or.inr xcm_86, Or.inr xcm_87⟩⟩⟩, ⟨⟨Or.inr xcm_88, ⟨Or.inr xcm_89, Or.inr xcm_90⟩⟩, ⟨Or.inr xcm_91, ⟨Or.inr xcm_92, Or.inr xcm_93⟩⟩⟩⟩⟩⟩⟩, ⟨⟨⟨⟨⟨⟨Or.inr xcm_94, Or.inr xcm_95⟩, ⟨Or.inr xcm_96, ⟨Or.inr xcm_97, Or.inr xcm_98⟩⟩⟩, ⟨⟨Or.inr xcm_99, ⟨Or.inr xcm_100, Or.inr xcm_101⟩⟩, ⟨Or.inr xcm_102, ⟨Or.inr xcm_103, Or.inr xcm_104⟩⟩⟩⟩, ⟨⟨⟨Or.inr xcm_105, ⟨Or.inr xcm_106, Or.inr xcm_107⟩⟩, ⟨Or.inr xcm_108, ⟨Or.inr xcm_109, Or.inr xcm_110⟩⟩⟩, ⟨⟨Or.inr xcm_111, ⟨Or.inr xcm_112, Or.inr xcm_113⟩⟩, ⟨Or.inr xcm_114, ⟨Or.inr xcm_115, Or.inr xcm_116⟩⟩⟩⟩⟩, ⟨⟨⟨⟨Or.inr xcm_117, ⟨Or.inr xcm_118, Or.inr xcm_119⟩⟩, ⟨Or.inr xcm_120, ⟨Or.inr xcm_121, Or.inr xcm_122⟩⟩⟩, ⟨⟨Or.inr xcm_123, ⟨Or.inr xcm_124, Or.inr xcm_125⟩⟩, ⟨Or.inr xcm_126, ⟨Or.inr xcm_127, Or.inr xcm_128⟩⟩⟩⟩, ⟨⟨⟨Or.inr xcm_129, ⟨Or.inr xcm_130, Or.inr xcm_131⟩⟩, ⟨Or.inr xcm_132, ⟨Or.inr xcm_133, Or.inr xcm_134⟩⟩⟩, ⟨⟨Or.inr xcm_135, ⟨Or.inr xcm_136, Or.inr xcm_137⟩⟩, ⟨Or.inr xcm_138, ⟨Or.inr xcm_139, Or.inr xcm_140⟩⟩⟩⟩⟩⟩, ⟨⟨⟨⟨⟨Or.inr xcm_141, Or.inr xcm_142⟩, ⟨Or.inr xcm_143, ⟨Or.inr xcm_144, Or.inr xcm_145⟩⟩⟩, ⟨⟨Or.inr xcm_146, ⟨Or.inr xcm_147, Or.inr xcm_148⟩⟩, ⟨Or.inr xcm_149, ⟨Or.inr xcm_150, Or.inr xcm_151⟩⟩⟩⟩, ⟨⟨⟨Or.inr xcm_152, ⟨Or.inr xcm_153, Or.inr xcm_154⟩⟩, ⟨Or.inr xcm_155, ⟨Or.inr xcm_156, Or.inr xcm_157⟩⟩⟩, ⟨⟨Or.inr xcm_158, ⟨Or.inr xcm_159, Or.inr xcm_160⟩⟩, ⟨Or.inr xcm_161, ⟨Or.inr xcm_162, Or.inr xcm_163⟩⟩⟩⟩⟩, ⟨⟨⟨⟨Or.inr xcm_164, ⟨Or.inr xcm_165, Or.inr xcm_166⟩⟩, ⟨Or.inr xcm_167, ⟨Or.inr xcm_168, Or.inr xcm_169⟩⟩⟩, ⟨⟨Or.inr xcm_170, ⟨Or.inr xcm_171, Or.inr xcm_172⟩⟩, ⟨Or.inr xcm_173, ⟨Or.inr xcm_174, Or.inr xcm_175⟩⟩⟩⟩, ⟨⟨⟨Or.inr xcm_176, ⟨Or.inr xcm_177, Or.inr xcm_178⟩⟩, ⟨Or.inr xcm_179, ⟨Or.inr xcm_180, Or.inr xcm_181⟩⟩⟩, ⟨⟨Or.inr xcm_182, ⟨Or.inr xcm_183, Or.inr xcm_184⟩⟩, ⟨Or.inr xcm_185, ⟨Or.inr xcm_186, Or.inr xcm_187⟩⟩⟩⟩⟩⟩⟩⟩
theorem xcl_0 : (List.range 12).all (fun k => xmem ((xXK2.getD 0 (0, 0, [])).2.2.getD k 0) (u_lay RX0 TX0 k)) = true ∧ xmem (xXK2.getD 0 (0, 0, [])).1 (.instantiable RX0 12) = true ∧ xmem (xXK2.getD 0 (0, 0, [])).2.1 (.initialized RX0) = true ∧ (List.range 12).all (fun j => match xg xo_0 j with
  | none => false
  | some w => xdv (tyX0 j) w) = true := by decide +kernel
theorem xcl_1 : (List.range 8).all (fun k => xmem ((xXK2.getD 1 (0, 0, [])).2.2.getD k 0) (u_lay RX1 TX1 k)) = true ∧ xmem (xXK2.getD 1 (0, 0, [])).1 (.instantiable RX1 8) = true ∧ xmem (xXK2.getD 1 (0, 0, [])).2.1 (.initialized RX1) = true ∧ (List.range 8).all (fun j => match xg xo_1 j with
  | none => false
  | some w => xdv (tyX1 j) w) = true := by decide +kernel
theorem xcl_2 : (List.range 7).all (fun k => xmem ((xXK2.getD 2 (0, 0, [])).2.2.getD k 0) (u_lay RX2 TX2 k)) = true ∧ xmem (xXK2.getD 2 (0, 0, [])).1 (.instantiable RX2 7) = true ∧ xmem (xXK2.getD 2 (0, 0, [])).2.1 (.initialized RX2) = true ∧ (List.range 7).all (fun j => match xg xo_2 j with
  | none => false
  | some w => xdv (tyX2 j) w) = true := by decide +kernel
theorem xcl_3 : (List.range 11).all (fun k => xmem ((xXK2.getD 3 (0, 0, [])).2.2.getD k 0) (u_lay RX3 TX3 k)) = true ∧ xmem (xXK2.getD 3 (0, 0, [])).1 (.instantiable RX3 11) = true ∧ xmem (xXK2.getD 3 (0, 0, [])).2.1 (.initialized RX3) = true ∧ (List.range 11).all (fun j => match xg xo_3 j with
  | none => false
  | some w => xdv (tyX3 j) w) = true := by decide +kernel
theorem xcl_4 : (List.range 7).all (fun k => xmem ((xXK2.getD 4 (0, 0, [])).2.2.getD k 0) (u_lay RX4 TX4 k)) = true ∧ xmem (xXK2.getD 4 (0, 0, [])).1 (.instantiable RX4 7) = true ∧ xmem (xXK2.getD 4 (0, 0, [])).2.1 (.initialized RX4) = true ∧ (List.range 7).all (fun j => match xg xo_4 j with
  | none => false
  | some w => xdv (tyX4 j) w) = true := by decide +kernel
theorem xcl_5 : (List.range 12).all (fun k => xmem ((xXK2.getD 5 (0, 0, [])).2.2.getD k 0) (u_lay RX5 TX5 k)) = true ∧ xmem (xXK2.getD 5 (0, 0, [])).1 (.instantiable RX5 12) = true ∧ xmem (xXK2.getD 5 (0, 0, [])).2.1 (.initialized RX5) = true ∧ (List.range 12).all (fun j => match xg xo_5 j with
  | none => false
  | some w => xdv (tyX5 j) w) = true := by decide +kernel
theorem xcl_6 : (List.range 9).all (fun k => xmem ((xXK2.getD 6 (0, 0, [])).2.2.getD k 0) (u_lay RX6 TX6 k)) = true ∧ xmem (xXK2.getD 6 (0, 0, [])).1 (.instantiable RX6 9) = true ∧ xmem (xXK2.getD 6 (0, 0, [])).2.1 (.initialized RX6) = true ∧ (List.range 9).all (fun j => match xg xo_6 j with
  | none => false
  | some w => xdv (tyX6 j) w) = true := by decide +kernel
theorem xcl_7 : (List.range 12).all (fun k => xmem ((xXK2.getD 7 (0, 0, [])).2.2.getD k 0) (u_lay RX7 TX7 k)) = true ∧ xmem (xXK2.getD 7 (0, 0, [])).1 (.instantiable RX7 12) = true ∧ xmem (xXK2.getD 7 (0, 0, [])).2.1 (.initialized RX7) = true ∧ (List.range 12).all (fun j => match xg xo_7 j with
  | none => false
  | some w => xdv (tyX7 j) w) = true := by decide +kernel
theorem xcl_8 : (List.range 4).all (fun k => xmem ((xXK2.getD 8 (0, 0, [])).2.2.getD k 0) (u_lay RX8 TX8 k)) = true ∧ xmem (xXK2.getD 8 (0, 0, [])).1 (.instantiable RX8 4) = true ∧ xmem (xXK2.getD 8 (0, 0, [])).2.1 (.initialized RX8) = true ∧ (List.range 4).all (fun j => match xg xo_8 j with
  | none => false
  | some w => xdv (tyX8 j) w) = true := by decide +kernel
theorem xcl_9 : (List.range 11).all (fun k => xmem ((xXK2.getD 9 (0, 0, [])).2.2.getD k 0) (u_lay RX9 TX9 k)) = true ∧ xmem (xXK2.getD 9 (0, 0, [])).1 (.instantiable RX9 11) = true ∧ xmem (xXK2.getD 9 (0, 0, [])).2.1 (.initialized RX9) = true ∧ (List.range 11).all (fun j => match xg xo_9 j with
  | none => false
  | some w => xdv (tyX9 j) w) = true := by decide +kernel
theorem xcl_10 : (List.range 5).all (fun k => xmem ((xXK2.getD 10 (0, 0, [])).2.2.getD k 0) (u_lay RX10 TX10 k)) = true ∧ xmem (xXK2.getD 10 (0, 0, [])).1 (.instantiable RX10 5) = true ∧ xmem (xXK2.getD 10 (0, 0, [])).2.1 (.initialized RX10) = true ∧ (List.range 5).all (fun j => match xg xo_10 j with
  | none => false
  | some w => xdv (tyX10 j) w) = true := by decide +kernel
theorem xcl_11 : (List.range 18).all (fun k => xmem ((xXK2.getD 11 (0, 0, [])).2.2.getD k 0) (u_lay RX11 TX11 k)) = true ∧ xmem (xXK2.getD 11 (0, 0, [])).1 (.instantiable RX11 18) = true ∧ xmem (xXK2.getD 11 (0, 0, [])).2.1 (.initialized RX11) = true ∧ (List.range 18).all (fun j => match xg xo_11 j with
  | none => false
  | some w => xdv (tyX11 j) w) = true := by decide +kernel
theorem xcl_12 : (List.range 40).all (fun k => xmem ((xXK2.getD 12 (0, 0, [])).2.2.getD k 0) (u_lay RX12 TX12 k)) = true ∧ xmem (xXK2.getD 12 (0, 0, [])).1 (.instantiable RX12 40) = true ∧ xmem (xXK2.getD 12 (0, 0, [])).2.1 (.initialized RX12) = true ∧ (List.range 40).all (fun j => match xg xo_12 j with
  | none => false
  | some w => xdv (tyX12 j) w) = true := by decide +kernel
end
section
/-! Each row of the code's tables is right -/
theorem xgl (C : String) (T : u_T) (k : Nat) : goodWord (u_lay C T k) = true := by
  unfold u_lay
  split <;> rfl
theorem xran {n : Nat} {f : Nat → Bool} (h : (List.range n).all f = true) {j : Nat} (hj : j < n) : f j = true := List.all_eq_true.mp h j (List.mem_range.mpr hj)
theorem xuws {C : String} {T : u_T} {N : Nat} {g : Nat → Nat} (h : (List.range N).all (fun k => xmem (g k) (u_lay C T k)) = true) : ∀ w ∈ u_ws C T N, w ∈ xgw := by
  intro w hw
  obtain ⟨k, hk, rfl⟩ := List.mem_map.mp hw
  exact xmem_ok (xran h (List.mem_range.mp hk)) (xgl C T k)
theorem xdfl {ty : Nat → FieldType} {N : Nat} {t : xct} (h : (List.range N).all (fun j => match xg t j with
  | none => false
  | some w => xdv (ty j) w) = true) : ∀ j, j < N → ∃ w : xv, xg t j = some w ∧ xdv (ty j) w = true := by
  intro j hj
  have h1 := xran h hj
  cases hg : xg t j with
  | none => rw [hg] at h1; cases h1
  | some w => rw [hg] at h1; exact ⟨w, rfl, h1⟩
def xCf (ci : Nat) (C : String) (T : u_T) (N : Nat) : Prop := (∀ w ∈ u_ws C T N, w ∈ xgw) ∧ (∀ j, j < N → parseFieldDescriptor (T j).2.2.1 = some (xtyf ci j)) ∧ (∀ a, a < N → ∀ b, b < N → a ≠ b → (T a).2.1 ≠ (T b).2.1) ∧ Cond.instantiable C N ∈ xgw ∧ Cond.initialized C ∈ xgw ∧ ci < 13 ∧ ∃ q : Nat × xct, xg xobj ci = some q ∧ q.1 = N ∧ ∀ j, j < N → ∃ w : xv, xg q.2 j = some w ∧ xdv (xtyf ci j) w = true
theorem xcf_0 : xCf 0 RX0 TX0 12 := ⟨xuws xcl_0.1, tyX0_ok, nmX0, xmem_ok xcl_0.2.1 rfl, xmem_ok xcl_0.2.2.1 rfl, by decide, (12, xo_0), rfl, rfl, xdfl xcl_0.2.2.2⟩
theorem xcf_1 : xCf 1 RX1 TX1 8 := ⟨xuws xcl_1.1, tyX1_ok, nmX1, xmem_ok xcl_1.2.1 rfl, xmem_ok xcl_1.2.2.1 rfl, by decide, (8, xo_1), rfl, rfl, xdfl xcl_1.2.2.2⟩
theorem xcf_2 : xCf 2 RX2 TX2 7 := ⟨xuws xcl_2.1, tyX2_ok, nmX2, xmem_ok xcl_2.2.1 rfl, xmem_ok xcl_2.2.2.1 rfl, by decide, (7, xo_2), rfl, rfl, xdfl xcl_2.2.2.2⟩
theorem xcf_3 : xCf 3 RX3 TX3 11 := ⟨xuws xcl_3.1, tyX3_ok, nmX3, xmem_ok xcl_3.2.1 rfl, xmem_ok xcl_3.2.2.1 rfl, by decide, (11, xo_3), rfl, rfl, xdfl xcl_3.2.2.2⟩
theorem xcf_4 : xCf 4 RX4 TX4 7 := ⟨xuws xcl_4.1, tyX4_ok, nmX4, xmem_ok xcl_4.2.1 rfl, xmem_ok xcl_4.2.2.1 rfl, by decide, (7, xo_4), rfl, rfl, xdfl xcl_4.2.2.2⟩
theorem xcf_5 : xCf 5 RX5 TX5 12 := ⟨xuws xcl_5.1, tyX5_ok, nmX5, xmem_ok xcl_5.2.1 rfl, xmem_ok xcl_5.2.2.1 rfl, by decide, (12, xo_5), rfl, rfl, xdfl xcl_5.2.2.2⟩
theorem xcf_6 : xCf 6 RX6 TX6 9 := ⟨xuws xcl_6.1, tyX6_ok, nmX6, xmem_ok xcl_6.2.1 rfl, xmem_ok xcl_6.2.2.1 rfl, by decide, (9, xo_6), rfl, rfl, xdfl xcl_6.2.2.2⟩
theorem xcf_7 : xCf 7 RX7 TX7 12 := ⟨xuws xcl_7.1, tyX7_ok, nmX7, xmem_ok xcl_7.2.1 rfl, xmem_ok xcl_7.2.2.1 rfl, by decide, (12, xo_7), rfl, rfl, xdfl xcl_7.2.2.2⟩
theorem xcf_8 : xCf 8 RX8 TX8 4 := ⟨xuws xcl_8.1, tyX8_ok, nmX8, xmem_ok xcl_8.2.1 rfl, xmem_ok xcl_8.2.2.1 rfl, by decide, (4, xo_8), rfl, rfl, xdfl xcl_8.2.2.2⟩
theorem xcf_9 : xCf 9 RX9 TX9 11 := ⟨xuws xcl_9.1, tyX9_ok, nmX9, xmem_ok xcl_9.2.1 rfl, xmem_ok xcl_9.2.2.1 rfl, by decide, (11, xo_9), rfl, rfl, xdfl xcl_9.2.2.2⟩
theorem xcf_10 : xCf 10 RX10 TX10 5 := ⟨xuws xcl_10.1, tyX10_ok, nmX10, xmem_ok xcl_10.2.1 rfl, xmem_ok xcl_10.2.2.1 rfl, by decide, (5, xo_10), rfl, rfl, xdfl xcl_10.2.2.2⟩
theorem xcf_11 : xCf 11 RX11 TX11 18 := ⟨xuws xcl_11.1, tyX11_ok, nmX11, xmem_ok xcl_11.2.1 rfl, xmem_ok xcl_11.2.2.1 rfl, by decide, (18, xo_11), rfl, rfl, xdfl xcl_11.2.2.2⟩
theorem xcf_12 : xCf 12 RX12 TX12 40 := ⟨xuws xcl_12.1, tyX12_ok, nmX12, xmem_ok xcl_12.2.1 rfl, xmem_ok xcl_12.2.2.1 rfl, by decide, (40, xo_12), rfl, rfl, xdfl xcl_12.2.2.2⟩
theorem xclf : ∀ (ci : Nat) (C : String) (T : u_T) (N : Nat), vwCl[ci]? = some (C, T, N) → xCf ci C T N
  | 0, _, _, _, h => by cases h; exact xcf_0
  | 1, _, _, _, h => by cases h; exact xcf_1
  | 2, _, _, _, h => by cases h; exact xcf_2
  | 3, _, _, _, h => by cases h; exact xcf_3
  | 4, _, _, _, h => by cases h; exact xcf_4
  | 5, _, _, _, h => by cases h; exact xcf_5
  | 6, _, _, _, h => by cases h; exact xcf_6
  | 7, _, _, _, h => by cases h; exact xcf_7
  | 8, _, _, _, h => by cases h; exact xcf_8
  | 9, _, _, _, h => by cases h; exact xcf_9
  | 10, _, _, _, h => by cases h; exact xcf_10
  | 11, _, _, _, h => by cases h; exact xcf_11
  | 12, _, _, _, h => by cases h; exact xcf_12
  | _ + 13, _, _, _, h => by cases h
noncomputable def xkey (y i : Nat) : Nat := xon y * 4096 + i
noncomputable def xokF (y i r1 r2 : Nat) : Bool := Nat.blt i 4096 && match xg xXF (xkey y i) with
  | none => false
  | some v => Nat.beq v.1 r1 && Nat.beq v.2.1 r2
noncomputable def xokL (y i r1 r2 : Nat) : Bool := Nat.blt i 4096 && match xg xXL (xkey y i) with
  | none => false
  | some v => Nat.beq v.1 r1 && Nat.beq v.2.2 r2
noncomputable def xokK (y i r1 : Nat) : Bool := Nat.blt i 4096 && match xg xXK (xkey y i) with
  | none => false
  | some v => Nat.beq v.1 r1
noncomputable def xokC (y i r1 : Nat) : Bool := Nat.blt i 4096 && match xg xXC (xkey y i) with
  | none => false
  | some v => Nat.beq v.1 r1
noncomputable def xokD (y i r1 : Nat) : Bool := Nat.blt i 4096 && match xg xXD (xkey y i) with
  | none => false
  | some v => Nat.beq v.1 r1
noncomputable def xknd (z k : Nat) : Bool := match xg xXM z with
  | none => false
  | some v => Nat.beq v.2.1 k && Nat.blt 0 z
noncomputable def xml (y : Nat) : Nat := (xu xmeth y).2.2.2.2.2
noncomputable def xrk (y : Nat) : Nat := (xu xmeth y).2.2.2.2.1
noncomputable def xokI (y pc : Nat) (ins : Instr) (len tg r1 r2 : Nat) : Bool :=
  match ins with
  | .iconst k => Nat.beq len 1 && decide (Int32.ofInt k = nI r1)
  | .bipush k => Nat.beq len 2 && decide ((Int8.ofInt k).toInt32 = nI r1)
  | .sipush k => Nat.beq len 3 && decide ((Int16.ofInt k).toInt32 = nI r1)
  | .lconst k => Nat.beq len 1 && decide (Int64.ofNat (k : Nat) = lN r1)
  | .ldc i => Nat.beq len 2 && cond (Nat.beq r2 0) (xokC y i r1) (Nat.beq (xon y) 7 && Nat.beq i 51)
  | .ldc_w i => Nat.beq len 3 && xokC y i r1
  | .ldc2_w i => Nat.beq len 3 && xokD y i r1
  | .iload i => Nat.beq len 2 && Nat.beq i r1
  | .lload i => Nat.beq len 2 && Nat.beq i r1
  | .aload i => Nat.beq len 2 && Nat.beq i r1
  | .iload_n k => Nat.beq len 1 && Nat.beq k.val r1
  | .lload_n k => Nat.beq len 1 && Nat.beq k.val r1
  | .aload_n k => Nat.beq len 1 && Nat.beq k.val r1
  | .istore i => Nat.beq len 2 && (Nat.beq i r1 && Nat.blt r1 (xml y))
  | .astore i => Nat.beq len 2 && (Nat.beq i r1 && Nat.blt r1 (xml y))
  | .lstore i => Nat.beq len 2 && (Nat.beq i r1 && Nat.blt (r1 + 1) (xml y))
  | .istore_n k => Nat.beq len 1 && (Nat.beq k.val r1 && Nat.blt r1 (xml y))
  | .astore_n k => Nat.beq len 1 && (Nat.beq k.val r1 && Nat.blt r1 (xml y))
  | .lstore_n k => Nat.beq len 1 && (Nat.beq k.val r1 && Nat.blt (r1 + 1) (xml y))
  | .iinc i k => Nat.beq len 3 && (Nat.beq i r1 && (Nat.blt r1 (xml y) && decide (Int32.ofInt k = nI r2)))
  | .goto off => Nat.beq len 3 && decide ((pc : Int) + off = (tg : Int))
  | .if_icmp _ off => Nat.beq len 3 && decide ((pc : Int) + off = (tg : Int))
  | .ifCond _ off => Nat.beq len 3 && decide ((pc : Int) + off = (tg : Int))
  | .ifnull off => Nat.beq len 3 && decide ((pc : Int) + off = (tg : Int))
  | .ifnonnull off => Nat.beq len 3 && decide ((pc : Int) + off = (tg : Int))
  | .tableswitch _ lo hi _ => decide (-2147483648 ≤ lo ∧ hi < 2147483648 ∧ lo ≤ hi)
  | .getfield i => Nat.beq len 3 && xokF y i r1 r2
  | .putfield i => Nat.beq len 3 && (xokF y i r1 r2 && (Nat.blt r1 13 && (Nat.beq (xtc (xtyf r1 r2)) tg && (match vwCl[r1]? with
    | none => false
    | some r => !(r.2.1 r2).2.2.2 || (decide ((xnm y).name = "<init>") && decide ((r.2.1 r2).1 = (xnm y).cls))))))
  | .getstatic i => Nat.beq len 3 && (Nat.beq (xon y) 14 && cond (Nat.beq r1 0) (Nat.beq i 38) (Nat.beq i 1053))
  | .new i => Nat.beq len 3 && xokK y i r1
  | .newarray ty => Nat.beq len 2 && (decide (ty = .int) && (Nat.beq r1 13 && Nat.beq r2 0) || (decide (ty = .long) && (Nat.beq r1 14 && Nat.beq r2 1) || decide (ty = .byte) && (Nat.beq r1 15 && Nat.beq r2 0)))
  | .anewarray i => Nat.beq len 3 && (Nat.ble 20 r1 && (xokK y i (r1 - 20) && (match vwCl[r1 - 20]? with
    | none => false
    | some r => decide (r.1 ∈ xovr))))
  | .invokevirtual i => Nat.beq len 3 && (Nat.beq r2 0 && (xokL y i r1 0 && xknd r1 1))
  | .invokespecial i => Nat.beq len 3 && (xokL y i r1 r2 && (Nat.beq r2 6 || (xknd r1 2 && (Nat.beq r2 0 || Nat.beq r2 5))))
  | .invokestatic i => Nat.beq len 3 && (xokL y i r1 r2 && (Nat.beq r2 8 || (xknd r1 3 && Nat.beq r2 0)))
  | .return_ => Nat.beq len 1 && (!(Nat.beq (xrk y) 0) || decide (xrtt y = none))
  | .ireturn => Nat.beq len 1 && ((!(Nat.beq (xrk y) 1) || decide (xrtt y = some .int)) && ((!(Nat.beq (xrk y) 3) || decide (xrtt y = some .boolean)) && ((!(Nat.beq (xrk y) 4) || decide (xrtt y = some .char)) && (!(Nat.beq (xrk y) 5) || decide (xrtt y = some .byte)))))
  | .lreturn => Nat.beq len 1 && (!(Nat.beq (xrk y) 2) || decide (xrtt y = some .long))
  | _ => Nat.beq len 1
theorem ximp {a b : Bool} {P Q : Prop} (h : (!a || b) = true) (ha : P → a = true) (hb : b = true → Q) : P → Q := by
  intro hp
  rw [ha hp] at h
  exact hb h
theorem xbt {a b : Nat} (h : a = b) : Nat.beq a b = true := by rw [h]; exact Nat.beq_refl b
set_option maxRecDepth 100000 in
theorem xfix : xmem xhS0 (.fieldLink "java/lang/String" 38 "java/lang/String" "COMPACT_STRINGS" "Z") = true ∧ xmem xhS1 (.fieldLink "java/lang/String" 1053 "jdk/internal/util/Preconditions" "SIOOBE_FORMATTER" "Ljava/util/function/BiFunction;") = true ∧ xmem xhI (.instanceMethod objectInit) = true ∧ xmem xhC (.code objectInit ⟨#[0xb1]⟩ 1 none) = true ∧ xmem xhN (.native arraycopyName) = true ∧ xmem xhT (.static arraycopyName) = true ∧ xmem xhY (.initialized "java/lang/System") = true ∧ xmem 244 (.arrayClass .int) = true ∧ xmem 245 (.arrayClass .long) = true ∧ xmem 243 (.arrayClass .byte) = true := by decide +kernel
theorem xkd1 {y i : Nat} (h : i < 4096) : xkey y i / 4096 = xon y ∧ xkey y i % 4096 = i := by unfold xkey; omega
theorem xokF_ok {y i r1 r2 : Nat} (h : xokF y i r1 r2 = true) : i < 4096 ∧ ∃ hh, xkF (xkey y i) (r1, r2, hh) = true := by
  unfold xokF at h
  obtain ⟨h1, h2⟩ := xand h
  cases hg : xg xXF (xkey y i) with
  | none => rw [hg] at h2; cases h2
  | some v =>
    rw [hg] at h2
    obtain ⟨g1, g2⟩ := xand h2
    obtain ⟨a, b, c⟩ := v
    have e1 : a = r1 := xeqb g1
    have e2 : b = r2 := xeqb g2
    subst e1; subst e2
    exact ⟨xltb h1, c, xall_get xXF xkF xF_ok _ _ hg⟩
theorem xokL_ok {y i r1 r2 : Nat} (h : xokL y i r1 r2 = true) : i < 4096 ∧ ∃ hh, xkL (xkey y i) (r1, hh, r2) = true := by
  unfold xokL at h
  obtain ⟨h1, h2⟩ := xand h
  cases hg : xg xXL (xkey y i) with
  | none => rw [hg] at h2; cases h2
  | some v =>
    rw [hg] at h2
    obtain ⟨g1, g2⟩ := xand h2
    obtain ⟨a, b, c⟩ := v
    have e1 : a = r1 := xeqb g1
    have e2 : c = r2 := xeqb g2
    subst e1; subst e2
    exact ⟨xltb h1, b, xall_get xXL xkL xL_ok _ _ hg⟩
theorem xokK_ok {y i r1 : Nat} (h : xokK y i r1 = true) : i < 4096 ∧ ∃ hh, xkK (xkey y i) (r1, hh) = true := by
  unfold xokK at h
  obtain ⟨h1, h2⟩ := xand h
  cases hg : xg xXK (xkey y i) with
  | none => rw [hg] at h2; cases h2
  | some v =>
    rw [hg] at h2
    obtain ⟨a, b⟩ := v
    have e1 : a = r1 := xeqb h2
    subst e1
    exact ⟨xltb h1, b, xall_get xXK xkK xK_ok _ _ hg⟩
theorem xokC_ok {y i r1 : Nat} (h : xokC y i r1 = true) : i < 4096 ∧ ∃ hh, xkC (xkey y i) (r1, hh) = true := by
  unfold xokC at h
  obtain ⟨h1, h2⟩ := xand h
  cases hg : xg xXC (xkey y i) with
  | none => rw [hg] at h2; cases h2
  | some v =>
    rw [hg] at h2
    obtain ⟨a, b⟩ := v
    have e1 : a = r1 := xeqb h2
    subst e1
    exact ⟨xltb h1, b, xall_get xXC xkC xC_ok _ _ hg⟩
theorem xokD_ok {y i r1 : Nat} (h : xokD y i r1 = true) : i < 4096 ∧ ∃ hh, xkD (xkey y i) (r1, hh) = true := by
  unfold xokD at h
  obtain ⟨h1, h2⟩ := xand h
  cases hg : xg xXD (xkey y i) with
  | none => rw [hg] at h2; cases h2
  | some v =>
    rw [hg] at h2
    obtain ⟨a, b⟩ := v
    have e1 : a = r1 := xeqb h2
    subst e1
    exact ⟨xltb h1, b, xall_get xXD xkD xD_ok _ _ hg⟩
/-- a method by its row -/
theorem xMz {z k : Nat} (h : xknd z k = true) : xMok xmeth xby xnm xrtt xgw z ∧ ∃ v : Nat × Nat × Nat × Nat × Nat × Nat, v.2.1 = k ∧ (match v.2.1 with
        | 1 => xmem v.2.2.2.2.1 (.instanceMethod (xnm z)) && xmem v.2.2.2.2.2 (.selects (xnm z).cls (xnm z) (xnm z)) && cond (Nat.blt (xu xmeth z).2.2.2.1 13) (match vwCl[(xu xmeth z).2.2.2.1]? with
          | none => false
          | some r => decide (r.1 = (xnm z).cls)) (decide ((xnm z).cls = "java/lang/String"))
        | 2 => xmem v.2.2.2.2.1 (.instanceMethod (xnm z)) && decide ((xnm z).name = "<init>") && decide (xrtt z = none)
        | _ => xmem v.2.2.2.2.1 (.static (xnm z))) = true := by
  unfold xknd at h
  cases hg : xg xXM z with
  | none => rw [hg] at h; cases h
  | some v =>
    rw [hg] at h
    obtain ⟨h1, h2⟩ := xand h
    have hz : z ≠ 0 := by have := xltb h2; omega
    have hm : xkM z v = true := xall_get xXM xkM xM_ok _ _ hg
    unfold xkM at hm
    obtain ⟨-, m2⟩ := xand hm
    have m2 := (xor2 m2).resolve_left (fun q => hz (xeqb q))
    obtain ⟨m3, m4⟩ := xand m2
    obtain ⟨m5, m6⟩ := xand m3
    obtain ⟨m7, m8⟩ := xand m5
    obtain ⟨m9, m10⟩ := xand m7
    obtain ⟨m11, m12⟩ := xand m9
    obtain ⟨m13, m14⟩ := xand m11
    have hw := (xallP_get xXM _ xW_ok z v hg).resolve_left hz
    exact ⟨⟨hw, xmem_ok m13 rfl, m14, of_decide_eq_true m12, of_decide_eq_true m10, of_decide_eq_true m8, xleb m6⟩, v, xeqb h1, m4⟩
set_option maxHeartbeats 4000000 in
theorem xokI_ok {y pc : Nat} {ins : Instr} {len tg r1 r2 : Nat} (hcl : (xnm y).cls = xcn (xon y)) (h : xokI y pc ins len tg r1 r2 = true) : xI vwCl xnest xtxt xovr xmeth xobj xby xnm xrtt xgw y pc ins len tg r1 r2 := by
  cases ins with
  | iconst k => exact ⟨xeqb (xand h).1, of_decide_eq_true (xand h).2⟩
  | bipush k => exact ⟨xeqb (xand h).1, of_decide_eq_true (xand h).2⟩
  | sipush k => exact ⟨xeqb (xand h).1, of_decide_eq_true (xand h).2⟩
  | lconst k => exact ⟨xeqb (xand h).1, of_decide_eq_true (xand h).2⟩
  | ldc i =>
    obtain ⟨h1, h2⟩ := xand h
    refine ⟨xeqb h1, fun e => ?_, fun e => ?_⟩
    · rw [xbt e] at h2
      obtain ⟨g1, hh, g2⟩ := xokC_ok h2
      have := xmem_ok g2 rfl
      rw [(xkd1 g1).1, (xkd1 g1).2, ← hcl] at this
      exact this
    · have hn : Nat.beq r2 0 = false := by rw [e]; rfl
      rw [hn] at h2
      obtain ⟨g1, g2⟩ := xand h2
      rw [hcl, xeqb g1, xeqb g2]
      exact ⟨rfl, rfl⟩
  | ldc_w i =>
    obtain ⟨h1, h2⟩ := xand h
    obtain ⟨g1, hh, g2⟩ := xokC_ok h2
    have := xmem_ok g2 rfl
    rw [(xkd1 g1).1, (xkd1 g1).2, ← hcl] at this
    exact ⟨xeqb h1, this⟩
  | ldc2_w i =>
    obtain ⟨h1, h2⟩ := xand h
    obtain ⟨g1, hh, g2⟩ := xokD_ok h2
    have := xmem_ok g2 rfl
    rw [(xkd1 g1).1, (xkd1 g1).2, ← hcl] at this
    exact ⟨xeqb h1, this⟩
  | iload i => exact ⟨xeqb (xand h).1, xeqb (xand h).2⟩
  | lload i => exact ⟨xeqb (xand h).1, xeqb (xand h).2⟩
  | aload i => exact ⟨xeqb (xand h).1, xeqb (xand h).2⟩
  | iload_n i => exact ⟨xeqb (xand h).1, xeqb (xand h).2⟩
  | lload_n i => exact ⟨xeqb (xand h).1, xeqb (xand h).2⟩
  | aload_n i => exact ⟨xeqb (xand h).1, xeqb (xand h).2⟩
  | istore i => exact ⟨xeqb (xand h).1, xeqb (xand (xand h).2).1, xltb (xand (xand h).2).2⟩
  | astore i => exact ⟨xeqb (xand h).1, xeqb (xand (xand h).2).1, xltb (xand (xand h).2).2⟩
  | lstore i => exact ⟨xeqb (xand h).1, xeqb (xand (xand h).2).1, xltb (xand (xand h).2).2⟩
  | istore_n i => exact ⟨xeqb (xand h).1, xeqb (xand (xand h).2).1, xltb (xand (xand h).2).2⟩
  | astore_n i => exact ⟨xeqb (xand h).1, xeqb (xand (xand h).2).1, xltb (xand (xand h).2).2⟩
  | lstore_n i => exact ⟨xeqb (xand h).1, xeqb (xand (xand h).2).1, xltb (xand (xand h).2).2⟩
  | iinc i k => exact ⟨xeqb (xand h).1, xeqb (xand (xand h).2).1, xltb (xand (xand (xand h).2).2).1, of_decide_eq_true (xand (xand (xand h).2).2).2⟩
  | goto off => exact ⟨xeqb (xand h).1, of_decide_eq_true (xand h).2⟩
  | if_icmp o off => exact ⟨xeqb (xand h).1, of_decide_eq_true (xand h).2⟩
  | ifCond o off => exact ⟨xeqb (xand h).1, of_decide_eq_true (xand h).2⟩
  | ifnull off => exact ⟨xeqb (xand h).1, of_decide_eq_true (xand h).2⟩
  | ifnonnull off => exact ⟨xeqb (xand h).1, of_decide_eq_true (xand h).2⟩
  | tableswitch a lo hi b =>
    have h2 : -2147483648 ≤ lo ∧ hi < 2147483648 ∧ lo ≤ hi := of_decide_eq_true (show decide (-2147483648 ≤ lo ∧ hi < 2147483648 ∧ lo ≤ hi) = true from h)
    exact h2
  | getfield i =>
    obtain ⟨h1, h2⟩ := xand h
    obtain ⟨g1, hh, g2⟩ := xokF_ok h2
    unfold xkF at g2
    rw [(xkd1 g1).1, (xkd1 g1).2, ← hcl] at g2
    refine ⟨xeqb h1, fun e => ?_, fun e => ?_⟩
    · rw [show Nat.blt r1 13 = true from Nat.ble_eq_true_of_le e] at g2
      simp only [cond_true] at g2
      cases hv : vwCl[r1]? with
      | none => rw [hv] at g2; cases g2
      | some r =>
        rw [hv] at g2
        obtain ⟨C, T, N⟩ := r
        obtain ⟨g3, g4⟩ := xand g2
        exact ⟨C, T, N, hv, xltb g3, xmem_ok g4 rfl, (xclf _ _ _ _ hv).1⟩
    · subst e
      simp only [show Nat.blt 98 13 = false from rfl, cond_false] at g2
      obtain ⟨-, g3⟩ := xand g2
      refine ⟨fun e2 => ?_, fun e2 => ?_⟩
      · rw [xbt e2] at g3; exact xmem_ok g3 rfl
      · cases hb : Nat.beq r2 0 with
        | true => exact absurd (xeqb hb) e2
        | false => rw [hb] at g3; exact xmem_ok g3 rfl
  | putfield i =>
    obtain ⟨h1, h2⟩ := xand h
    obtain ⟨h3, h4⟩ := xand h2
    obtain ⟨h5, h6⟩ := xand h4
    obtain ⟨h7, h8⟩ := xand h6
    obtain ⟨g1, hh, g2⟩ := xokF_ok h3
    unfold xkF at g2
    rw [(xkd1 g1).1, (xkd1 g1).2, ← hcl] at g2
    simp only [show Nat.blt r1 13 = true from h5, cond_true] at g2
    cases hv : vwCl[r1]? with
    | none => rw [hv] at g2; cases g2
    | some r =>
      rw [hv] at g2 h8
      obtain ⟨C, T, N⟩ := r
      obtain ⟨g3, g4⟩ := xand g2
      have hc := xclf _ _ _ _ hv
      refine ⟨xeqb h1, xltb h5, C, T, N, xtyf r1, hv, xltb g3, xmem_ok g4 rfl, hc.1, hc.2.1, hc.2.2.1, xeqb h7, fun e => ?_⟩
      dsimp only at h8
      rw [e] at h8
      obtain ⟨a1, a2⟩ := xand (show (decide ((xnm y).name = "<init>") && decide ((T r2).1 = (xnm y).cls)) = true from h8)
      exact ⟨of_decide_eq_true a1, of_decide_eq_true a2⟩
  | getstatic i =>
    obtain ⟨h1, h2⟩ := xand h
    obtain ⟨h3, h4⟩ := xand h2
    have hn : (xnm y).cls = "java/lang/String" := by rw [hcl, xeqb h3]; rfl
    rw [show xI vwCl xnest xtxt xovr xmeth xobj xby xnm xrtt xgw y pc (.getstatic i) len tg r1 r2 = (len = 3 ∧ (r1 = 0 → Cond.fieldLink (xnm y).cls i "java/lang/String" "COMPACT_STRINGS" "Z" ∈ xgw) ∧ (r1 ≠ 0 → Cond.fieldLink (xnm y).cls i "jdk/internal/util/Preconditions" "SIOOBE_FORMATTER" "Ljava/util/function/BiFunction;" ∈ xgw)) from rfl, hn]
    refine ⟨xeqb h1, fun e => ?_, fun e => ?_⟩
    · rw [xbt e] at h4
      rw [xeqb h4]
      exact xmem_ok xfix.1 rfl
    · cases hb : Nat.beq r1 0 with
      | true => exact absurd (xeqb hb) e
      | false =>
        rw [hb] at h4
        rw [xeqb h4]
        exact xmem_ok xfix.2.1 rfl
  | new i =>
    obtain ⟨h1, h2⟩ := xand h
    obtain ⟨g1, hh, g2⟩ := xokK_ok h2
    unfold xkK at g2
    rw [(xkd1 g1).1, (xkd1 g1).2, ← hcl] at g2
    cases hv : vwCl[r1]? with
    | none => rw [hv] at g2; cases g2
    | some r =>
      rw [hv] at g2
      obtain ⟨C, T, N⟩ := r
      obtain ⟨c1, c2, c3, c4, c5, c6, q, c7, c8, c9⟩ := xclf _ _ _ _ hv
      exact ⟨xeqb h1, C, T, N, xtyf r1, q, hv, c6, c1, c2, xmem_ok g2 rfl, c4, c5, c7, c8, c9⟩
  | newarray ty =>
    obtain ⟨h1, h2⟩ := xand h
    obtain ⟨f1, f2, f3⟩ := xfix.2.2.2.2.2.2.2
    rcases xor2 h2 with h3 | h3
    · obtain ⟨a1, a2⟩ := xand h3
      have e : ty = .int := of_decide_eq_true a1
      subst e
      exact ⟨xeqb h1, xmem_ok f1 rfl, Or.inl ⟨rfl, xeqb (xand a2).1, xeqb (xand a2).2⟩⟩
    · rcases xor2 h3 with h3 | h3
      · obtain ⟨a1, a2⟩ := xand h3
        have e : ty = .long := of_decide_eq_true a1
        subst e
        exact ⟨xeqb h1, xmem_ok f2 rfl, Or.inr (Or.inl ⟨rfl, xeqb (xand a2).1, xeqb (xand a2).2⟩)⟩
      · obtain ⟨a1, a2⟩ := xand h3
        have e : ty = .byte := of_decide_eq_true a1
        subst e
        exact ⟨xeqb h1, xmem_ok f3 rfl, Or.inr (Or.inr ⟨rfl, xeqb (xand a2).1, xeqb (xand a2).2⟩)⟩
  | anewarray i =>
    obtain ⟨h1, h2⟩ := xand h
    obtain ⟨h3, h4⟩ := xand h2
    obtain ⟨h5, h6⟩ := xand h4
    obtain ⟨g1, hh, g2⟩ := xokK_ok h5
    unfold xkK at g2
    rw [(xkd1 g1).1, (xkd1 g1).2, ← hcl] at g2
    cases hv : vwCl[r1 - 20]? with
    | none => rw [hv] at h6; cases h6
    | some r =>
      rw [hv] at g2 h6
      exact ⟨xeqb h1, xleb h3, r, hv, xmem_ok g2 rfl, of_decide_eq_true h6⟩
  | invokevirtual i =>
    obtain ⟨h1, h2⟩ := xand h
    obtain ⟨h3, h4⟩ := xand h2
    obtain ⟨h5, h6⟩ := xand h4
    obtain ⟨g1, hh, g2⟩ := xokL_ok h5
    unfold xkL at g2
    rw [(xkd1 g1).1, (xkd1 g1).2, ← hcl] at g2
    obtain ⟨mok, v, k1, k2⟩ := xMz h6
    rw [k1] at k2
    obtain ⟨k3, k4⟩ := xand k2
    obtain ⟨k5, k6⟩ := xand k3
    refine ⟨xeqb h1, mok, xmem_ok g2 rfl, xmem_ok k5 rfl, xmem_ok k6 rfl, fun e => ?_, fun e => ?_⟩
    · rw [show Nat.blt (xu xmeth r1).2.2.2.1 13 = true from Nat.ble_eq_true_of_le e] at k4
      simp only [cond_true] at k4
      cases hv : vwCl[(xu xmeth r1).2.2.2.1]? with
      | none => rw [hv] at k4; cases k4
      | some r => rw [hv] at k4; exact ⟨r, rfl, of_decide_eq_true k4⟩
    · rw [e] at k4
      exact of_decide_eq_true k4
  | invokespecial i =>
    obtain ⟨h1, h2⟩ := xand h
    obtain ⟨h3, h4⟩ := xand h2
    obtain ⟨g1, hh, g2⟩ := xokL_ok h3
    unfold xkL at g2
    rw [(xkd1 g1).1, (xkd1 g1).2, ← hcl] at g2
    refine ⟨xeqb h1, fun e => ?_, fun e => ?_⟩
    · subst e
      exact ⟨xmem_ok g2 rfl, xmem_ok xfix.2.2.1 rfl, xmem_ok xfix.2.2.2.1 rfl⟩
    · have h5 := (xor2 h4).resolve_left (fun q => e (xeqb q))
      obtain ⟨h6, h7⟩ := xand h5
      obtain ⟨mok, v, k1, k2⟩ := xMz h6
      rw [k1] at k2
      obtain ⟨k3, k4⟩ := xand k2
      obtain ⟨k5, k6⟩ := xand k3
      refine ⟨mok, of_decide_eq_true k4, of_decide_eq_true k6, xmem_ok k5 rfl, fun e5 => ?_, fun e5 => ?_⟩
      · have e0 : r2 = 0 := (xor2 h7).elim xeqb (fun q => absurd (xeqb q) e5)
        subst e0
        exact xmem_ok g2 rfl
      · subst e5
        exact ⟨"OathTill", of_decide_eq_true g2⟩
  | invokestatic i =>
    obtain ⟨h1, h2⟩ := xand h
    obtain ⟨h3, h4⟩ := xand h2
    obtain ⟨g1, hh, g2⟩ := xokL_ok h3
    unfold xkL at g2
    rw [(xkd1 g1).1, (xkd1 g1).2, ← hcl] at g2
    refine ⟨xeqb h1, fun e => ?_, fun e => ?_⟩
    · subst e
      exact ⟨xmem_ok g2 rfl, xmem_ok xfix.2.2.2.2.1 rfl, xmem_ok xfix.2.2.2.2.2.1 rfl, xmem_ok xfix.2.2.2.2.2.2.1 rfl⟩
    · have h5 := (xor2 h4).resolve_left (fun q => e (xeqb q))
      obtain ⟨h6, h7⟩ := xand h5
      obtain ⟨mok, v, k1, k2⟩ := xMz h6
      rw [k1] at k2
      have e0 : r2 = 0 := xeqb h7
      subst e0
      exact ⟨mok, xmem_ok g2 rfl, xmem_ok k2 rfl⟩
  | return_ => exact ⟨xeqb (xand h).1, ximp (xand h).2 (fun e => xbt e) of_decide_eq_true⟩
  | ireturn =>
    obtain ⟨h1, h2⟩ := xand h
    obtain ⟨h3, h4⟩ := xand h2
    obtain ⟨h5, h6⟩ := xand h4
    obtain ⟨h7, h8⟩ := xand h6
    exact ⟨xeqb h1, ximp h3 (fun e => xbt e) of_decide_eq_true, ximp h5 (fun e => xbt e) of_decide_eq_true, ximp h7 (fun e => xbt e) of_decide_eq_true, ximp h8 (fun e => xbt e) of_decide_eq_true⟩
  | lreturn => exact ⟨xeqb (xand h).1, ximp (xand h).2 (fun e => xbt e) of_decide_eq_true⟩
  | _ => exact xeqb h
noncomputable def xokE (y pc : Nat) (e : xins) : Bool := Nat.ble pc e.2.1 && (decide (decode (xby y) pc = .ok (e.1, e.2.1 - pc)) && xokI y pc e.1 (e.2.1 - pc) e.2.2.1 e.2.2.2.1 e.2.2.2.2)
noncomputable def xokT (y : Nat) (t : Lean.RArray (Nat × xins)) : Bool := decide ((xnm y).cls = xcn (xon y)) && xall t (xokE y)
theorem xOK_of (h : xall xcode xokT = true) : xOK vwCl xnest xtxt xovr xcode xmeth xobj xby xnm xrtt xgw := by
  intro y t pc e hy ht
  obtain ⟨h1, h2⟩ := xand (xall_get xcode xokT h y t hy)
  have h3 := xall_get t (xokE y) h2 pc e ht
  obtain ⟨h4, h5⟩ := xand h3
  obtain ⟨h6, h7⟩ := xand h5
  have h8 := xleb h4
  exact ⟨e.2.1 - pc, by omega, of_decide_eq_true h6, xokI_ok (of_decide_eq_true h1) h7⟩
end
section
/-! Each row of the code, checked by computing -/
theorem xal_b {α : Type} {p : Nat} {a b : Lean.RArray (Nat × α)} {f : Nat → α → Bool} (ha : xall a f = true) (hb : xall b f = true) : xall (.branch p a b) f = true := by
  show cond (xall a f) (xall b f) false = true
  rw [ha, hb]; rfl
theorem xokT_of {y : Nat} {t : Lean.RArray (Nat × xins)} (h1 : decide ((xnm y).cls = xcn (xon y)) = true) (h2 : xall t (xokE y) = true) : xokT y t = true := by
  unfold xokT
  rw [h1, h2]; rfl
set_option maxRecDepth 100000 in
theorem xe_0_18 : xall xt_0_18 (xokE 0) = true := by decide +kernel
set_option maxRecDepth 100000 in
theorem xe_0_391 : xall xt_0_391 (xokE 0) = true := by decide +kernel
set_option maxRecDepth 100000 in
theorem xe_0_498 : xall xt_0_498 (xokE 0) = true := by decide +kernel
set_option maxRecDepth 100000 in
theorem xe_0_598 : xall xt_0_598 (xokE 0) = true := by decide +kernel
set_option maxRecDepth 100000 in
theorem xe_0_726 : xall xt_0_726 (xokE 0) = true := by decide +kernel
set_option maxRecDepth 100000 in
theorem xe_0_844 : xall xt_0_844 (xokE 0) = true := by decide +kernel
set_option maxRecDepth 100000 in
theorem xe_0_946 : xall xt_0_946 (xokE 0) = true := by decide +kernel
set_option maxRecDepth 100000 in
theorem xe_0_1048 : xall xt_0_1048 (xokE 0) = true := by decide +kernel
set_option maxRecDepth 100000 in
theorem xe_0_1151 : xall xt_0_1151 (xokE 0) = true := by decide +kernel
set_option maxRecDepth 100000 in
theorem xe_0_1261 : xall xt_0_1261 (xokE 0) = true := by decide +kernel
set_option maxRecDepth 100000 in
theorem xe_0_1379 : xall xt_0_1379 (xokE 0) = true := by decide +kernel
set_option maxRecDepth 100000 in
theorem xe_0_1501 : xall xt_0_1501 (xokE 0) = true := by decide +kernel
set_option maxRecDepth 100000 in
theorem xe_0_1629 : xall xt_0_1629 (xokE 0) = true := by decide +kernel
set_option maxRecDepth 100000 in
theorem xe_0_1739 : xall xt_0_1739 (xokE 0) = true := by decide +kernel
set_option maxRecDepth 100000 in
theorem xe_0_1857 : xall xt_0_1857 (xokE 0) = true := by decide +kernel
set_option maxRecDepth 100000 in
theorem xe_0_1991 : xall xt_0_1991 (xokE 0) = true := by decide +kernel
theorem xv_0 : xokT 0 xt_0 = true := xokT_of (by decide +kernel) (xal_b (xal_b (xal_b (xal_b xe_0_18 xe_0_391) (xal_b xe_0_498 xe_0_598)) (xal_b (xal_b xe_0_726 xe_0_844) (xal_b xe_0_946 xe_0_1048))) (xal_b (xal_b (xal_b xe_0_1151 xe_0_1261) (xal_b xe_0_1379 xe_0_1501)) (xal_b (xal_b xe_0_1629 xe_0_1739) (xal_b xe_0_1857 xe_0_1991))))
set_option maxRecDepth 100000 in
theorem xe_1_0 : xall xt_1_0 (xokE 1) = true := by decide +kernel
set_option maxRecDepth 100000 in
theorem xe_1_133 : xall xt_1_133 (xokE 1) = true := by decide +kernel
theorem xv_1 : xokT 1 xt_1 = true := xokT_of (by decide +kernel) (xal_b xe_1_0 xe_1_133)
set_option maxRecDepth 100000 in
theorem xe_2_0 : xall xt_2_0 (xokE 2) = true := by decide +kernel
theorem xv_2 : xokT 2 xt_2 = true := xokT_of (by decide +kernel) xe_2_0
set_option maxRecDepth 100000 in
theorem xe_3_0 : xall xt_3_0 (xokE 3) = true := by decide +kernel
theorem xv_3 : xokT 3 xt_3 = true := xokT_of (by decide +kernel) xe_3_0
set_option maxRecDepth 100000 in
theorem xe_4_0 : xall xt_4_0 (xokE 4) = true := by decide +kernel
theorem xv_4 : xokT 4 xt_4 = true := xokT_of (by decide +kernel) xe_4_0
set_option maxRecDepth 100000 in
theorem xe_5_0 : xall xt_5_0 (xokE 5) = true := by decide +kernel
theorem xv_5 : xokT 5 xt_5 = true := xokT_of (by decide +kernel) xe_5_0
set_option maxRecDepth 100000 in
theorem xe_6_0 : xall xt_6_0 (xokE 6) = true := by decide +kernel
theorem xv_6 : xokT 6 xt_6 = true := xokT_of (by decide +kernel) xe_6_0
set_option maxRecDepth 100000 in
theorem xe_7_0 : xall xt_7_0 (xokE 7) = true := by decide +kernel
theorem xv_7 : xokT 7 xt_7 = true := xokT_of (by decide +kernel) xe_7_0
set_option maxRecDepth 100000 in
theorem xe_8_0 : xall xt_8_0 (xokE 8) = true := by decide +kernel
theorem xv_8 : xokT 8 xt_8 = true := xokT_of (by decide +kernel) xe_8_0
set_option maxRecDepth 100000 in
theorem xe_9_0 : xall xt_9_0 (xokE 9) = true := by decide +kernel
theorem xv_9 : xokT 9 xt_9 = true := xokT_of (by decide +kernel) xe_9_0
set_option maxRecDepth 100000 in
theorem xe_10_0 : xall xt_10_0 (xokE 10) = true := by decide +kernel
theorem xv_10 : xokT 10 xt_10 = true := xokT_of (by decide +kernel) xe_10_0
set_option maxRecDepth 100000 in
theorem xe_11_0 : xall xt_11_0 (xokE 11) = true := by decide +kernel
theorem xv_11 : xokT 11 xt_11 = true := xokT_of (by decide +kernel) xe_11_0
set_option maxRecDepth 100000 in
theorem xe_12_0 : xall xt_12_0 (xokE 12) = true := by decide +kernel
theorem xv_12 : xokT 12 xt_12 = true := xokT_of (by decide +kernel) xe_12_0
set_option maxRecDepth 100000 in
theorem xe_13_0 : xall xt_13_0 (xokE 13) = true := by decide +kernel
theorem xv_13 : xokT 13 xt_13 = true := xokT_of (by decide +kernel) xe_13_0
set_option maxRecDepth 100000 in
theorem xe_14_0 : xall xt_14_0 (xokE 14) = true := by decide +kernel
theorem xv_14 : xokT 14 xt_14 = true := xokT_of (by decide +kernel) xe_14_0
set_option maxRecDepth 100000 in
theorem xe_15_0 : xall xt_15_0 (xokE 15) = true := by decide +kernel
theorem xv_15 : xokT 15 xt_15 = true := xokT_of (by decide +kernel) xe_15_0
set_option maxRecDepth 100000 in
theorem xe_16_0 : xall xt_16_0 (xokE 16) = true := by decide +kernel
theorem xv_16 : xokT 16 xt_16 = true := xokT_of (by decide +kernel) xe_16_0
set_option maxRecDepth 100000 in
theorem xe_17_0 : xall xt_17_0 (xokE 17) = true := by decide +kernel
theorem xv_17 : xokT 17 xt_17 = true := xokT_of (by decide +kernel) xe_17_0
set_option maxRecDepth 100000 in
theorem xe_18_0 : xall xt_18_0 (xokE 18) = true := by decide +kernel
theorem xv_18 : xokT 18 xt_18 = true := xokT_of (by decide +kernel) xe_18_0
set_option maxRecDepth 100000 in
theorem xe_19_0 : xall xt_19_0 (xokE 19) = true := by decide +kernel
theorem xv_19 : xokT 19 xt_19 = true := xokT_of (by decide +kernel) xe_19_0
set_option maxRecDepth 100000 in
theorem xe_20_0 : xall xt_20_0 (xokE 20) = true := by decide +kernel
theorem xv_20 : xokT 20 xt_20 = true := xokT_of (by decide +kernel) xe_20_0
set_option maxRecDepth 100000 in
theorem xe_21_0 : xall xt_21_0 (xokE 21) = true := by decide +kernel
theorem xv_21 : xokT 21 xt_21 = true := xokT_of (by decide +kernel) xe_21_0
set_option maxRecDepth 100000 in
theorem xe_22_0 : xall xt_22_0 (xokE 22) = true := by decide +kernel
theorem xv_22 : xokT 22 xt_22 = true := xokT_of (by decide +kernel) xe_22_0
set_option maxRecDepth 100000 in
theorem xe_23_0 : xall xt_23_0 (xokE 23) = true := by decide +kernel
theorem xv_23 : xokT 23 xt_23 = true := xokT_of (by decide +kernel) xe_23_0
set_option maxRecDepth 100000 in
theorem xe_24_0 : xall xt_24_0 (xokE 24) = true := by decide +kernel
theorem xv_24 : xokT 24 xt_24 = true := xokT_of (by decide +kernel) xe_24_0
set_option maxRecDepth 100000 in
theorem xe_25_0 : xall xt_25_0 (xokE 25) = true := by decide +kernel
theorem xv_25 : xokT 25 xt_25 = true := xokT_of (by decide +kernel) xe_25_0
set_option maxRecDepth 100000 in
theorem xe_26_0 : xall xt_26_0 (xokE 26) = true := by decide +kernel
theorem xv_26 : xokT 26 xt_26 = true := xokT_of (by decide +kernel) xe_26_0
set_option maxRecDepth 100000 in
theorem xe_27_0 : xall xt_27_0 (xokE 27) = true := by decide +kernel
theorem xv_27 : xokT 27 xt_27 = true := xokT_of (by decide +kernel) xe_27_0
set_option maxRecDepth 100000 in
theorem xe_28_0 : xall xt_28_0 (xokE 28) = true := by decide +kernel
theorem xv_28 : xokT 28 xt_28 = true := xokT_of (by decide +kernel) xe_28_0
set_option maxRecDepth 100000 in
theorem xe_29_0 : xall xt_29_0 (xokE 29) = true := by decide +kernel
theorem xv_29 : xokT 29 xt_29 = true := xokT_of (by decide +kernel) xe_29_0
set_option maxRecDepth 100000 in
theorem xe_30_0 : xall xt_30_0 (xokE 30) = true := by decide +kernel
theorem xv_30 : xokT 30 xt_30 = true := xokT_of (by decide +kernel) xe_30_0
set_option maxRecDepth 100000 in
theorem xe_31_0 : xall xt_31_0 (xokE 31) = true := by decide +kernel
theorem xv_31 : xokT 31 xt_31 = true := xokT_of (by decide +kernel) xe_31_0
set_option maxRecDepth 100000 in
theorem xe_32_0 : xall xt_32_0 (xokE 32) = true := by decide +kernel
theorem xv_32 : xokT 32 xt_32 = true := xokT_of (by decide +kernel) xe_32_0
set_option maxRecDepth 100000 in
theorem xe_33_0 : xall xt_33_0 (xokE 33) = true := by decide +kernel
theorem xv_33 : xokT 33 xt_33 = true := xokT_of (by decide +kernel) xe_33_0
set_option maxRecDepth 100000 in
theorem xe_34_0 : xall xt_34_0 (xokE 34) = true := by decide +kernel
theorem xv_34 : xokT 34 xt_34 = true := xokT_of (by decide +kernel) xe_34_0
set_option maxRecDepth 100000 in
theorem xe_35_0 : xall xt_35_0 (xokE 35) = true := by decide +kernel
theorem xv_35 : xokT 35 xt_35 = true := xokT_of (by decide +kernel) xe_35_0
set_option maxRecDepth 100000 in
theorem xe_36_0 : xall xt_36_0 (xokE 36) = true := by decide +kernel
theorem xv_36 : xokT 36 xt_36 = true := xokT_of (by decide +kernel) xe_36_0
set_option maxRecDepth 100000 in
theorem xe_37_0 : xall xt_37_0 (xokE 37) = true := by decide +kernel
theorem xv_37 : xokT 37 xt_37 = true := xokT_of (by decide +kernel) xe_37_0
set_option maxRecDepth 100000 in
theorem xe_38_0 : xall xt_38_0 (xokE 38) = true := by decide +kernel
theorem xv_38 : xokT 38 xt_38 = true := xokT_of (by decide +kernel) xe_38_0
set_option maxRecDepth 100000 in
theorem xe_39_0 : xall xt_39_0 (xokE 39) = true := by decide +kernel
theorem xv_39 : xokT 39 xt_39 = true := xokT_of (by decide +kernel) xe_39_0
set_option maxRecDepth 100000 in
theorem xe_40_0 : xall xt_40_0 (xokE 40) = true := by decide +kernel
theorem xv_40 : xokT 40 xt_40 = true := xokT_of (by decide +kernel) xe_40_0
set_option maxRecDepth 100000 in
theorem xe_41_0 : xall xt_41_0 (xokE 41) = true := by decide +kernel
theorem xv_41 : xokT 41 xt_41 = true := xokT_of (by decide +kernel) xe_41_0
set_option maxRecDepth 100000 in
theorem xe_42_0 : xall xt_42_0 (xokE 42) = true := by decide +kernel
theorem xv_42 : xokT 42 xt_42 = true := xokT_of (by decide +kernel) xe_42_0
set_option maxRecDepth 100000 in
theorem xe_43_0 : xall xt_43_0 (xokE 43) = true := by decide +kernel
theorem xv_43 : xokT 43 xt_43 = true := xokT_of (by decide +kernel) xe_43_0
set_option maxRecDepth 100000 in
theorem xe_44_0 : xall xt_44_0 (xokE 44) = true := by decide +kernel
theorem xv_44 : xokT 44 xt_44 = true := xokT_of (by decide +kernel) xe_44_0
set_option maxRecDepth 100000 in
theorem xe_45_0 : xall xt_45_0 (xokE 45) = true := by decide +kernel
theorem xv_45 : xokT 45 xt_45 = true := xokT_of (by decide +kernel) xe_45_0
set_option maxRecDepth 100000 in
theorem xe_46_0 : xall xt_46_0 (xokE 46) = true := by decide +kernel
theorem xv_46 : xokT 46 xt_46 = true := xokT_of (by decide +kernel) xe_46_0
set_option maxRecDepth 100000 in
theorem xe_47_0 : xall xt_47_0 (xokE 47) = true := by decide +kernel
theorem xv_47 : xokT 47 xt_47 = true := xokT_of (by decide +kernel) xe_47_0
set_option maxRecDepth 100000 in
theorem xe_48_0 : xall xt_48_0 (xokE 48) = true := by decide +kernel
theorem xv_48 : xokT 48 xt_48 = true := xokT_of (by decide +kernel) xe_48_0
set_option maxRecDepth 100000 in
theorem xe_49_0 : xall xt_49_0 (xokE 49) = true := by decide +kernel
theorem xv_49 : xokT 49 xt_49 = true := xokT_of (by decide +kernel) xe_49_0
set_option maxRecDepth 100000 in
theorem xe_50_0 : xall xt_50_0 (xokE 50) = true := by decide +kernel
theorem xv_50 : xokT 50 xt_50 = true := xokT_of (by decide +kernel) xe_50_0
set_option maxRecDepth 100000 in
theorem xe_51_0 : xall xt_51_0 (xokE 51) = true := by decide +kernel
theorem xv_51 : xokT 51 xt_51 = true := xokT_of (by decide +kernel) xe_51_0
set_option maxRecDepth 100000 in
theorem xe_52_0 : xall xt_52_0 (xokE 52) = true := by decide +kernel
theorem xv_52 : xokT 52 xt_52 = true := xokT_of (by decide +kernel) xe_52_0
set_option maxRecDepth 100000 in
theorem xe_53_0 : xall xt_53_0 (xokE 53) = true := by decide +kernel
theorem xv_53 : xokT 53 xt_53 = true := xokT_of (by decide +kernel) xe_53_0
set_option maxRecDepth 100000 in
theorem xe_54_0 : xall xt_54_0 (xokE 54) = true := by decide +kernel
theorem xv_54 : xokT 54 xt_54 = true := xokT_of (by decide +kernel) xe_54_0
set_option maxRecDepth 100000 in
theorem xe_55_0 : xall xt_55_0 (xokE 55) = true := by decide +kernel
theorem xv_55 : xokT 55 xt_55 = true := xokT_of (by decide +kernel) xe_55_0
set_option maxRecDepth 100000 in
theorem xe_56_0 : xall xt_56_0 (xokE 56) = true := by decide +kernel
theorem xv_56 : xokT 56 xt_56 = true := xokT_of (by decide +kernel) xe_56_0
set_option maxRecDepth 100000 in
theorem xe_57_0 : xall xt_57_0 (xokE 57) = true := by decide +kernel
theorem xv_57 : xokT 57 xt_57 = true := xokT_of (by decide +kernel) xe_57_0
set_option maxRecDepth 100000 in
theorem xe_58_0 : xall xt_58_0 (xokE 58) = true := by decide +kernel
theorem xv_58 : xokT 58 xt_58 = true := xokT_of (by decide +kernel) xe_58_0
set_option maxRecDepth 100000 in
theorem xe_59_0 : xall xt_59_0 (xokE 59) = true := by decide +kernel
theorem xv_59 : xokT 59 xt_59 = true := xokT_of (by decide +kernel) xe_59_0
set_option maxRecDepth 100000 in
theorem xe_60_0 : xall xt_60_0 (xokE 60) = true := by decide +kernel
theorem xv_60 : xokT 60 xt_60 = true := xokT_of (by decide +kernel) xe_60_0
set_option maxRecDepth 100000 in
theorem xe_61_0 : xall xt_61_0 (xokE 61) = true := by decide +kernel
theorem xv_61 : xokT 61 xt_61 = true := xokT_of (by decide +kernel) xe_61_0
set_option maxRecDepth 100000 in
theorem xe_62_0 : xall xt_62_0 (xokE 62) = true := by decide +kernel
theorem xv_62 : xokT 62 xt_62 = true := xokT_of (by decide +kernel) xe_62_0
set_option maxRecDepth 100000 in
theorem xe_63_0 : xall xt_63_0 (xokE 63) = true := by decide +kernel
theorem xv_63 : xokT 63 xt_63 = true := xokT_of (by decide +kernel) xe_63_0
set_option maxRecDepth 100000 in
theorem xe_64_0 : xall xt_64_0 (xokE 64) = true := by decide +kernel
theorem xv_64 : xokT 64 xt_64 = true := xokT_of (by decide +kernel) xe_64_0
set_option maxRecDepth 100000 in
theorem xe_65_0 : xall xt_65_0 (xokE 65) = true := by decide +kernel
theorem xv_65 : xokT 65 xt_65 = true := xokT_of (by decide +kernel) xe_65_0
set_option maxRecDepth 100000 in
theorem xe_66_0 : xall xt_66_0 (xokE 66) = true := by decide +kernel
theorem xv_66 : xokT 66 xt_66 = true := xokT_of (by decide +kernel) xe_66_0
set_option maxRecDepth 100000 in
theorem xe_67_0 : xall xt_67_0 (xokE 67) = true := by decide +kernel
theorem xv_67 : xokT 67 xt_67 = true := xokT_of (by decide +kernel) xe_67_0
set_option maxRecDepth 100000 in
theorem xe_68_0 : xall xt_68_0 (xokE 68) = true := by decide +kernel
theorem xv_68 : xokT 68 xt_68 = true := xokT_of (by decide +kernel) xe_68_0
set_option maxRecDepth 100000 in
theorem xe_69_0 : xall xt_69_0 (xokE 69) = true := by decide +kernel
theorem xv_69 : xokT 69 xt_69 = true := xokT_of (by decide +kernel) xe_69_0
set_option maxRecDepth 100000 in
theorem xe_70_0 : xall xt_70_0 (xokE 70) = true := by decide +kernel
theorem xv_70 : xokT 70 xt_70 = true := xokT_of (by decide +kernel) xe_70_0
set_option maxRecDepth 100000 in
theorem xe_71_0 : xall xt_71_0 (xokE 71) = true := by decide +kernel
theorem xv_71 : xokT 71 xt_71 = true := xokT_of (by decide +kernel) xe_71_0
set_option maxRecDepth 100000 in
theorem xe_72_0 : xall xt_72_0 (xokE 72) = true := by decide +kernel
theorem xv_72 : xokT 72 xt_72 = true := xokT_of (by decide +kernel) xe_72_0
set_option maxRecDepth 100000 in
theorem xe_73_0 : xall xt_73_0 (xokE 73) = true := by decide +kernel
theorem xv_73 : xokT 73 xt_73 = true := xokT_of (by decide +kernel) xe_73_0
set_option maxRecDepth 100000 in
theorem xe_74_0 : xall xt_74_0 (xokE 74) = true := by decide +kernel
theorem xv_74 : xokT 74 xt_74 = true := xokT_of (by decide +kernel) xe_74_0
set_option maxRecDepth 100000 in
theorem xe_75_0 : xall xt_75_0 (xokE 75) = true := by decide +kernel
theorem xv_75 : xokT 75 xt_75 = true := xokT_of (by decide +kernel) xe_75_0
set_option maxRecDepth 100000 in
theorem xe_76_0 : xall xt_76_0 (xokE 76) = true := by decide +kernel
theorem xv_76 : xokT 76 xt_76 = true := xokT_of (by decide +kernel) xe_76_0
set_option maxRecDepth 100000 in
theorem xe_77_0 : xall xt_77_0 (xokE 77) = true := by decide +kernel
theorem xv_77 : xokT 77 xt_77 = true := xokT_of (by decide +kernel) xe_77_0
set_option maxRecDepth 100000 in
theorem xe_78_0 : xall xt_78_0 (xokE 78) = true := by decide +kernel
theorem xv_78 : xokT 78 xt_78 = true := xokT_of (by decide +kernel) xe_78_0
set_option maxRecDepth 100000 in
theorem xe_79_0 : xall xt_79_0 (xokE 79) = true := by decide +kernel
theorem xv_79 : xokT 79 xt_79 = true := xokT_of (by decide +kernel) xe_79_0
set_option maxRecDepth 100000 in
theorem xe_80_0 : xall xt_80_0 (xokE 80) = true := by decide +kernel
theorem xv_80 : xokT 80 xt_80 = true := xokT_of (by decide +kernel) xe_80_0
set_option maxRecDepth 100000 in
theorem xe_81_0 : xall xt_81_0 (xokE 81) = true := by decide +kernel
theorem xv_81 : xokT 81 xt_81 = true := xokT_of (by decide +kernel) xe_81_0
set_option maxRecDepth 100000 in
theorem xe_82_0 : xall xt_82_0 (xokE 82) = true := by decide +kernel
theorem xv_82 : xokT 82 xt_82 = true := xokT_of (by decide +kernel) xe_82_0
set_option maxRecDepth 100000 in
theorem xe_83_0 : xall xt_83_0 (xokE 83) = true := by decide +kernel
theorem xv_83 : xokT 83 xt_83 = true := xokT_of (by decide +kernel) xe_83_0
set_option maxRecDepth 100000 in
theorem xe_84_0 : xall xt_84_0 (xokE 84) = true := by decide +kernel
theorem xv_84 : xokT 84 xt_84 = true := xokT_of (by decide +kernel) xe_84_0
set_option maxRecDepth 100000 in
theorem xe_85_0 : xall xt_85_0 (xokE 85) = true := by decide +kernel
theorem xv_85 : xokT 85 xt_85 = true := xokT_of (by decide +kernel) xe_85_0
set_option maxRecDepth 100000 in
theorem xe_86_0 : xall xt_86_0 (xokE 86) = true := by decide +kernel
theorem xv_86 : xokT 86 xt_86 = true := xokT_of (by decide +kernel) xe_86_0
set_option maxRecDepth 100000 in
theorem xe_87_0 : xall xt_87_0 (xokE 87) = true := by decide +kernel
theorem xv_87 : xokT 87 xt_87 = true := xokT_of (by decide +kernel) xe_87_0
set_option maxRecDepth 100000 in
theorem xe_88_0 : xall xt_88_0 (xokE 88) = true := by decide +kernel
theorem xv_88 : xokT 88 xt_88 = true := xokT_of (by decide +kernel) xe_88_0
set_option maxRecDepth 100000 in
theorem xe_89_0 : xall xt_89_0 (xokE 89) = true := by decide +kernel
theorem xv_89 : xokT 89 xt_89 = true := xokT_of (by decide +kernel) xe_89_0
set_option maxRecDepth 100000 in
theorem xe_90_0 : xall xt_90_0 (xokE 90) = true := by decide +kernel
theorem xv_90 : xokT 90 xt_90 = true := xokT_of (by decide +kernel) xe_90_0
set_option maxRecDepth 100000 in
theorem xe_91_0 : xall xt_91_0 (xokE 91) = true := by decide +kernel
theorem xv_91 : xokT 91 xt_91 = true := xokT_of (by decide +kernel) xe_91_0
set_option maxRecDepth 100000 in
theorem xe_92_0 : xall xt_92_0 (xokE 92) = true := by decide +kernel
theorem xv_92 : xokT 92 xt_92 = true := xokT_of (by decide +kernel) xe_92_0
set_option maxRecDepth 100000 in
theorem xe_93_0 : xall xt_93_0 (xokE 93) = true := by decide +kernel
theorem xv_93 : xokT 93 xt_93 = true := xokT_of (by decide +kernel) xe_93_0
set_option maxRecDepth 100000 in
theorem xe_94_0 : xall xt_94_0 (xokE 94) = true := by decide +kernel
theorem xv_94 : xokT 94 xt_94 = true := xokT_of (by decide +kernel) xe_94_0
set_option maxRecDepth 100000 in
theorem xe_95_0 : xall xt_95_0 (xokE 95) = true := by decide +kernel
theorem xv_95 : xokT 95 xt_95 = true := xokT_of (by decide +kernel) xe_95_0
set_option maxRecDepth 100000 in
theorem xe_96_0 : xall xt_96_0 (xokE 96) = true := by decide +kernel
theorem xv_96 : xokT 96 xt_96 = true := xokT_of (by decide +kernel) xe_96_0
set_option maxRecDepth 100000 in
theorem xe_97_0 : xall xt_97_0 (xokE 97) = true := by decide +kernel
theorem xv_97 : xokT 97 xt_97 = true := xokT_of (by decide +kernel) xe_97_0
set_option maxRecDepth 100000 in
theorem xe_98_0 : xall xt_98_0 (xokE 98) = true := by decide +kernel
theorem xv_98 : xokT 98 xt_98 = true := xokT_of (by decide +kernel) xe_98_0
set_option maxRecDepth 100000 in
theorem xe_99_0 : xall xt_99_0 (xokE 99) = true := by decide +kernel
theorem xv_99 : xokT 99 xt_99 = true := xokT_of (by decide +kernel) xe_99_0
set_option maxRecDepth 100000 in
theorem xe_100_0 : xall xt_100_0 (xokE 100) = true := by decide +kernel
theorem xv_100 : xokT 100 xt_100 = true := xokT_of (by decide +kernel) xe_100_0
set_option maxRecDepth 100000 in
theorem xe_101_0 : xall xt_101_0 (xokE 101) = true := by decide +kernel
theorem xv_101 : xokT 101 xt_101 = true := xokT_of (by decide +kernel) xe_101_0
set_option maxRecDepth 100000 in
theorem xe_102_0 : xall xt_102_0 (xokE 102) = true := by decide +kernel
theorem xv_102 : xokT 102 xt_102 = true := xokT_of (by decide +kernel) xe_102_0
set_option maxRecDepth 100000 in
theorem xe_103_0 : xall xt_103_0 (xokE 103) = true := by decide +kernel
theorem xv_103 : xokT 103 xt_103 = true := xokT_of (by decide +kernel) xe_103_0
set_option maxRecDepth 100000 in
theorem xe_104_0 : xall xt_104_0 (xokE 104) = true := by decide +kernel
theorem xv_104 : xokT 104 xt_104 = true := xokT_of (by decide +kernel) xe_104_0
set_option maxRecDepth 100000 in
theorem xe_105_0 : xall xt_105_0 (xokE 105) = true := by decide +kernel
theorem xv_105 : xokT 105 xt_105 = true := xokT_of (by decide +kernel) xe_105_0
set_option maxRecDepth 100000 in
theorem xe_106_0 : xall xt_106_0 (xokE 106) = true := by decide +kernel
theorem xv_106 : xokT 106 xt_106 = true := xokT_of (by decide +kernel) xe_106_0
set_option maxRecDepth 100000 in
theorem xe_107_0 : xall xt_107_0 (xokE 107) = true := by decide +kernel
theorem xv_107 : xokT 107 xt_107 = true := xokT_of (by decide +kernel) xe_107_0
set_option maxRecDepth 100000 in
theorem xe_108_0 : xall xt_108_0 (xokE 108) = true := by decide +kernel
theorem xv_108 : xokT 108 xt_108 = true := xokT_of (by decide +kernel) xe_108_0
set_option maxRecDepth 100000 in
theorem xe_109_0 : xall xt_109_0 (xokE 109) = true := by decide +kernel
theorem xv_109 : xokT 109 xt_109 = true := xokT_of (by decide +kernel) xe_109_0
set_option maxRecDepth 100000 in
theorem xe_110_0 : xall xt_110_0 (xokE 110) = true := by decide +kernel
theorem xv_110 : xokT 110 xt_110 = true := xokT_of (by decide +kernel) xe_110_0
set_option maxRecDepth 100000 in
theorem xe_111_0 : xall xt_111_0 (xokE 111) = true := by decide +kernel
theorem xv_111 : xokT 111 xt_111 = true := xokT_of (by decide +kernel) xe_111_0
set_option maxRecDepth 100000 in
theorem xe_112_0 : xall xt_112_0 (xokE 112) = true := by decide +kernel
theorem xv_112 : xokT 112 xt_112 = true := xokT_of (by decide +kernel) xe_112_0
set_option maxRecDepth 100000 in
theorem xe_113_0 : xall xt_113_0 (xokE 113) = true := by decide +kernel
theorem xv_113 : xokT 113 xt_113 = true := xokT_of (by decide +kernel) xe_113_0
set_option maxRecDepth 100000 in
theorem xe_114_0 : xall xt_114_0 (xokE 114) = true := by decide +kernel
theorem xv_114 : xokT 114 xt_114 = true := xokT_of (by decide +kernel) xe_114_0
set_option maxRecDepth 100000 in
theorem xe_115_0 : xall xt_115_0 (xokE 115) = true := by decide +kernel
theorem xv_115 : xokT 115 xt_115 = true := xokT_of (by decide +kernel) xe_115_0
set_option maxRecDepth 100000 in
theorem xe_116_0 : xall xt_116_0 (xokE 116) = true := by decide +kernel
theorem xv_116 : xokT 116 xt_116 = true := xokT_of (by decide +kernel) xe_116_0
set_option maxRecDepth 100000 in
theorem xe_117_0 : xall xt_117_0 (xokE 117) = true := by decide +kernel
theorem xv_117 : xokT 117 xt_117 = true := xokT_of (by decide +kernel) xe_117_0
set_option maxRecDepth 100000 in
theorem xe_118_0 : xall xt_118_0 (xokE 118) = true := by decide +kernel
theorem xv_118 : xokT 118 xt_118 = true := xokT_of (by decide +kernel) xe_118_0
set_option maxRecDepth 100000 in
theorem xe_119_0 : xall xt_119_0 (xokE 119) = true := by decide +kernel
theorem xv_119 : xokT 119 xt_119 = true := xokT_of (by decide +kernel) xe_119_0
set_option maxRecDepth 100000 in
theorem xe_120_0 : xall xt_120_0 (xokE 120) = true := by decide +kernel
theorem xv_120 : xokT 120 xt_120 = true := xokT_of (by decide +kernel) xe_120_0
set_option maxRecDepth 100000 in
theorem xe_121_0 : xall xt_121_0 (xokE 121) = true := by decide +kernel
theorem xv_121 : xokT 121 xt_121 = true := xokT_of (by decide +kernel) xe_121_0
set_option maxRecDepth 100000 in
theorem xe_122_0 : xall xt_122_0 (xokE 122) = true := by decide +kernel
theorem xv_122 : xokT 122 xt_122 = true := xokT_of (by decide +kernel) xe_122_0
set_option maxRecDepth 100000 in
theorem xe_123_0 : xall xt_123_0 (xokE 123) = true := by decide +kernel
theorem xv_123 : xokT 123 xt_123 = true := xokT_of (by decide +kernel) xe_123_0
set_option maxRecDepth 100000 in
theorem xe_124_0 : xall xt_124_0 (xokE 124) = true := by decide +kernel
theorem xv_124 : xokT 124 xt_124 = true := xokT_of (by decide +kernel) xe_124_0
set_option maxRecDepth 100000 in
theorem xe_125_0 : xall xt_125_0 (xokE 125) = true := by decide +kernel
theorem xv_125 : xokT 125 xt_125 = true := xokT_of (by decide +kernel) xe_125_0
set_option maxRecDepth 100000 in
theorem xe_126_0 : xall xt_126_0 (xokE 126) = true := by decide +kernel
theorem xv_126 : xokT 126 xt_126 = true := xokT_of (by decide +kernel) xe_126_0
set_option maxRecDepth 100000 in
theorem xe_127_0 : xall xt_127_0 (xokE 127) = true := by decide +kernel
theorem xv_127 : xokT 127 xt_127 = true := xokT_of (by decide +kernel) xe_127_0
set_option maxRecDepth 100000 in
theorem xe_128_0 : xall xt_128_0 (xokE 128) = true := by decide +kernel
theorem xv_128 : xokT 128 xt_128 = true := xokT_of (by decide +kernel) xe_128_0
set_option maxRecDepth 100000 in
theorem xe_129_0 : xall xt_129_0 (xokE 129) = true := by decide +kernel
theorem xv_129 : xokT 129 xt_129 = true := xokT_of (by decide +kernel) xe_129_0
set_option maxRecDepth 100000 in
theorem xe_130_0 : xall xt_130_0 (xokE 130) = true := by decide +kernel
theorem xv_130 : xokT 130 xt_130 = true := xokT_of (by decide +kernel) xe_130_0
set_option maxRecDepth 100000 in
theorem xe_131_0 : xall xt_131_0 (xokE 131) = true := by decide +kernel
theorem xv_131 : xokT 131 xt_131 = true := xokT_of (by decide +kernel) xe_131_0
set_option maxRecDepth 100000 in
theorem xe_132_0 : xall xt_132_0 (xokE 132) = true := by decide +kernel
theorem xv_132 : xokT 132 xt_132 = true := xokT_of (by decide +kernel) xe_132_0
set_option maxRecDepth 100000 in
theorem xe_133_0 : xall xt_133_0 (xokE 133) = true := by decide +kernel
theorem xv_133 : xokT 133 xt_133 = true := xokT_of (by decide +kernel) xe_133_0
set_option maxRecDepth 100000 in
theorem xe_134_0 : xall xt_134_0 (xokE 134) = true := by decide +kernel
theorem xv_134 : xokT 134 xt_134 = true := xokT_of (by decide +kernel) xe_134_0
set_option maxRecDepth 100000 in
theorem xe_135_0 : xall xt_135_0 (xokE 135) = true := by decide +kernel
theorem xv_135 : xokT 135 xt_135 = true := xokT_of (by decide +kernel) xe_135_0
set_option maxRecDepth 100000 in
theorem xe_136_0 : xall xt_136_0 (xokE 136) = true := by decide +kernel
theorem xv_136 : xokT 136 xt_136 = true := xokT_of (by decide +kernel) xe_136_0
set_option maxRecDepth 100000 in
theorem xe_137_0 : xall xt_137_0 (xokE 137) = true := by decide +kernel
theorem xv_137 : xokT 137 xt_137 = true := xokT_of (by decide +kernel) xe_137_0
set_option maxRecDepth 100000 in
theorem xe_138_0 : xall xt_138_0 (xokE 138) = true := by decide +kernel
theorem xv_138 : xokT 138 xt_138 = true := xokT_of (by decide +kernel) xe_138_0
set_option maxRecDepth 100000 in
theorem xe_139_0 : xall xt_139_0 (xokE 139) = true := by decide +kernel
theorem xv_139 : xokT 139 xt_139 = true := xokT_of (by decide +kernel) xe_139_0
set_option maxRecDepth 100000 in
theorem xe_140_0 : xall xt_140_0 (xokE 140) = true := by decide +kernel
theorem xv_140 : xokT 140 xt_140 = true := xokT_of (by decide +kernel) xe_140_0
set_option maxRecDepth 100000 in
theorem xe_141_0 : xall xt_141_0 (xokE 141) = true := by decide +kernel
theorem xv_141 : xokT 141 xt_141 = true := xokT_of (by decide +kernel) xe_141_0
set_option maxRecDepth 100000 in
theorem xe_142_0 : xall xt_142_0 (xokE 142) = true := by decide +kernel
theorem xv_142 : xokT 142 xt_142 = true := xokT_of (by decide +kernel) xe_142_0
set_option maxRecDepth 100000 in
theorem xe_143_0 : xall xt_143_0 (xokE 143) = true := by decide +kernel
theorem xv_143 : xokT 143 xt_143 = true := xokT_of (by decide +kernel) xe_143_0
set_option maxRecDepth 100000 in
theorem xe_144_0 : xall xt_144_0 (xokE 144) = true := by decide +kernel
theorem xv_144 : xokT 144 xt_144 = true := xokT_of (by decide +kernel) xe_144_0
set_option maxRecDepth 100000 in
theorem xe_145_0 : xall xt_145_0 (xokE 145) = true := by decide +kernel
theorem xv_145 : xokT 145 xt_145 = true := xokT_of (by decide +kernel) xe_145_0
set_option maxRecDepth 100000 in
theorem xe_146_0 : xall xt_146_0 (xokE 146) = true := by decide +kernel
theorem xv_146 : xokT 146 xt_146 = true := xokT_of (by decide +kernel) xe_146_0
set_option maxRecDepth 100000 in
theorem xe_147_0 : xall xt_147_0 (xokE 147) = true := by decide +kernel
theorem xv_147 : xokT 147 xt_147 = true := xokT_of (by decide +kernel) xe_147_0
set_option maxRecDepth 100000 in
theorem xe_148_0 : xall xt_148_0 (xokE 148) = true := by decide +kernel
theorem xv_148 : xokT 148 xt_148 = true := xokT_of (by decide +kernel) xe_148_0
set_option maxRecDepth 100000 in
theorem xe_149_0 : xall xt_149_0 (xokE 149) = true := by decide +kernel
theorem xv_149 : xokT 149 xt_149 = true := xokT_of (by decide +kernel) xe_149_0
set_option maxRecDepth 100000 in
theorem xe_150_0 : xall xt_150_0 (xokE 150) = true := by decide +kernel
theorem xv_150 : xokT 150 xt_150 = true := xokT_of (by decide +kernel) xe_150_0
set_option maxRecDepth 100000 in
theorem xe_151_0 : xall xt_151_0 (xokE 151) = true := by decide +kernel
theorem xv_151 : xokT 151 xt_151 = true := xokT_of (by decide +kernel) xe_151_0
set_option maxRecDepth 100000 in
theorem xe_152_0 : xall xt_152_0 (xokE 152) = true := by decide +kernel
theorem xv_152 : xokT 152 xt_152 = true := xokT_of (by decide +kernel) xe_152_0
set_option maxRecDepth 100000 in
theorem xe_153_0 : xall xt_153_0 (xokE 153) = true := by decide +kernel
theorem xv_153 : xokT 153 xt_153 = true := xokT_of (by decide +kernel) xe_153_0
set_option maxRecDepth 100000 in
theorem xe_154_0 : xall xt_154_0 (xokE 154) = true := by decide +kernel
theorem xv_154 : xokT 154 xt_154 = true := xokT_of (by decide +kernel) xe_154_0
set_option maxRecDepth 100000 in
theorem xe_155_0 : xall xt_155_0 (xokE 155) = true := by decide +kernel
theorem xv_155 : xokT 155 xt_155 = true := xokT_of (by decide +kernel) xe_155_0
set_option maxRecDepth 100000 in
theorem xe_156_0 : xall xt_156_0 (xokE 156) = true := by decide +kernel
theorem xv_156 : xokT 156 xt_156 = true := xokT_of (by decide +kernel) xe_156_0
set_option maxRecDepth 100000 in
theorem xe_157_0 : xall xt_157_0 (xokE 157) = true := by decide +kernel
theorem xv_157 : xokT 157 xt_157 = true := xokT_of (by decide +kernel) xe_157_0
set_option maxRecDepth 100000 in
theorem xe_158_0 : xall xt_158_0 (xokE 158) = true := by decide +kernel
theorem xv_158 : xokT 158 xt_158 = true := xokT_of (by decide +kernel) xe_158_0
set_option maxRecDepth 100000 in
theorem xe_159_0 : xall xt_159_0 (xokE 159) = true := by decide +kernel
theorem xv_159 : xokT 159 xt_159 = true := xokT_of (by decide +kernel) xe_159_0
set_option maxRecDepth 100000 in
theorem xe_160_0 : xall xt_160_0 (xokE 160) = true := by decide +kernel
theorem xv_160 : xokT 160 xt_160 = true := xokT_of (by decide +kernel) xe_160_0
set_option maxRecDepth 100000 in
theorem xe_161_0 : xall xt_161_0 (xokE 161) = true := by decide +kernel
theorem xv_161 : xokT 161 xt_161 = true := xokT_of (by decide +kernel) xe_161_0
set_option maxRecDepth 100000 in
theorem xe_162_0 : xall xt_162_0 (xokE 162) = true := by decide +kernel
theorem xv_162 : xokT 162 xt_162 = true := xokT_of (by decide +kernel) xe_162_0
set_option maxRecDepth 100000 in
theorem xe_163_0 : xall xt_163_0 (xokE 163) = true := by decide +kernel
theorem xv_163 : xokT 163 xt_163 = true := xokT_of (by decide +kernel) xe_163_0
set_option maxRecDepth 100000 in
theorem xe_164_0 : xall xt_164_0 (xokE 164) = true := by decide +kernel
theorem xv_164 : xokT 164 xt_164 = true := xokT_of (by decide +kernel) xe_164_0
set_option maxRecDepth 100000 in
theorem xe_165_0 : xall xt_165_0 (xokE 165) = true := by decide +kernel
theorem xv_165 : xokT 165 xt_165 = true := xokT_of (by decide +kernel) xe_165_0
set_option maxRecDepth 100000 in
theorem xe_166_0 : xall xt_166_0 (xokE 166) = true := by decide +kernel
theorem xv_166 : xokT 166 xt_166 = true := xokT_of (by decide +kernel) xe_166_0
set_option maxRecDepth 100000 in
theorem xe_167_0 : xall xt_167_0 (xokE 167) = true := by decide +kernel
theorem xv_167 : xokT 167 xt_167 = true := xokT_of (by decide +kernel) xe_167_0
set_option maxRecDepth 100000 in
theorem xe_168_0 : xall xt_168_0 (xokE 168) = true := by decide +kernel
theorem xv_168 : xokT 168 xt_168 = true := xokT_of (by decide +kernel) xe_168_0
set_option maxRecDepth 100000 in
theorem xe_169_0 : xall xt_169_0 (xokE 169) = true := by decide +kernel
theorem xv_169 : xokT 169 xt_169 = true := xokT_of (by decide +kernel) xe_169_0
set_option maxRecDepth 100000 in
theorem xe_170_0 : xall xt_170_0 (xokE 170) = true := by decide +kernel
theorem xv_170 : xokT 170 xt_170 = true := xokT_of (by decide +kernel) xe_170_0
set_option maxRecDepth 100000 in
theorem xe_171_0 : xall xt_171_0 (xokE 171) = true := by decide +kernel
theorem xv_171 : xokT 171 xt_171 = true := xokT_of (by decide +kernel) xe_171_0
set_option maxRecDepth 100000 in
theorem xe_172_0 : xall xt_172_0 (xokE 172) = true := by decide +kernel
theorem xv_172 : xokT 172 xt_172 = true := xokT_of (by decide +kernel) xe_172_0
set_option maxRecDepth 100000 in
theorem xe_173_0 : xall xt_173_0 (xokE 173) = true := by decide +kernel
theorem xv_173 : xokT 173 xt_173 = true := xokT_of (by decide +kernel) xe_173_0
set_option maxRecDepth 100000 in
theorem xe_174_0 : xall xt_174_0 (xokE 174) = true := by decide +kernel
theorem xv_174 : xokT 174 xt_174 = true := xokT_of (by decide +kernel) xe_174_0
set_option maxRecDepth 100000 in
theorem xe_175_0 : xall xt_175_0 (xokE 175) = true := by decide +kernel
theorem xv_175 : xokT 175 xt_175 = true := xokT_of (by decide +kernel) xe_175_0
set_option maxRecDepth 100000 in
theorem xe_176_0 : xall xt_176_0 (xokE 176) = true := by decide +kernel
theorem xv_176 : xokT 176 xt_176 = true := xokT_of (by decide +kernel) xe_176_0
set_option maxRecDepth 100000 in
theorem xe_177_0 : xall xt_177_0 (xokE 177) = true := by decide +kernel
theorem xv_177 : xokT 177 xt_177 = true := xokT_of (by decide +kernel) xe_177_0
set_option maxRecDepth 100000 in
theorem xe_178_0 : xall xt_178_0 (xokE 178) = true := by decide +kernel
theorem xv_178 : xokT 178 xt_178 = true := xokT_of (by decide +kernel) xe_178_0
set_option maxRecDepth 100000 in
theorem xe_179_0 : xall xt_179_0 (xokE 179) = true := by decide +kernel
theorem xv_179 : xokT 179 xt_179 = true := xokT_of (by decide +kernel) xe_179_0
set_option maxRecDepth 100000 in
theorem xe_180_0 : xall xt_180_0 (xokE 180) = true := by decide +kernel
theorem xv_180 : xokT 180 xt_180 = true := xokT_of (by decide +kernel) xe_180_0
set_option maxRecDepth 100000 in
theorem xe_181_0 : xall xt_181_0 (xokE 181) = true := by decide +kernel
theorem xv_181 : xokT 181 xt_181 = true := xokT_of (by decide +kernel) xe_181_0
set_option maxRecDepth 100000 in
theorem xe_182_0 : xall xt_182_0 (xokE 182) = true := by decide +kernel
theorem xv_182 : xokT 182 xt_182 = true := xokT_of (by decide +kernel) xe_182_0
set_option maxRecDepth 100000 in
theorem xe_183_0 : xall xt_183_0 (xokE 183) = true := by decide +kernel
theorem xv_183 : xokT 183 xt_183 = true := xokT_of (by decide +kernel) xe_183_0
set_option maxRecDepth 100000 in
theorem xe_184_0 : xall xt_184_0 (xokE 184) = true := by decide +kernel
theorem xv_184 : xokT 184 xt_184 = true := xokT_of (by decide +kernel) xe_184_0
set_option maxRecDepth 100000 in
theorem xe_185_0 : xall xt_185_0 (xokE 185) = true := by decide +kernel
theorem xv_185 : xokT 185 xt_185 = true := xokT_of (by decide +kernel) xe_185_0
set_option maxRecDepth 100000 in
theorem xe_186_0 : xall xt_186_0 (xokE 186) = true := by decide +kernel
theorem xv_186 : xokT 186 xt_186 = true := xokT_of (by decide +kernel) xe_186_0
set_option maxRecDepth 100000 in
theorem xe_187_0 : xall xt_187_0 (xokE 187) = true := by decide +kernel
theorem xv_187 : xokT 187 xt_187 = true := xokT_of (by decide +kernel) xe_187_0
set_option maxRecDepth 100000 in
theorem xcode_ok : xall xcode xokT = true := (xal_b (xal_b (xal_b (xal_b (xal_b (xal_b (xal_b xv_0 xv_1) (xal_b xv_2 (xal_b xv_3 xv_4))) (xal_b (xal_b xv_5 (xal_b xv_6 xv_7)) (xal_b xv_8 (xal_b xv_9 xv_10)))) (xal_b (xal_b (xal_b xv_11 (xal_b xv_12 xv_13)) (xal_b xv_14 (xal_b xv_15 xv_16))) (xal_b (xal_b xv_17 (xal_b xv_18 xv_19)) (xal_b xv_20 (xal_b xv_21 xv_22))))) (xal_b (xal_b (xal_b (xal_b xv_23 (xal_b xv_24 xv_25)) (xal_b xv_26 (xal_b xv_27 xv_28))) (xal_b (xal_b xv_29 (xal_b xv_30 xv_31)) (xal_b xv_32 (xal_b xv_33 xv_34)))) (xal_b (xal_b (xal_b xv_35 (xal_b xv_36 xv_37)) (xal_b xv_38 (xal_b xv_39 xv_40))) (xal_b (xal_b xv_41 (xal_b xv_42 xv_43)) (xal_b xv_44 (xal_b xv_45 xv_46)))))) (xal_b (xal_b (xal_b (xal_b (xal_b xv_47 xv_48) (xal_b xv_49 (xal_b xv_50 xv_51))) (xal_b (xal_b xv_52 (xal_b xv_53 xv_54)) (xal_b xv_55 (xal_b xv_56 xv_57)))) (xal_b (xal_b (xal_b xv_58 (xal_b xv_59 xv_60)) (xal_b xv_61 (xal_b xv_62 xv_63))) (xal_b (xal_b xv_64 (xal_b xv_65 xv_66)) (xal_b xv_67 (xal_b xv_68 xv_69))))) (xal_b (xal_b (xal_b (xal_b xv_70 (xal_b xv_71 xv_72)) (xal_b xv_73 (xal_b xv_74 xv_75))) (xal_b (xal_b xv_76 (xal_b xv_77 xv_78)) (xal_b xv_79 (xal_b xv_80 xv_81)))) (xal_b (xal_b (xal_b xv_82 (xal_b xv_83 xv_84)) (xal_b xv_85 (xal_b xv_86 xv_87))) (xal_b (xal_b xv_88 (xal_b xv_89 xv_90)) (xal_b xv_91 (xal_b xv_92 xv_93))))))) (xal_b (xal_b (xal_b (xal_b (xal_b (xal_b xv_94 xv_95) (xal_b xv_96 (xal_b xv_97 xv_98))) (xal_b (xal_b xv_99 (xal_b xv_100 xv_101)) (xal_b xv_102 (xal_b xv_103 xv_104)))) (xal_b (xal_b (xal_b xv_105 (xal_b xv_106 xv_107)) (xal_b xv_108 (xal_b xv_109 xv_110))) (xal_b (xal_b xv_111 (xal_b xv_112 xv_113)) (xal_b xv_114 (xal_b xv_115 xv_116))))) (xal_b (xal_b (xal_b (xal_b xv_117 (xal_b xv_118 xv_119)) (xal_b xv_120 (xal_b xv_121 xv_122))) (xal_b (xal_b xv_123 (xal_b xv_124 xv_125)) (xal_b xv_126 (xal_b xv_127 xv_128)))) (xal_b (xal_b (xal_b xv_129 (xal_b xv_130 xv_131)) (xal_b xv_132 (xal_b xv_133 xv_134))) (xal_b (xal_b xv_135 (xal_b xv_136 xv_137)) (xal_b xv_138 (xal_b xv_139 xv_140)))))) (xal_b (xal_b (xal_b (xal_b (xal_b xv_141 xv_142) (xal_b xv_143 (xal_b xv_144 xv_145))) (xal_b (xal_b xv_146 (xal_b xv_147 xv_148)) (xal_b xv_149 (xal_b xv_150 xv_151)))) (xal_b (xal_b (xal_b xv_152 (xal_b xv_153 xv_154)) (xal_b xv_155 (xal_b xv_156 xv_157))) (xal_b (xal_b xv_158 (xal_b xv_159 xv_160)) (xal_b xv_161 (xal_b xv_162 xv_163))))) (xal_b (xal_b (xal_b (xal_b xv_164 (xal_b xv_165 xv_166)) (xal_b xv_167 (xal_b xv_168 xv_169))) (xal_b (xal_b xv_170 (xal_b xv_171 xv_172)) (xal_b xv_173 (xal_b xv_174 xv_175)))) (xal_b (xal_b (xal_b xv_176 (xal_b xv_177 xv_178)) (xal_b xv_179 (xal_b xv_180 xv_181))) (xal_b (xal_b xv_182 (xal_b xv_183 xv_184)) (xal_b xv_185 (xal_b xv_186 xv_187))))))))
theorem xTab : xOK vwCl xnest xtxt xovr xcode xmeth xobj xby xnm xrtt xgw := xOK_of xcode_ok
end
