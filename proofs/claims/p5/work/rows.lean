section
-- ===== PART A: goes FIRST, ahead of the names: the tables' words, and 'selects' of the private methods out of them =====
/-- a private method of a class that the tables say can be made, by its rows of tables_1 -/
def lw_okq (q : MethodName × Nat) : Prop := (q.1.cls ≠ "java/lang/invoke/MethodHandle" ∧ q.1.cls ≠ "java/lang/invoke/VarHandle") ∧ Cond.instantiable q.1.cls q.2 ∈ tables_1 ∧ Cond.privateMethod q.1 ∈ tables_1 ∧ Cond.instanceMethod q.1 ∈ tables_1
theorem lw_p0 : lw_okq (⟨"OathTill", "deny", "(I)Z"⟩, 18) := ⟨⟨by decide +kernel, by decide +kernel⟩, List.mem_of_getElem? (i := 22) (by decide +kernel), List.mem_of_getElem? (i := 672) (by decide +kernel), List.mem_of_getElem? (i := 673) (by decide +kernel)⟩
theorem lw_p1 : lw_okq (⟨"OathTill", "agree", "()Z"⟩, 18) := ⟨⟨by decide +kernel, by decide +kernel⟩, List.mem_of_getElem? (i := 22) (by decide +kernel), List.mem_of_getElem? (i := 680) (by decide +kernel), List.mem_of_getElem? (i := 681) (by decide +kernel)⟩
theorem lw_p2 : lw_okq (⟨"OathTill", "placeTrouble", "(II)I"⟩, 18) := ⟨⟨by decide +kernel, by decide +kernel⟩, List.mem_of_getElem? (i := 22) (by decide +kernel), List.mem_of_getElem? (i := 688) (by decide +kernel), List.mem_of_getElem? (i := 689) (by decide +kernel)⟩
theorem lw_p3 : lw_okq (⟨"OathTill", "refuse", "(I)I"⟩, 18) := ⟨⟨by decide +kernel, by decide +kernel⟩, List.mem_of_getElem? (i := 22) (by decide +kernel), List.mem_of_getElem? (i := 700) (by decide +kernel), List.mem_of_getElem? (i := 701) (by decide +kernel)⟩
theorem lw_p4 : lw_okq (⟨"OathTill", "pourTrouble", "(IIIII)I"⟩, 18) := ⟨⟨by decide +kernel, by decide +kernel⟩, List.mem_of_getElem? (i := 22) (by decide +kernel), List.mem_of_getElem? (i := 708) (by decide +kernel), List.mem_of_getElem? (i := 709) (by decide +kernel)⟩
theorem lw_p5 : lw_okq (⟨"OathTill", "append", "(I)V"⟩, 18) := ⟨⟨by decide +kernel, by decide +kernel⟩, List.mem_of_getElem? (i := 22) (by decide +kernel), List.mem_of_getElem? (i := 719) (by decide +kernel), List.mem_of_getElem? (i := 720) (by decide +kernel)⟩
theorem lw_p6 : lw_okq (⟨"OathTill$Reader", "takePart", "()Z"⟩, 7) := ⟨⟨by decide +kernel, by decide +kernel⟩, List.mem_of_getElem? (i := 388) (by decide +kernel), List.mem_of_getElem? (i := 750) (by decide +kernel), List.mem_of_getElem? (i := 751) (by decide +kernel)⟩
theorem lw_p7 : lw_okq (⟨"OathTill$Reader", "takePlace", "()Z"⟩, 7) := ⟨⟨by decide +kernel, by decide +kernel⟩, List.mem_of_getElem? (i := 388) (by decide +kernel), List.mem_of_getElem? (i := 754) (by decide +kernel), List.mem_of_getElem? (i := 755) (by decide +kernel)⟩
theorem lw_p8 : lw_okq (⟨"OathTill$Reader", "isNewName", "()Z"⟩, 7) := ⟨⟨by decide +kernel, by decide +kernel⟩, List.mem_of_getElem? (i := 388) (by decide +kernel), List.mem_of_getElem? (i := 763) (by decide +kernel), List.mem_of_getElem? (i := 764) (by decide +kernel)⟩
theorem lw_p9 : lw_okq (⟨"OathTill$Reader", "takePerson", "()Z"⟩, 7) := ⟨⟨by decide +kernel, by decide +kernel⟩, List.mem_of_getElem? (i := 388) (by decide +kernel), List.mem_of_getElem? (i := 788) (by decide +kernel), List.mem_of_getElem? (i := 789) (by decide +kernel)⟩
theorem lw_p10 : lw_okq (⟨"OathTill$Reader", "takeTwins", "()Z"⟩, 7) := ⟨⟨by decide +kernel, by decide +kernel⟩, List.mem_of_getElem? (i := 388) (by decide +kernel), List.mem_of_getElem? (i := 800) (by decide +kernel), List.mem_of_getElem? (i := 801) (by decide +kernel)⟩
theorem lw_p11 : lw_okq (⟨"OathTill$Reader", "passUntwinned", "()I"⟩, 7) := ⟨⟨by decide +kernel, by decide +kernel⟩, List.mem_of_getElem? (i := 388) (by decide +kernel), List.mem_of_getElem? (i := 804) (by decide +kernel), List.mem_of_getElem? (i := 805) (by decide +kernel)⟩
theorem lw_p12 : lw_okq (⟨"OathTill$Reader", "takeKnows", "()Z"⟩, 7) := ⟨⟨by decide +kernel, by decide +kernel⟩, List.mem_of_getElem? (i := 388) (by decide +kernel), List.mem_of_getElem? (i := 817) (by decide +kernel), List.mem_of_getElem? (i := 818) (by decide +kernel)⟩
theorem lw_p13 : lw_okq (⟨"OathTill$Reader", "takeWas", "()Z"⟩, 7) := ⟨⟨by decide +kernel, by decide +kernel⟩, List.mem_of_getElem? (i := 388) (by decide +kernel), List.mem_of_getElem? (i := 825) (by decide +kernel), List.mem_of_getElem? (i := 826) (by decide +kernel)⟩
theorem lw_p14 : lw_okq (⟨"OathTill$Reader", "takeRate", "(II)Z"⟩, 7) := ⟨⟨by decide +kernel, by decide +kernel⟩, List.mem_of_getElem? (i := 388) (by decide +kernel), List.mem_of_getElem? (i := 834) (by decide +kernel), List.mem_of_getElem? (i := 835) (by decide +kernel)⟩
theorem lw_p15 : lw_okq (⟨"OathTill", "give", "(I)I"⟩, 18) := ⟨⟨by decide +kernel, by decide +kernel⟩, List.mem_of_getElem? (i := 22) (by decide +kernel), List.mem_of_getElem? (i := 861) (by decide +kernel), List.mem_of_getElem? (i := 862) (by decide +kernel)⟩
def lw_privs_1 : List (MethodName × Nat) := [(⟨"OathTill", "deny", "(I)Z"⟩, 18), (⟨"OathTill", "agree", "()Z"⟩, 18), (⟨"OathTill", "placeTrouble", "(II)I"⟩, 18), (⟨"OathTill", "refuse", "(I)I"⟩, 18), (⟨"OathTill", "pourTrouble", "(IIIII)I"⟩, 18), (⟨"OathTill", "append", "(I)V"⟩, 18), (⟨"OathTill$Reader", "takePart", "()Z"⟩, 7), (⟨"OathTill$Reader", "takePlace", "()Z"⟩, 7), (⟨"OathTill$Reader", "isNewName", "()Z"⟩, 7), (⟨"OathTill$Reader", "takePerson", "()Z"⟩, 7), (⟨"OathTill$Reader", "takeTwins", "()Z"⟩, 7), (⟨"OathTill$Reader", "passUntwinned", "()I"⟩, 7), (⟨"OathTill$Reader", "takeKnows", "()Z"⟩, 7), (⟨"OathTill$Reader", "takeWas", "()Z"⟩, 7), (⟨"OathTill$Reader", "takeRate", "(II)Z"⟩, 7), (⟨"OathTill", "give", "(I)I"⟩, 18)]
theorem lw_r1 : ∀ q ∈ lw_privs_1, lw_okq q := List.forall_mem_cons.mpr ⟨lw_p0, List.forall_mem_cons.mpr ⟨lw_p1, List.forall_mem_cons.mpr ⟨lw_p2, List.forall_mem_cons.mpr ⟨lw_p3, List.forall_mem_cons.mpr ⟨lw_p4, List.forall_mem_cons.mpr ⟨lw_p5, List.forall_mem_cons.mpr ⟨lw_p6, List.forall_mem_cons.mpr ⟨lw_p7, List.forall_mem_cons.mpr ⟨lw_p8, List.forall_mem_cons.mpr ⟨lw_p9, List.forall_mem_cons.mpr ⟨lw_p10, List.forall_mem_cons.mpr ⟨lw_p11, List.forall_mem_cons.mpr ⟨lw_p12, List.forall_mem_cons.mpr ⟨lw_p13, List.forall_mem_cons.mpr ⟨lw_p14, List.forall_mem_cons.mpr ⟨lw_p15, fun _ h => absurd h List.not_mem_nil⟩⟩⟩⟩⟩⟩⟩⟩⟩⟩⟩⟩⟩⟩⟩⟩
theorem lw_p16 : lw_okq (⟨"OathTill$Reader", "takeEnd", "()Z"⟩, 7) := ⟨⟨by decide +kernel, by decide +kernel⟩, List.mem_of_getElem? (i := 388) (by decide +kernel), List.mem_of_getElem? (i := 874) (by decide +kernel), List.mem_of_getElem? (i := 875) (by decide +kernel)⟩
theorem lw_p17 : lw_okq (⟨"OathTill$Reader", "takeStep", "()Z"⟩, 7) := ⟨⟨by decide +kernel, by decide +kernel⟩, List.mem_of_getElem? (i := 388) (by decide +kernel), List.mem_of_getElem? (i := 878) (by decide +kernel), List.mem_of_getElem? (i := 879) (by decide +kernel)⟩
theorem lw_p18 : lw_okq (⟨"OathTill$Reader", "mayBegin", "(I)Z"⟩, 7) := ⟨⟨by decide +kernel, by decide +kernel⟩, List.mem_of_getElem? (i := 388) (by decide +kernel), List.mem_of_getElem? (i := 882) (by decide +kernel), List.mem_of_getElem? (i := 883) (by decide +kernel)⟩
theorem lw_p19 : lw_okq (⟨"OathTill$Reader", "newRow", "(I)I"⟩, 7) := ⟨⟨by decide +kernel, by decide +kernel⟩, List.mem_of_getElem? (i := 388) (by decide +kernel), List.mem_of_getElem? (i := 889) (by decide +kernel), List.mem_of_getElem? (i := 890) (by decide +kernel)⟩
theorem lw_p20 : lw_okq (⟨"OathTill$Reader", "takeWitness", "(I)Z"⟩, 7) := ⟨⟨by decide +kernel, by decide +kernel⟩, List.mem_of_getElem? (i := 388) (by decide +kernel), List.mem_of_getElem? (i := 893) (by decide +kernel), List.mem_of_getElem? (i := 894) (by decide +kernel)⟩
theorem lw_p21 : lw_okq (⟨"OathTill$Reader", "takeWhere", "(I)Z"⟩, 7) := ⟨⟨by decide +kernel, by decide +kernel⟩, List.mem_of_getElem? (i := 388) (by decide +kernel), List.mem_of_getElem? (i := 897) (by decide +kernel), List.mem_of_getElem? (i := 898) (by decide +kernel)⟩
theorem lw_p22 : lw_okq (⟨"OathTill$Reader", "takeSubject", "(I)Z"⟩, 7) := ⟨⟨by decide +kernel, by decide +kernel⟩, List.mem_of_getElem? (i := 388) (by decide +kernel), List.mem_of_getElem? (i := 901) (by decide +kernel), List.mem_of_getElem? (i := 902) (by decide +kernel)⟩
theorem lw_p23 : lw_okq (⟨"OathTill$Reader", "takeTest", "(I)Z"⟩, 7) := ⟨⟨by decide +kernel, by decide +kernel⟩, List.mem_of_getElem? (i := 388) (by decide +kernel), List.mem_of_getElem? (i := 905) (by decide +kernel), List.mem_of_getElem? (i := 906) (by decide +kernel)⟩
theorem lw_p24 : lw_okq (⟨"OathTill", "isCouple", "(II)Z"⟩, 18) := ⟨⟨by decide +kernel, by decide +kernel⟩, List.mem_of_getElem? (i := 22) (by decide +kernel), List.mem_of_getElem? (i := 966) (by decide +kernel), List.mem_of_getElem? (i := 967) (by decide +kernel)⟩
theorem lw_p25 : lw_okq (⟨"OathTill", "isAsked", "(IIII)Z"⟩, 18) := ⟨⟨by decide +kernel, by decide +kernel⟩, List.mem_of_getElem? (i := 22) (by decide +kernel), List.mem_of_getElem? (i := 1001) (by decide +kernel), List.mem_of_getElem? (i := 1002) (by decide +kernel)⟩
theorem lw_p26 : lw_okq (⟨"OathTill$Stand", "hear", "(LOathTill$Oath;)V"⟩, 9) := ⟨⟨by decide +kernel, by decide +kernel⟩, List.mem_of_getElem? (i := 416) (by decide +kernel), List.mem_of_getElem? (i := 1022) (by decide +kernel), List.mem_of_getElem? (i := 1023) (by decide +kernel)⟩
theorem lw_p27 : lw_okq (⟨"OathTill$Court", "refund", "(LOathTill$Oath;)V"⟩, 12) := ⟨⟨by decide +kernel, by decide +kernel⟩, List.mem_of_getElem? (i := 32) (by decide +kernel), List.mem_of_getElem? (i := 1102) (by decide +kernel), List.mem_of_getElem? (i := 1103) (by decide +kernel)⟩
theorem lw_p28 : lw_okq (⟨"OathTill", "isPersonsHour", "(II)Z"⟩, 18) := ⟨⟨by decide +kernel, by decide +kernel⟩, List.mem_of_getElem? (i := 22) (by decide +kernel), List.mem_of_getElem? (i := 1150) (by decide +kernel), List.mem_of_getElem? (i := 1151) (by decide +kernel)⟩
theorem lw_p29 : lw_okq (⟨"OathTill$Whereabouts", "fitsTruth", "(III)Z"⟩, 5) := ⟨⟨by decide +kernel, by decide +kernel⟩, List.mem_of_getElem? (i := 501) (by decide +kernel), List.mem_of_getElem? (i := 1158) (by decide +kernel), List.mem_of_getElem? (i := 1159) (by decide +kernel)⟩
theorem lw_p30 : lw_okq (⟨"OathTill$Whereabouts", "fitsOaths", "(III)Z"⟩, 5) := ⟨⟨by decide +kernel, by decide +kernel⟩, List.mem_of_getElem? (i := 501) (by decide +kernel), List.mem_of_getElem? (i := 1163) (by decide +kernel), List.mem_of_getElem? (i := 1164) (by decide +kernel)⟩
theorem lw_p31 : lw_okq (⟨"OathTill$Whereabouts", "narrow", "(IZ)V"⟩, 5) := ⟨⟨by decide +kernel, by decide +kernel⟩, List.mem_of_getElem? (i := 501) (by decide +kernel), List.mem_of_getElem? (i := 1176) (by decide +kernel), List.mem_of_getElem? (i := 1177) (by decide +kernel)⟩
def lw_privs_2 : List (MethodName × Nat) := [(⟨"OathTill$Reader", "takeEnd", "()Z"⟩, 7), (⟨"OathTill$Reader", "takeStep", "()Z"⟩, 7), (⟨"OathTill$Reader", "mayBegin", "(I)Z"⟩, 7), (⟨"OathTill$Reader", "newRow", "(I)I"⟩, 7), (⟨"OathTill$Reader", "takeWitness", "(I)Z"⟩, 7), (⟨"OathTill$Reader", "takeWhere", "(I)Z"⟩, 7), (⟨"OathTill$Reader", "takeSubject", "(I)Z"⟩, 7), (⟨"OathTill$Reader", "takeTest", "(I)Z"⟩, 7), (⟨"OathTill", "isCouple", "(II)Z"⟩, 18), (⟨"OathTill", "isAsked", "(IIII)Z"⟩, 18), (⟨"OathTill$Stand", "hear", "(LOathTill$Oath;)V"⟩, 9), (⟨"OathTill$Court", "refund", "(LOathTill$Oath;)V"⟩, 12), (⟨"OathTill", "isPersonsHour", "(II)Z"⟩, 18), (⟨"OathTill$Whereabouts", "fitsTruth", "(III)Z"⟩, 5), (⟨"OathTill$Whereabouts", "fitsOaths", "(III)Z"⟩, 5), (⟨"OathTill$Whereabouts", "narrow", "(IZ)V"⟩, 5)]
theorem lw_r2 : ∀ q ∈ lw_privs_2, lw_okq q := List.forall_mem_cons.mpr ⟨lw_p16, List.forall_mem_cons.mpr ⟨lw_p17, List.forall_mem_cons.mpr ⟨lw_p18, List.forall_mem_cons.mpr ⟨lw_p19, List.forall_mem_cons.mpr ⟨lw_p20, List.forall_mem_cons.mpr ⟨lw_p21, List.forall_mem_cons.mpr ⟨lw_p22, List.forall_mem_cons.mpr ⟨lw_p23, List.forall_mem_cons.mpr ⟨lw_p24, List.forall_mem_cons.mpr ⟨lw_p25, List.forall_mem_cons.mpr ⟨lw_p26, List.forall_mem_cons.mpr ⟨lw_p27, List.forall_mem_cons.mpr ⟨lw_p28, List.forall_mem_cons.mpr ⟨lw_p29, List.forall_mem_cons.mpr ⟨lw_p30, List.forall_mem_cons.mpr ⟨lw_p31, fun _ h => absurd h List.not_mem_nil⟩⟩⟩⟩⟩⟩⟩⟩⟩⟩⟩⟩⟩⟩⟩⟩
theorem lw_p32 : lw_okq (⟨"OathTill$Whereabouts", "waysInto", "(I)I"⟩, 5) := ⟨⟨by decide +kernel, by decide +kernel⟩, List.mem_of_getElem? (i := 501) (by decide +kernel), List.mem_of_getElem? (i := 1180) (by decide +kernel), List.mem_of_getElem? (i := 1181) (by decide +kernel)⟩
theorem lw_p33 : lw_okq (⟨"OathTill$Whereabouts", "neighbours", "(I)I"⟩, 5) := ⟨⟨by decide +kernel, by decide +kernel⟩, List.mem_of_getElem? (i := 501) (by decide +kernel), List.mem_of_getElem? (i := 1193) (by decide +kernel), List.mem_of_getElem? (i := 1194) (by decide +kernel)⟩
theorem lw_p34 : lw_okq (⟨"OathTill$Whereabouts", "saying", "(III)I"⟩, 5) := ⟨⟨by decide +kernel, by decide +kernel⟩, List.mem_of_getElem? (i := 501) (by decide +kernel), List.mem_of_getElem? (i := 1205) (by decide +kernel), List.mem_of_getElem? (i := 1206) (by decide +kernel)⟩
theorem lw_p35 : lw_okq (⟨"OathTill$Whereabouts", "bestAhead", "(II)I"⟩, 5) := ⟨⟨by decide +kernel, by decide +kernel⟩, List.mem_of_getElem? (i := 501) (by decide +kernel), List.mem_of_getElem? (i := 1210) (by decide +kernel), List.mem_of_getElem? (i := 1211) (by decide +kernel)⟩
theorem lw_p36 : lw_okq (⟨"OathTill$Plan", "tryAlibi", "(IIII)I"⟩, 11) := ⟨⟨by decide +kernel, by decide +kernel⟩, List.mem_of_getElem? (i := 452) (by decide +kernel), List.mem_of_getElem? (i := 1264) (by decide +kernel), List.mem_of_getElem? (i := 1265) (by decide +kernel)⟩
theorem lw_p37 : lw_okq (⟨"OathTill$Plan", "allStand", "(I)Z"⟩, 11) := ⟨⟨by decide +kernel, by decide +kernel⟩, List.mem_of_getElem? (i := 452) (by decide +kernel), List.mem_of_getElem? (i := 1276) (by decide +kernel), List.mem_of_getElem? (i := 1277) (by decide +kernel)⟩
theorem lw_p38 : lw_okq (⟨"OathTill$Plan", "othersStruck", "(IIII)I"⟩, 11) := ⟨⟨by decide +kernel, by decide +kernel⟩, List.mem_of_getElem? (i := 452) (by decide +kernel), List.mem_of_getElem? (i := 1292) (by decide +kernel), List.mem_of_getElem? (i := 1293) (by decide +kernel)⟩
theorem lw_p39 : lw_okq (⟨"OathTill", "tellFraction", "(JJ)V"⟩, 18) := ⟨⟨by decide +kernel, by decide +kernel⟩, List.mem_of_getElem? (i := 22) (by decide +kernel), List.mem_of_getElem? (i := 1341) (by decide +kernel), List.mem_of_getElem? (i := 1342) (by decide +kernel)⟩
theorem lw_p40 : lw_okq (⟨"OathTill", "bidTrouble", "(II)I"⟩, 18) := ⟨⟨by decide +kernel, by decide +kernel⟩, List.mem_of_getElem? (i := 22) (by decide +kernel), List.mem_of_getElem? (i := 1368) (by decide +kernel), List.mem_of_getElem? (i := 1369) (by decide +kernel)⟩
theorem lw_p41 : lw_okq (⟨"OathTill$Runner", "behindLoopEnd", "(I)I"⟩, 12) := ⟨⟨by decide +kernel, by decide +kernel⟩, List.mem_of_getElem? (i := 523) (by decide +kernel), List.mem_of_getElem? (i := 1402) (by decide +kernel), List.mem_of_getElem? (i := 1403) (by decide +kernel)⟩
theorem lw_p42 : lw_okq (⟨"OathTill$Runner", "behindStep", "(I)I"⟩, 12) := ⟨⟨by decide +kernel, by decide +kernel⟩, List.mem_of_getElem? (i := 523) (by decide +kernel), List.mem_of_getElem? (i := 1406) (by decide +kernel), List.mem_of_getElem? (i := 1407) (by decide +kernel)⟩
theorem lw_p43 : lw_okq (⟨"OathTill$Runner", "swearTold", "(I)V"⟩, 12) := ⟨⟨by decide +kernel, by decide +kernel⟩, List.mem_of_getElem? (i := 523) (by decide +kernel), List.mem_of_getElem? (i := 1410) (by decide +kernel), List.mem_of_getElem? (i := 1411) (by decide +kernel)⟩
theorem lw_p44 : lw_okq (⟨"OathTill$Runner", "note", "(I)V"⟩, 12) := ⟨⟨by decide +kernel, by decide +kernel⟩, List.mem_of_getElem? (i := 523) (by decide +kernel), List.mem_of_getElem? (i := 1418) (by decide +kernel), List.mem_of_getElem? (i := 1419) (by decide +kernel)⟩
theorem lw_p45 : lw_okq (⟨"OathTill$Runner", "swearAny", "(I)V"⟩, 12) := ⟨⟨by decide +kernel, by decide +kernel⟩, List.mem_of_getElem? (i := 523) (by decide +kernel), List.mem_of_getElem? (i := 1423) (by decide +kernel), List.mem_of_getElem? (i := 1424) (by decide +kernel)⟩
theorem lw_p46 : lw_okq (⟨"OathTill$Runner", "draw", "(I)I"⟩, 12) := ⟨⟨by decide +kernel, by decide +kernel⟩, List.mem_of_getElem? (i := 523) (by decide +kernel), List.mem_of_getElem? (i := 1427) (by decide +kernel), List.mem_of_getElem? (i := 1428) (by decide +kernel)⟩
theorem lw_p47 : lw_okq (⟨"OathTill$Runner", "recantLatest", "(I)V"⟩, 12) := ⟨⟨by decide +kernel, by decide +kernel⟩, List.mem_of_getElem? (i := 523) (by decide +kernel), List.mem_of_getElem? (i := 1433) (by decide +kernel), List.mem_of_getElem? (i := 1434) (by decide +kernel)⟩
def lw_privs_3 : List (MethodName × Nat) := [(⟨"OathTill$Whereabouts", "waysInto", "(I)I"⟩, 5), (⟨"OathTill$Whereabouts", "neighbours", "(I)I"⟩, 5), (⟨"OathTill$Whereabouts", "saying", "(III)I"⟩, 5), (⟨"OathTill$Whereabouts", "bestAhead", "(II)I"⟩, 5), (⟨"OathTill$Plan", "tryAlibi", "(IIII)I"⟩, 11), (⟨"OathTill$Plan", "allStand", "(I)Z"⟩, 11), (⟨"OathTill$Plan", "othersStruck", "(IIII)I"⟩, 11), (⟨"OathTill", "tellFraction", "(JJ)V"⟩, 18), (⟨"OathTill", "bidTrouble", "(II)I"⟩, 18), (⟨"OathTill$Runner", "behindLoopEnd", "(I)I"⟩, 12), (⟨"OathTill$Runner", "behindStep", "(I)I"⟩, 12), (⟨"OathTill$Runner", "swearTold", "(I)V"⟩, 12), (⟨"OathTill$Runner", "note", "(I)V"⟩, 12), (⟨"OathTill$Runner", "swearAny", "(I)V"⟩, 12), (⟨"OathTill$Runner", "draw", "(I)I"⟩, 12), (⟨"OathTill$Runner", "recantLatest", "(I)V"⟩, 12)]
theorem lw_r3 : ∀ q ∈ lw_privs_3, lw_okq q := List.forall_mem_cons.mpr ⟨lw_p32, List.forall_mem_cons.mpr ⟨lw_p33, List.forall_mem_cons.mpr ⟨lw_p34, List.forall_mem_cons.mpr ⟨lw_p35, List.forall_mem_cons.mpr ⟨lw_p36, List.forall_mem_cons.mpr ⟨lw_p37, List.forall_mem_cons.mpr ⟨lw_p38, List.forall_mem_cons.mpr ⟨lw_p39, List.forall_mem_cons.mpr ⟨lw_p40, List.forall_mem_cons.mpr ⟨lw_p41, List.forall_mem_cons.mpr ⟨lw_p42, List.forall_mem_cons.mpr ⟨lw_p43, List.forall_mem_cons.mpr ⟨lw_p44, List.forall_mem_cons.mpr ⟨lw_p45, List.forall_mem_cons.mpr ⟨lw_p46, List.forall_mem_cons.mpr ⟨lw_p47, fun _ h => absurd h List.not_mem_nil⟩⟩⟩⟩⟩⟩⟩⟩⟩⟩⟩⟩⟩⟩⟩⟩
theorem lw_p48 : lw_okq (⟨"OathTill$Runner", "intoLoop", "(I)I"⟩, 12) := ⟨⟨by decide +kernel, by decide +kernel⟩, List.mem_of_getElem? (i := 523) (by decide +kernel), List.mem_of_getElem? (i := 1441) (by decide +kernel), List.mem_of_getElem? (i := 1442) (by decide +kernel)⟩
theorem lw_p49 : lw_okq (⟨"OathTill$Runner", "holds", "(I)Z"⟩, 12) := ⟨⟨by decide +kernel, by decide +kernel⟩, List.mem_of_getElem? (i := 523) (by decide +kernel), List.mem_of_getElem? (i := 1445) (by decide +kernel), List.mem_of_getElem? (i := 1446) (by decide +kernel)⟩
theorem lw_p50 : lw_okq (⟨"OathTill$Runner", "compares", "(II)Z"⟩, 12) := ⟨⟨by decide +kernel, by decide +kernel⟩, List.mem_of_getElem? (i := 523) (by decide +kernel), List.mem_of_getElem? (i := 1449) (by decide +kernel), List.mem_of_getElem? (i := 1450) (by decide +kernel)⟩
theorem lw_p51 : lw_okq (⟨"OathTillModel", "plain", "(I)V"⟩, 40) := ⟨⟨by decide +kernel, by decide +kernel⟩, List.mem_of_getElem? (i := 1475) (by decide +kernel), List.mem_of_getElem? (i := 1481) (by decide +kernel), List.mem_of_getElem? (i := 1482) (by decide +kernel)⟩
theorem lw_p52 : lw_okq (⟨"OathTillModel", "is", "(I)Z"⟩, 40) := ⟨⟨by decide +kernel, by decide +kernel⟩, List.mem_of_getElem? (i := 1475) (by decide +kernel), List.mem_of_getElem? (i := 1625) (by decide +kernel), List.mem_of_getElem? (i := 1626) (by decide +kernel)⟩
theorem lw_p53 : lw_okq (⟨"OathTillModel", "wrongPlace", "(II)I"⟩, 40) := ⟨⟨by decide +kernel, by decide +kernel⟩, List.mem_of_getElem? (i := 1475) (by decide +kernel), List.mem_of_getElem? (i := 1633) (by decide +kernel), List.mem_of_getElem? (i := 1634) (by decide +kernel)⟩
theorem lw_p54 : lw_okq (⟨"OathTillModel", "four", "(I)V"⟩, 40) := ⟨⟨by decide +kernel, by decide +kernel⟩, List.mem_of_getElem? (i := 1475) (by decide +kernel), List.mem_of_getElem? (i := 1653) (by decide +kernel), List.mem_of_getElem? (i := 1654) (by decide +kernel)⟩
theorem lw_p55 : lw_okq (⟨"OathTillModel", "begins", "(II)Z"⟩, 40) := ⟨⟨by decide +kernel, by decide +kernel⟩, List.mem_of_getElem? (i := 1475) (by decide +kernel), List.mem_of_getElem? (i := 1665) (by decide +kernel), List.mem_of_getElem? (i := 1666) (by decide +kernel)⟩
theorem lw_p56 : lw_okq (⟨"OathTillModel", "ahead", "()V"⟩, 40) := ⟨⟨by decide +kernel, by decide +kernel⟩, List.mem_of_getElem? (i := 1475) (by decide +kernel), List.mem_of_getElem? (i := 1669) (by decide +kernel), List.mem_of_getElem? (i := 1670) (by decide +kernel)⟩
theorem lw_p57 : lw_okq (⟨"OathTillModel", "byteAt", "(I)I"⟩, 40) := ⟨⟨by decide +kernel, by decide +kernel⟩, List.mem_of_getElem? (i := 1475) (by decide +kernel), List.mem_of_getElem? (i := 1673) (by decide +kernel), List.mem_of_getElem? (i := 1674) (by decide +kernel)⟩
theorem lw_p58 : lw_okq (⟨"OathTillModel", "refuse", "(I)I"⟩, 40) := ⟨⟨by decide +kernel, by decide +kernel⟩, List.mem_of_getElem? (i := 1475) (by decide +kernel), List.mem_of_getElem? (i := 1685) (by decide +kernel), List.mem_of_getElem? (i := 1686) (by decide +kernel)⟩
theorem lw_p59 : lw_okq (⟨"OathTillModel", "courtPart", "()Z"⟩, 40) := ⟨⟨by decide +kernel, by decide +kernel⟩, List.mem_of_getElem? (i := 1475) (by decide +kernel), List.mem_of_getElem? (i := 1689) (by decide +kernel), List.mem_of_getElem? (i := 1690) (by decide +kernel)⟩
theorem lw_p60 : lw_okq (⟨"OathTillModel", "inWords", "(Ljava/lang/String;)I"⟩, 40) := ⟨⟨by decide +kernel, by decide +kernel⟩, List.mem_of_getElem? (i := 1475) (by decide +kernel), List.mem_of_getElem? (i := 1694) (by decide +kernel), List.mem_of_getElem? (i := 1695) (by decide +kernel)⟩
theorem lw_p61 : lw_okq (⟨"OathTillModel", "aPlace", "()Z"⟩, 40) := ⟨⟨by decide +kernel, by decide +kernel⟩, List.mem_of_getElem? (i := 1475) (by decide +kernel), List.mem_of_getElem? (i := 1700) (by decide +kernel), List.mem_of_getElem? (i := 1701) (by decide +kernel)⟩
theorem lw_p62 : lw_okq (⟨"OathTillModel", "newOne", "(III)Z"⟩, 40) := ⟨⟨by decide +kernel, by decide +kernel⟩, List.mem_of_getElem? (i := 1475) (by decide +kernel), List.mem_of_getElem? (i := 1704) (by decide +kernel), List.mem_of_getElem? (i := 1705) (by decide +kernel)⟩
theorem lw_p63 : lw_okq (⟨"OathTillModel", "fails", "(I)Z"⟩, 40) := ⟨⟨by decide +kernel, by decide +kernel⟩, List.mem_of_getElem? (i := 1475) (by decide +kernel), List.mem_of_getElem? (i := 1708) (by decide +kernel), List.mem_of_getElem? (i := 1709) (by decide +kernel)⟩
def lw_privs_4 : List (MethodName × Nat) := [(⟨"OathTill$Runner", "intoLoop", "(I)I"⟩, 12), (⟨"OathTill$Runner", "holds", "(I)Z"⟩, 12), (⟨"OathTill$Runner", "compares", "(II)Z"⟩, 12), (⟨"OathTillModel", "plain", "(I)V"⟩, 40), (⟨"OathTillModel", "is", "(I)Z"⟩, 40), (⟨"OathTillModel", "wrongPlace", "(II)I"⟩, 40), (⟨"OathTillModel", "four", "(I)V"⟩, 40), (⟨"OathTillModel", "begins", "(II)Z"⟩, 40), (⟨"OathTillModel", "ahead", "()V"⟩, 40), (⟨"OathTillModel", "byteAt", "(I)I"⟩, 40), (⟨"OathTillModel", "refuse", "(I)I"⟩, 40), (⟨"OathTillModel", "courtPart", "()Z"⟩, 40), (⟨"OathTillModel", "inWords", "(Ljava/lang/String;)I"⟩, 40), (⟨"OathTillModel", "aPlace", "()Z"⟩, 40), (⟨"OathTillModel", "newOne", "(III)Z"⟩, 40), (⟨"OathTillModel", "fails", "(I)Z"⟩, 40)]
theorem lw_r4 : ∀ q ∈ lw_privs_4, lw_okq q := List.forall_mem_cons.mpr ⟨lw_p48, List.forall_mem_cons.mpr ⟨lw_p49, List.forall_mem_cons.mpr ⟨lw_p50, List.forall_mem_cons.mpr ⟨lw_p51, List.forall_mem_cons.mpr ⟨lw_p52, List.forall_mem_cons.mpr ⟨lw_p53, List.forall_mem_cons.mpr ⟨lw_p54, List.forall_mem_cons.mpr ⟨lw_p55, List.forall_mem_cons.mpr ⟨lw_p56, List.forall_mem_cons.mpr ⟨lw_p57, List.forall_mem_cons.mpr ⟨lw_p58, List.forall_mem_cons.mpr ⟨lw_p59, List.forall_mem_cons.mpr ⟨lw_p60, List.forall_mem_cons.mpr ⟨lw_p61, List.forall_mem_cons.mpr ⟨lw_p62, List.forall_mem_cons.mpr ⟨lw_p63, fun _ h => absurd h List.not_mem_nil⟩⟩⟩⟩⟩⟩⟩⟩⟩⟩⟩⟩⟩⟩⟩⟩
theorem lw_p64 : lw_okq (⟨"OathTillModel", "isName", "(Ljava/lang/String;)Z"⟩, 40) := ⟨⟨by decide +kernel, by decide +kernel⟩, List.mem_of_getElem? (i := 1475) (by decide +kernel), List.mem_of_getElem? (i := 1712) (by decide +kernel), List.mem_of_getElem? (i := 1713) (by decide +kernel)⟩
theorem lw_p65 : lw_okq (⟨"OathTillModel", "findHere", "(II)I"⟩, 40) := ⟨⟨by decide +kernel, by decide +kernel⟩, List.mem_of_getElem? (i := 1475) (by decide +kernel), List.mem_of_getElem? (i := 1716) (by decide +kernel), List.mem_of_getElem? (i := 1717) (by decide +kernel)⟩
theorem lw_p66 : lw_okq (⟨"OathTillModel", "nameHere", "()J"⟩, 40) := ⟨⟨by decide +kernel, by decide +kernel⟩, List.mem_of_getElem? (i := 1475) (by decide +kernel), List.mem_of_getElem? (i := 1720) (by decide +kernel), List.mem_of_getElem? (i := 1721) (by decide +kernel)⟩
theorem lw_p67 : lw_okq (⟨"OathTillModel", "wantWord", "(Ljava/lang/String;I)Z"⟩, 40) := ⟨⟨by decide +kernel, by decide +kernel⟩, List.mem_of_getElem? (i := 1475) (by decide +kernel), List.mem_of_getElem? (i := 1724) (by decide +kernel), List.mem_of_getElem? (i := 1725) (by decide +kernel)⟩
theorem lw_p68 : lw_okq (⟨"OathTillModel", "number", "(III)Z"⟩, 40) := ⟨⟨by decide +kernel, by decide +kernel⟩, List.mem_of_getElem? (i := 1475) (by decide +kernel), List.mem_of_getElem? (i := 1728) (by decide +kernel), List.mem_of_getElem? (i := 1729) (by decide +kernel)⟩
theorem lw_p69 : lw_okq (⟨"OathTillModel", "aPerson", "()Z"⟩, 40) := ⟨⟨by decide +kernel, by decide +kernel⟩, List.mem_of_getElem? (i := 1475) (by decide +kernel), List.mem_of_getElem? (i := 1732) (by decide +kernel), List.mem_of_getElem? (i := 1733) (by decide +kernel)⟩
theorem lw_p70 : lw_okq (⟨"OathTillModel", "isThere", "(I)Z"⟩, 40) := ⟨⟨by decide +kernel, by decide +kernel⟩, List.mem_of_getElem? (i := 1475) (by decide +kernel), List.mem_of_getElem? (i := 1736) (by decide +kernel), List.mem_of_getElem? (i := 1737) (by decide +kernel)⟩
theorem lw_p71 : lw_okq (⟨"OathTillModel", "aCouple", "(Z)Z"⟩, 40) := ⟨⟨by decide +kernel, by decide +kernel⟩, List.mem_of_getElem? (i := 1475) (by decide +kernel), List.mem_of_getElem? (i := 1740) (by decide +kernel), List.mem_of_getElem? (i := 1741) (by decide +kernel)⟩
theorem lw_p72 : lw_okq (⟨"OathTillModel", "oneOf", "(IIZ)Z"⟩, 40) := ⟨⟨by decide +kernel, by decide +kernel⟩, List.mem_of_getElem? (i := 1475) (by decide +kernel), List.mem_of_getElem? (i := 1744) (by decide +kernel), List.mem_of_getElem? (i := 1745) (by decide +kernel)⟩
theorem lw_p73 : lw_okq (⟨"OathTillModel", "newPerson", "(I)Z"⟩, 40) := ⟨⟨by decide +kernel, by decide +kernel⟩, List.mem_of_getElem? (i := 1475) (by decide +kernel), List.mem_of_getElem? (i := 1748) (by decide +kernel), List.mem_of_getElem? (i := 1749) (by decide +kernel)⟩
theorem lw_p74 : lw_okq (⟨"OathTillModel", "oldOne", "(III)Z"⟩, 40) := ⟨⟨by decide +kernel, by decide +kernel⟩, List.mem_of_getElem? (i := 1475) (by decide +kernel), List.mem_of_getElem? (i := 1752) (by decide +kernel), List.mem_of_getElem? (i := 1753) (by decide +kernel)⟩
theorem lw_p75 : lw_okq (⟨"OathTillModel", "aTruth", "()Z"⟩, 40) := ⟨⟨by decide +kernel, by decide +kernel⟩, List.mem_of_getElem? (i := 1475) (by decide +kernel), List.mem_of_getElem? (i := 1756) (by decide +kernel), List.mem_of_getElem? (i := 1757) (by decide +kernel)⟩
theorem lw_p76 : lw_okq (⟨"OathTillModel", "once", "(I)Z"⟩, 40) := ⟨⟨by decide +kernel, by decide +kernel⟩, List.mem_of_getElem? (i := 1475) (by decide +kernel), List.mem_of_getElem? (i := 1760) (by decide +kernel), List.mem_of_getElem? (i := 1761) (by decide +kernel)⟩
theorem lw_p77 : lw_okq (⟨"OathTillModel", "wantSign", "(I)Z"⟩, 40) := ⟨⟨by decide +kernel, by decide +kernel⟩, List.mem_of_getElem? (i := 1475) (by decide +kernel), List.mem_of_getElem? (i := 1764) (by decide +kernel), List.mem_of_getElem? (i := 1765) (by decide +kernel)⟩
theorem lw_p78 : lw_okq (⟨"OathTillModel", "isSign", "(I)Z"⟩, 40) := ⟨⟨by decide +kernel, by decide +kernel⟩, List.mem_of_getElem? (i := 1475) (by decide +kernel), List.mem_of_getElem? (i := 1768) (by decide +kernel), List.mem_of_getElem? (i := 1769) (by decide +kernel)⟩
theorem lw_p79 : lw_okq (⟨"OathTillModel", "taken", "(I)I"⟩, 40) := ⟨⟨by decide +kernel, by decide +kernel⟩, List.mem_of_getElem? (i := 1475) (by decide +kernel), List.mem_of_getElem? (i := 1772) (by decide +kernel), List.mem_of_getElem? (i := 1773) (by decide +kernel)⟩
def lw_privs_5 : List (MethodName × Nat) := [(⟨"OathTillModel", "isName", "(Ljava/lang/String;)Z"⟩, 40), (⟨"OathTillModel", "findHere", "(II)I"⟩, 40), (⟨"OathTillModel", "nameHere", "()J"⟩, 40), (⟨"OathTillModel", "wantWord", "(Ljava/lang/String;I)Z"⟩, 40), (⟨"OathTillModel", "number", "(III)Z"⟩, 40), (⟨"OathTillModel", "aPerson", "()Z"⟩, 40), (⟨"OathTillModel", "isThere", "(I)Z"⟩, 40), (⟨"OathTillModel", "aCouple", "(Z)Z"⟩, 40), (⟨"OathTillModel", "oneOf", "(IIZ)Z"⟩, 40), (⟨"OathTillModel", "newPerson", "(I)Z"⟩, 40), (⟨"OathTillModel", "oldOne", "(III)Z"⟩, 40), (⟨"OathTillModel", "aTruth", "()Z"⟩, 40), (⟨"OathTillModel", "once", "(I)Z"⟩, 40), (⟨"OathTillModel", "wantSign", "(I)Z"⟩, 40), (⟨"OathTillModel", "isSign", "(I)Z"⟩, 40), (⟨"OathTillModel", "taken", "(I)I"⟩, 40)]
theorem lw_r5 : ∀ q ∈ lw_privs_5, lw_okq q := List.forall_mem_cons.mpr ⟨lw_p64, List.forall_mem_cons.mpr ⟨lw_p65, List.forall_mem_cons.mpr ⟨lw_p66, List.forall_mem_cons.mpr ⟨lw_p67, List.forall_mem_cons.mpr ⟨lw_p68, List.forall_mem_cons.mpr ⟨lw_p69, List.forall_mem_cons.mpr ⟨lw_p70, List.forall_mem_cons.mpr ⟨lw_p71, List.forall_mem_cons.mpr ⟨lw_p72, List.forall_mem_cons.mpr ⟨lw_p73, List.forall_mem_cons.mpr ⟨lw_p74, List.forall_mem_cons.mpr ⟨lw_p75, List.forall_mem_cons.mpr ⟨lw_p76, List.forall_mem_cons.mpr ⟨lw_p77, List.forall_mem_cons.mpr ⟨lw_p78, List.forall_mem_cons.mpr ⟨lw_p79, fun _ h => absurd h List.not_mem_nil⟩⟩⟩⟩⟩⟩⟩⟩⟩⟩⟩⟩⟩⟩⟩⟩
theorem lw_p80 : lw_okq (⟨"OathTillModel", "gives", "(I)I"⟩, 40) := ⟨⟨by decide +kernel, by decide +kernel⟩, List.mem_of_getElem? (i := 1475) (by decide +kernel), List.mem_of_getElem? (i := 1776) (by decide +kernel), List.mem_of_getElem? (i := 1777) (by decide +kernel)⟩
theorem lw_p81 : lw_okq (⟨"OathTillModel", "trialStep", "()Z"⟩, 40) := ⟨⟨by decide +kernel, by decide +kernel⟩, List.mem_of_getElem? (i := 1475) (by decide +kernel), List.mem_of_getElem? (i := 1784) (by decide +kernel), List.mem_of_getElem? (i := 1785) (by decide +kernel)⟩
theorem lw_p82 : lw_okq (⟨"OathTillModel", "trialOrder", "(II)Z"⟩, 40) := ⟨⟨by decide +kernel, by decide +kernel⟩, List.mem_of_getElem? (i := 1475) (by decide +kernel), List.mem_of_getElem? (i := 1788) (by decide +kernel), List.mem_of_getElem? (i := 1789) (by decide +kernel)⟩
theorem lw_p83 : lw_okq (⟨"OathTillModel", "personTo", "(I)Z"⟩, 40) := ⟨⟨by decide +kernel, by decide +kernel⟩, List.mem_of_getElem? (i := 1475) (by decide +kernel), List.mem_of_getElem? (i := 1792) (by decide +kernel), List.mem_of_getElem? (i := 1793) (by decide +kernel)⟩
theorem lw_p84 : lw_okq (⟨"OathTillModel", "whereTo", "(I)Z"⟩, 40) := ⟨⟨by decide +kernel, by decide +kernel⟩, List.mem_of_getElem? (i := 1475) (by decide +kernel), List.mem_of_getElem? (i := 1796) (by decide +kernel), List.mem_of_getElem? (i := 1797) (by decide +kernel)⟩
theorem lw_p85 : lw_okq (⟨"OathTillModel", "placeTo", "(I)Z"⟩, 40) := ⟨⟨by decide +kernel, by decide +kernel⟩, List.mem_of_getElem? (i := 1475) (by decide +kernel), List.mem_of_getElem? (i := 1800) (by decide +kernel), List.mem_of_getElem? (i := 1801) (by decide +kernel)⟩
theorem lw_p86 : lw_okq (⟨"OathTillModel", "test", "(I)Z"⟩, 40) := ⟨⟨by decide +kernel, by decide +kernel⟩, List.mem_of_getElem? (i := 1475) (by decide +kernel), List.mem_of_getElem? (i := 1804) (by decide +kernel), List.mem_of_getElem? (i := 1805) (by decide +kernel)⟩
theorem lw_p87 : lw_okq (⟨"OathTillModel", "isLie", "(I)Z"⟩, 40) := ⟨⟨by decide +kernel, by decide +kernel⟩, List.mem_of_getElem? (i := 1475) (by decide +kernel), List.mem_of_getElem? (i := 1815) (by decide +kernel), List.mem_of_getElem? (i := 1816) (by decide +kernel)⟩
theorem lw_p88 : lw_okq (⟨"OathTillModel", "doesStand", "(I)Z"⟩, 40) := ⟨⟨by decide +kernel, by decide +kernel⟩, List.mem_of_getElem? (i := 1475) (by decide +kernel), List.mem_of_getElem? (i := 1819) (by decide +kernel), List.mem_of_getElem? (i := 1820) (by decide +kernel)⟩
theorem lw_p89 : lw_okq (⟨"OathTillModel", "isTrue", "(I)Z"⟩, 40) := ⟨⟨by decide +kernel, by decide +kernel⟩, List.mem_of_getElem? (i := 1475) (by decide +kernel), List.mem_of_getElem? (i := 1823) (by decide +kernel), List.mem_of_getElem? (i := 1824) (by decide +kernel)⟩
theorem lw_p90 : lw_okq (⟨"OathTillModel", "personOf", "(I)I"⟩, 40) := ⟨⟨by decide +kernel, by decide +kernel⟩, List.mem_of_getElem? (i := 1475) (by decide +kernel), List.mem_of_getElem? (i := 1827) (by decide +kernel), List.mem_of_getElem? (i := 1828) (by decide +kernel)⟩
theorem lw_p91 : lw_okq (⟨"OathTillModel", "hourOf", "(I)I"⟩, 40) := ⟨⟨by decide +kernel, by decide +kernel⟩, List.mem_of_getElem? (i := 1475) (by decide +kernel), List.mem_of_getElem? (i := 1831) (by decide +kernel), List.mem_of_getElem? (i := 1832) (by decide +kernel)⟩
theorem lw_p92 : lw_okq (⟨"OathTillModel", "whereOf", "(II)I"⟩, 40) := ⟨⟨by decide +kernel, by decide +kernel⟩, List.mem_of_getElem? (i := 1475) (by decide +kernel), List.mem_of_getElem? (i := 1835) (by decide +kernel), List.mem_of_getElem? (i := 1836) (by decide +kernel)⟩
theorem lw_p93 : lw_okq (⟨"OathTillModel", "placeOf", "(I)I"⟩, 40) := ⟨⟨by decide +kernel, by decide +kernel⟩, List.mem_of_getElem? (i := 1475) (by decide +kernel), List.mem_of_getElem? (i := 1839) (by decide +kernel), List.mem_of_getElem? (i := 1840) (by decide +kernel)⟩
theorem lw_p94 : lw_okq (⟨"OathTillModel", "isPlace", "(I)Z"⟩, 40) := ⟨⟨by decide +kernel, by decide +kernel⟩, List.mem_of_getElem? (i := 1475) (by decide +kernel), List.mem_of_getElem? (i := 1847) (by decide +kernel), List.mem_of_getElem? (i := 1848) (by decide +kernel)⟩
theorem lw_p95 : lw_okq (⟨"OathTillModel", "isPerson", "(I)Z"⟩, 40) := ⟨⟨by decide +kernel, by decide +kernel⟩, List.mem_of_getElem? (i := 1475) (by decide +kernel), List.mem_of_getElem? (i := 1855) (by decide +kernel), List.mem_of_getElem? (i := 1856) (by decide +kernel)⟩
def lw_privs_6 : List (MethodName × Nat) := [(⟨"OathTillModel", "gives", "(I)I"⟩, 40), (⟨"OathTillModel", "trialStep", "()Z"⟩, 40), (⟨"OathTillModel", "trialOrder", "(II)Z"⟩, 40), (⟨"OathTillModel", "personTo", "(I)Z"⟩, 40), (⟨"OathTillModel", "whereTo", "(I)Z"⟩, 40), (⟨"OathTillModel", "placeTo", "(I)Z"⟩, 40), (⟨"OathTillModel", "test", "(I)Z"⟩, 40), (⟨"OathTillModel", "isLie", "(I)Z"⟩, 40), (⟨"OathTillModel", "doesStand", "(I)Z"⟩, 40), (⟨"OathTillModel", "isTrue", "(I)Z"⟩, 40), (⟨"OathTillModel", "personOf", "(I)I"⟩, 40), (⟨"OathTillModel", "hourOf", "(I)I"⟩, 40), (⟨"OathTillModel", "whereOf", "(II)I"⟩, 40), (⟨"OathTillModel", "placeOf", "(I)I"⟩, 40), (⟨"OathTillModel", "isPlace", "(I)Z"⟩, 40), (⟨"OathTillModel", "isPerson", "(I)Z"⟩, 40)]
theorem lw_r6 : ∀ q ∈ lw_privs_6, lw_okq q := List.forall_mem_cons.mpr ⟨lw_p80, List.forall_mem_cons.mpr ⟨lw_p81, List.forall_mem_cons.mpr ⟨lw_p82, List.forall_mem_cons.mpr ⟨lw_p83, List.forall_mem_cons.mpr ⟨lw_p84, List.forall_mem_cons.mpr ⟨lw_p85, List.forall_mem_cons.mpr ⟨lw_p86, List.forall_mem_cons.mpr ⟨lw_p87, List.forall_mem_cons.mpr ⟨lw_p88, List.forall_mem_cons.mpr ⟨lw_p89, List.forall_mem_cons.mpr ⟨lw_p90, List.forall_mem_cons.mpr ⟨lw_p91, List.forall_mem_cons.mpr ⟨lw_p92, List.forall_mem_cons.mpr ⟨lw_p93, List.forall_mem_cons.mpr ⟨lw_p94, List.forall_mem_cons.mpr ⟨lw_p95, fun _ h => absurd h List.not_mem_nil⟩⟩⟩⟩⟩⟩⟩⟩⟩⟩⟩⟩⟩⟩⟩⟩
theorem lw_p96 : lw_okq (⟨"OathTillModel", "orNone", "(I)I"⟩, 40) := ⟨⟨by decide +kernel, by decide +kernel⟩, List.mem_of_getElem? (i := 1475) (by decide +kernel), List.mem_of_getElem? (i := 1862) (by decide +kernel), List.mem_of_getElem? (i := 1863) (by decide +kernel)⟩
theorem lw_p97 : lw_okq (⟨"OathTillModel", "witnessOf", "(I)I"⟩, 40) := ⟨⟨by decide +kernel, by decide +kernel⟩, List.mem_of_getElem? (i := 1475) (by decide +kernel), List.mem_of_getElem? (i := 1866) (by decide +kernel), List.mem_of_getElem? (i := 1867) (by decide +kernel)⟩
theorem lw_p98 : lw_okq (⟨"OathTillModel", "feeOf", "(I)I"⟩, 40) := ⟨⟨by decide +kernel, by decide +kernel⟩, List.mem_of_getElem? (i := 1475) (by decide +kernel), List.mem_of_getElem? (i := 1870) (by decide +kernel), List.mem_of_getElem? (i := 1871) (by decide +kernel)⟩
theorem lw_p99 : lw_okq (⟨"OathTillModel", "areTwo", "(II)Z"⟩, 40) := ⟨⟨by decide +kernel, by decide +kernel⟩, List.mem_of_getElem? (i := 1475) (by decide +kernel), List.mem_of_getElem? (i := 1878) (by decide +kernel), List.mem_of_getElem? (i := 1879) (by decide +kernel)⟩
theorem lw_p100 : lw_okq (⟨"OathTillModel", "doKnow", "(II)Z"⟩, 40) := ⟨⟨by decide +kernel, by decide +kernel⟩, List.mem_of_getElem? (i := 1475) (by decide +kernel), List.mem_of_getElem? (i := 1882) (by decide +kernel), List.mem_of_getElem? (i := 1883) (by decide +kernel)⟩
theorem lw_p101 : lw_okq (⟨"OathTillModel", "isIn", "(II)Z"⟩, 40) := ⟨⟨by decide +kernel, by decide +kernel⟩, List.mem_of_getElem? (i := 1475) (by decide +kernel), List.mem_of_getElem? (i := 1886) (by decide +kernel), List.mem_of_getElem? (i := 1887) (by decide +kernel)⟩
theorem lw_p102 : lw_okq (⟨"OathTillModel", "isOath", "(I)Z"⟩, 40) := ⟨⟨by decide +kernel, by decide +kernel⟩, List.mem_of_getElem? (i := 1475) (by decide +kernel), List.mem_of_getElem? (i := 1905) (by decide +kernel), List.mem_of_getElem? (i := 1906) (by decide +kernel)⟩
theorem lw_p103 : lw_okq (⟨"OathTillModel", "isSworn", "(IIII)Z"⟩, 40) := ⟨⟨by decide +kernel, by decide +kernel⟩, List.mem_of_getElem? (i := 1475) (by decide +kernel), List.mem_of_getElem? (i := 1913) (by decide +kernel), List.mem_of_getElem? (i := 1914) (by decide +kernel)⟩
theorem lw_p104 : lw_okq (⟨"OathTillModel", "isSpot", "(III)Z"⟩, 40) := ⟨⟨by decide +kernel, by decide +kernel⟩, List.mem_of_getElem? (i := 1475) (by decide +kernel), List.mem_of_getElem? (i := 1917) (by decide +kernel), List.mem_of_getElem? (i := 1918) (by decide +kernel)⟩
theorem lw_p105 : lw_okq (⟨"OathTillModel", "whyNot", "(IIII)I"⟩, 40) := ⟨⟨by decide +kernel, by decide +kernel⟩, List.mem_of_getElem? (i := 1475) (by decide +kernel), List.mem_of_getElem? (i := 1921) (by decide +kernel), List.mem_of_getElem? (i := 1922) (by decide +kernel)⟩
theorem lw_p106 : lw_okq (⟨"OathTillModel", "isOf", "(III)Z"⟩, 40) := ⟨⟨by decide +kernel, by decide +kernel⟩, List.mem_of_getElem? (i := 1475) (by decide +kernel), List.mem_of_getElem? (i := 1925) (by decide +kernel), List.mem_of_getElem? (i := 1926) (by decide +kernel)⟩
theorem lw_p107 : lw_okq (⟨"OathTillModel", "doubtOf", "(I)I"⟩, 40) := ⟨⟨by decide +kernel, by decide +kernel⟩, List.mem_of_getElem? (i := 1475) (by decide +kernel), List.mem_of_getElem? (i := 1929) (by decide +kernel), List.mem_of_getElem? (i := 1930) (by decide +kernel)⟩
theorem lw_p108 : lw_okq (⟨"OathTillModel", "feeFor", "(IIII)I"⟩, 40) := ⟨⟨by decide +kernel, by decide +kernel⟩, List.mem_of_getElem? (i := 1475) (by decide +kernel), List.mem_of_getElem? (i := 1936) (by decide +kernel), List.mem_of_getElem? (i := 1937) (by decide +kernel)⟩
theorem lw_p109 : lw_okq (⟨"OathTillModel", "against", "(IIII)I"⟩, 40) := ⟨⟨by decide +kernel, by decide +kernel⟩, List.mem_of_getElem? (i := 1475) (by decide +kernel), List.mem_of_getElem? (i := 1940) (by decide +kernel), List.mem_of_getElem? (i := 1941) (by decide +kernel)⟩
theorem lw_p110 : lw_okq (⟨"OathTillModel", "backedBy", "(IIII)I"⟩, 40) := ⟨⟨by decide +kernel, by decide +kernel⟩, List.mem_of_getElem? (i := 1475) (by decide +kernel), List.mem_of_getElem? (i := 1944) (by decide +kernel), List.mem_of_getElem? (i := 1945) (by decide +kernel)⟩
theorem lw_p111 : lw_okq (⟨"OathTillModel", "keeps", "()V"⟩, 40) := ⟨⟨by decide +kernel, by decide +kernel⟩, List.mem_of_getElem? (i := 1475) (by decide +kernel), List.mem_of_getElem? (i := 1964) (by decide +kernel), List.mem_of_getElem? (i := 1965) (by decide +kernel)⟩
def lw_privs_7 : List (MethodName × Nat) := [(⟨"OathTillModel", "orNone", "(I)I"⟩, 40), (⟨"OathTillModel", "witnessOf", "(I)I"⟩, 40), (⟨"OathTillModel", "feeOf", "(I)I"⟩, 40), (⟨"OathTillModel", "areTwo", "(II)Z"⟩, 40), (⟨"OathTillModel", "doKnow", "(II)Z"⟩, 40), (⟨"OathTillModel", "isIn", "(II)Z"⟩, 40), (⟨"OathTillModel", "isOath", "(I)Z"⟩, 40), (⟨"OathTillModel", "isSworn", "(IIII)Z"⟩, 40), (⟨"OathTillModel", "isSpot", "(III)Z"⟩, 40), (⟨"OathTillModel", "whyNot", "(IIII)I"⟩, 40), (⟨"OathTillModel", "isOf", "(III)Z"⟩, 40), (⟨"OathTillModel", "doubtOf", "(I)I"⟩, 40), (⟨"OathTillModel", "feeFor", "(IIII)I"⟩, 40), (⟨"OathTillModel", "against", "(IIII)I"⟩, 40), (⟨"OathTillModel", "backedBy", "(IIII)I"⟩, 40), (⟨"OathTillModel", "keeps", "()V"⟩, 40)]
theorem lw_r7 : ∀ q ∈ lw_privs_7, lw_okq q := List.forall_mem_cons.mpr ⟨lw_p96, List.forall_mem_cons.mpr ⟨lw_p97, List.forall_mem_cons.mpr ⟨lw_p98, List.forall_mem_cons.mpr ⟨lw_p99, List.forall_mem_cons.mpr ⟨lw_p100, List.forall_mem_cons.mpr ⟨lw_p101, List.forall_mem_cons.mpr ⟨lw_p102, List.forall_mem_cons.mpr ⟨lw_p103, List.forall_mem_cons.mpr ⟨lw_p104, List.forall_mem_cons.mpr ⟨lw_p105, List.forall_mem_cons.mpr ⟨lw_p106, List.forall_mem_cons.mpr ⟨lw_p107, List.forall_mem_cons.mpr ⟨lw_p108, List.forall_mem_cons.mpr ⟨lw_p109, List.forall_mem_cons.mpr ⟨lw_p110, List.forall_mem_cons.mpr ⟨lw_p111, fun _ h => absurd h List.not_mem_nil⟩⟩⟩⟩⟩⟩⟩⟩⟩⟩⟩⟩⟩⟩⟩⟩
theorem lw_p112 : lw_okq (⟨"OathTillModel", "swears", "(IIII)V"⟩, 40) := ⟨⟨by decide +kernel, by decide +kernel⟩, List.mem_of_getElem? (i := 1475) (by decide +kernel), List.mem_of_getElem? (i := 1968) (by decide +kernel), List.mem_of_getElem? (i := 1969) (by decide +kernel)⟩
theorem lw_p113 : lw_okq (⟨"OathTillModel", "voids0", "(I)V"⟩, 40) := ⟨⟨by decide +kernel, by decide +kernel⟩, List.mem_of_getElem? (i := 1475) (by decide +kernel), List.mem_of_getElem? (i := 1972) (by decide +kernel), List.mem_of_getElem? (i := 1973) (by decide +kernel)⟩
theorem lw_p114 : lw_okq (⟨"OathTillModel", "areFit", "(II)Z"⟩, 40) := ⟨⟨by decide +kernel, by decide +kernel⟩, List.mem_of_getElem? (i := 1475) (by decide +kernel), List.mem_of_getElem? (i := 1976) (by decide +kernel), List.mem_of_getElem? (i := 1977) (by decide +kernel)⟩
theorem lw_p115 : lw_okq (⟨"OathTillModel", "doFit", "(IIII)Z"⟩, 40) := ⟨⟨by decide +kernel, by decide +kernel⟩, List.mem_of_getElem? (i := 1475) (by decide +kernel), List.mem_of_getElem? (i := 1980) (by decide +kernel), List.mem_of_getElem? (i := 1981) (by decide +kernel)⟩
theorem lw_p116 : lw_okq (⟨"OathTillModel", "fallen", "(I)I"⟩, 40) := ⟨⟨by decide +kernel, by decide +kernel⟩, List.mem_of_getElem? (i := 1475) (by decide +kernel), List.mem_of_getElem? (i := 1985) (by decide +kernel), List.mem_of_getElem? (i := 1986) (by decide +kernel)⟩
theorem lw_p117 : lw_okq (⟨"OathTillModel", "restores", "()V"⟩, 40) := ⟨⟨by decide +kernel, by decide +kernel⟩, List.mem_of_getElem? (i := 1475) (by decide +kernel), List.mem_of_getElem? (i := 1989) (by decide +kernel), List.mem_of_getElem? (i := 1990) (by decide +kernel)⟩
theorem lw_p118 : lw_okq (⟨"OathTillModel", "finds", "(III)I"⟩, 40) := ⟨⟨by decide +kernel, by decide +kernel⟩, List.mem_of_getElem? (i := 1475) (by decide +kernel), List.mem_of_getElem? (i := 2001) (by decide +kernel), List.mem_of_getElem? (i := 2002) (by decide +kernel)⟩
theorem lw_p119 : lw_okq (⟨"OathTillModel", "standing", "()I"⟩, 40) := ⟨⟨by decide +kernel, by decide +kernel⟩, List.mem_of_getElem? (i := 1475) (by decide +kernel), List.mem_of_getElem? (i := 2009) (by decide +kernel), List.mem_of_getElem? (i := 2010) (by decide +kernel)⟩
theorem lw_p120 : lw_okq (⟨"OathTillModel", "canHaveBeen", "(III)Z"⟩, 40) := ⟨⟨by decide +kernel, by decide +kernel⟩, List.mem_of_getElem? (i := 1475) (by decide +kernel), List.mem_of_getElem? (i := 2042) (by decide +kernel), List.mem_of_getElem? (i := 2043) (by decide +kernel)⟩
theorem lw_p121 : lw_okq (⟨"OathTillModel", "laysWays", "(IZ)I"⟩, 40) := ⟨⟨by decide +kernel, by decide +kernel⟩, List.mem_of_getElem? (i := 1475) (by decide +kernel), List.mem_of_getElem? (i := 2050) (by decide +kernel), List.mem_of_getElem? (i := 2051) (by decide +kernel)⟩
theorem lw_p122 : lw_okq (⟨"OathTillModel", "isMeant", "(IIIZ)Z"⟩, 40) := ⟨⟨by decide +kernel, by decide +kernel⟩, List.mem_of_getElem? (i := 1475) (by decide +kernel), List.mem_of_getElem? (i := 2054) (by decide +kernel), List.mem_of_getElem? (i := 2055) (by decide +kernel)⟩
theorem lw_p123 : lw_okq (⟨"OathTillModel", "mostTrueOf", "(I)I"⟩, 40) := ⟨⟨by decide +kernel, by decide +kernel⟩, List.mem_of_getElem? (i := 1475) (by decide +kernel), List.mem_of_getElem? (i := 2066) (by decide +kernel), List.mem_of_getElem? (i := 2067) (by decide +kernel)⟩
theorem lw_p124 : lw_okq (⟨"OathTillModel", "costs", "(IIII)I"⟩, 40) := ⟨⟨by decide +kernel, by decide +kernel⟩, List.mem_of_getElem? (i := 1475) (by decide +kernel), List.mem_of_getElem? (i := 2091) (by decide +kernel), List.mem_of_getElem? (i := 2092) (by decide +kernel)⟩
theorem lw_p125 : lw_okq (⟨"OathTillModel", "sayableOf", "(II)I"⟩, 40) := ⟨⟨by decide +kernel, by decide +kernel⟩, List.mem_of_getElem? (i := 1475) (by decide +kernel), List.mem_of_getElem? (i := 2112) (by decide +kernel), List.mem_of_getElem? (i := 2113) (by decide +kernel)⟩
theorem lw_p126 : lw_okq (⟨"OathTillModel", "wordsOf", "(II)I"⟩, 40) := ⟨⟨by decide +kernel, by decide +kernel⟩, List.mem_of_getElem? (i := 1475) (by decide +kernel), List.mem_of_getElem? (i := 2125) (by decide +kernel), List.mem_of_getElem? (i := 2126) (by decide +kernel)⟩
theorem lw_p127 : lw_okq (⟨"OathTillModel", "tellsBy", "(JJ)Z"⟩, 40) := ⟨⟨by decide +kernel, by decide +kernel⟩, List.mem_of_getElem? (i := 1475) (by decide +kernel), List.mem_of_getElem? (i := 2137) (by decide +kernel), List.mem_of_getElem? (i := 2138) (by decide +kernel)⟩
def lw_privs_8 : List (MethodName × Nat) := [(⟨"OathTillModel", "swears", "(IIII)V"⟩, 40), (⟨"OathTillModel", "voids0", "(I)V"⟩, 40), (⟨"OathTillModel", "areFit", "(II)Z"⟩, 40), (⟨"OathTillModel", "doFit", "(IIII)Z"⟩, 40), (⟨"OathTillModel", "fallen", "(I)I"⟩, 40), (⟨"OathTillModel", "restores", "()V"⟩, 40), (⟨"OathTillModel", "finds", "(III)I"⟩, 40), (⟨"OathTillModel", "standing", "()I"⟩, 40), (⟨"OathTillModel", "canHaveBeen", "(III)Z"⟩, 40), (⟨"OathTillModel", "laysWays", "(IZ)I"⟩, 40), (⟨"OathTillModel", "isMeant", "(IIIZ)Z"⟩, 40), (⟨"OathTillModel", "mostTrueOf", "(I)I"⟩, 40), (⟨"OathTillModel", "costs", "(IIII)I"⟩, 40), (⟨"OathTillModel", "sayableOf", "(II)I"⟩, 40), (⟨"OathTillModel", "wordsOf", "(II)I"⟩, 40), (⟨"OathTillModel", "tellsBy", "(JJ)Z"⟩, 40)]
theorem lw_r8 : ∀ q ∈ lw_privs_8, lw_okq q := List.forall_mem_cons.mpr ⟨lw_p112, List.forall_mem_cons.mpr ⟨lw_p113, List.forall_mem_cons.mpr ⟨lw_p114, List.forall_mem_cons.mpr ⟨lw_p115, List.forall_mem_cons.mpr ⟨lw_p116, List.forall_mem_cons.mpr ⟨lw_p117, List.forall_mem_cons.mpr ⟨lw_p118, List.forall_mem_cons.mpr ⟨lw_p119, List.forall_mem_cons.mpr ⟨lw_p120, List.forall_mem_cons.mpr ⟨lw_p121, List.forall_mem_cons.mpr ⟨lw_p122, List.forall_mem_cons.mpr ⟨lw_p123, List.forall_mem_cons.mpr ⟨lw_p124, List.forall_mem_cons.mpr ⟨lw_p125, List.forall_mem_cons.mpr ⟨lw_p126, List.forall_mem_cons.mpr ⟨lw_p127, fun _ h => absurd h List.not_mem_nil⟩⟩⟩⟩⟩⟩⟩⟩⟩⟩⟩⟩⟩⟩⟩⟩
theorem lw_p128 : lw_okq (⟨"OathTillModel", "wrongBids", "(II)I"⟩, 40) := ⟨⟨by decide +kernel, by decide +kernel⟩, List.mem_of_getElem? (i := 1475) (by decide +kernel), List.mem_of_getElem? (i := 2153) (by decide +kernel), List.mem_of_getElem? (i := 2154) (by decide +kernel)⟩
theorem lw_p129 : lw_okq (⟨"OathTillModel", "greatest", "(III)I"⟩, 40) := ⟨⟨by decide +kernel, by decide +kernel⟩, List.mem_of_getElem? (i := 1475) (by decide +kernel), List.mem_of_getElem? (i := 2158) (by decide +kernel), List.mem_of_getElem? (i := 2159) (by decide +kernel)⟩
theorem lw_p130 : lw_okq (⟨"OathTillModel", "secondBid", "(II)I"⟩, 40) := ⟨⟨by decide +kernel, by decide +kernel⟩, List.mem_of_getElem? (i := 1475) (by decide +kernel), List.mem_of_getElem? (i := 2162) (by decide +kernel), List.mem_of_getElem? (i := 2163) (by decide +kernel)⟩
theorem lw_p131 : lw_okq (⟨"OathTillModel", "lives", "(I)V"⟩, 40) := ⟨⟨by decide +kernel, by decide +kernel⟩, List.mem_of_getElem? (i := 1475) (by decide +kernel), List.mem_of_getElem? (i := 2175) (by decide +kernel), List.mem_of_getElem? (i := 2176) (by decide +kernel)⟩
theorem lw_p132 : lw_okq (⟨"OathTillModel", "does", "(I)Z"⟩, 40) := ⟨⟨by decide +kernel, by decide +kernel⟩, List.mem_of_getElem? (i := 1475) (by decide +kernel), List.mem_of_getElem? (i := 2179) (by decide +kernel), List.mem_of_getElem? (i := 2180) (by decide +kernel)⟩
theorem lw_p133 : lw_okq (⟨"OathTillModel", "swearsBy", "(IIII)Z"⟩, 40) := ⟨⟨by decide +kernel, by decide +kernel⟩, List.mem_of_getElem? (i := 1475) (by decide +kernel), List.mem_of_getElem? (i := 2183) (by decide +kernel), List.mem_of_getElem? (i := 2184) (by decide +kernel)⟩
theorem lw_p134 : lw_okq (⟨"OathTillModel", "swearsAny", "(II)Z"⟩, 40) := ⟨⟨by decide +kernel, by decide +kernel⟩, List.mem_of_getElem? (i := 1475) (by decide +kernel), List.mem_of_getElem? (i := 2187) (by decide +kernel), List.mem_of_getElem? (i := 2188) (by decide +kernel)⟩
theorem lw_p135 : lw_okq (⟨"OathTillModel", "draw", "(I)I"⟩, 40) := ⟨⟨by decide +kernel, by decide +kernel⟩, List.mem_of_getElem? (i := 1475) (by decide +kernel), List.mem_of_getElem? (i := 2191) (by decide +kernel), List.mem_of_getElem? (i := 2192) (by decide +kernel)⟩
theorem lw_p136 : lw_okq (⟨"OathTillModel", "recants", "(I)Z"⟩, 40) := ⟨⟨by decide +kernel, by decide +kernel⟩, List.mem_of_getElem? (i := 1475) (by decide +kernel), List.mem_of_getElem? (i := 2196) (by decide +kernel), List.mem_of_getElem? (i := 2197) (by decide +kernel)⟩
theorem lw_p137 : lw_okq (⟨"OathTillModel", "holds", "(I)Z"⟩, 40) := ⟨⟨by decide +kernel, by decide +kernel⟩, List.mem_of_getElem? (i := 1475) (by decide +kernel), List.mem_of_getElem? (i := 2200) (by decide +kernel), List.mem_of_getElem? (i := 2201) (by decide +kernel)⟩
theorem lw_p138 : lw_okq (⟨"OathTillModel", "behindEnds", "(I)I"⟩, 40) := ⟨⟨by decide +kernel, by decide +kernel⟩, List.mem_of_getElem? (i := 1475) (by decide +kernel), List.mem_of_getElem? (i := 2204) (by decide +kernel), List.mem_of_getElem? (i := 2205) (by decide +kernel)⟩
theorem lw_p139 : lw_okq (⟨"OathTillModel", "moves", "(II)V"⟩, 40) := ⟨⟨by decide +kernel, by decide +kernel⟩, List.mem_of_getElem? (i := 1475) (by decide +kernel), List.mem_of_getElem? (i := 2221) (by decide +kernel), List.mem_of_getElem? (i := 2222) (by decide +kernel)⟩
def lw_privs_9 : List (MethodName × Nat) := [(⟨"OathTillModel", "wrongBids", "(II)I"⟩, 40), (⟨"OathTillModel", "greatest", "(III)I"⟩, 40), (⟨"OathTillModel", "secondBid", "(II)I"⟩, 40), (⟨"OathTillModel", "lives", "(I)V"⟩, 40), (⟨"OathTillModel", "does", "(I)Z"⟩, 40), (⟨"OathTillModel", "swearsBy", "(IIII)Z"⟩, 40), (⟨"OathTillModel", "swearsAny", "(II)Z"⟩, 40), (⟨"OathTillModel", "draw", "(I)I"⟩, 40), (⟨"OathTillModel", "recants", "(I)Z"⟩, 40), (⟨"OathTillModel", "holds", "(I)Z"⟩, 40), (⟨"OathTillModel", "behindEnds", "(I)I"⟩, 40), (⟨"OathTillModel", "moves", "(II)V"⟩, 40)]
theorem lw_r9 : ∀ q ∈ lw_privs_9, lw_okq q := List.forall_mem_cons.mpr ⟨lw_p128, List.forall_mem_cons.mpr ⟨lw_p129, List.forall_mem_cons.mpr ⟨lw_p130, List.forall_mem_cons.mpr ⟨lw_p131, List.forall_mem_cons.mpr ⟨lw_p132, List.forall_mem_cons.mpr ⟨lw_p133, List.forall_mem_cons.mpr ⟨lw_p134, List.forall_mem_cons.mpr ⟨lw_p135, List.forall_mem_cons.mpr ⟨lw_p136, List.forall_mem_cons.mpr ⟨lw_p137, List.forall_mem_cons.mpr ⟨lw_p138, List.forall_mem_cons.mpr ⟨lw_p139, fun _ h => absurd h List.not_mem_nil⟩⟩⟩⟩⟩⟩⟩⟩⟩⟩⟩⟩
def lw_privs : List (MethodName × Nat) := lw_privs_1 ++ (lw_privs_2 ++ (lw_privs_3 ++ (lw_privs_4 ++ (lw_privs_5 ++ (lw_privs_6 ++ (lw_privs_7 ++ (lw_privs_8 ++ (lw_privs_9))))))))
def lw_tbl : List Cond := k2_sels lw_privs ++ tables_1
theorem lw_privs_ok : ∀ q ∈ lw_privs, lw_okq q := by
  show ∀ q ∈ lw_privs_1 ++ (lw_privs_2 ++ (lw_privs_3 ++ (lw_privs_4 ++ (lw_privs_5 ++ (lw_privs_6 ++ (lw_privs_7 ++ (lw_privs_8 ++ (lw_privs_9)))))))), lw_okq q
  exact List.forall_mem_append.mpr ⟨lw_r1, List.forall_mem_append.mpr ⟨lw_r2, List.forall_mem_append.mpr ⟨lw_r3, List.forall_mem_append.mpr ⟨lw_r4, List.forall_mem_append.mpr ⟨lw_r5, List.forall_mem_append.mpr ⟨lw_r6, List.forall_mem_append.mpr ⟨lw_r7, List.forall_mem_append.mpr ⟨lw_r8, lw_r9⟩⟩⟩⟩⟩⟩⟩⟩
-- ===== end of PART A; then your names; then what follows =====
end
section
/-! trees: a leaf keeps its own number, so that reading behind a write needs no order -/
noncomputable def xg {α : Type} (t : Lean.RArray (Nat × α)) (k : Nat) : Option α :=
  Lean.RArray.rec (motive := fun _ => Option α) (fun q => cond (Nat.beq q.1 k) (some q.2) none) (fun p _ _ gl gr => cond (Nat.ble p k) gr gl) t
theorem xg_leaf {α : Type} (q : Nat × α) (k : Nat) : xg (.leaf q) k = cond (Nat.beq q.1 k) (some q.2) none := rfl
theorem xg_branch {α : Type} (p : Nat) (a b : Lean.RArray (Nat × α)) (k : Nat) : xg (.branch p a b) k = cond (Nat.ble p k) (xg b k) (xg a k) := rfl
noncomputable def xw {α : Type} (t : Lean.RArray (Nat × α)) (k : Nat) (v : α) : Lean.RArray (Nat × α) :=
  Lean.RArray.rec (motive := fun _ => Lean.RArray (Nat × α)) (fun q => .leaf (cond (Nat.beq q.1 k) (k, v) q)) (fun p a b sa sb => cond (Nat.ble p k) (.branch p a sb) (.branch p sa b)) t
theorem xw_leaf {α : Type} (q : Nat × α) (k : Nat) (v : α) : xw (.leaf q) k v = .leaf (cond (Nat.beq q.1 k) (k, v) q) := rfl
theorem xw_branch {α : Type} (p : Nat) (a b : Lean.RArray (Nat × α)) (k : Nat) (v : α) : xw (.branch p a b) k v = cond (Nat.ble p k) (.branch p a (xw b k v)) (.branch p (xw a k v) b) := rfl
/-- the same by a continuation: what it is given is written out -/
noncomputable def xsK {α β : Type} (t : Lean.RArray (Nat × α)) (k : Nat) (v : α) (c : Lean.RArray (Nat × α) → β) : β :=
  Lean.RArray.rec (motive := fun _ => (Lean.RArray (Nat × α) → β) → β) (fun q c => c (.leaf (cond (Nat.beq q.1 k) (k, v) q))) (fun p a b sa sb c => cond (Nat.ble p k) (sb (fun b' => c (.branch p a b'))) (sa (fun a' => c (.branch p a' b)))) t c
theorem xsK_eq {α β : Type} (t : Lean.RArray (Nat × α)) (k : Nat) (v : α) : ∀ (c : Lean.RArray (Nat × α) → β), xsK t k v c = c (xw t k v) := by
  induction t with
  | leaf q => intro c; rfl
  | branch p a b iha ihb =>
    intro c
    rw [xw_branch]
    show cond (Nat.ble p k) (xsK b k v (fun b' => c (.branch p a b'))) (xsK a k v (fun a' => c (.branch p a' b))) = _
    rw [iha, ihb]
    cases Nat.ble p k <;> rfl
theorem xg_self {α : Type} (t : Lean.RArray (Nat × α)) (k : Nat) (v w : α) (h : xg t k = some w) : xg (xw t k v) k = some v := by
  induction t with
  | leaf q =>
    rw [xg_leaf] at h
    rw [xw_leaf, xg_leaf]
    cases hb : Nat.beq q.1 k with
    | false => rw [hb] at h; cases h
    | true => simp
  | branch p a b iha ihb =>
    rw [xg_branch] at h
    rw [xw_branch]
    cases hb : Nat.ble p k with
    | true => rw [hb] at h; simp only [cond_true] at h ⊢; rw [xg_branch, hb]; exact ihb h
    | false => rw [hb] at h; simp only [cond_false] at h ⊢; rw [xg_branch, hb]; exact iha h
theorem xg_other {α : Type} (t : Lean.RArray (Nat × α)) (k j : Nat) (v : α) (h : j ≠ k) : xg (xw t k v) j = xg t j := by
  induction t with
  | leaf q =>
    rw [xw_leaf, xg_leaf, xg_leaf]
    cases hb : Nat.beq q.1 k with
    | false => rfl
    | true =>
      have e : q.1 = k := Nat.eq_of_beq_eq_true hb
      have n1 : Nat.beq k j = false := by
        cases hx : Nat.beq k j with
        | false => rfl
        | true => exact absurd (Nat.eq_of_beq_eq_true hx).symm h
      simp only [cond_true, e, n1, cond_false]
  | branch p a b iha ihb =>
    rw [xw_branch]
    cases hb : Nat.ble p k with
    | true =>
      simp only [cond_true]
      rw [xg_branch, xg_branch, ihb]
    | false =>
      simp only [cond_false]
      rw [xg_branch, xg_branch, iha]
/-- all leaves -/
noncomputable def xall {α : Type} (t : Lean.RArray (Nat × α)) (f : Nat → α → Bool) : Bool :=
  Lean.RArray.rec (motive := fun _ => Bool) (fun q => f q.1 q.2) (fun _ _ _ a b => cond a b false) t
theorem xall_get {α : Type} (t : Lean.RArray (Nat × α)) (f : Nat → α → Bool) (h : xall t f = true) (k : Nat) (v : α) (hg : xg t k = some v) : f k v = true := by
  induction t with
  | leaf q =>
    rw [xg_leaf] at hg
    cases hb : Nat.beq q.1 k with
    | false => rw [hb] at hg; cases hg
    | true =>
      rw [hb] at hg
      have e : q.1 = k := Nat.eq_of_beq_eq_true hb
      have e2 : q.2 = v := Option.some.inj hg
      rw [← e, ← e2]
      exact h
  | branch p a b iha ihb =>
    have h' : cond (xall a f) (xall b f) false = true := h
    rw [xg_branch] at hg
    cases ha : xall a f with
    | false => rw [ha] at h'; cases h'
    | true =>
      rw [ha] at h'
      cases hb : Nat.ble p k with
      | true => rw [hb] at hg; exact ihb h' hg
      | false => rw [hb] at hg; exact iha ha hg
/-- a tree of n places from lo on, all v -/
def xmk {α : Type} (v : α) : Nat → Nat → Nat → Lean.RArray (Nat × α)
  | 0, lo, _ => .leaf (lo, v)
  | f + 1, lo, n => cond (Nat.ble n 1) (.leaf (lo, v)) (.branch (lo + n / 2) (xmk v f lo (n / 2)) (xmk v f (lo + n / 2) (n - n / 2)))
theorem xmk_get {α : Type} (v : α) : ∀ (f lo n k : Nat), n ≤ 2 ^ f → lo ≤ k → k < lo + n → xg (xmk v f lo n) k = some v
  | 0, lo, n, k, hn, h1, h2 => by
    have e : lo = k := by simp at hn; omega
    show cond (Nat.beq lo k) (some v) none = some v
    rw [e, Nat.beq_refl]; rfl
  | f + 1, lo, n, k, hn, h1, h2 => by
    show xg (cond (Nat.ble n 1) (.leaf (lo, v)) (.branch (lo + n / 2) (xmk v f lo (n / 2)) (xmk v f (lo + n / 2) (n - n / 2)))) k = some v
    have hp : 2 ^ (f + 1) = 2 ^ f + 2 ^ f := by rw [Nat.pow_succ]; omega
    cases hb : Nat.ble n 1 with
    | true =>
      have : n ≤ 1 := Nat.le_of_ble_eq_true hb
      have e : lo = k := by omega
      show cond (Nat.beq lo k) (some v) none = some v
      rw [e, Nat.beq_refl]; rfl
    | false =>
      have hn1 : ¬ n ≤ 1 := fun q => by rw [Nat.ble_eq_true_of_le q] at hb; cases hb
      simp only [cond_false]
      rw [xg_branch]
      cases hc : Nat.ble (lo + n / 2) k with
      | true =>
        have := Nat.le_of_ble_eq_true hc
        exact xmk_get v f (lo + n / 2) (n - n / 2) k (by omega) (by omega) (by omega)
      | false =>
        have : ¬ lo + n / 2 ≤ k := fun q => by rw [Nat.ble_eq_true_of_le q] at hc; cases hc
        exact xmk_get v f lo (n / 2) k (by omega) h1 (by omega)
end
section
/-! The path explorer: one frame at a time, ints of the script by intervals, all else concrete.
A value is a tag and a number. 0: int constant; 1: the script's int at that place; 2: long constant; 3: the script's int, widened; 4: a cell of ours; 5: null; 6: a cell that was there before; 7: some int; 8: some long; 10: a reference or null. -/
abbrev xv : Type := Nat × Nat
abbrev xct : Type := Lean.RArray (Nat × xv)
abbrev xcell : Type := Nat × Nat × xct
abbrev xheap : Type := Lean.RArray (Nat × xcell)
abbrev xbox : Type := List (Nat × Nat)
/-- instruction, next pc, target, two numbers -/
abbrev xins : Type := Instr × Nat × Nat × Nat × Nat
abbrev xleaf : Type := xbox × xheap × Nat × Option xv
abbrev xR : Type := Option (List xleaf)
/-- method, depth, pc, locals, stack, box, heap, cells in it, cells and slots made -/
abbrev xF : Type := Nat → Nat → Nat → List (Nat × xv) → List xv → xbox → xheap → Nat → Nat → Nat → xR
noncomputable def xfrc {β : Type} (n : Nat) (c : Nat → β) : β := Nat.rec (motive := fun _ => β) (c 0) (fun m _ => c (Nat.succ m)) n
theorem xfrc_eq {β : Type} (n : Nat) (c : Nat → β) : xfrc n c = c n := by cases n <;> rfl
/-- 0 int, 1 long, 2 a reference, 3 null -/
def xkd : Nat → Nat
  | 0 => 0
  | 1 => 0
  | 2 => 1
  | 3 => 1
  | 4 => 2
  | 5 => 3
  | 6 => 2
  | 7 => 0
  | 8 => 1
  | 10 => 4
  | _ => 9
/-- the number of an int, 2^63 added -/
def xoi (n : Nat) : Nat := cond (Nat.ble 2147483648 (n % 4294967296)) (n % 4294967296 + 9223372032559808512) (n % 4294967296 + 9223372036854775808)
def xol (n : Nat) : Nat := (n + 9223372036854775808) % 18446744073709551616
def xbg : xbox → Nat → Nat × Nat
  | [], _ => (0, 18446744073709551616)
  | q :: _, 0 => q
  | _ :: l, i + 1 => xbg l i
def xbs : xbox → Nat → Nat → Nat → xbox
  | [], _, _, _ => []
  | _ :: l, 0, lo, hi => (lo, hi) :: l
  | q :: l, i + 1, lo, hi => q :: xbs l i lo hi
def xrg (bx : xbox) (w : xv) : Nat × Nat :=
  match w.1 with
  | 0 => (xoi w.2, xoi w.2)
  | 1 => xbg bx w.2
  | 2 => (xol w.2, xol w.2)
  | 3 => xbg bx w.2
  | _ => (0, 18446744073709551616)
/-- an int that is known -/
def xci (bx : xbox) (w : xv) : Option Nat :=
  match w.1 with
  | 0 => some w.2
  | 1 => cond (Nat.beq (xbg bx w.2).1 (xbg bx w.2).2) (some ((xbg bx w.2).1 % 4294967296)) none
  | _ => none
def xcl (bx : xbox) (w : xv) : Option Nat :=
  match w.1 with
  | 2 => some w.2
  | 3 => cond (Nat.beq (xbg bx w.2).1 (xbg bx w.2).2) (some (((xbg bx w.2).1 + 9223372036854775808) % 18446744073709551616)) none
  | _ => none
def xapp (a b : xR) : xR :=
  match a with
  | none => none
  | some x => match b with
    | none => none
    | some y => some (x ++ y)
def xbind (k : xleaf → xR) : List xleaf → xR
  | [] => some []
  | q :: l => xapp (k q) (xbind k l)
/-- the place i of the script is below o, o, or above -/
def xspl (k : xbox → xR) (bx : xbox) (i o : Nat) : xR :=
  xapp (cond (Nat.ble o (xbg bx i).1) (some []) (k (xbs bx i (xbg bx i).1 (o - 1))))
    (xapp (k (xbs bx i o o)) (cond (Nat.ble (xbg bx i).2 o) (some []) (k (xbs bx i (o + 1) (xbg bx i).2))))
/-- what a compare of two intervals says -/
def xdec (o : Jvm.ClassFile.Cond) (a b : Nat × Nat) : Option Bool :=
  match o with
  | .eq => cond (Nat.beq a.1 a.2 && Nat.beq b.1 b.2 && Nat.beq a.1 b.1) (some true) (cond (Nat.blt a.2 b.1 || Nat.blt b.2 a.1) (some false) none)
  | .ne => cond (Nat.beq a.1 a.2 && Nat.beq b.1 b.2 && Nat.beq a.1 b.1) (some false) (cond (Nat.blt a.2 b.1 || Nat.blt b.2 a.1) (some true) none)
  | .lt => cond (Nat.blt a.2 b.1) (some true) (cond (Nat.ble b.2 a.1) (some false) none)
  | .ge => cond (Nat.blt a.2 b.1) (some false) (cond (Nat.ble b.2 a.1) (some true) none)
  | .gt => cond (Nat.blt b.2 a.1) (some true) (cond (Nat.ble a.2 b.1) (some false) none)
  | .le => cond (Nat.blt b.2 a.1) (some false) (cond (Nat.ble a.2 b.1) (some true) none)
/-- where to cut -/
def xpt (bx : xbox) (a b : xv) : Option (Nat × Nat) :=
  cond ((Nat.beq a.1 1 || Nat.beq a.1 3) && Nat.beq (xrg bx b).1 (xrg bx b).2) (some (a.2, (xrg bx b).1))
    (cond ((Nat.beq b.1 1 || Nat.beq b.1 3) && Nat.beq (xrg bx a).1 (xrg bx a).2) (some (b.2, (xrg bx a).1)) none)
/-- a branch: k of 'taken' -/
def xbr (o : Jvm.ClassFile.Cond) (bx : xbox) (a b : xv) (k : Bool → xR) (again : xbox → xR) : xR :=
  match xdec o (xrg bx a) (xrg bx b) with
  | some t => k t
  | none => match xpt bx a b with
    | some q => xspl again bx q.1 q.2
    | none => xapp (k true) (k false)
/-- a local -/
def xlk : List (Nat × xv) → Nat → Option xv
  | [], _ => none
  | q :: l, i => cond (Nat.beq q.1 i) (some q.2) (xlk l i)
/-- what is left of the locals when a word, or two, are stored at i -/
def xk1 (i : Nat) (q : Nat × xv) : Bool := !(Nat.beq q.1 i) && !(Nat.beq (q.1 + 1) i && Nat.beq (xkd q.2.1) 1)
def xk2 (i : Nat) (q : Nat × xv) : Bool := !(Nat.beq q.1 i) && (!(Nat.beq q.1 (i + 1)) && !(Nat.beq (q.1 + 1) i && Nat.beq (xkd q.2.1) 1))
def xfl {β : Type} (f : Nat × xv → Bool) : List (Nat × xv) → (List (Nat × xv) → β) → β
  | [], c => c []
  | q :: l, c => cond (f q) (xfl f l (fun m => c (q :: m))) (xfl f l c)
theorem xfl_eq {β : Type} (f : Nat × xv → Bool) : ∀ (l : List (Nat × xv)) (c : List (Nat × xv) → β), xfl f l c = c (l.filter f)
  | [], c => rfl
  | q :: l, c => by
    show cond (f q) (xfl f l (fun m => c (q :: m))) (xfl f l c) = _
    rw [xfl_eq f l, xfl_eq f l, List.filter_cons]
    cases f q <;> rfl
/-- the last n of the stack, in their order, and the rest -/
def xpop : Nat → List xv → List xv → Option (List xv × List xv)
  | 0, acc, st => some (acc, st)
  | _ + 1, _, [] => none
  | n + 1, acc, w :: st => xpop n (w :: acc) st
def xarg : Nat → List xv → List (Nat × xv)
  | _, [] => []
  | i, w :: l => (i, w) :: xarg (cond (Nat.beq (xkd w.1) 1) (i + 2) (i + 1)) l
def xwds : List xv → Nat
  | [] => 0
  | w :: l => cond (Nat.beq (xkd w.1) 1) 2 1 + xwds l
def xnu (x : Int32) : Nat := x.toBitVec.toNat
def xnl (x : Int64) : Nat := x.toBitVec.toNat
/-- a cell of n places, all of the type's first value: 0 int, 1 long, 2 reference -/
def xd0 : Nat → xv
  | 0 => (0, 0)
  | 1 => (2, 0)
  | _ => (5, 0)
/-- contents by a list -/
noncomputable def xsl {β : Type} : List xv → Nat → xct → (xct → β) → β
  | [], _, t, c => c t
  | w :: l, i, t, c => xsK t i w (fun t' => xsl l (i + 1) t' c)
/-- n places of t1 from sp on into t2 from dp on -/
noncomputable def xcp {β : Type} (t1 : xct) : Nat → Nat → Nat → xct → (xct → Option β) → Option β
  | 0, _, _, t2, c => c t2
  | n + 1, sp, dp, t2, c => match xg t1 sp with
    | none => none
    | some w => xsK t2 dp w (fun t => xcp t1 n (sp + 1) (dp + 1) t c)
end
section
/-! The step. cd: the code by method; mi: a method's cells, slots, arguments (without the receiver), receiver's kind, kind of answer (0 void, 1 int, 2 long, 3 boolean, 4 char, 5 byte), words of locals; df: a fresh object of a kind; el: lengths of arrays that were there before; eb: bytes of the text. -/
abbrev xmi : Type := Lean.RArray (Nat × (Nat × Nat × Nat × Nat × Nat × Nat))
abbrev xcd : Type := Lean.RArray (Nat × Lean.RArray (Nat × xins))
abbrev xdf : Type := Lean.RArray (Nat × (Nat × xct))
def xfit (tc : Nat) (w : xv) : Bool :=
  match tc with
  | 0 => Nat.beq (xkd w.1) 0
  | 1 => Nat.beq (xkd w.1) 1
  | 2 => Nat.beq (xkd w.1) 2 || Nat.beq (xkd w.1) 3
  | 3 => Nat.beq w.1 0 && Nat.ble w.2 1
  | _ => false
def xrok (rt : Nat) (w : xv) : Bool :=
  match rt with
  | 1 => Nat.beq (xkd w.1) 0
  | 3 => Nat.beq w.1 0 && Nat.ble w.2 1
  | 4 => Nat.beq w.1 0 && Nat.blt w.2 65536
  | 5 => Nat.beq w.1 0 && Nat.blt w.2 128
  | _ => false
/-- a byte's word -/
def xb8 (w : xv) : xv := match w.1 with
  | 0 => (0, xnu (nI w.2).toInt8.toInt32)
  | _ => (7, 0)
section Step
variable (mi : xmi) (df : xdf) (el : Nat → Nat) (eb : Nat → List Nat) (rec : xF)
variable (nx tg r1 r2 y d pc : Nat) (ls : List (Nat × xv)) (st : List xv) (bx : xbox) (h : xheap) (n c s : Nat)
noncomputable def x_ld (k1 k2 : Nat) : xR :=
  match xlk ls r1 with
  | none => none
  | some w => cond (Nat.beq (xkd w.1) k1 || Nat.beq (xkd w.1) k2) (rec y d nx ls (w :: st) bx h n c s) none
noncomputable def x_st (k1 k2 : Nat) (f : Nat → Nat × xv → Bool) : xR :=
  match st with
  | [] => none
  | w :: r => cond (Nat.beq (xkd w.1) k1 || Nat.beq (xkd w.1) k2) (xfl (f r1) ls (fun m => rec y d nx ((r1, w) :: m) r bx h n c s)) none
noncomputable def x_inc : xR :=
  match xlk ls r1 with
  | none => none
  | some w => match xci bx w with
    | none => none
    | some x => xfl (xk1 r1) ls (fun m => xfrc ((x + r2) % 4294967296) (fun z => rec y d nx ((r1, (0, z)) :: m) st bx h n c s))
noncomputable def x_bi (f : Nat → Nat → Nat) : xR :=
  match st with
  | b :: a :: r => cond (Nat.beq (xkd b.1) 0 && Nat.beq (xkd a.1) 0)
      (match xci bx a with
        | none => rec y d nx ls ((7, 0) :: r) bx h n c s
        | some x => match xci bx b with
          | none => rec y d nx ls ((7, 0) :: r) bx h n c s
          | some z => xfrc (f x z) (fun q => rec y d nx ls ((0, q) :: r) bx h n c s)) none
  | _ => none
/-- a divisor that is known, and isn't 0 -/
noncomputable def x_dv (f : Nat → Nat → Nat) : xR :=
  match st with
  | b :: a :: r => match xci bx a with
    | none => none
    | some x => match xci bx b with
      | none => none
      | some z => cond (Nat.beq (z % 4294967296) 0) none (xfrc (f x z) (fun q => rec y d nx ls ((0, q) :: r) bx h n c s))
  | _ => none
noncomputable def x_bl (f : Nat → Nat → Nat) : xR :=
  match st with
  | b :: a :: r => cond (Nat.beq (xkd b.1) 1 && Nat.beq (xkd a.1) 1)
      (match xcl bx a with
        | none => rec y d nx ls ((8, 0) :: r) bx h n c s
        | some x => match xcl bx b with
          | none => rec y d nx ls ((8, 0) :: r) bx h n c s
          | some z => xfrc (f x z) (fun q => rec y d nx ls ((2, q) :: r) bx h n c s)) none
  | _ => none
noncomputable def x_dl (f : Nat → Nat → Nat) : xR :=
  match st with
  | b :: a :: r => match xcl bx a with
    | none => none
    | some x => match xcl bx b with
      | none => none
      | some z => cond (Nat.beq (z % 18446744073709551616) 0) none (xfrc (f x z) (fun q => rec y d nx ls ((2, q) :: r) bx h n c s))
  | _ => none
/-- a long shifted by an int -/
noncomputable def x_sl (f : Nat → Nat → Nat) : xR :=
  match st with
  | b :: a :: r => cond (Nat.beq (xkd b.1) 0 && Nat.beq (xkd a.1) 1)
      (match xcl bx a with
        | none => rec y d nx ls ((8, 0) :: r) bx h n c s
        | some x => match xci bx b with
          | none => rec y d nx ls ((8, 0) :: r) bx h n c s
          | some z => xfrc (f x z) (fun q => rec y d nx ls ((2, q) :: r) bx h n c s)) none
  | _ => none
noncomputable def x_ui (f : Nat → Nat) : xR :=
  match st with
  | a :: r => cond (Nat.beq (xkd a.1) 0)
      (match xci bx a with
        | none => rec y d nx ls ((7, 0) :: r) bx h n c s
        | some x => xfrc (f x) (fun q => rec y d nx ls ((0, q) :: r) bx h n c s)) none
  | _ => none
noncomputable def x_i2l : xR :=
  match st with
  | a :: r => match a.1 with
    | 0 => xfrc (xnl (nI a.2).toInt64) (fun q => rec y d nx ls ((2, q) :: r) bx h n c s)
    | 1 => rec y d nx ls ((3, a.2) :: r) bx h n c s
    | 7 => rec y d nx ls ((8, 0) :: r) bx h n c s
    | _ => none
  | _ => none
noncomputable def x_l2i : xR :=
  match st with
  | a :: r => cond (Nat.beq (xkd a.1) 1)
      (match xcl bx a with
        | none => rec y d nx ls ((7, 0) :: r) bx h n c s
        | some x => xfrc (x % 4294967296) (fun q => rec y d nx ls ((0, q) :: r) bx h n c s)) none
  | _ => none
noncomputable def x_dup : xR :=
  match st with
  | a :: r => cond (Nat.beq (xkd a.1) 1) none (rec y d nx ls (a :: a :: r) bx h n c s)
  | _ => none
noncomputable def x_pop : xR :=
  match st with
  | a :: r => cond (Nat.beq (xkd a.1) 1) none (rec y d nx ls r bx h n c s)
  | _ => none
noncomputable def x_dup2 : xR :=
  match st with
  | a :: r => cond (Nat.beq (xkd a.1) 1) (rec y d nx ls (a :: a :: r) bx h n c s)
      (match r with
        | b :: r' => cond (Nat.beq (xkd b.1) 1) none (rec y d nx ls (a :: b :: a :: b :: r') bx h n c s)
        | _ => none)
  | _ => none
noncomputable def x_icmp (o : Jvm.ClassFile.Cond) : xR :=
  match st with
  | b :: a :: r => cond (Nat.beq (xkd b.1) 0 && Nat.beq (xkd a.1) 0)
      (xbr o bx a b (fun t => rec y d (cond t tg nx) ls r bx h n c s) (fun bx' => rec y d pc ls st bx' h n c s)) none
  | _ => none
noncomputable def x_if (o : Jvm.ClassFile.Cond) : xR :=
  match st with
  | a :: r => cond (Nat.beq (xkd a.1) 0)
      (xbr o bx a (0, 0) (fun t => rec y d (cond t tg nx) ls r bx h n c s) (fun bx' => rec y d pc ls st bx' h n c s)) none
  | _ => none
noncomputable def x_nul (t : Bool) : xR :=
  match st with
  | a :: r => match xkd a.1 with
    | 2 => rec y d (cond t nx tg) ls r bx h n c s
    | 3 => rec y d (cond t tg nx) ls r bx h n c s
    | _ => none
  | _ => none
noncomputable def x_lcmp : xR :=
  match st with
  | b :: a :: r => cond (Nat.beq (xkd b.1) 1 && Nat.beq (xkd a.1) 1)
      (match xdec .lt (xrg bx a) (xrg bx b) with
        | some true => rec y d nx ls ((0, 4294967295) :: r) bx h n c s
        | some false => (match xdec .gt (xrg bx a) (xrg bx b) with
          | some true => rec y d nx ls ((0, 1) :: r) bx h n c s
          | some false => rec y d nx ls ((0, 0) :: r) bx h n c s
          | none => (match xpt bx a b with
            | some q => xspl (fun bx' => rec y d pc ls st bx' h n c s) bx q.1 q.2
            | none => rec y d nx ls ((7, 0) :: r) bx h n c s))
        | none => (match xpt bx a b with
          | some q => xspl (fun bx' => rec y d pc ls st bx' h n c s) bx q.1 q.2
          | none => rec y d nx ls ((7, 0) :: r) bx h n c s)) none
  | _ => none
/-- where a table goes -/
def xts (dflt lo hi : Int) (offs : Array Int) (pc : Nat) (z : Int) : Option Nat :=
  if z < lo ∨ hi < z then (if 0 ≤ (pc : Int) + dflt then some ((pc : Int) + dflt).toNat else none)
  else match offs[(z - lo).toNat]? with
    | none => none
    | some o => if 0 ≤ (pc : Int) + o then some ((pc : Int) + o).toNat else none
def xz (x : Nat) : Int := (nI x).toInt
noncomputable def x_tab (dflt lo hi : Int) (offs : Array Int) : xR :=
  match st with
  | a :: r => match xci bx a with
    | some x => (match xts dflt lo hi offs pc (xz x) with
      | some t => rec y d t ls r bx h n c s
      | none => none)
    | none => cond (Nat.beq a.1 1)
        (cond (Nat.blt (xbg bx a.2).2 (lo + 9223372036854775808).toNat || Nat.blt (hi + 9223372036854775808).toNat (xbg bx a.2).1)
          (if 0 ≤ (pc : Int) + dflt then rec y d ((pc : Int) + dflt).toNat ls r bx h n c s else none)
          (xspl (fun bx' => rec y d pc ls st bx' h n c s) bx a.2 (cond (Nat.blt (xbg bx a.2).1 (lo + 9223372036854775808).toNat) (lo + 9223372036854775808).toNat (xbg bx a.2).1))) none
  | _ => none
noncomputable def x_lkp (dflt : Int) (ps : Array (Int × Int)) : xR :=
  match st with
  | a :: r => match xci bx a with
    | none => none
    | some x => if 0 ≤ (pc : Int) + Op.lookupswitch.offset ps.toList dflt (xz x) then rec y d ((pc : Int) + Op.lookupswitch.offset ps.toList dflt (xz x)).toNat ls r bx h n c s else none
  | _ => none
noncomputable def x_get : xR :=
  match st with
  | w :: r => cond (Nat.beq w.1 4)
      (match xg h w.2 with
        | none => none
        | some q => cond (Nat.beq q.1 r1 && Nat.blt r1 13)
            (match xg q.2.2 r2 with
              | none => none
              | some v => rec y d nx ls (v :: r) bx h n c s) none)
      (cond (Nat.beq w.1 6 && (Nat.beq w.2 1 || Nat.beq w.2 3) && Nat.beq r1 98) (rec y d nx ls ((cond (Nat.beq r2 0) (6, w.2 + 1) (0, 0)) :: r) bx h n c s) none)
  | _ => none
noncomputable def x_put : xR :=
  match st with
  | v :: w :: r => cond (Nat.beq w.1 4 && xfit tg v)
      (match xg h w.2 with
        | none => none
        | some q => cond (Nat.beq q.1 r1 && Nat.blt r2 q.2.1)
            (match xg q.2.2 r2 with
              | none => none
              | some _ => xsK q.2.2 r2 v (fun t => xsK h w.2 (q.1, q.2.1, t) (fun h' => rec y d nx ls r bx h' n c s))) none) none
  | _ => none
/-- a new cell -/
noncomputable def x_cell (k m : Nat) (t : xct) (r : List xv) : xR :=
  match xg mi y with
  | none => none
  | some q => cond (Nat.blt c q.1 && Nat.ble (s + m) q.2.1)
      (match xg h n with
        | none => none
        | some _ => xsK h n (k, m, t) (fun h' => xfrc (n + 1) (fun n' => xfrc (c + 1) (fun c' => xfrc (s + m) (fun s' => rec y d nx ls ((4, n) :: r) bx h' n' c' s'))))) none
noncomputable def x_new : xR :=
  match xg df r1 with
  | none => none
  | some q => x_cell mi rec nx y d ls bx h n c s r1 q.1 q.2 st
noncomputable def x_arr (dk : Nat) : xR :=
  match st with
  | w :: r => match xci bx w with
    | none => none
    | some m => cond (Nat.ble m 1048576) (x_cell mi rec nx y d ls bx h n c s r1 m (xmk (xd0 dk) 20 0 m) r) none
  | _ => none
noncomputable def x_len : xR :=
  match st with
  | w :: r => cond (Nat.beq w.1 4)
      (match xg h w.2 with
        | none => none
        | some q => cond (Nat.ble 13 q.1) (rec y d nx ls ((0, q.2.1) :: r) bx h n c s) none)
      (cond (Nat.beq w.1 6 && (Nat.beq w.2 0 || (Nat.beq w.2 2 || Nat.beq w.2 4))) (rec y d nx ls ((0, el w.2) :: r) bx h n c s) none)
  | _ => none
/-- an index that must be known: else the script's place is cut -/
noncomputable def x_ix (i : xv) (k : Nat → xR) : xR :=
  match xci bx i with
  | some x => cond (Nat.blt x 2147483648) (k x) none
  | none => cond (Nat.beq i.1 1) (xspl (fun bx' => rec y d pc ls st bx' h n c s) bx i.2 (xbg bx i.2).1) none
noncomputable def x_ald (kd : Nat) : xR :=
  match st with
  | i :: w :: r => x_ix rec y d pc ls st bx h n c s i (fun x =>
      cond (Nat.beq w.1 4)
        (match xg h w.2 with
          | none => none
          | some q => cond ((Nat.beq q.1 kd || (Nat.beq kd 20 && Nat.ble 20 q.1)) && Nat.blt x q.2.1)
              (match xg q.2.2 x with
                | none => none
                | some v => rec y d nx ls (v :: r) bx h n c s) none)
        (cond (Nat.beq w.1 6 && Nat.beq w.2 0 && Nat.beq kd 13 && Nat.blt x (el 0)) (rec y d nx ls ((1, x) :: r) bx h n c s)
          (cond (Nat.beq w.1 6 && (Nat.beq w.2 2 || Nat.beq w.2 4) && Nat.beq kd 15 && Nat.blt x (el w.2)) (rec y d nx ls ((0, (eb w.2).getD x 0) :: r) bx h n c s) none)))
  | _ => none
noncomputable def x_ast (kd : Nat) : xR :=
  match st with
  | v :: i :: w :: r => x_ix rec y d pc ls st bx h n c s i (fun x =>
      cond (Nat.beq w.1 4 && xfit (cond (Nat.beq kd 14) 1 0) v)
        (match xg h w.2 with
          | none => none
          | some q => cond (Nat.beq q.1 kd && Nat.blt x q.2.1)
              (xsK q.2.2 x (cond (Nat.beq kd 15) (xb8 v) v) (fun t => xsK h w.2 (q.1, q.2.1, t) (fun h' => rec y d nx ls r bx h' n c s))) none) none)
  | _ => none
noncomputable def x_aas : xR :=
  match st with
  | v :: i :: w :: r => x_ix rec y d pc ls st bx h n c s i (fun x =>
      cond (Nat.beq w.1 4 && Nat.beq v.1 4)
        (match xg h w.2 with
          | none => none
          | some q => match xg h v.2 with
            | none => none
            | some e => cond (Nat.blt e.1 13 && Nat.beq q.1 (20 + e.1) && Nat.blt x q.2.1)
              (xsK q.2.2 x v (fun t => xsK h w.2 (q.1, q.2.1, t) (fun h' => rec y d nx ls r bx h' n c s))) none) none)
  | _ => none
/-- a call -/
noncomputable def x_go (z : Nat) (args rest : List xv) : xR :=
  match d with
  | 0 => none
  | d' + 1 => match xg mi y with
    | none => none
    | some q => match xg mi z with
      | none => none
      | some u => cond (Nat.ble (xwds rest) 8 && Nat.ble (xwds args) u.2.2.2.2.2 && Nat.ble (c + u.1) q.1 && Nat.ble (s + u.2.1) q.2.1)
          (match rec z d' 0 (xarg 0 args) [] bx h n 0 0 with
            | none => none
            | some L => xfrc (c + u.1) (fun c' => xfrc (s + u.2.1) (fun s' => xbind (fun l => rec y d nx ls (match l.2.2.2 with
                | none => rest
                | some w => w :: rest) l.1 l.2.1 l.2.2.1 c' s') L))) none
/-- is the receiver of kind k -/
noncomputable def xrcv (k : Nat) (h : xheap) (w : xv) : Bool :=
  cond (Nat.beq w.1 4)
    (match xg h w.2 with
      | none => false
      | some q => Nat.beq q.1 k && Nat.blt k 13)
    (Nat.beq w.1 6 && (Nat.beq w.2 1 || Nat.beq w.2 3) && Nat.beq k 98)
noncomputable def x_call (inst virt : Bool) : xR :=
  match xg mi r1 with
  | none => none
  | some u => match xpop (cond inst (u.2.2.1 + 1) u.2.2.1) [] st with
    | none => none
    | some q => match q.1 with
      | [] => cond inst none (x_go mi rec nx y d ls bx h n c s r1 [] q.2)
      | w :: l => cond (!inst || cond virt (xrcv u.2.2.2.1 h w) (Nat.beq w.1 4)) (x_go mi rec nx y d ls bx h n c s r1 (w :: l) q.2) none
noncomputable def x_oin : xR :=
  match st with
  | w :: r => cond (Nat.beq w.1 4 && Nat.ble (xwds r) 8 && Nat.ble 1 d) (rec y d nx ls r bx h n c s) none
  | _ => none
noncomputable def x_cpy : xR :=
  match st with
  | m :: dp :: b :: sp :: a :: r => match xci bx m with
    | none => none
    | some m => match xci bx dp with
      | none => none
      | some dp => match xci bx sp with
        | none => none
        | some sp => cond (Nat.beq a.1 4 && Nat.beq b.1 4 && Nat.ble (xwds r) 8 && Nat.ble 1 d)
            (match xg h a.2 with
              | none => none
              | some qa => match xg h b.2 with
                | none => none
                | some qb => cond ((Nat.beq qa.1 13 || Nat.beq qa.1 14) && Nat.beq qb.1 qa.1 && Nat.ble (sp + m) qa.2.1 && Nat.ble (dp + m) qb.2.1 && Nat.blt (sp + m) 2147483648 && Nat.blt (dp + m) 2147483648)
                    (xcp qa.2.2 m sp dp qb.2.2 (fun t => xsK h b.2 (qb.1, qb.2.1, t) (fun h' => rec y d nx ls r bx h' n c s))) none) none
  | _ => none
noncomputable def x_ret : xR :=
  match xg mi y with
  | none => none
  | some q => match q.2.2.2.2.1 with
    | 0 => match st with
      | [] => some [(bx, h, n, none)]
      | _ => none
    | _ => none
noncomputable def x_iret : xR :=
  match xg mi y with
  | none => none
  | some q => match st with
    | [w] => cond (xrok q.2.2.2.2.1 w) (some [(bx, h, n, some w)]) none
    | _ => none
noncomputable def x_lret : xR :=
  match xg mi y with
  | none => none
  | some q => match q.2.2.2.2.1 with
    | 2 => match st with
      | [w] => cond (Nat.beq (xkd w.1) 1) (some [(bx, h, n, some w)]) none
      | _ => none
    | _ => none
end Step
noncomputable def xex (mi : xmi) (df : xdf) (el : Nat → Nat) (eb : Nat → List Nat) (rec : xF) (ins : Instr) (nx tg r1 r2 y d pc : Nat) (ls : List (Nat × xv)) (st : List xv) (bx : xbox) (h : xheap) (n c s : Nat) : xR :=
  match ins with
  | .iconst _ => rec y d nx ls ((0, r1) :: st) bx h n c s
  | .bipush _ => rec y d nx ls ((0, r1) :: st) bx h n c s
  | .sipush _ => rec y d nx ls ((0, r1) :: st) bx h n c s
  | .lconst _ => rec y d nx ls ((2, r1) :: st) bx h n c s
  | .ldc _ => cond (Nat.beq r2 0) (rec y d nx ls ((0, r1) :: st) bx h n c s) (cond (Nat.beq r2 1) (rec y d nx ls ((6, 1) :: st) bx h n c s) (cond (Nat.beq r2 2) (rec y d nx ls ((6, 3) :: st) bx h n c s) none))
  | .ldc_w _ => rec y d nx ls ((0, r1) :: st) bx h n c s
  | .ldc2_w _ => rec y d nx ls ((2, r1) :: st) bx h n c s
  | .aconst_null => rec y d nx ls ((5, 0) :: st) bx h n c s
  | .iload _ => x_ld rec nx r1 y d ls st bx h n c s 0 0
  | .iload_n _ => x_ld rec nx r1 y d ls st bx h n c s 0 0
  | .lload _ => x_ld rec nx r1 y d ls st bx h n c s 1 1
  | .lload_n _ => x_ld rec nx r1 y d ls st bx h n c s 1 1
  | .aload _ => x_ld rec nx r1 y d ls st bx h n c s 2 3
  | .aload_n _ => x_ld rec nx r1 y d ls st bx h n c s 2 3
  | .istore _ => x_st rec nx r1 y d ls st bx h n c s 0 0 xk1
  | .istore_n _ => x_st rec nx r1 y d ls st bx h n c s 0 0 xk1
  | .lstore _ => x_st rec nx r1 y d ls st bx h n c s 1 1 xk2
  | .lstore_n _ => x_st rec nx r1 y d ls st bx h n c s 1 1 xk2
  | .astore _ => x_st rec nx r1 y d ls st bx h n c s 2 2 xk1
  | .astore_n _ => x_st rec nx r1 y d ls st bx h n c s 2 2 xk1
  | .iinc _ _ => x_inc rec nx r1 r2 y d ls st bx h n c s
  | .iadd => x_bi rec nx y d ls st bx h n c s (fun a b => (a + b) % 4294967296)
  | .isub => x_bi rec nx y d ls st bx h n c s (fun a b => (a + (4294967296 - b % 4294967296)) % 4294967296)
  | .imul => x_bi rec nx y d ls st bx h n c s (fun a b => (a * b) % 4294967296)
  | .iand => x_bi rec nx y d ls st bx h n c s (fun a b => xnu (nI a &&& nI b))
  | .ior => x_bi rec nx y d ls st bx h n c s (fun a b => xnu (nI a ||| nI b))
  | .ishl => x_bi rec nx y d ls st bx h n c s (fun a b => xnu (nI a <<< (nI b &&& 31)))
  | .ishr => x_bi rec nx y d ls st bx h n c s (fun a b => xnu (nI a >>> (nI b &&& 31)))
  | .idiv => x_dv rec nx y d ls st bx h n c s (fun a b => xnu (nI a / nI b))
  | .irem => x_dv rec nx y d ls st bx h n c s (fun a b => xnu (nI a - nI a / nI b * nI b))
  | .ladd => x_bl rec nx y d ls st bx h n c s (fun a b => xnl (lN a + lN b))
  | .lsub => x_bl rec nx y d ls st bx h n c s (fun a b => xnl (lN a - lN b))
  | .lmul => x_bl rec nx y d ls st bx h n c s (fun a b => xnl (lN a * lN b))
  | .land => x_bl rec nx y d ls st bx h n c s (fun a b => xnl (lN a &&& lN b))
  | .lor => x_bl rec nx y d ls st bx h n c s (fun a b => xnl (lN a ||| lN b))
  | .ldiv => x_dl rec nx y d ls st bx h n c s (fun a b => xnl (lN a / lN b))
  | .lrem => x_dl rec nx y d ls st bx h n c s (fun a b => xnl (lN a - lN a / lN b * lN b))
  | .lshl => x_sl rec nx y d ls st bx h n c s (fun a b => xnl (lN a <<< ((nI b).toInt64 &&& 63)))
  | .lshr => x_sl rec nx y d ls st bx h n c s (fun a b => xnl (lN a >>> ((nI b).toInt64 &&& 63)))
  | .i2l => x_i2l rec nx y d ls st bx h n c s
  | .l2i => x_l2i rec nx y d ls st bx h n c s
  | .i2b => x_ui rec nx y d ls st bx h n c s (fun a => xnu (nI a).toInt8.toInt32)
  | .ineg => x_ui rec nx y d ls st bx h n c s (fun a => xnu (-nI a))
  | .iushr => x_bi rec nx y d ls st bx h n c s (fun a b => xnu ((nI a).toUInt32 >>> ((nI b).toUInt32 &&& Int32.toUInt32 31)).toInt32)
  | .i2s => x_ui rec nx y d ls st bx h n c s (fun a => xnu (nI a).toInt16.toInt32)
  | .i2c => x_ui rec nx y d ls st bx h n c s (fun a => a % 65536)
  | .dup => x_dup rec nx y d ls st bx h n c s
  | .pop => x_pop rec nx y d ls st bx h n c s
  | .dup2 => x_dup2 rec nx y d ls st bx h n c s
  | .goto _ => rec y d tg ls st bx h n c s
  | .if_icmp o _ => x_icmp rec nx tg y d pc ls st bx h n c s o
  | .ifCond o _ => x_if rec nx tg y d pc ls st bx h n c s o
  | .ifnull _ => x_nul rec nx tg y d ls st bx h n c s true
  | .ifnonnull _ => x_nul rec nx tg y d ls st bx h n c s false
  | .lcmp => x_lcmp rec nx y d pc ls st bx h n c s
  | .tableswitch a b e f => x_tab rec y d pc ls st bx h n c s a b e f
  | .lookupswitch a b => x_lkp rec y d pc ls st bx h n c s a b
  | .getfield _ => x_get rec nx r1 r2 y d ls st bx h n c s
  | .putfield _ => x_put rec nx tg r1 r2 y d ls st bx h n c s
  | .getstatic _ => cond (Nat.beq r1 0) (rec y d nx ls ((0, 1) :: st) bx h n c s) (rec y d nx ls ((10, 0) :: st) bx h n c s)
  | .new _ => x_new mi df rec nx r1 y d ls st bx h n c s
  | .newarray _ => x_arr mi rec nx r1 y d ls st bx h n c s r2
  | .anewarray _ => x_arr mi rec nx r1 y d ls st bx h n c s 2
  | .arraylength => x_len el rec nx y d ls st bx h n c s
  | .iaload => x_ald el eb rec nx y d pc ls st bx h n c s 13
  | .laload => x_ald el eb rec nx y d pc ls st bx h n c s 14
  | .baload => x_ald el eb rec nx y d pc ls st bx h n c s 15
  | .aaload => x_ald el eb rec nx y d pc ls st bx h n c s 20
  | .iastore => x_ast rec nx y d pc ls st bx h n c s 13
  | .lastore => x_ast rec nx y d pc ls st bx h n c s 14
  | .bastore => x_ast rec nx y d pc ls st bx h n c s 15
  | .aastore => x_aas rec nx y d pc ls st bx h n c s
  | .invokevirtual _ => x_call mi rec nx r1 y d ls st bx h n c s true true
  | .invokestatic _ => cond (Nat.beq r2 8) (x_cpy rec nx y d ls st bx h n c s) (x_call mi rec nx r1 y d ls st bx h n c s false false)
  | .invokespecial _ => cond (Nat.beq r2 6) (x_oin rec nx y d ls st bx h n c s) (x_call mi rec nx r1 y d ls st bx h n c s true false)
  | .return_ => x_ret mi y st bx h n
  | .ireturn => x_iret mi y st bx h n
  | .lreturn => x_lret mi y st bx h n
  | _ => none
noncomputable def xstep (cd : xcd) (mi : xmi) (df : xdf) (el : Nat → Nat) (eb : Nat → List Nat) (rec : xF) : xF := fun y d pc ls st bx h n c s =>
  match xg cd y with
  | none => none
  | some t => match xg t pc with
    | none => none
    | some e => xex mi df el eb rec e.1 e.2.1 e.2.2.1 e.2.2.2.1 e.2.2.2.2 y d pc ls st bx h n c s
noncomputable def xrun (cd : xcd) (mi : xmi) (df : xdf) (el : Nat → Nat) (eb : Nat → List Nat) (f : Nat) : xF :=
  Nat.rec (motive := fun _ => xF) (fun _ _ _ _ _ _ _ _ _ _ => none) (fun _ r => xstep cd mi df el eb r) f
end
section
/-! What the explorer's values, cells and frames say of the machine's -/
section Rel
variable (sv : Nat → Int32) (ex : Nat → Nat)
def xoff (z : Int) : Nat := (z + 9223372036854775808).toNat
def xden (as : List Nat) (w : xv) (v : Value) : Prop :=
  match w.1 with
  | 0 => v = .int (nI w.2)
  | 1 => v = .int (sv w.2)
  | 2 => v = .long (lN w.2)
  | 3 => v = .long (sv w.2).toInt64
  | 4 => ∃ a, as[w.2]? = some a ∧ v = .ref a
  | 5 => v = .null
  | 6 => v = .ref (ex w.2)
  | 7 => ∃ x, v = .int x
  | 8 => ∃ x, v = .long x
  | 10 => v = .null ∨ ∃ a, v = .ref a
  | _ => False
def xle (as as' : List Nat) : Prop := ∀ (k a : Nat), as[k]? = some a → as'[k]? = some a
theorem xle.rf (as : List Nat) : xle as as := fun _ _ h => h
theorem xle.tr {a b c : List Nat} (h : xle a b) (k : xle b c) : xle a c := fun i x q => k i x (h i x q)
theorem xle.push (as : List Nat) (q : Nat) : xle as (as ++ [q]) := fun i x h => by
  have hl := (List.getElem?_eq_some_iff.mp h).1
  rw [List.getElem?_append_left hl]; exact h
theorem xden.mono {as as' : List Nat} (hl : xle as as') : ∀ {w : xv} {v : Value}, xden sv ex as w v → xden sv ex as' w v
  | (0, _), _, h => h
  | (1, _), _, h => h
  | (2, _), _, h => h
  | (3, _), _, h => h
  | (4, n), v, h => by
    obtain ⟨a, h1, h2⟩ : ∃ a : Nat, as[n]? = some a ∧ v = .ref a := h
    exact ⟨a, hl _ _ h1, h2⟩
  | (5, _), _, h => h
  | (6, _), _, h => h
  | (7, _), _, h => h
  | (8, _), _, h => h
  | (9, _), _, h => h.elim
  | (10, _), _, h => h
  | (_ + 11, _), _, h => h.elim
theorem xden.int {as : List Nat} : ∀ {w : xv} {v : Value}, xden sv ex as w v → xkd w.1 = 0 → ∃ x, v = .int x
  | (0, _), _, h, _ => ⟨_, h⟩
  | (1, _), _, h, _ => ⟨_, h⟩
  | (2, _), _, _, k => by cases k
  | (3, _), _, _, k => by cases k
  | (4, _), _, _, k => by cases k
  | (5, _), _, _, k => by cases k
  | (6, _), _, _, k => by cases k
  | (7, _), _, h, _ => h
  | (8, _), _, _, k => by cases k
  | (9, _), _, h, _ => h.elim
  | (10, _), _, _, k => by cases k
  | (_ + 11, _), _, h, _ => h.elim
theorem xden.long {as : List Nat} : ∀ {w : xv} {v : Value}, xden sv ex as w v → xkd w.1 = 1 → ∃ x, v = .long x
  | (0, _), _, _, k => by cases k
  | (1, _), _, _, k => by cases k
  | (2, _), _, h, _ => ⟨_, h⟩
  | (3, _), _, h, _ => ⟨_, h⟩
  | (4, _), _, _, k => by cases k
  | (5, _), _, _, k => by cases k
  | (6, _), _, _, k => by cases k
  | (7, _), _, _, k => by cases k
  | (8, _), _, h, _ => h
  | (9, _), _, h, _ => h.elim
  | (10, _), _, _, k => by cases k
  | (_ + 11, _), _, h, _ => h.elim
theorem xden.ref {as : List Nat} : ∀ {w : xv} {v : Value}, xden sv ex as w v → xkd w.1 = 2 → ∃ x, v = .ref x
  | (0, _), _, _, k => by cases k
  | (1, _), _, _, k => by cases k
  | (2, _), _, _, k => by cases k
  | (3, _), _, _, k => by cases k
  | (4, n), v, h, _ => by
    obtain ⟨a, h1, h2⟩ : ∃ a : Nat, as[n]? = some a ∧ v = .ref a := h
    exact ⟨a, h2⟩
  | (5, _), _, _, k => by cases k
  | (6, _), _, h, _ => ⟨_, h⟩
  | (7, _), _, _, k => by cases k
  | (8, _), _, _, k => by cases k
  | (9, _), _, h, _ => h.elim
  | (10, _), _, _, k => by cases k
  | (_ + 11, _), _, h, _ => h.elim
theorem xden.nul {as : List Nat} : ∀ {w : xv} {v : Value}, xden sv ex as w v → xkd w.1 = 3 → v = .null
  | (0, _), _, _, k => by cases k
  | (1, _), _, _, k => by cases k
  | (2, _), _, _, k => by cases k
  | (3, _), _, _, k => by cases k
  | (4, _), _, _, k => by cases k
  | (5, _), _, h, _ => h
  | (6, _), _, _, k => by cases k
  | (7, _), _, _, k => by cases k
  | (8, _), _, _, k => by cases k
  | (9, _), _, h, _ => h.elim
  | (10, _), _, _, k => by cases k
  | (_ + 11, _), _, h, _ => h.elim
theorem xden.cat {as : List Nat} : ∀ {w : xv} {v : Value}, xden sv ex as w v → v.category = cond (Nat.beq (xkd w.1) 1) 2 1
  | (0, _), _, h => by rw [show _ = _ from h]; rfl
  | (1, _), _, h => by rw [show _ = _ from h]; rfl
  | (2, _), _, h => by rw [show _ = _ from h]; rfl
  | (3, _), _, h => by rw [show _ = _ from h]; rfl
  | (4, n), v, h => by
    obtain ⟨a, h1, h2⟩ : ∃ a : Nat, as[n]? = some a ∧ v = .ref a := h
    rw [h2]; rfl
  | (5, _), _, h => by rw [show _ = _ from h]; rfl
  | (6, _), _, h => by rw [show _ = _ from h]; rfl
  | (7, n), v, h => by
    obtain ⟨x, h⟩ : ∃ x : Int32, v = .int x := h
    rw [h]; rfl
  | (8, n), v, h => by
    obtain ⟨x, h⟩ : ∃ x : Int64, v = .long x := h
    rw [h]; rfl
  | (9, _), _, h => h.elim
  | (10, n), v, h => by
    rcases (show v = .null ∨ ∃ a, v = .ref a from h) with h | ⟨a, h⟩ <;> rw [h] <;> rfl
  | (_ + 11, _), _, h => h.elim
theorem xden.own {as : List Nat} {w : xv} {v : Value} (h : xden sv ex as w v) (hw : w.1 = 4) : ∃ a, as[w.2]? = some a ∧ v = .ref a := by
  obtain ⟨t, n⟩ := w
  cases hw
  exact h
theorem xden.ext {as : List Nat} {w : xv} {v : Value} (h : xden sv ex as w v) (hw : w.1 = 6) : v = .ref (ex w.2) := by
  obtain ⟨t, n⟩ := w
  cases hw
  exact h
/-! numbers -/
theorem x32 (n : Nat) : nI (n % 4294967296) = nI n := by
  apply Int32.toBitVec_inj.mp
  show BitVec.ofNat 32 (n % 4294967296) = BitVec.ofNat 32 n
  apply BitVec.eq_of_toNat_eq
  simp
theorem x64 (n : Nat) : lN (n % 18446744073709551616) = lN n := by
  apply Int64.toBitVec_inj.mp
  show BitVec.ofNat 64 (n % 18446744073709551616) = BitVec.ofNat 64 n
  apply BitVec.eq_of_toNat_eq
  simp
theorem nI_xnu (x : Int32) : nI (xnu x) = x := by
  apply Int32.toBitVec_inj.mp
  show BitVec.ofNat 32 x.toBitVec.toNat = x.toBitVec
  simp
theorem lN_xnl (x : Int64) : lN (xnl x) = x := by
  apply Int64.toBitVec_inj.mp
  show BitVec.ofNat 64 x.toBitVec.toNat = x.toBitVec
  simp
theorem nI_int (n : Nat) : (nI n).toInt = if n % 4294967296 < 2147483648 then ((n % 4294967296 : Nat) : Int) else ((n % 4294967296 : Nat) : Int) - 4294967296 := by
  show (BitVec.ofNat 32 n).toInt = _
  rw [BitVec.toInt_eq_toNat_cond, BitVec.toNat_ofNat]
  simp only [show (2 : Nat) ^ 32 = 4294967296 from rfl]
  split <;> split <;> omega
theorem lN_int (n : Nat) : (lN n).toInt = if n % 18446744073709551616 < 9223372036854775808 then ((n % 18446744073709551616 : Nat) : Int) else ((n % 18446744073709551616 : Nat) : Int) - 18446744073709551616 := by
  show (BitVec.ofNat 64 n).toInt = _
  rw [BitVec.toInt_eq_toNat_cond, BitVec.toNat_ofNat]
  simp only [show (2 : Nat) ^ 64 = 18446744073709551616 from rfl]
  split <;> split <;> omega
theorem xoi_ok (n : Nat) : xoi n = xoff (nI n).toInt := by
  rw [nI_int]
  unfold xoi xoff
  have h := Nat.mod_lt n (show 0 < 4294967296 by decide)
  generalize n % 4294967296 = k at h ⊢
  cases hb : Nat.ble 2147483648 k with
  | true =>
    have := Nat.le_of_ble_eq_true hb
    simp only [cond_true]
    rw [if_neg (by omega)]; omega
  | false =>
    have : ¬ 2147483648 ≤ k := fun q => by rw [Nat.ble_eq_true_of_le q] at hb; cases hb
    simp only [cond_false]
    rw [if_pos (by omega)]; omega
theorem xol_ok (n : Nat) : xol n = xoff (lN n).toInt := by
  rw [lN_int]
  unfold xol xoff
  split <;> omega
theorem i32_lo (x : Int32) : -2147483648 ≤ x.toInt ∧ x.toInt < 2147483648 := by
  have h1 := x.toBitVec.toInt_lt
  have h2 := x.toBitVec.le_toInt
  simp at h1 h2
  exact ⟨h2, h1⟩
theorem i64_lo (x : Int64) : -9223372036854775808 ≤ x.toInt ∧ x.toInt < 9223372036854775808 := by
  have h1 := x.toBitVec.toInt_lt
  have h2 := x.toBitVec.le_toInt
  simp at h1 h2
  exact ⟨h2, h1⟩
theorem xoff_int (x : Int32) : (xoff x.toInt : Int) = x.toInt + 9223372036854775808 := by
  have := i32_lo x
  unfold xoff; omega
theorem xoff_long (x : Int64) : (xoff x.toInt : Int) = x.toInt + 9223372036854775808 := by
  have := i64_lo x
  unfold xoff; omega
theorem xoff_wide (x : Int32) : xoff x.toInt ≤ 18446744073709551616 := by
  have := i32_lo x
  have := xoff_int x
  omega
theorem xoff_wideL (x : Int64) : xoff x.toInt ≤ 18446744073709551616 := by
  have := i64_lo x
  have := xoff_long x
  omega
theorem x_i2lI (x : Int32) : x.toInt64.toInt = x.toInt := by simp
def xbf (f : Nat → Nat) (bx : xbox) : Prop := ∀ i, (xbg bx i).1 ≤ f i ∧ f i ≤ (xbg bx i).2
def xbxo (bx : xbox) : Prop := xbf (fun i => xoff (sv i).toInt) bx
theorem xbf_set : ∀ (bx : xbox) (f : Nat → Nat) (i lo hi : Nat), xbf f bx → lo ≤ f i → f i ≤ hi → xbf f (xbs bx i lo hi)
  | [], f, i, lo, hi, h, _, _ => h
  | q :: l, f, 0, lo, hi, h, h1, h2 => fun j => by
    cases j with
    | zero => exact ⟨h1, h2⟩
    | succ j => exact h (j + 1)
  | q :: l, f, i + 1, lo, hi, h, h1, h2 => fun j => by
    cases j with
    | zero => exact h 0
    | succ j => exact xbf_set l (fun k => f (k + 1)) i lo hi (fun k => h (k + 1)) h1 h2 j
theorem xrg_int {as : List Nat} {bx : xbox} (hb : xbxo sv bx) : ∀ {w : xv} {x : Int32}, xden sv ex as w (.int x) → (xrg bx w).1 ≤ xoff x.toInt ∧ xoff x.toInt ≤ (xrg bx w).2
  | (0, n), x, h => by
    have e : x = nI n := Value.int.inj h
    rw [e, ← xoi_ok]; exact ⟨Nat.le_refl _, Nat.le_refl _⟩
  | (1, n), x, h => by
    have e : x = sv n := Value.int.inj h
    rw [e]; exact hb n
  | (2, n), x, h => by cases h
  | (3, n), x, h => by cases h
  | (4, n), x, h => by
    obtain ⟨a, _, h2⟩ := h
    cases h2
  | (5, n), x, h => by cases h
  | (6, n), x, h => by cases h
  | (7, n), x, _ => ⟨Nat.zero_le _, xoff_wide x⟩
  | (8, n), x, _ => ⟨Nat.zero_le _, xoff_wide x⟩
  | (9, n), x, h => h.elim
  | (10, n), x, h => by
    rcases h with h | ⟨a, h⟩ <;> cases h
  | (_ + 11, n), x, h => h.elim
theorem xrg_long {as : List Nat} {bx : xbox} (hb : xbxo sv bx) : ∀ {w : xv} {x : Int64}, xden sv ex as w (.long x) → (xrg bx w).1 ≤ xoff x.toInt ∧ xoff x.toInt ≤ (xrg bx w).2
  | (0, n), x, h => by cases h
  | (1, n), x, h => by cases h
  | (2, n), x, h => by
    have e : x = lN n := Value.long.inj h
    rw [e, ← xol_ok]; exact ⟨Nat.le_refl _, Nat.le_refl _⟩
  | (3, n), x, h => by
    have e : x = (sv n).toInt64 := Value.long.inj h
    rw [e, x_i2lI]; exact hb n
  | (4, n), x, h => by
    obtain ⟨a, _, h2⟩ := h
    cases h2
  | (5, n), x, h => by cases h
  | (6, n), x, h => by cases h
  | (7, n), x, _ => ⟨Nat.zero_le _, xoff_wideL x⟩
  | (8, n), x, _ => ⟨Nat.zero_le _, xoff_wideL x⟩
  | (9, n), x, h => h.elim
  | (10, n), x, h => by
    rcases h with h | ⟨a, h⟩ <;> cases h
  | (_ + 11, n), x, h => h.elim
theorem x_one (x : Int32) {o : Nat} (h1 : o ≤ xoff x.toInt) (h2 : xoff x.toInt ≤ o) : x = nI (o % 4294967296) := by
  apply Int32.toInt_inj.mp
  have hb := i32_lo x
  have := xoff_int x
  rw [nI_int]
  split <;> omega
theorem x_oneL (x : Int32) {o : Nat} (h1 : o ≤ xoff x.toInt) (h2 : xoff x.toInt ≤ o) : x.toInt64 = lN ((o + 9223372036854775808) % 18446744073709551616) := by
  apply Int64.toInt_inj.mp
  have hb := i32_lo x
  have := xoff_int x
  rw [x_i2lI, lN_int]
  split <;> omega
theorem xci_ok {as : List Nat} {bx : xbox} (hb : xbxo sv bx) : ∀ {w : xv} {v : Value} {n : Nat}, xden sv ex as w v → xci bx w = some n → v = .int (nI n)
  | (0, _), v, n, h, k => by cases k; exact h
  | (1, i), v, n, h, k => by
    have k' : cond (Nat.beq (xbg bx i).1 (xbg bx i).2) (some ((xbg bx i).1 % 4294967296)) none = some n := k
    cases hq : Nat.beq (xbg bx i).1 (xbg bx i).2 with
    | false => rw [hq] at k'; cases k'
    | true =>
      rw [hq] at k'
      have e := Nat.eq_of_beq_eq_true hq
      have hr := hb i
      rw [show v = _ from h, x_one (sv i) (o := (xbg bx i).1) hr.1 (by rw [e]; exact hr.2)]
      rw [← Option.some.inj k']
  | (2, _), v, n, h, k => by cases k
  | (3, _), v, n, h, k => by cases k
  | (4, _), v, n, h, k => by cases k
  | (5, _), v, n, h, k => by cases k
  | (6, _), v, n, h, k => by cases k
  | (7, _), v, n, h, k => by cases k
  | (8, _), v, n, h, k => by cases k
  | (9, _), v, n, h, k => by cases k
  | (10, _), v, n, h, k => by cases k
  | (_ + 11, _), v, n, h, k => by cases k
theorem xcl_ok {as : List Nat} {bx : xbox} (hb : xbxo sv bx) : ∀ {w : xv} {v : Value} {n : Nat}, xden sv ex as w v → xcl bx w = some n → v = .long (lN n)
  | (0, _), v, n, h, k => by cases k
  | (1, _), v, n, h, k => by cases k
  | (2, _), v, n, h, k => by cases k; exact h
  | (3, i), v, n, h, k => by
    have k' : cond (Nat.beq (xbg bx i).1 (xbg bx i).2) (some (((xbg bx i).1 + 9223372036854775808) % 18446744073709551616)) none = some n := k
    cases hq : Nat.beq (xbg bx i).1 (xbg bx i).2 with
    | false => rw [hq] at k'; cases k'
    | true =>
      rw [hq] at k'
      have e := Nat.eq_of_beq_eq_true hq
      have hr := hb i
      rw [show v = _ from h, x_oneL (sv i) (o := (xbg bx i).1) hr.1 (by rw [e]; exact hr.2)]
      rw [← Option.some.inj k']
  | (4, _), v, n, h, k => by cases k
  | (5, _), v, n, h, k => by cases k
  | (6, _), v, n, h, k => by cases k
  | (7, _), v, n, h, k => by cases k
  | (8, _), v, n, h, k => by cases k
  | (9, _), v, n, h, k => by cases k
  | (10, _), v, n, h, k => by cases k
  | (_ + 11, _), v, n, h, k => by cases k
/-! stacks and locals -/
def xstR (as : List Nat) : List xv → List Value → Prop
  | [], [] => True
  | w :: l, v :: m => xden sv ex as w v ∧ xstR as l m
  | _, _ => False
def xlsR (as : List Nat) : List (Nat × xv) → List (Nat × Value) → Prop
  | [], [] => True
  | q :: l, r :: m => r.1 = q.1 ∧ xden sv ex as q.2 r.2 ∧ xlsR as l m
  | _, _ => False
theorem xstR.mono {as as' : List Nat} (hl : xle as as') : ∀ {a : List xv} {b : List Value}, xstR sv ex as a b → xstR sv ex as' a b
  | [], [], _ => trivial
  | _ :: _, _ :: _, h => ⟨xden.mono sv ex hl h.1, xstR.mono hl h.2⟩
  | [], _ :: _, h => h.elim
  | _ :: _, [], h => h.elim
theorem xlsR.mono {as as' : List Nat} (hl : xle as as') : ∀ {a : List (Nat × xv)} {b : List (Nat × Value)}, xlsR sv ex as a b → xlsR sv ex as' a b
  | [], [], _ => trivial
  | _ :: _, _ :: _, h => ⟨h.1, xden.mono sv ex hl h.2.1, xlsR.mono hl h.2.2⟩
  | [], _ :: _, h => h.elim
  | _ :: _, [], h => h.elim
theorem xlk_ok {as : List Nat} {i : Nat} {w : xv} : ∀ {a : List (Nat × xv)} {b : List (Nat × Value)}, xlsR sv ex as a b → xlk a i = some w → ∃ (k : Nat) (v : Value), b[k]? = some (i, v) ∧ xden sv ex as w v
  | [], _, _, h => by cases h
  | _ :: _, [], h, _ => h.elim
  | q :: l, r :: m, h, hk => by
    have hk' : cond (Nat.beq q.1 i) (some q.2) (xlk l i) = some w := hk
    cases hb : Nat.beq q.1 i with
    | true =>
      rw [hb] at hk'
      have e := Nat.eq_of_beq_eq_true hb
      have e2 : q.2 = w := Option.some.inj hk'
      refine ⟨0, r.2, ?_, by rw [← e2]; exact h.2.1⟩
      show some r = some (i, r.2)
      rw [← e, ← h.1]
    | false =>
      rw [hb] at hk'
      obtain ⟨k, v, h1, h2⟩ := xlk_ok h.2.2 hk'
      exact ⟨k + 1, v, h1, h2⟩
theorem xlsR.filter {as : List Nat} {f : Nat × xv → Bool} {g : Nat × Value → Bool} (hfg : ∀ (i : Nat) (w : xv) (v : Value), xden sv ex as w v → f (i, w) = g (i, v)) : ∀ {a : List (Nat × xv)} {b : List (Nat × Value)}, xlsR sv ex as a b → xlsR sv ex as (a.filter f) (b.filter g)
  | [], [], _ => trivial
  | [], _ :: _, h => h.elim
  | _ :: _, [], h => h.elim
  | (i, w) :: l, (j, v) :: m, h => by
    obtain ⟨h1, h2, h3⟩ := h
    have h1' : j = i := h1
    subst h1'
    have e := hfg j w v h2
    rw [List.filter_cons, List.filter_cons, e]
    cases g (j, v) with
    | true => exact ⟨rfl, h2, xlsR.filter hfg h3⟩
    | false => exact xlsR.filter hfg h3
theorem xnb (a b : Nat) : Nat.beq a b = (a == b) := by
  rw [Bool.eq_iff_iff, beq_iff_eq]
  exact ⟨Nat.eq_of_beq_eq_true, fun h => by rw [h]; exact Nat.beq_refl b⟩
theorem xk1_ok {as : List Nat} (i : Nat) : ∀ (j : Nat) (w : xv) (v : Value), xden sv ex as w v → xk1 i (j, w) = (fun q : Nat × Value => !(q.1 == i) && !(q.1 + 1 == i && q.2.category == 2)) (j, v) := by
  intro j w v h
  have hc := xden.cat sv ex h
  show (!(Nat.beq j i) && !(Nat.beq (j + 1) i && Nat.beq (xkd w.1) 1)) = (!(j == i) && !(j + 1 == i && v.category == 2))
  rw [hc, xnb j i, xnb (j + 1) i]
  cases Nat.beq (xkd w.1) 1 <;> rfl
theorem xk2_ok {as : List Nat} (i : Nat) : ∀ (j : Nat) (w : xv) (v : Value), xden sv ex as w v → xk2 i (j, w) = (fun q : Nat × Value => !(q.1 == i) && (!(q.1 == i + 1) && !(q.1 + 1 == i && q.2.category == 2))) (j, v) := by
  intro j w v h
  have hc := xden.cat sv ex h
  show (!(Nat.beq j i) && (!(Nat.beq j (i + 1)) && !(Nat.beq (j + 1) i && Nat.beq (xkd w.1) 1))) = (!(j == i) && (!(j == i + 1) && !(j + 1 == i && v.category == 2)))
  rw [hc, xnb j i, xnb (j + 1) i, xnb j (i + 1)]
  cases Nat.beq (xkd w.1) 1 <;> rfl
theorem xwds_ok {as : List Nat} : ∀ {a : List xv} {b : List Value}, xstR sv ex as a b → (b.map fun v => v.category).sum = xwds a
  | [], [], _ => rfl
  | [], _ :: _, h => h.elim
  | _ :: _, [], h => h.elim
  | w :: l, v :: m, h => by
    rw [List.map_cons, List.sum_cons, xwds_ok h.2, xden.cat sv ex h.1]
    rfl
theorem xarg_ok {as : List Nat} : ∀ {a : List xv} {b : List Value} (i : Nat), xstR sv ex as a b → xlsR sv ex as (xarg i a) (lv_args i b)
  | [], [], _, _ => trivial
  | [], _ :: _, _, h => h.elim
  | _ :: _, [], _, h => h.elim
  | w :: l, v :: m, i, h => by
    refine ⟨rfl, h.1, ?_⟩
    have hc := xden.cat sv ex h.1
    have e : (if v.category = 2 then i + 2 else i + 1) = cond (Nat.beq (xkd w.1) 1) (i + 2) (i + 1) := by
      rw [hc]; cases Nat.beq (xkd w.1) 1 <;> rfl
    show xlsR sv ex as (xarg (cond (Nat.beq (xkd w.1) 1) (i + 2) (i + 1)) l) (lv_args (if v.category = 2 then i + 2 else i + 1) m)
    rw [e]
    exact xarg_ok _ h.2
theorem xsl_len {as : List Nat} : ∀ {a : List xv} {b : List Value}, xstR sv ex as a b → (lg_sl b).length = xwds a
  | [], [], _ => rfl
  | [], _ :: _, h => h.elim
  | _ :: _, [], h => h.elim
  | w :: l, v :: m, h => by
    have hc := xden.cat sv ex h.1
    have ih := xsl_len h.2
    unfold lg_sl at ih ⊢
    rw [List.flatMap_cons, List.length_append, ih, hc]
    show _ = cond (Nat.beq (xkd w.1) 1) 2 1 + xwds l
    cases Nat.beq (xkd w.1) 1 <;> rfl
theorem xpop_ok {as : List Nat} : ∀ (k : Nat) {acc st : List xv} {accV stV : List Value} {q : List xv × List xv}, xstR sv ex as acc accV → xstR sv ex as st stV → xpop k acc st = some q →
    ∃ aV rV, xstR sv ex as q.1 aV ∧ xstR sv ex as q.2 rV ∧ aV.reverse ++ rV = accV.reverse ++ stV ∧ aV.length = k + accV.length
  | 0, acc, st, accV, stV, q, h1, h2, h => by
    cases h
    exact ⟨accV, stV, h1, h2, rfl, by omega⟩
  | k + 1, acc, [], accV, stV, q, h1, h2, h => by cases h
  | k + 1, acc, w :: l, accV, [], q, h1, h2, h => h2.elim
  | k + 1, acc, w :: l, accV, v :: m, q, h1, h2, h => by
    obtain ⟨aV, rV, e1, e2, e3, e4⟩ := xpop_ok k (acc := w :: acc) (accV := v :: accV) ⟨h2.1, h1⟩ h2.2 h
    refine ⟨aV, rV, e1, e2, ?_, ?_⟩
    · rw [e3, List.reverse_cons, List.append_assoc]; rfl
    · rw [e4, List.length_cons]; omega
end Rel
end
section
/-! Cells, heaps, frames; what is known of the tables -/
section World
variable (D : va_G) (cl : List vw_C) (A : Nat → Prop) (sv : Nat → Int32) (ex : Nat → Nat)
def xaT (U : State) (cA : ClassId) (ty : FieldType) : Prop := ArrOfT U cA ty ∧ va_RA U cA ty
def xcR (U : State) (as : List Nat) (c : xcell) (e : va_E) : Prop :=
  (c.1 < 13 ∧ (∃ r : vw_C, cl[c.1]? = some r ∧ r.2.2 = c.2.1) ∧ ∃ fs : List Value, e = .inr (c.1, fs) ∧ fs.length = c.2.1 ∧ ∀ j : Nat, j < c.2.1 → ∃ (w : xv) (v : Value), xg c.2.2 j = some w ∧ fs[j]? = some v ∧ xden sv ex as w v)
  ∨ (c.1 = 13 ∧ ∃ (cA : ClassId) (f : Nat → Int32), e = .inl (cA, c.2.1, .inl f) ∧ xaT U cA .int ∧ ∀ j : Nat, j < c.2.1 → ∃ w : xv, xg c.2.2 j = some w ∧ xden sv ex as w (.int (f j)))
  ∨ (c.1 = 14 ∧ ∃ (cA : ClassId) (f : Nat → Int64), e = .inl (cA, c.2.1, .inr (.inl f)) ∧ xaT U cA .long ∧ ∀ j : Nat, j < c.2.1 → ∃ w : xv, xg c.2.2 j = some w ∧ xden sv ex as w (.long (f j)))
  ∨ (c.1 = 15 ∧ ∃ (cA : ClassId) (f : Nat → Int32), e = .inl (cA, c.2.1, .inl f) ∧ xaT U cA .byte ∧ ∀ j : Nat, j < c.2.1 → ∃ w : xv, xg c.2.2 j = some w ∧ xden sv ex as w (.int (f j)))
  ∨ (20 ≤ c.1 ∧ ∃ (cA : ClassId) (r : vw_C) (f : Nat → Option Nat), cl[c.1 - 20]? = some r ∧ e = .inl (cA, c.2.1, .inr (.inr (.inr (.inr f)))) ∧ xaT U cA (.object r.1) ∧ ∀ j : Nat, j < c.2.1 → ∃ w : xv, xg c.2.2 j = some w ∧ xden sv ex as w (va_rf (f j)))
theorem xaT.moved {u U : State} (hvm : u.vm.Alike U.vm) {cA : ClassId} {ty : FieldType} (h : xaT u cA ty) : xaT U cA ty := ⟨arrOfT_moved hvm h.1, h.2.moved hvm⟩
theorem xcR.moved {u U : State} (hvm : u.vm.Alike U.vm) {as : List Nat} {c : xcell} {e : va_E} (h : xcR cl sv ex u as c e) : xcR cl sv ex U as c e := by
  rcases h with h | ⟨h0, cA, f, h1, h2, h3⟩ | ⟨h0, cA, f, h1, h2, h3⟩ | ⟨h0, cA, f, h1, h2, h3⟩ | ⟨h0, cA, r, f, h1, h2, h3, h4⟩
  · exact Or.inl h
  · exact Or.inr (Or.inl ⟨h0, cA, f, h1, h2.moved hvm, h3⟩)
  · exact Or.inr (Or.inr (Or.inl ⟨h0, cA, f, h1, h2.moved hvm, h3⟩))
  · exact Or.inr (Or.inr (Or.inr (Or.inl ⟨h0, cA, f, h1, h2.moved hvm, h3⟩)))
  · exact Or.inr (Or.inr (Or.inr (Or.inr ⟨h0, cA, r, f, h1, h2, h3.moved hvm, h4⟩)))
theorem xcR.mono {U : State} {as as' : List Nat} (hl : xle as as') {c : xcell} {e : va_E} (h : xcR cl sv ex U as c e) : xcR cl sv ex U as' c e := by
  rcases h with ⟨h0, h1, fs, h2, h3, h4⟩ | ⟨h0, cA, f, h1, h2, h3⟩ | ⟨h0, cA, f, h1, h2, h3⟩ | ⟨h0, cA, f, h1, h2, h3⟩ | ⟨h0, cA, r, f, h1, h2, h3, h4⟩
  · refine Or.inl ⟨h0, h1, fs, h2, h3, fun j hj => ?_⟩
    obtain ⟨w, v, q1, q2, q3⟩ := h4 j hj
    exact ⟨w, v, q1, q2, xden.mono sv ex hl q3⟩
  · refine Or.inr (Or.inl ⟨h0, cA, f, h1, h2, fun j hj => ?_⟩)
    obtain ⟨w, q1, q3⟩ := h3 j hj
    exact ⟨w, q1, xden.mono sv ex hl q3⟩
  · refine Or.inr (Or.inr (Or.inl ⟨h0, cA, f, h1, h2, fun j hj => ?_⟩))
    obtain ⟨w, q1, q3⟩ := h3 j hj
    exact ⟨w, q1, xden.mono sv ex hl q3⟩
  · refine Or.inr (Or.inr (Or.inr (Or.inl ⟨h0, cA, f, h1, h2, fun j hj => ?_⟩)))
    obtain ⟨w, q1, q3⟩ := h3 j hj
    exact ⟨w, q1, xden.mono sv ex hl q3⟩
  · refine Or.inr (Or.inr (Or.inr (Or.inr ⟨h0, cA, r, f, h1, h2, h3, fun j hj => ?_⟩)))
    obtain ⟨w, q1, q3⟩ := h4 j hj
    exact ⟨w, q1, xden.mono sv ex hl q3⟩
theorem xcR.obj {U : State} {as : List Nat} {c : xcell} {e : va_E} (h : xcR cl sv ex U as c e) (hc : c.1 < 13) : (∃ r : vw_C, cl[c.1]? = some r ∧ r.2.2 = c.2.1) ∧ ∃ fs : List Value, e = .inr (c.1, fs) ∧ fs.length = c.2.1 ∧ ∀ j : Nat, j < c.2.1 → ∃ (w : xv) (v : Value), xg c.2.2 j = some w ∧ fs[j]? = some v ∧ xden sv ex as w v := by
  rcases h with h | h | h | h | h
  · exact h.2
  · have := h.1; omega
  · have := h.1; omega
  · have := h.1; omega
  · have := h.1; omega
theorem xcR.a13 {U : State} {as : List Nat} {c : xcell} {e : va_E} (h : xcR cl sv ex U as c e) (hc : c.1 = 13) : ∃ (cA : ClassId) (f : Nat → Int32), e = .inl (cA, c.2.1, .inl f) ∧ xaT U cA .int ∧ ∀ j : Nat, j < c.2.1 → ∃ w : xv, xg c.2.2 j = some w ∧ xden sv ex as w (.int (f j)) := by
  rcases h with h | h | h | h | h
  · have := h.1; omega
  · exact h.2
  · have := h.1; omega
  · have := h.1; omega
  · have := h.1; omega
theorem xcR.a14 {U : State} {as : List Nat} {c : xcell} {e : va_E} (h : xcR cl sv ex U as c e) (hc : c.1 = 14) : ∃ (cA : ClassId) (f : Nat → Int64), e = .inl (cA, c.2.1, .inr (.inl f)) ∧ xaT U cA .long ∧ ∀ j : Nat, j < c.2.1 → ∃ w : xv, xg c.2.2 j = some w ∧ xden sv ex as w (.long (f j)) := by
  rcases h with h | h | h | h | h
  · have := h.1; omega
  · have := h.1; omega
  · exact h.2
  · have := h.1; omega
  · have := h.1; omega
theorem xcR.a15 {U : State} {as : List Nat} {c : xcell} {e : va_E} (h : xcR cl sv ex U as c e) (hc : c.1 = 15) : ∃ (cA : ClassId) (f : Nat → Int32), e = .inl (cA, c.2.1, .inl f) ∧ xaT U cA .byte ∧ ∀ j : Nat, j < c.2.1 → ∃ w : xv, xg c.2.2 j = some w ∧ xden sv ex as w (.int (f j)) := by
  rcases h with h | h | h | h | h
  · have := h.1; omega
  · have := h.1; omega
  · have := h.1; omega
  · exact h.2
  · have := h.1; omega
theorem xcR.a20 {U : State} {as : List Nat} {c : xcell} {e : va_E} (h : xcR cl sv ex U as c e) (hc : 20 ≤ c.1) : ∃ (cA : ClassId) (r : vw_C) (f : Nat → Option Nat), cl[c.1 - 20]? = some r ∧ e = .inl (cA, c.2.1, .inr (.inr (.inr (.inr f)))) ∧ xaT U cA (.object r.1) ∧ ∀ j : Nat, j < c.2.1 → ∃ w : xv, xg c.2.2 j = some w ∧ xden sv ex as w (va_rf (f j)) := by
  rcases h with h | h | h | h | h
  · have := h.1; omega
  · have := h.1; omega
  · have := h.1; omega
  · have := h.1; omega
  · exact h.2
/-- any array: its length and class -/
theorem xcR.arr {U : State} {as : List Nat} {c : xcell} {e : va_E} (h : xcR cl sv ex U as c e) (hc : 13 ≤ c.1) : ∃ (cA : ClassId) (x : vp_A) (ty : FieldType), e = .inl (cA, x) ∧ x.1 = c.2.1 ∧ xaT U cA ty := by
  rcases h with h | ⟨h0, cA, f, h1, h2, h3⟩ | ⟨h0, cA, f, h1, h2, h3⟩ | ⟨h0, cA, f, h1, h2, h3⟩ | ⟨h0, cA, r, f, h1, h2, h3, h4⟩
  · have := h.1; omega
  · exact ⟨cA, _, _, h1, rfl, h2⟩
  · exact ⟨cA, _, _, h1, rfl, h2⟩
  · exact ⟨cA, _, _, h1, rfl, h2⟩
  · exact ⟨cA, _, _, h2, rfl, h3⟩
def xhR (U : State) (as : List Nat) (h : xheap) (n : Nat) (ws : va_W) : Prop :=
  as.length = n ∧ ws.length = n ∧ ∀ k : Nat, k < n → ∃ (a : Nat) (c : xcell) (e : va_E), as[k]? = some a ∧ xg h k = some c ∧ ws[k]? = some (a, e) ∧ xcR cl sv ex U as c e
theorem xhR.moved {u U : State} (hvm : u.vm.Alike U.vm) {as : List Nat} {h : xheap} {n : Nat} {ws : va_W} (hh : xhR cl sv ex u as h n ws) : xhR cl sv ex U as h n ws := by
  obtain ⟨h1, h2, h3⟩ := hh
  refine ⟨h1, h2, fun k hk => ?_⟩
  obtain ⟨a, c, e, q1, q2, q3, q4⟩ := h3 k hk
  exact ⟨a, c, e, q1, q2, q3, xcR.moved cl sv ex hvm q4⟩
theorem xhR.at {U : State} {as : List Nat} {h : xheap} {n : Nat} {ws : va_W} (hh : xhR cl sv ex U as h n ws) {k a : Nat} {q : xcell} (ha : as[k]? = some a) (hq : xg h k = some q) : ∃ e : va_E, ws[k]? = some (a, e) ∧ xcR cl sv ex U as q e := by
  obtain ⟨h1, h2, h3⟩ := hh
  have hk : k < n := by rw [← h1]; exact (List.getElem?_eq_some_iff.mp ha).1
  obtain ⟨a', c, e, q1, q2, q3, q4⟩ := h3 k hk
  have e1 : a' = a := Option.some.inj (q1.symm.trans ha)
  have e2 : c = q := Option.some.inj (q2.symm.trans hq)
  subst e1; subst e2
  exact ⟨e, q3, q4⟩
theorem xhR.set {U : State} {as : List Nat} {h : xheap} {n : Nat} {ws : va_W} (hh : xhR cl sv ex U as h n ws) {k a : Nat} {q q' : xcell} {e' : va_E} (ha : as[k]? = some a) (hq : xg h k = some q) (he : xcR cl sv ex U as q' e') : xhR cl sv ex U as (xw h k q') n (ws.set k (a, e')) := by
  obtain ⟨h1, h2, h3⟩ := hh
  refine ⟨h1, by rw [List.length_set]; exact h2, fun j hj => ?_⟩
  by_cases hjk : j = k
  · subst hjk
    exact ⟨a, q', e', ha, xg_self h j q' q hq, List.getElem?_set_self (by rw [h2]; exact hj), he⟩
  · obtain ⟨a', c, e, q1, q2, q3, q4⟩ := h3 j hj
    exact ⟨a', c, e, q1, by rw [xg_other h k j q' hjk]; exact q2, by rw [List.getElem?_set_ne (Ne.symm hjk)]; exact q3, q4⟩
theorem xhR.push {U : State} {as : List Nat} {h : xheap} {n : Nat} {ws : va_W} (hh : xhR cl sv ex U as h n ws) {a : Nat} {q q' : xcell} {e' : va_E} (hq : xg h n = some q) (he : xcR cl sv ex U (as ++ [a]) q' e') : xhR cl sv ex U (as ++ [a]) (xw h n q') (n + 1) (ws ++ [(a, e')]) := by
  obtain ⟨h1, h2, h3⟩ := hh
  refine ⟨by rw [List.length_append, h1]; rfl, by rw [List.length_append, h2]; rfl, fun j hj => ?_⟩
  by_cases hjk : j = n
  · subst hjk
    refine ⟨a, q', e', ?_, xg_self h j q' q hq, ?_, he⟩
    · rw [← h1, List.getElem?_append_right (Nat.le_refl _), Nat.sub_self]; rfl
    · rw [← h2, List.getElem?_append_right (Nat.le_refl _), Nat.sub_self]; rfl
  · obtain ⟨a', c, e, q1, q2, q3, q4⟩ := h3 j (by omega)
    refine ⟨a', c, e, xle.push as a j a' q1, by rw [xg_other h n j q' hjk]; exact q2, ?_, xcR.mono cl sv ex (xle.push as a) q4⟩
    rw [List.getElem?_append_left (by omega)]; exact q3
def xWorld (s : State) (as : List Nat) (bx : xbox) (h : xheap) (n : Nat) (ws : va_W) (H : Heap) (locs : List Loc) : Prop :=
  xbxo sv bx ∧ xhR cl sv ex s as h n ws ∧ va_P D cl ws H ∧ va_D A ws ∧ va_S A s.heap H locs
def xFrm (as : List Nat) (nL : Nat) (ls : List (Nat × xv)) (st : List xv) (la : Array Slot) (stv : List Value) : Prop :=
  (∃ lv : List (Nat × Value), lv_has la nL lv ∧ xlsR sv ex as ls lv) ∧ xstR sv ex as st stv
/-- what was there before and is read: the script, two statics, a text -/
def xEX (el : Nat → Nat) (eb : Nat → List Nat) (nest : List (String × Nat × MethodName × String)) (txt : Nat → String × Nat × String) (ovr : List String) (s : State) : Prop :=
  (va_X (ex 0) (el 0) sv s s.heap ∧ ex 0 < s.heap.size ∧ ¬ A (ex 0)) ∧
  va_Z "java/lang/String" "COMPACT_STRINGS" "Z" (.int 1) A s s.heap ∧
  va_Zq "jdk/internal/util/Preconditions" "SIOOBE_FORMATTER" "Ljava/util/function/BiFunction;" A s s.heap ∧
  (∀ i : Nat, i = 1 ∨ i = 3 → va_O "java/lang/String" (ex i) A s s.heap ∧ va_OF "java/lang/String" "coder" "B" (.int 0) (ex i) A s s.heap ∧ va_OF "java/lang/String" "value" "[B" (.ref (ex (i + 1))) (ex i) A s s.heap ∧ va_T .byte (ex (i + 1)) (el (i + 1)) (fun j => .int (nI ((eb (i + 1)).getD j 0))) A s s.heap) ∧
  (∀ i : Nat, i = 1 ∨ i = 3 → vk_R (txt i).1 (txt i).2.1 (txt i).2.2 (ex i) s) ∧
  (∀ q ∈ nest, va_Nw (.methodLinkNest q.1 q.2.1 q.2.2.1 q.2.2.2) s) ∧ ∀ C ∈ ovr, va_AO C s
theorem xEX.moved {el : Nat → Nat} {eb : Nat → List Nat} {nest : List (String × Nat × MethodName × String)} {txt : Nat → String × Nat × String} {ovr : List String} {s U : State} (hW : s.WarmedH U.vm) (hz : s.heap.size ≤ U.heap.size) (hk : ∀ a : Nat, a < s.heap.size → ¬ A a → U.heap[a]? = s.heap[a]?) (h : xEX A sv ex el eb nest txt ovr s) : xEX A sv ex el eb nest txt ovr U := by
  obtain ⟨⟨a1, a2, a3⟩, b, c, d, e, f, g⟩ := h
  have hv := hW.alike
  refine ⟨⟨(a1.moved hv).kept (hk _ a2 a3), Nat.lt_of_lt_of_le a2 hz, a3⟩, (b.moved hv).kept hk, ?_, fun i hi => ⟨(va_O.moved hv (d i hi).1).kept hk, (va_OF.moved hv (d i hi).2.1).kept hk, (va_OF.moved hv (d i hi).2.2.1).kept hk, (va_T.moved hv (d i hi).2.2.2).kept hk⟩, fun i hi => vk_R.warm hW (e i hi), fun q hq => va_Nw.warmM hW (f q hq), fun C hC => va_AO.moved hv (g C hC)⟩
  rcases c with c | ⟨t, c⟩
  · exact Or.inl ((c.moved hv).kept hk)
  · exact Or.inr ⟨t, (c.moved hv).kept hk⟩
theorem xEX.same {el : Nat → Nat} {eb : Nat → List Nat} {nest : List (String × Nat × MethodName × String)} {txt : Nat → String × Nat × String} {ovr : List String} {s U : State} (hv : U.vm = s.vm) (hh : U.heap = s.heap) (h : xEX A sv ex el eb nest txt ovr s) : xEX A sv ex el eb nest txt ovr U := by
  obtain ⟨⟨a1, a2, a3⟩, b, c, d, e, f, g⟩ := h
  have hva : s.vm.Alike U.vm := by rw [hv]; exact Vm.Alike.refl _
  unfold xEX
  rw [hh]
  refine ⟨⟨a1.moved hva, a2, a3⟩, b.moved hva, ?_, fun i hi => ⟨va_O.moved hva (d i hi).1, va_OF.moved hva (d i hi).2.1, va_OF.moved hva (d i hi).2.2.1, va_T.moved hva (d i hi).2.2.2⟩, fun i hi => vk_R.same hv (e i hi), fun q hq => va_Nw.same rfl hv.symm (f q hq), fun C hC => va_AO.moved hva (g C hC)⟩
  rcases c with c | ⟨t, c⟩
  · exact Or.inl (c.moved hva)
  · exact Or.inr ⟨t, c.moved hva⟩
end World
end
section
/-! What it means that a step ends well -/
theorem xcnd {α : Type} {b : Bool} {x : Option α} {L : α} (h : cond b x none = some L) : b = true ∧ x = some L := by
  cases b with
  | true => exact ⟨rfl, h⟩
  | false => cases h
theorem xcndn {α : Type} {b : Bool} {x : Option α} {L : α} (h : cond b none x = some L) : b = false ∧ x = some L := by
  cases b with
  | false => exact ⟨rfl, h⟩
  | true => cases h
theorem xand {a b : Bool} (h : (a && b) = true) : a = true ∧ b = true := by cases a <;> cases b <;> simp_all
theorem xor2 {a b : Bool} (h : (a || b) = true) : a = true ∨ b = true := by cases a <;> cases b <;> simp_all
theorem xeqb {a b : Nat} (h : Nat.beq a b = true) : a = b := Nat.eq_of_beq_eq_true h
theorem xneb {a b : Nat} (h : Nat.beq a b = false) : a ≠ b := fun e => by rw [e, Nat.beq_refl] at h; cases h
theorem xleb {a b : Nat} (h : Nat.ble a b = true) : a ≤ b := Nat.le_of_ble_eq_true h
theorem xltb {a b : Nat} (h : Nat.blt a b = true) : a < b := Nat.le_of_ble_eq_true h
theorem xnleb {a b : Nat} (h : Nat.ble a b = false) : b < a := Nat.lt_of_not_le fun q => by rw [Nat.ble_eq_true_of_le q] at h; cases h
theorem xnltb {a b : Nat} (h : Nat.blt a b = false) : b ≤ a := Nat.le_of_lt_succ (xnleb (a := a + 1) (b := b) h)
theorem xapp_ok {a b : xR} {L : List xleaf} (h : xapp a b = some L) : ∃ x y, a = some x ∧ b = some y ∧ L = x ++ y := by
  cases a with
  | none => cases h
  | some x =>
    cases b with
    | none => cases h
    | some y => exact ⟨x, y, rfl, rfl, (Option.some.inj h).symm⟩
theorem xbind_ok {k : xleaf → xR} : ∀ {M L : List xleaf}, xbind k M = some L → ∀ q ∈ M, ∃ L', k q = some L' ∧ ∀ x ∈ L', x ∈ L
  | [], L, _, q, hq => by cases hq
  | r :: M, L, h, q, hq => by
    obtain ⟨x, y, h1, h2, h3⟩ := xapp_ok h
    subst h3
    rcases List.mem_cons.mp hq with e | e
    · subst e
      exact ⟨x, h1, fun z hz => List.mem_append_left _ hz⟩
    · obtain ⟨L', g1, g2⟩ := xbind_ok h2 q e
      exact ⟨L', g1, fun z hz => List.mem_append_right _ (g2 z hz)⟩
section Inv
variable {sv : Nat → Int32} {ex : Nat → Nat}
theorem xspl_ok {k : xbox → xR} {bx : xbox} {i o : Nat} {L : List xleaf} (hb : xbxo sv bx) (h : xspl k bx i o = some L) : ∃ bx' L', xbxo sv bx' ∧ k bx' = some L' ∧ ∀ q ∈ L', q ∈ L := by
  obtain ⟨x, y, h1, h2, h3⟩ := xapp_ok h
  obtain ⟨u, v, h4, h5, h6⟩ := xapp_ok h2
  subst h3; subst h6
  have hr := hb i
  rcases Nat.lt_trichotomy (xoff (sv i).toInt) o with q | q | q
  · have hf : Nat.ble o (xbg bx i).1 = false := by
      cases hq : Nat.ble o (xbg bx i).1 with
      | false => rfl
      | true => have := xleb hq; have := hr.1; dsimp only at this; omega
    rw [hf] at h1
    exact ⟨_, x, xbf_set bx _ i _ _ hb hr.1 (by omega), h1, fun z hz => List.mem_append_left _ hz⟩
  · exact ⟨_, u, xbf_set bx _ i _ _ hb (by omega) (by omega), h4, fun z hz => List.mem_append_right _ (List.mem_append_left _ hz)⟩
  · have hf : Nat.ble (xbg bx i).2 o = false := by
      cases hq : Nat.ble (xbg bx i).2 o with
      | false => rfl
      | true => have := xleb hq; have := hr.2; dsimp only at this; omega
    rw [hf] at h5
    exact ⟨_, v, xbf_set bx _ i _ _ hb (by omega) hr.2, h5, fun z hz => List.mem_append_right _ (List.mem_append_right _ hz)⟩
def xrel (o : Jvm.ClassFile.Cond) (x y : Nat) : Prop :=
  match o with
  | .eq => x = y
  | .ne => ¬ x = y
  | .lt => x < y
  | .ge => y ≤ x
  | .gt => y < x
  | .le => x ≤ y
theorem xdec_ok {o : Jvm.ClassFile.Cond} {a b : Nat × Nat} {t : Bool} (h : xdec o a b = some t) {x y : Nat} (h1 : a.1 ≤ x) (h2 : x ≤ a.2) (h3 : b.1 ≤ y) (h4 : y ≤ b.2) : t = true ↔ xrel o x y := by
  cases o with
  | eq =>
    have h : cond (Nat.beq a.1 a.2 && Nat.beq b.1 b.2 && Nat.beq a.1 b.1) (some true) (cond (Nat.blt a.2 b.1 || Nat.blt b.2 a.1) (some false) none) = some t := h
    show t = true ↔ x = y
    cases hc : (Nat.beq a.1 a.2 && Nat.beq b.1 b.2 && Nat.beq a.1 b.1) with
    | true =>
      rw [hc] at h; cases h
      obtain ⟨g1, g2⟩ := xand hc
      obtain ⟨g3, g4⟩ := xand g1
      have := xeqb g2; have := xeqb g3; have := xeqb g4
      exact ⟨fun _ => by omega, fun _ => rfl⟩
    | false =>
      rw [hc] at h
      obtain ⟨g1, g2⟩ := xcnd h
      cases g2
      rcases xor2 g1 with g | g
      · have := xltb g; exact ⟨fun q => (by cases q), fun q => by omega⟩
      · have := xltb g; exact ⟨fun q => (by cases q), fun q => by omega⟩
  | ne =>
    have h : cond (Nat.beq a.1 a.2 && Nat.beq b.1 b.2 && Nat.beq a.1 b.1) (some false) (cond (Nat.blt a.2 b.1 || Nat.blt b.2 a.1) (some true) none) = some t := h
    show t = true ↔ ¬ x = y
    cases hc : (Nat.beq a.1 a.2 && Nat.beq b.1 b.2 && Nat.beq a.1 b.1) with
    | true =>
      rw [hc] at h; cases h
      obtain ⟨g1, g2⟩ := xand hc
      obtain ⟨g3, g4⟩ := xand g1
      have := xeqb g2; have := xeqb g3; have := xeqb g4
      exact ⟨fun q => (by cases q), fun q => by omega⟩
    | false =>
      rw [hc] at h
      obtain ⟨g1, g2⟩ := xcnd h
      cases g2
      rcases xor2 g1 with g | g
      · have := xltb g; exact ⟨fun _ => by omega, fun _ => rfl⟩
      · have := xltb g; exact ⟨fun _ => by omega, fun _ => rfl⟩
  | lt =>
    have h : cond (Nat.blt a.2 b.1) (some true) (cond (Nat.ble b.2 a.1) (some false) none) = some t := h
    show t = true ↔ x < y
    cases hc : Nat.blt a.2 b.1 with
    | true => rw [hc] at h; cases h; have := xltb hc; exact ⟨fun _ => by omega, fun _ => rfl⟩
    | false =>
      rw [hc] at h
      obtain ⟨g1, g2⟩ := xcnd h
      cases g2
      have := xleb g1
      exact ⟨fun q => (by cases q), fun q => by omega⟩
  | ge =>
    have h : cond (Nat.blt a.2 b.1) (some false) (cond (Nat.ble b.2 a.1) (some true) none) = some t := h
    show t = true ↔ y ≤ x
    cases hc : Nat.blt a.2 b.1 with
    | true => rw [hc] at h; cases h; have := xltb hc; exact ⟨fun q => (by cases q), fun q => by omega⟩
    | false =>
      rw [hc] at h
      obtain ⟨g1, g2⟩ := xcnd h
      cases g2
      have := xleb g1
      exact ⟨fun _ => by omega, fun _ => rfl⟩
  | gt =>
    have h : cond (Nat.blt b.2 a.1) (some true) (cond (Nat.ble a.2 b.1) (some false) none) = some t := h
    show t = true ↔ y < x
    cases hc : Nat.blt b.2 a.1 with
    | true => rw [hc] at h; cases h; have := xltb hc; exact ⟨fun _ => by omega, fun _ => rfl⟩
    | false =>
      rw [hc] at h
      obtain ⟨g1, g2⟩ := xcnd h
      cases g2
      have := xleb g1
      exact ⟨fun q => (by cases q), fun q => by omega⟩
  | le =>
    have h : cond (Nat.blt b.2 a.1) (some false) (cond (Nat.ble a.2 b.1) (some true) none) = some t := h
    show t = true ↔ x ≤ y
    cases hc : Nat.blt b.2 a.1 with
    | true => rw [hc] at h; cases h; have := xltb hc; exact ⟨fun q => (by cases q), fun q => by omega⟩
    | false =>
      rw [hc] at h
      obtain ⟨g1, g2⟩ := xcnd h
      cases g2
      have := xleb g1
      exact ⟨fun _ => by omega, fun _ => rfl⟩
theorem xbr_ok {o : Jvm.ClassFile.Cond} {bx : xbox} {a b : xv} {k : Bool → xR} {again : xbox → xR} {L : List xleaf} (h : xbr o bx a b k again = some L) :
    (∃ t, xdec o (xrg bx a) (xrg bx b) = some t ∧ k t = some L) ∨ (∃ i q, xspl again bx i q = some L) ∨ (∃ L1 L2, k true = some L1 ∧ k false = some L2 ∧ L = L1 ++ L2) := by
  unfold xbr at h
  cases hd : xdec o (xrg bx a) (xrg bx b) with
  | some t => rw [hd] at h; exact Or.inl ⟨t, rfl, h⟩
  | none =>
    rw [hd] at h
    cases hp : xpt bx a b with
    | some q => rw [hp] at h; exact Or.inr (Or.inl ⟨q.1, q.2, h⟩)
    | none =>
      rw [hp] at h
      obtain ⟨x, y, h1, h2, h3⟩ := xapp_ok h
      exact Or.inr (Or.inr ⟨x, y, h1, h2, h3⟩)
variable {mi : xmi} {df : xdf} {el : Nat → Nat} {eb : Nat → List Nat} {rec : xF} {nx tg r1 r2 y d pc : Nat} {ls : List (Nat × xv)} {st : List xv} {bx : xbox} {h : xheap} {n c s : Nat} {L : List xleaf}
theorem x_ld_ok {k1 k2 : Nat} (hx : x_ld rec nx r1 y d ls st bx h n c s k1 k2 = some L) : ∃ w, xlk ls r1 = some w ∧ (xkd w.1 = k1 ∨ xkd w.1 = k2) ∧ rec y d nx ls (w :: st) bx h n c s = some L := by
  unfold x_ld at hx
  cases hl : xlk ls r1 with
  | none => rw [hl] at hx; cases hx
  | some w =>
    rw [hl] at hx
    obtain ⟨h1, h2⟩ := xcnd hx
    exact ⟨w, rfl, (xor2 h1).imp xeqb xeqb, h2⟩
theorem x_st_ok {k1 k2 : Nat} {f : Nat → Nat × xv → Bool} (hx : x_st rec nx r1 y d ls st bx h n c s k1 k2 f = some L) : ∃ w r, st = w :: r ∧ (xkd w.1 = k1 ∨ xkd w.1 = k2) ∧ rec y d nx ((r1, w) :: ls.filter (f r1)) r bx h n c s = some L := by
  unfold x_st at hx
  cases st with
  | nil => cases hx
  | cons w r =>
    obtain ⟨h1, h2⟩ := xcnd hx
    rw [xfl_eq] at h2
    exact ⟨w, r, rfl, (xor2 h1).imp xeqb xeqb, h2⟩
theorem x_inc_ok (hx : x_inc rec nx r1 r2 y d ls st bx h n c s = some L) : ∃ w x, xlk ls r1 = some w ∧ xci bx w = some x ∧ rec y d nx ((r1, (0, (x + r2) % 4294967296)) :: ls.filter (xk1 r1)) st bx h n c s = some L := by
  unfold x_inc at hx
  cases hl : xlk ls r1 with
  | none => rw [hl] at hx; cases hx
  | some w =>
    rw [hl] at hx
    dsimp only at hx
    cases hc : xci bx w with
    | none => rw [hc] at hx; cases hx
    | some x =>
      rw [hc] at hx
      dsimp only at hx
      rw [xfl_eq, xfrc_eq] at hx
      exact ⟨w, x, rfl, hc, hx⟩
theorem x_bi_ok {f : Nat → Nat → Nat} (hx : x_bi rec nx y d ls st bx h n c s f = some L) : ∃ b a r, st = b :: a :: r ∧ xkd b.1 = 0 ∧ xkd a.1 = 0 ∧
    ((∃ x z, xci bx a = some x ∧ xci bx b = some z ∧ rec y d nx ls ((0, f x z) :: r) bx h n c s = some L) ∨ rec y d nx ls ((7, 0) :: r) bx h n c s = some L) := by
  unfold x_bi at hx
  match st, hx with
  | [], hx => cases hx
  | [_], hx => cases hx
  | b :: a :: r, hx =>
    obtain ⟨h1, h2⟩ := xcnd hx
    obtain ⟨g1, g2⟩ := xand h1
    refine ⟨b, a, r, rfl, xeqb g1, xeqb g2, ?_⟩
    cases ha : xci bx a with
    | none => rw [ha] at h2; exact Or.inr h2
    | some x =>
      rw [ha] at h2
      dsimp only at h2
      cases hb : xci bx b with
      | none => rw [hb] at h2; exact Or.inr h2
      | some z =>
        rw [hb] at h2
        dsimp only at h2
        rw [xfrc_eq] at h2
        exact Or.inl ⟨x, z, rfl, rfl, h2⟩
theorem x_dv_ok {f : Nat → Nat → Nat} (hx : x_dv rec nx y d ls st bx h n c s f = some L) : ∃ b a r x z, st = b :: a :: r ∧ xci bx a = some x ∧ xci bx b = some z ∧ z % 4294967296 ≠ 0 ∧ rec y d nx ls ((0, f x z) :: r) bx h n c s = some L := by
  unfold x_dv at hx
  match st, hx with
  | [], hx => cases hx
  | [_], hx => cases hx
  | b :: a :: r, hx =>
    dsimp only at hx
    cases ha : xci bx a with
    | none => rw [ha] at hx; cases hx
    | some x =>
      rw [ha] at hx
      dsimp only at hx
      cases hb : xci bx b with
      | none => rw [hb] at hx; cases hx
      | some z =>
        rw [hb] at hx
        dsimp only at hx
        obtain ⟨h1, h2⟩ := xcndn hx
        rw [xfrc_eq] at h2
        exact ⟨b, a, r, x, z, rfl, ha, hb, xneb h1, h2⟩
theorem x_bl_ok {f : Nat → Nat → Nat} (hx : x_bl rec nx y d ls st bx h n c s f = some L) : ∃ b a r, st = b :: a :: r ∧ xkd b.1 = 1 ∧ xkd a.1 = 1 ∧
    ((∃ x z, xcl bx a = some x ∧ xcl bx b = some z ∧ rec y d nx ls ((2, f x z) :: r) bx h n c s = some L) ∨ rec y d nx ls ((8, 0) :: r) bx h n c s = some L) := by
  unfold x_bl at hx
  match st, hx with
  | [], hx => cases hx
  | [_], hx => cases hx
  | b :: a :: r, hx =>
    obtain ⟨h1, h2⟩ := xcnd hx
    obtain ⟨g1, g2⟩ := xand h1
    refine ⟨b, a, r, rfl, xeqb g1, xeqb g2, ?_⟩
    cases ha : xcl bx a with
    | none => rw [ha] at h2; exact Or.inr h2
    | some x =>
      rw [ha] at h2
      dsimp only at h2
      cases hb : xcl bx b with
      | none => rw [hb] at h2; exact Or.inr h2
      | some z =>
        rw [hb] at h2
        dsimp only at h2
        rw [xfrc_eq] at h2
        exact Or.inl ⟨x, z, rfl, rfl, h2⟩
theorem x_dl_ok {f : Nat → Nat → Nat} (hx : x_dl rec nx y d ls st bx h n c s f = some L) : ∃ b a r x z, st = b :: a :: r ∧ xcl bx a = some x ∧ xcl bx b = some z ∧ z % 18446744073709551616 ≠ 0 ∧ rec y d nx ls ((2, f x z) :: r) bx h n c s = some L := by
  unfold x_dl at hx
  match st, hx with
  | [], hx => cases hx
  | [_], hx => cases hx
  | b :: a :: r, hx =>
    dsimp only at hx
    cases ha : xcl bx a with
    | none => rw [ha] at hx; cases hx
    | some x =>
      rw [ha] at hx
      dsimp only at hx
      cases hb : xcl bx b with
      | none => rw [hb] at hx; cases hx
      | some z =>
        rw [hb] at hx
        dsimp only at hx
        obtain ⟨h1, h2⟩ := xcndn hx
        rw [xfrc_eq] at h2
        exact ⟨b, a, r, x, z, rfl, ha, hb, xneb h1, h2⟩
theorem x_sl_ok {f : Nat → Nat → Nat} (hx : x_sl rec nx y d ls st bx h n c s f = some L) : ∃ b a r, st = b :: a :: r ∧ xkd b.1 = 0 ∧ xkd a.1 = 1 ∧
    ((∃ x z, xcl bx a = some x ∧ xci bx b = some z ∧ rec y d nx ls ((2, f x z) :: r) bx h n c s = some L) ∨ rec y d nx ls ((8, 0) :: r) bx h n c s = some L) := by
  unfold x_sl at hx
  match st, hx with
  | [], hx => cases hx
  | [_], hx => cases hx
  | b :: a :: r, hx =>
    obtain ⟨h1, h2⟩ := xcnd hx
    obtain ⟨g1, g2⟩ := xand h1
    refine ⟨b, a, r, rfl, xeqb g1, xeqb g2, ?_⟩
    cases ha : xcl bx a with
    | none => rw [ha] at h2; exact Or.inr h2
    | some x =>
      rw [ha] at h2
      dsimp only at h2
      cases hb : xci bx b with
      | none => rw [hb] at h2; exact Or.inr h2
      | some z =>
        rw [hb] at h2
        dsimp only at h2
        rw [xfrc_eq] at h2
        exact Or.inl ⟨x, z, rfl, rfl, h2⟩
theorem x_ui_ok {f : Nat → Nat} (hx : x_ui rec nx y d ls st bx h n c s f = some L) : ∃ a r, st = a :: r ∧ xkd a.1 = 0 ∧
    ((∃ x, xci bx a = some x ∧ rec y d nx ls ((0, f x) :: r) bx h n c s = some L) ∨ rec y d nx ls ((7, 0) :: r) bx h n c s = some L) := by
  unfold x_ui at hx
  match st, hx with
  | [], hx => cases hx
  | a :: r, hx =>
    obtain ⟨h1, h2⟩ := xcnd hx
    refine ⟨a, r, rfl, xeqb h1, ?_⟩
    cases ha : xci bx a with
    | none => rw [ha] at h2; exact Or.inr h2
    | some x =>
      rw [ha] at h2
      dsimp only at h2
      rw [xfrc_eq] at h2
      exact Or.inl ⟨x, rfl, h2⟩
theorem x_l2i_ok (hx : x_l2i rec nx y d ls st bx h n c s = some L) : ∃ a r, st = a :: r ∧ xkd a.1 = 1 ∧
    ((∃ x, xcl bx a = some x ∧ rec y d nx ls ((0, x % 4294967296) :: r) bx h n c s = some L) ∨ rec y d nx ls ((7, 0) :: r) bx h n c s = some L) := by
  unfold x_l2i at hx
  match st, hx with
  | [], hx => cases hx
  | a :: r, hx =>
    obtain ⟨h1, h2⟩ := xcnd hx
    refine ⟨a, r, rfl, xeqb h1, ?_⟩
    cases ha : xcl bx a with
    | none => rw [ha] at h2; exact Or.inr h2
    | some x =>
      rw [ha] at h2
      dsimp only at h2
      rw [xfrc_eq] at h2
      exact Or.inl ⟨x, rfl, h2⟩
/-- widening: the value that comes stands for the widened one -/
theorem x_i2l_ok (hx : x_i2l rec nx y d ls st bx h n c s = some L) : ∃ a r w, st = a :: r ∧ rec y d nx ls (w :: r) bx h n c s = some L ∧ ∀ (as : List Nat) (v : Value), xden sv ex as a v → ∃ x, v = .int x ∧ xden sv ex as w (.long x.toInt64) := by
  unfold x_i2l at hx
  match st, hx with
  | [], hx => cases hx
  | (0, k) :: r, hx =>
    dsimp only at hx
    rw [xfrc_eq] at hx
    exact ⟨_, r, _, rfl, hx, fun as v hv => ⟨nI k, hv, by show Value.long _ = Value.long _; rw [lN_xnl]⟩⟩
  | (1, k) :: r, hx => exact ⟨_, r, _, rfl, hx, fun as v hv => ⟨sv k, hv, rfl⟩⟩
  | (2, k) :: r, hx => cases hx
  | (3, k) :: r, hx => cases hx
  | (4, k) :: r, hx => cases hx
  | (5, k) :: r, hx => cases hx
  | (6, k) :: r, hx => cases hx
  | (7, k) :: r, hx =>
    refine ⟨_, r, _, rfl, hx, fun as v hv => ?_⟩
    obtain ⟨x, hv⟩ : ∃ x : Int32, v = .int x := hv
    exact ⟨x, hv, x.toInt64, rfl⟩
  | (_ + 8, k) :: r, hx => cases hx
theorem x_dup_ok (hx : x_dup rec nx y d ls st bx h n c s = some L) : ∃ a r, st = a :: r ∧ Nat.beq (xkd a.1) 1 = false ∧ rec y d nx ls (a :: a :: r) bx h n c s = some L := by
  unfold x_dup at hx
  match st, hx with
  | [], hx => cases hx
  | a :: r, hx =>
    obtain ⟨h1, h2⟩ := xcndn hx
    exact ⟨a, r, rfl, h1, h2⟩
theorem x_pop_ok (hx : x_pop rec nx y d ls st bx h n c s = some L) : ∃ a r, st = a :: r ∧ Nat.beq (xkd a.1) 1 = false ∧ rec y d nx ls r bx h n c s = some L := by
  unfold x_pop at hx
  match st, hx with
  | [], hx => cases hx
  | a :: r, hx =>
    obtain ⟨h1, h2⟩ := xcndn hx
    exact ⟨a, r, rfl, h1, h2⟩
theorem x_dup2_ok (hx : x_dup2 rec nx y d ls st bx h n c s = some L) : (∃ a r, st = a :: r ∧ Nat.beq (xkd a.1) 1 = true ∧ rec y d nx ls (a :: a :: r) bx h n c s = some L) ∨ (∃ a b r, st = a :: b :: r ∧ Nat.beq (xkd a.1) 1 = false ∧ Nat.beq (xkd b.1) 1 = false ∧ rec y d nx ls (a :: b :: a :: b :: r) bx h n c s = some L) := by
  unfold x_dup2 at hx
  match st, hx with
  | [], hx => cases hx
  | a :: r, hx =>
    dsimp only at hx
    cases hb : Nat.beq (xkd a.1) 1 with
    | true => rw [hb] at hx; exact Or.inl ⟨a, r, rfl, hb, hx⟩
    | false =>
      rw [hb] at hx
      dsimp only [cond_false] at hx
      match r, hx with
      | [], hx => cases hx
      | b :: r', hx =>
        obtain ⟨h1, h2⟩ := xcndn hx
        exact Or.inr ⟨a, b, r', rfl, hb, h1, h2⟩
theorem x_icmp_ok {o : Jvm.ClassFile.Cond} (hx : x_icmp rec nx tg y d pc ls st bx h n c s o = some L) : ∃ b a r, st = b :: a :: r ∧ xkd b.1 = 0 ∧ xkd a.1 = 0 ∧ xbr o bx a b (fun t => rec y d (cond t tg nx) ls r bx h n c s) (fun bx' => rec y d pc ls st bx' h n c s) = some L := by
  unfold x_icmp at hx
  match st, hx with
  | [], hx => cases hx
  | [_], hx => cases hx
  | b :: a :: r, hx =>
    obtain ⟨h1, h2⟩ := xcnd hx
    obtain ⟨g1, g2⟩ := xand h1
    exact ⟨b, a, r, rfl, xeqb g1, xeqb g2, h2⟩
theorem x_if_ok {o : Jvm.ClassFile.Cond} (hx : x_if rec nx tg y d pc ls st bx h n c s o = some L) : ∃ a r, st = a :: r ∧ xkd a.1 = 0 ∧ xbr o bx a (0, 0) (fun t => rec y d (cond t tg nx) ls r bx h n c s) (fun bx' => rec y d pc ls st bx' h n c s) = some L := by
  unfold x_if at hx
  match st, hx with
  | [], hx => cases hx
  | a :: r, hx =>
    obtain ⟨h1, h2⟩ := xcnd hx
    exact ⟨a, r, rfl, xeqb h1, h2⟩
theorem x_nul_ok {t : Bool} (hx : x_nul rec nx tg y d ls st bx h n c s t = some L) : ∃ a r, st = a :: r ∧ ((xkd a.1 = 2 ∧ rec y d (cond t nx tg) ls r bx h n c s = some L) ∨ (xkd a.1 = 3 ∧ rec y d (cond t tg nx) ls r bx h n c s = some L)) := by
  unfold x_nul at hx
  match st, hx with
  | [], hx => cases hx
  | a :: r, hx =>
    dsimp only at hx
    refine ⟨a, r, rfl, ?_⟩
    split at hx
    · rename_i e; exact Or.inl ⟨e, hx⟩
    · rename_i e; exact Or.inr ⟨e, hx⟩
    · cases hx
theorem x_ix_ok {i : xv} {k : Nat → xR} (hx : x_ix rec y d pc ls st bx h n c s i k = some L) : (∃ x, xci bx i = some x ∧ x < 2147483648 ∧ k x = some L) ∨ (∃ j q, xspl (fun bx' => rec y d pc ls st bx' h n c s) bx j q = some L) := by
  unfold x_ix at hx
  cases hc : xci bx i with
  | some x => rw [hc] at hx; exact Or.inl ⟨x, rfl, xltb (xcnd hx).1, (xcnd hx).2⟩
  | none =>
    rw [hc] at hx
    exact Or.inr ⟨_, _, (xcnd hx).2⟩
theorem x_cell_ok {k m : Nat} {t : xct} {r : List xv} (hx : x_cell mi rec nx y d ls bx h n c s k m t r = some L) : ∃ q q0, xg mi y = some q ∧ c < q.1 ∧ s + m ≤ q.2.1 ∧ xg h n = some q0 ∧ rec y d nx ls ((4, n) :: r) bx (xw h n (k, m, t)) (n + 1) (c + 1) (s + m) = some L := by
  unfold x_cell at hx
  cases hq : xg mi y with
  | none => rw [hq] at hx; cases hx
  | some q =>
    rw [hq] at hx
    obtain ⟨h1, h2⟩ := xcnd hx
    obtain ⟨g1, g2⟩ := xand h1
    cases hn : xg h n with
    | none => rw [hn] at h2; cases h2
    | some q0 =>
      rw [hn] at h2
      dsimp only at h2
      rw [xsK_eq, xfrc_eq, xfrc_eq, xfrc_eq] at h2
      exact ⟨q, q0, rfl, xltb g1, xleb g2, rfl, h2⟩
theorem x_go_ok {z : Nat} {args rest : List xv} (hx : x_go mi rec nx y d ls bx h n c s z args rest = some L) : ∃ d' q u M, d = d' + 1 ∧ xg mi y = some q ∧ xg mi z = some u ∧ xwds rest ≤ 8 ∧ xwds args ≤ u.2.2.2.2.2 ∧ c + u.1 ≤ q.1 ∧ s + u.2.1 ≤ q.2.1 ∧ rec z d' 0 (xarg 0 args) [] bx h n 0 0 = some M ∧
    ∀ l ∈ M, ∃ L', rec y d nx ls (match l.2.2.2 with
      | none => rest
      | some w => w :: rest) l.1 l.2.1 l.2.2.1 (c + u.1) (s + u.2.1) = some L' ∧ ∀ x ∈ L', x ∈ L := by
  unfold x_go at hx
  match d, hx with
  | 0, hx => cases hx
  | d' + 1, hx =>
    dsimp only at hx
    cases hq : xg mi y with
    | none => rw [hq] at hx; cases hx
    | some q =>
      rw [hq] at hx
      dsimp only at hx
      cases hu : xg mi z with
      | none => rw [hu] at hx; cases hx
      | some u =>
        rw [hu] at hx
        obtain ⟨h1, h2⟩ := xcnd hx
        obtain ⟨g1, g2⟩ := xand h1
        obtain ⟨g3, g4⟩ := xand g1
        obtain ⟨g5, g6⟩ := xand g3
        cases hM : rec z d' 0 (xarg 0 args) [] bx h n 0 0 with
        | none => rw [hM] at h2; cases h2
        | some M =>
          rw [hM] at h2
          dsimp only at h2
          rw [xfrc_eq, xfrc_eq] at h2
          exact ⟨d', q, u, M, rfl, rfl, rfl, xleb g5, xleb g6, xleb g4, xleb g2, hM, fun l hl => xbind_ok h2 l hl⟩
theorem x_call_ok {inst virt : Bool} (hx : x_call mi rec nx r1 y d ls st bx h n c s inst virt = some L) : ∃ u q, xg mi r1 = some u ∧ xpop (cond inst (u.2.2.1 + 1) u.2.2.1) [] st = some q ∧ x_go mi rec nx y d ls bx h n c s r1 q.1 q.2 = some L ∧ (inst = true → ∃ w l, q.1 = w :: l ∧ (cond virt (xrcv u.2.2.2.1 h w) (Nat.beq w.1 4) = true)) := by
  unfold x_call at hx
  cases hu : xg mi r1 with
  | none => rw [hu] at hx; cases hx
  | some u =>
    rw [hu] at hx
    dsimp only at hx
    cases hq : xpop (cond inst (u.2.2.1 + 1) u.2.2.1) [] st with
    | none => rw [hq] at hx; cases hx
    | some q =>
      rw [hq] at hx
      dsimp only at hx
      obtain ⟨q1, q2⟩ := q
      refine ⟨u, (q1, q2), rfl, hq, ?_⟩
      match q1, hx with
      | [], hx =>
        obtain ⟨h1, h2⟩ := xcndn hx
        exact ⟨h2, fun e => by rw [e] at h1; cases h1⟩
      | w :: l, hx =>
        obtain ⟨h1, h2⟩ := xcnd hx
        refine ⟨h2, fun e => ⟨w, l, rfl, ?_⟩⟩
        rw [e] at h1
        exact h1
end Inv
end
section
/-! Rows of the kit in the explorer's words -/
theorem xoff_ii {x z : Int32} : xoff x.toInt = xoff z.toInt ↔ x = z := by
  have h1 := xoff_int x
  have h2 := xoff_int z
  exact ⟨fun q => Int32.toInt_inj.mp (by omega), fun q => by rw [q]⟩
theorem xoff_lt {x z : Int32} : xoff x.toInt < xoff z.toInt ↔ x < z := by
  have h1 := xoff_int x
  have h2 := xoff_int z
  rw [Int32.lt_iff_toInt_lt]
  omega
theorem xoff_le {x z : Int32} : xoff x.toInt ≤ xoff z.toInt ↔ x ≤ z := by
  have h1 := xoff_int x
  have h2 := xoff_int z
  rw [Int32.le_iff_toInt_le]
  omega
theorem xoff_ll {x z : Int64} : xoff x.toInt = xoff z.toInt ↔ x = z := by
  have h1 := xoff_long x
  have h2 := xoff_long z
  exact ⟨fun q => Int64.toInt_inj.mp (by omega), fun q => by rw [q]⟩
theorem xoff_ltL {x z : Int64} : xoff x.toInt < xoff z.toInt ↔ x < z := by
  have h1 := xoff_long x
  have h2 := xoff_long z
  rw [Int64.lt_iff_toInt_lt]
  omega
section XR
variable {p : Program} {l : Launch} {e : Env} {R : Room} {s : State} {m : MethodId} {args : Array Value} {below : List Frame} {meth : Method} {c : Code} {H : Heap} {locs : List Loc} {cells slots : Nat} {Q : State → Prop}
variable {cc : ByteArray} {pc : Nat} {ls : Array Slot} {rest : List Value}
theorem xicmp {o : Jvm.ClassFile.Cond} (hexec : p.tables.exec = Jvm.exec) (hb : c.code = cc) {x z : Int32} {off : Int} {tgt : Nat} (hdg : decode cc pc = .ok (.if_icmp o off, 3)) (ht : (pc : Int) + off = (tgt : Int))
    (kt : xrel o (xoff x.toInt) (xoff z.toInt) → W p l e R s m args below meth c H locs cells slots Q (F0 m tgt ls rest)) (kf : ¬ xrel o (xoff x.toInt) (xoff z.toInt) → W p l e R s m args below meth c H locs cells slots Q (F0 m (pc + 3) ls rest)) : W p l e R s m args below meth c H locs cells slots Q (F0 m pc ls (.int z :: .int x :: rest)) := by
  cases o with
  | eq => exact lv_icmp_eq hexec hb hdg ht (fun q => kt (xoff_ii.mpr q)) (fun q => kf (fun r => q (xoff_ii.mp r)))
  | ne => exact lv_icmp_ne hexec hb hdg ht (fun q => kt (fun r => absurd (xoff_ii.mp r) q)) (fun q => kf (fun r => r (xoff_ii.mpr q)))
  | lt => exact lv_icmp_lt hexec hb hdg ht (fun q => kt (xoff_lt.mpr q)) (fun q => kf (fun r => q (xoff_lt.mp r)))
  | ge => exact lv_icmp_ge hexec hb hdg ht (fun q => kt (xoff_le.mpr q)) (fun q => kf (fun r => q (xoff_le.mp r)))
  | gt => exact lv_icmp_gt hexec hb hdg ht (fun q => kt (xoff_lt.mpr q)) (fun q => kf (fun r => q (xoff_lt.mp r)))
  | le => exact lv_icmp_le hexec hb hdg ht (fun q => kt (xoff_le.mpr q)) (fun q => kf (fun r => q (xoff_le.mp r)))
theorem xifc {o : Jvm.ClassFile.Cond} (hexec : p.tables.exec = Jvm.exec) (hb : c.code = cc) {x : Int32} {off : Int} {tgt : Nat} (hdg : decode cc pc = .ok (.ifCond o off, 3)) (ht : (pc : Int) + off = (tgt : Int))
    (kt : xrel o (xoff x.toInt) (xoff (nI 0).toInt) → W p l e R s m args below meth c H locs cells slots Q (F0 m tgt ls rest)) (kf : ¬ xrel o (xoff x.toInt) (xoff (nI 0).toInt) → W p l e R s m args below meth c H locs cells slots Q (F0 m (pc + 3) ls rest)) : W p l e R s m args below meth c H locs cells slots Q (F0 m pc ls (.int x :: rest)) := by
  rw [nI_0] at kt kf
  cases o with
  | eq => exact lv_if_eq hexec hb hdg ht (fun q => kt (xoff_ii.mpr q)) (fun q => kf (fun r => q (xoff_ii.mp r)))
  | ne => exact lv_if_ne hexec hb hdg ht (fun q => kt (fun r => absurd (xoff_ii.mp r) q)) (fun q => kf (fun r => r (xoff_ii.mpr q)))
  | lt => exact lv_if_lt hexec hb hdg ht (fun q => kt (xoff_lt.mpr q)) (fun q => kf (fun r => q (xoff_lt.mp r)))
  | ge => exact lv_if_ge hexec hb hdg ht (fun q => kt (xoff_le.mpr q)) (fun q => kf (fun r => q (xoff_le.mp r)))
  | gt => exact lv_if_gt hexec hb hdg ht (fun q => kt (xoff_lt.mpr q)) (fun q => kf (fun r => q (xoff_lt.mp r)))
  | le => exact lv_if_le hexec hb hdg ht (fun q => kt (xoff_le.mpr q)) (fun q => kf (fun r => q (xoff_le.mp r)))
theorem xcallW {A : Nat → Prop} {mc ms : Nat} {st0 : List Value} {Qa : State → Outcome → State → Prop} {free : Addr → Prop} (hr : va_Run p l e R s m args below meth c H locs cells slots mc ms (F0 m pc ls st0) rest Qa free) (hL0 : ∀ q ∈ locs, A q.base) (hf : ∀ q, free q → A q)
    (kk : ∀ (v : Option Value) (st₀ t : State) (H1 : Heap) (locs1 : List Loc), st₀.heap = H → t.heap = H1 → s.vm.Alike t.vm → Qa st₀ (.returned v) t → (∀ q ∈ locs1, A q.base) → W p l e R s m args below meth c H1 locs1 (cells + mc) (slots + ms) Q (F0 m (pc + 3) ls (v.toList ++ rest))) : W p l e R s m args below meth c H locs cells slots Q (F0 m pc ls st0) := by
  intro T hT X
  obtain ⟨v, st₀, t, T', L, h0, X', hL, e1, e2, hq, st⟩ := hr T hT X
  obtain ⟨t2, a1, b1⟩ := kk v st₀ t T'.heap (locs ++ L) h0 e1.symm (by rw [← e2]; exact X'.warmed.alike) hq (fun q hq' => (List.mem_append.mp hq').elim (hL0 q) (fun z => hf _ (hL q z))) T' rfl X'
  exact ⟨t2, st t2 a1, b1⟩
end XR
def xtc : FieldType → Nat
  | .int => 0
  | .long => 1
  | .object _ => 2
  | .array _ => 2
  | .boolean => 3
  | _ => 9
theorem nI_bool {n : Nat} (h : n ≤ 1) : nI n = 0 ∨ nI n = 1 := by
  have : n = 0 ∨ n = 1 := by omega
  rcases this with rfl | rfl
  · exact Or.inl rfl
  · exact Or.inr rfl
theorem xfit_ok {sv : Nat → Int32} {ex : Nat → Nat} {as : List Nat} {ty : FieldType} {w : xv} {v : Value} (h : xden sv ex as w v) (hf : xfit (xtc ty) w = true) : narrow ty v = v ∧ fits ty v = true := by
  cases ty with
  | int => obtain ⟨x, rfl⟩ := xden.int sv ex h (xeqb hf); exact ⟨rfl, rfl⟩
  | long => obtain ⟨x, rfl⟩ := xden.long sv ex h (xeqb hf); exact ⟨rfl, rfl⟩
  | object C =>
    rcases xor2 (show (Nat.beq (xkd w.1) 2 || Nat.beq (xkd w.1) 3) = true from hf) with q | q
    · obtain ⟨x, rfl⟩ := xden.ref sv ex h (xeqb q); exact ⟨rfl, rfl⟩
    · rw [xden.nul sv ex h (xeqb q)]; exact ⟨rfl, rfl⟩
  | array C =>
    rcases xor2 (show (Nat.beq (xkd w.1) 2 || Nat.beq (xkd w.1) 3) = true from hf) with q | q
    · obtain ⟨x, rfl⟩ := xden.ref sv ex h (xeqb q); exact ⟨rfl, rfl⟩
    · rw [xden.nul sv ex h (xeqb q)]; exact ⟨rfl, rfl⟩
  | boolean =>
    obtain ⟨q1, q2⟩ := xand (show (Nat.beq w.1 0 && Nat.ble w.2 1) = true from hf)
    obtain ⟨t, n⟩ := w
    have e : t = 0 := xeqb q1
    subst e
    rw [show v = .int (nI n) from h]
    rcases nI_bool (xleb q2) with q | q <;> rw [q] <;> exact ⟨rfl, rfl⟩
  | _ => cases hf
def xdv (ty : FieldType) (w : xv) : Bool :=
  match xtc ty with
  | 0 => Nat.beq w.1 0 && Nat.beq w.2 0
  | 1 => Nat.beq w.1 2 && Nat.beq w.2 0
  | 2 => Nat.beq w.1 5
  | 3 => Nat.beq w.1 0 && Nat.beq w.2 0
  | _ => false
theorem xdv_ok {sv : Nat → Int32} {ex : Nat → Nat} {as : List Nat} {ty : FieldType} {w : xv} (h : xdv ty w = true) : xden sv ex as w (defaultValue ty) := by
  obtain ⟨t, n⟩ := w
  cases ty with
  | int =>
    obtain ⟨q1, q2⟩ := xand (show (Nat.beq t 0 && Nat.beq n 0) = true from h)
    have e1 : t = 0 := xeqb q1
    have e2 : n = 0 := xeqb q2
    subst e1; subst e2; rfl
  | boolean =>
    obtain ⟨q1, q2⟩ := xand (show (Nat.beq t 0 && Nat.beq n 0) = true from h)
    have e1 : t = 0 := xeqb q1
    have e2 : n = 0 := xeqb q2
    subst e1; subst e2; rfl
  | long =>
    obtain ⟨q1, q2⟩ := xand (show (Nat.beq t 2 && Nat.beq n 0) = true from h)
    have e1 : t = 2 := xeqb q1
    have e2 : n = 0 := xeqb q2
    subst e1; subst e2; rfl
  | object C =>
    have e1 : t = 5 := xeqb h
    subst e1; rfl
  | array C =>
    have e1 : t = 5 := xeqb h
    subst e1; rfl
  | _ => cases h
theorem xstR_cons {sv : Nat → Int32} {ex : Nat → Nat} {as : List Nat} {w : xv} {r : List xv} {stv : List Value} (h : xstR sv ex as (w :: r) stv) : ∃ v m, stv = v :: m ∧ xden sv ex as w v ∧ xstR sv ex as r m := by
  match stv, h with
  | [], h => exact h.elim
  | v :: m, h => exact ⟨v, m, rfl, h.1, h.2⟩
theorem xstR_nil {sv : Nat → Int32} {ex : Nat → Nat} {as : List Nat} {stv : List Value} (h : xstR sv ex as [] stv) : stv = [] := by
  match stv, h with
  | [], _ => rfl
  | _ :: _, h => exact h.elim
theorem nI_sub (a b : Nat) : nI ((a + (4294967296 - b % 4294967296)) % 4294967296) = nI a - nI b := by
  rw [x32]
  apply Int32.toBitVec_inj.mp
  show BitVec.ofNat 32 (a + (4294967296 - b % 4294967296)) = BitVec.ofNat 32 a - BitVec.ofNat 32 b
  apply BitVec.eq_of_toNat_eq
  rw [BitVec.toNat_sub, BitVec.toNat_ofNat, BitVec.toNat_ofNat, BitVec.toNat_ofNat]
  simp only [show (2 : Nat) ^ 32 = 4294967296 from rfl]
  omega
theorem nI_c65 (x : Nat) : ((nI x).toUInt32 % 65536).toInt32 = nI (x % 65536) := by
  rw [pk_char]
  show nI ((BitVec.ofNat 32 x).toNat % 65536) = _
  rw [BitVec.toNat_ofNat]
  congr 1
  omega
theorem lN_l2i (n : Nat) : (lN n).toInt32 = nI n := lN_i n
theorem nI_z {n : Nat} (h : n % 4294967296 ≠ 0) : ¬ nI n = 0 := by
  intro q
  have := nI_int n
  rw [q, Int32.toInt_zero] at this
  split at this <;> omega
theorem lN_z {n : Nat} (h : n % 18446744073709551616 ≠ 0) : ¬ lN n = 0 := by
  intro q
  have := lN_int n
  rw [q] at this
  have e0 : (0 : Int64).toInt = 0 := rfl
  rw [e0] at this
  split at this <;> omega
theorem xr1 {n : Nat} (h : n < 65536) : narrow .char (.int (nI n)) = .int (nI n) := (pk_charN h).1
theorem xr2 {n : Nat} (h : n < 128) : narrow .byte (.int (nI n)) = .int (nI n) := by
  show Value.int (nI n).toInt8.toInt32 = _
  have e : (nI n).toInt8.toInt32 = nI n := by
    apply Int32.toInt_inj.mp
    rw [nI_toInt (by omega)]
    show ((nI n).toInt8).toInt32.toInt = _
    rw [Int8.toInt_toInt32, Int32.toInt_toInt8, nI_toInt (by omega)]
    rw [Int.bmod_eq_of_le (by omega) (by omega)]
  rw [e]
end
section
/-! What the tables must say, and what the explorer's end promises -/
section Snd
variable (l : Launch) (D : va_G) (cl : List vw_C) (A : Nat → Prop) (sv : Nat → Int32) (ex : Nat → Nat) (el : Nat → Nat) (eb : Nat → List Nat) (nest : List (String × Nat × MethodName × String)) (txt : Nat → String × Nat × String) (ovr : List String)
variable (cd : xcd) (mi : xmi) (df : xdf) (bys : Nat → ByteArray) (nm : Nat → MethodName) (rtt : Nat → Option FieldType) (gw : List Cond)
noncomputable def xu (y : Nat) : Nat × Nat × Nat × Nat × Nat × Nat := (xg mi y).getD (0, 0, 0, 0, 0, 0)
theorem xu_of {mi : xmi} {y : Nat} {q : Nat × Nat × Nat × Nat × Nat × Nat} (h : xg mi y = some q) : xu mi y = q := by unfold xu; rw [h]; rfl
/-- a method that is called -/
def xMok (z : Nat) : Prop := Cond.code (nm z) (bys z) (xu mi z).2.2.2.2.2 (rtt z) ∈ gw ∧ Cond.initialized (nm z).cls ∈ gw ∧ plainFor (nm z) = true ∧ (nm z).cls ≠ "java/lang/invoke/MethodHandle" ∧ (nm z).cls ≠ "java/lang/invoke/VarHandle" ∧ (parseMethodDescriptor (nm z).desc).map (fun d => d.parameters.length) = some (xu mi z).2.2.1 ∧ (xu mi z).2.2.2.2.2 ≤ 24
def xFok (y i ci k : Nat) : Prop := ∃ (C : String) (T : u_T) (N : Nat), cl[ci]? = some (C, T, N) ∧ k < N ∧ Cond.fieldLink (nm y).cls i (T k).1 (T k).2.1 (T k).2.2.1 ∈ gw ∧ ∀ w ∈ u_ws C T N, w ∈ gw
def xPok (y i ci k tc : Nat) : Prop := ∃ (C : String) (T : u_T) (N : Nat) (ty : Nat → FieldType), cl[ci]? = some (C, T, N) ∧ k < N ∧ Cond.fieldLink (nm y).cls i (T k).1 (T k).2.1 (T k).2.2.1 ∈ gw ∧ (∀ w ∈ u_ws C T N, w ∈ gw) ∧ (∀ j, j < N → parseFieldDescriptor (T j).2.2.1 = some (ty j)) ∧ (∀ a, a < N → ∀ b, b < N → a ≠ b → (T a).2.1 ≠ (T b).2.1) ∧ xtc (ty k) = tc ∧ ((T k).2.2.2 = true → (nm y).name = "<init>" ∧ (T k).1 = (nm y).cls)
def xNok (y i ci : Nat) : Prop := ∃ (C : String) (T : u_T) (N : Nat) (ty : Nat → FieldType) (q : Nat × xct), cl[ci]? = some (C, T, N) ∧ ci < 13 ∧ (∀ w ∈ u_ws C T N, w ∈ gw) ∧ (∀ j, j < N → parseFieldDescriptor (T j).2.2.1 = some (ty j)) ∧ Cond.classLink (nm y).cls i C ∈ gw ∧ Cond.instantiable C N ∈ gw ∧ Cond.initialized C ∈ gw ∧ xg df ci = some q ∧ q.1 = N ∧ ∀ j, j < N → ∃ w : xv, xg q.2 j = some w ∧ xdv (ty j) w = true
/-- what an instruction's row of the tables must say -/
def xI (y pc : Nat) (ins : Instr) (len tg r1 r2 : Nat) : Prop :=
  match ins with
  | .iconst k => len = 1 ∧ Int32.ofInt k = nI r1
  | .bipush k => len = 2 ∧ (Int8.ofInt k).toInt32 = nI r1
  | .sipush k => len = 3 ∧ (Int16.ofInt k).toInt32 = nI r1
  | .lconst k => len = 1 ∧ Int64.ofNat (k : Nat) = lN r1
  | .ldc i => len = 2 ∧ (r2 = 0 → Cond.constant (nm y).cls i (nI r1) ∈ gw) ∧ (r2 = 1 → (nm y).cls = (txt 1).1 ∧ i = (txt 1).2.1) ∧ (r2 = 2 → (nm y).cls = (txt 3).1 ∧ i = (txt 3).2.1)
  | .ldc_w i => len = 3 ∧ Cond.constant (nm y).cls i (nI r1) ∈ gw
  | .ldc2_w i => len = 3 ∧ Cond.constantLong (nm y).cls i (lN r1) ∈ gw
  | .iload i => len = 2 ∧ i = r1
  | .lload i => len = 2 ∧ i = r1
  | .aload i => len = 2 ∧ i = r1
  | .iload_n k => len = 1 ∧ (k : Nat) = r1
  | .lload_n k => len = 1 ∧ (k : Nat) = r1
  | .aload_n k => len = 1 ∧ (k : Nat) = r1
  | .istore i => len = 2 ∧ i = r1 ∧ r1 < (xu mi y).2.2.2.2.2
  | .astore i => len = 2 ∧ i = r1 ∧ r1 < (xu mi y).2.2.2.2.2
  | .lstore i => len = 2 ∧ i = r1 ∧ r1 + 1 < (xu mi y).2.2.2.2.2
  | .istore_n k => len = 1 ∧ (k : Nat) = r1 ∧ r1 < (xu mi y).2.2.2.2.2
  | .astore_n k => len = 1 ∧ (k : Nat) = r1 ∧ r1 < (xu mi y).2.2.2.2.2
  | .lstore_n k => len = 1 ∧ (k : Nat) = r1 ∧ r1 + 1 < (xu mi y).2.2.2.2.2
  | .iinc i k => len = 3 ∧ i = r1 ∧ r1 < (xu mi y).2.2.2.2.2 ∧ Int32.ofInt k = nI r2
  | .goto off => len = 3 ∧ (pc : Int) + off = (tg : Int)
  | .if_icmp _ off => len = 3 ∧ (pc : Int) + off = (tg : Int)
  | .ifCond _ off => len = 3 ∧ (pc : Int) + off = (tg : Int)
  | .ifnull off => len = 3 ∧ (pc : Int) + off = (tg : Int)
  | .ifnonnull off => len = 3 ∧ (pc : Int) + off = (tg : Int)
  | .tableswitch _ lo hi _ => -2147483648 ≤ lo ∧ hi < 2147483648 ∧ lo ≤ hi
  | .lookupswitch _ ps => (ps.toList.zip (ps.toList.drop 1)).all (fun (a, next) => a.1 < next.1) = true
  | .getfield i => len = 3 ∧ (r1 < 13 → xFok cl nm gw y i r1 r2) ∧ (r1 = 98 → (r2 = 0 → Cond.fieldLink (nm y).cls i "java/lang/String" "value" "[B" ∈ gw) ∧ (r2 ≠ 0 → Cond.fieldLink (nm y).cls i "java/lang/String" "coder" "B" ∈ gw))
  | .putfield i => len = 3 ∧ r1 < 13 ∧ xPok cl nm gw y i r1 r2 tg
  | .getstatic i => len = 3 ∧ (r1 = 0 → Cond.fieldLink (nm y).cls i "java/lang/String" "COMPACT_STRINGS" "Z" ∈ gw) ∧ (r1 ≠ 0 → Cond.fieldLink (nm y).cls i "jdk/internal/util/Preconditions" "SIOOBE_FORMATTER" "Ljava/util/function/BiFunction;" ∈ gw)
  | .new i => len = 3 ∧ xNok cl df nm gw y i r1
  | .newarray ty => len = 2 ∧ Cond.arrayClass (newarray.typeOf ty) ∈ gw ∧ ((ty = .int ∧ r1 = 13 ∧ r2 = 0) ∨ (ty = .long ∧ r1 = 14 ∧ r2 = 1) ∨ (ty = .byte ∧ r1 = 15 ∧ r2 = 0))
  | .anewarray i => len = 3 ∧ 20 ≤ r1 ∧ ∃ r : vw_C, cl[r1 - 20]? = some r ∧ Cond.classLink (nm y).cls i r.1 ∈ gw ∧ r.1 ∈ ovr
  | .invokevirtual i => len = 3 ∧ xMok mi bys nm rtt gw r1 ∧ Cond.methodLink (nm y).cls i (nm r1) ∈ gw ∧ Cond.instanceMethod (nm r1) ∈ gw ∧ Cond.selects (nm r1).cls (nm r1) (nm r1) ∈ gw ∧ ((xu mi r1).2.2.2.1 < 13 → ∃ r : vw_C, cl[(xu mi r1).2.2.2.1]? = some r ∧ r.1 = (nm r1).cls) ∧ ((xu mi r1).2.2.2.1 = 98 → (nm r1).cls = "java/lang/String")
  | .invokespecial i => len = 3 ∧ (r2 = 6 → Cond.methodLink (nm y).cls i objectInit ∈ gw ∧ Cond.instanceMethod objectInit ∈ gw ∧ Cond.code objectInit ⟨#[0xb1]⟩ 1 none ∈ gw) ∧
      (r2 ≠ 6 → xMok mi bys nm rtt gw r1 ∧ rtt r1 = none ∧ (nm r1).name = "<init>" ∧ Cond.instanceMethod (nm r1) ∈ gw ∧ (r2 ≠ 5 → Cond.methodLink (nm y).cls i (nm r1) ∈ gw) ∧ (r2 = 5 → ∃ host : String, ((nm y).cls, i, nm r1, host) ∈ nest))
  | .invokestatic i => len = 3 ∧ (r2 = 8 → Cond.methodLink (nm y).cls i arraycopyName ∈ gw ∧ Cond.native arraycopyName ∈ gw ∧ Cond.static arraycopyName ∈ gw ∧ Cond.initialized "java/lang/System" ∈ gw) ∧
      (r2 ≠ 8 → xMok mi bys nm rtt gw r1 ∧ Cond.methodLink (nm y).cls i (nm r1) ∈ gw ∧ Cond.static (nm r1) ∈ gw)
  | .return_ => len = 1 ∧ ((xu mi y).2.2.2.2.1 = 0 → rtt y = none)
  | .ireturn => len = 1 ∧ ((xu mi y).2.2.2.2.1 = 1 → rtt y = some .int) ∧ ((xu mi y).2.2.2.2.1 = 3 → rtt y = some .boolean) ∧ ((xu mi y).2.2.2.2.1 = 4 → rtt y = some .char) ∧ ((xu mi y).2.2.2.2.1 = 5 → rtt y = some .byte)
  | .lreturn => len = 1 ∧ ((xu mi y).2.2.2.2.1 = 2 → rtt y = some .long)
  | _ => len = 1
def xOK : Prop := ∀ (y : Nat) (t : Lean.RArray (Nat × xins)) (pc : Nat) (e : xins), xg cd y = some t → xg t pc = some e → ∃ len, e.2.1 = pc + len ∧ decode (bys y) pc = .ok (e.1, len) ∧ xI cl nest txt ovr mi df bys nm rtt gw y pc e.1 len e.2.2.1 e.2.2.2.1 e.2.2.2.2
def xCtx (y d : Nat) (p : Program) (R : Room) (s : State) (m : MethodId) (args : Array Value) (meth : Method) (c : Code) : Prop :=
  p.tables.exec = Jvm.exec ∧ c.code = bys y ∧ c.maxLocals = (xu mi y).2.2.2.2.2 ∧ s.vm.findClass (nm y).cls = some m.cls ∧ (∀ w ∈ gw, w.before args s = true) ∧ va_K D cl [] s ∧ xEX A sv ex el eb nest txt ovr s ∧ (∀ q, s.heap.size ≤ q → A q) ∧ meth.name = (nm y).name ∧ d ≤ R.frames ∧ 43 * d ≤ R.locals ∧ (xu mi y).1 ≤ R.cells ∧ (xu mi y).2.1 ≤ R.slots
/-- an answer, at an instruction that gives it -/
def xrt (y pc : Nat) (as : List Nat) (lr : Option xv) (rv : Option Value) : Prop :=
  (rtt y = none ∧ lr = none ∧ rv = none ∧ decode (bys y) pc = .ok (.return_, 1)) ∨
  (∃ (w : xv) (x : Int32) (ty : FieldType), rtt y = some ty ∧ lr = some w ∧ rv = some (.int x) ∧ xden sv ex as w (.int x) ∧ narrow ty (.int x) = .int x ∧ decode (bys y) pc = .ok (.ireturn, 1)) ∨
  (∃ (w : xv) (x : Int64), rtt y = some .long ∧ lr = some w ∧ rv = some (.long x) ∧ xden sv ex as w (.long x) ∧ decode (bys y) pc = .ok (.lreturn, 1))
def xRet (y : Nat) (L : List xleaf) (p : Program) (e : Env) (R : Room) (s : State) (m : MethodId) (args : Array Value) (below : List Frame) (meth : Method) (c : Code) (Q : State → Prop) (as : List Nat) : Prop :=
  ∀ q ∈ L, ∀ (as' : List Nat) (ws : va_W) (H : Heap) (locs : List Loc) (cn sn pc : Nat) (la : Array Slot) (rv : Option Value), xle as as' → xWorld D cl A sv ex s as' q.1 q.2.1 q.2.2.1 ws H locs → cn ≤ (xu mi y).1 → sn ≤ (xu mi y).2.1 → xrt sv ex bys rtt y pc as' q.2.2.2 rv →
    W p l e R s m args below meth c H locs cn sn Q (F0 m pc la rv.toList)
def xGo (y d pc : Nat) (ls : List (Nat × xv)) (st : List xv) (bx : xbox) (h : xheap) (n cn sn : Nat) (L : List xleaf) : Prop :=
  ∀ (p : Program) (e : Env) (R : Room) (s : State) (m : MethodId) (args : Array Value) (below : List Frame) (meth : Method) (c : Code) (Q : State → Prop) (as : List Nat) (ws : va_W) (H : Heap) (locs : List Loc) (la : Array Slot) (stv : List Value),
    xCtx D cl A sv ex el eb nest txt ovr mi bys nm gw y d p R s m args meth c → cn ≤ (xu mi y).1 → sn ≤ (xu mi y).2.1 → xWorld D cl A sv ex s as bx h n ws H locs → xFrm sv ex as (xu mi y).2.2.2.2.2 ls st la stv →
    xRet l D cl A sv ex mi bys rtt y L p e R s m args below meth c Q as → W p l e R s m args below meth c H locs cn sn Q (F0 m pc la stv)
def xSnd (rec : xF) : Prop := ∀ (y d pc : Nat) (ls : List (Nat × xv)) (st : List xv) (bx : xbox) (h : xheap) (n cn sn : Nat) (L : List xleaf), rec y d pc ls st bx h n cn sn = some L → xGo l D cl A sv ex el eb nest txt ovr mi bys nm rtt gw y d pc ls st bx h n cn sn L
/-- a called method's start and end -/
def xPc (as : List Nat) (h : xheap) (n : Nat) (av : List Value) : Array Value → State → Prop := fun v U => v = av.toArray ∧ (∃ ws : va_W, xhR cl sv ex U as h n ws ∧ va_P D cl ws U.heap ∧ va_D A ws) ∧ va_K D cl [] U ∧ xEX A sv ex el eb nest txt ovr U ∧ ∀ q, U.heap.size ≤ q → A q
def xQc (as : List Nat) (L : List xleaf) : Array Value → State → Outcome → State → Prop := fun _ st oc t =>
  (∃ q ∈ L, ∃ (as' : List Nat) (ws : va_W) (rv : Option Value), xle as as' ∧ xbxo sv q.1 ∧ xhR cl sv ex t as' q.2.1 q.2.2.1 ws ∧ va_P D cl ws t.heap ∧ va_D A ws ∧ oc = .returned rv ∧ (match q.2.2.2 with
    | none => rv = none
    | some w => ∃ v, rv = some v ∧ xden sv ex as' w v)) ∧ va_F A st t
theorem xmet {rec : xF} (hrec : xSnd l D cl A sv ex el eb nest txt ovr mi bys nm rtt gw rec) {z d n : Nat} {bx : xbox} {h : xheap} {ar : List xv} {L : List xleaf} (hr : rec z d 0 (xarg 0 ar) [] bx h n 0 0 = some L) (mok : xMok mi bys nm rtt gw z) {as : List Nat} {av : List Value} (hav : xstR sv ex as ar av) (hwd : xwds ar ≤ (xu mi z).2.2.2.2.2) (hbx : xbxo sv bx) :
    Met l (nm z) (Cond.code (nm z) (bys z) (xu mi z).2.2.2.2.2 (rtt z) :: gw) ({ frames := d, cells := (xu mi z).1, slots := (xu mi z).2.1, locals := 43 * d }) (xPc D cl A sv ex el eb nest txt ovr as h n av) (xQc D cl A sv ex as L) (xu mi z).1 (xu mi z).2.1 A := by
  refine va_MetF (cc := bys z) (maxL := (xu mi z).2.2.2.2.2) (ret := rtt z) mok.2.2.1 rfl ?_
  intro p e s m args below meth c s₁ B hml hv
  obtain ⟨rfl, ⟨ws, hh, hP, hD⟩, hK, hEX, hA⟩ := hv
  have hts := atoms_spec (ws := Cond.code (nm z) (bys z) (xu mi z).2.2.2.2.2 (rtt z) :: gw) B.pre
  have hown : s.vm.findClass (nm z).cls = some m.cls := findClass_of_methodNamed B.named
  have hlocks := B.notSynchronized
  have hex := B.exec
  have hb := B.bytes
  have hret := B.returns
  have hl := lv_entry av (n := (xu mi z).2.2.2.2.2) (by rw [xsl_len sv ex hav]; exact hwd)
  rw [lg_entry_eq]
  refine hrec z d 0 (xarg 0 ar) [] bx h n 0 0 L hr p e _ s m _ below meth c _ as ws s.heap [] _ [] ⟨B.exec, B.bytes, hml, hown, fun w hw => hts w (List.mem_cons_of_mem _ hw), hK, hEX, hA, (name_of_methodNamed B.named B.method).1, Nat.le_refl _, Nat.le_refl _, Nat.le_refl _, Nat.le_refl _⟩ (Nat.zero_le _) (Nat.zero_le _) ⟨hbx, hh, hP, hD, va_S.rf⟩ ⟨⟨_, hl, xarg_ok sv ex 0 hav⟩, trivial⟩ ?_
  intro q hq as' ws' H locs cn sn pc la rv hle hw hc hs hrt
  obtain ⟨w1, w2, w3, w4, w5⟩ := hw
  refine W.widen hc hs ?_
  rcases hrt with ⟨r1, r2, r3, r4⟩ | ⟨w, x, ty, r1, r2, r3, r4, r5, r6⟩ | ⟨w, x, r1, r2, r3, r4, r5⟩
  · subst r3
    refine W.vret hex hb (hret.trans r1) (fun t ht hW => ?_) w5.2.2 r4 hlocks
    exact ⟨⟨q, hq, as', ws', none, hle, w1, xhR.moved cl sv ex hW.alike w2, by rw [ht]; exact w3, w4, rfl, by rw [r2]⟩, w5.F ht⟩
  · subst r3
    refine W.zret hex hb (hret.trans r1) r5 (fun t ht hW => ?_) w5.2.2 r6 hlocks
    exact ⟨⟨q, hq, as', ws', some (.int x), hle, w1, xhR.moved cl sv ex hW.alike w2, by rw [ht]; exact w3, w4, rfl, by rw [r2]; exact ⟨_, rfl, r4⟩⟩, w5.F ht⟩
  · subst r3
    refine W.lret hex hb (hret.trans r1) (fun t ht hW => ?_) w5.2.2 r5 hlocks
    exact ⟨⟨q, hq, as', ws', some (.long x), hle, w1, xhR.moved cl sv ex hW.alike w2, by rw [ht]; exact w3, w4, rfl, by rw [r2]; exact ⟨_, rfl, r4⟩⟩, w5.F ht⟩
end Snd
end
section
/-! The step keeps its promise: frames, arithmetic -/
section Go
variable {l : Launch} {D : va_G} {cl : List vw_C} {A : Nat → Prop} {sv : Nat → Int32} {ex : Nat → Nat} {el : Nat → Nat} {eb : Nat → List Nat} {nest : List (String × Nat × MethodName × String)} {txt : Nat → String × Nat × String} {ovr : List String}
variable {mi : xmi} {df : xdf} {bys : Nat → ByteArray} {nm : Nat → MethodName} {rtt : Nat → Option FieldType} {gw : List Cond}
variable {rec : xF} {y d pc : Nat} {ls : List (Nat × xv)} {st : List xv} {bx : xbox} {h : xheap} {n cn sn : Nat} {L : List xleaf}
variable {p : Program} {e : Env} {R : Room} {s : State} {m : MethodId} {args : Array Value} {below : List Frame} {meth : Method} {c : Code} {Q : State → Prop} {as : List Nat} {ws : va_W} {H : Heap} {locs : List Loc} {la : Array Slot} {stv : List Value}
def xStp (l : Launch) (D : va_G) (cl : List vw_C) (A : Nat → Prop) (sv : Nat → Int32) (ex : Nat → Nat) (el : Nat → Nat) (eb : Nat → List Nat) (nest : List (String × Nat × MethodName × String)) (txt : Nat → String × Nat × String) (ovr : List String) (mi : xmi) (bys : Nat → ByteArray) (nm : Nat → MethodName) (rtt : Nat → Option FieldType) (gw : List Cond) (rec : xF) (y d : Nat) (ls : List (Nat × xv)) (st : List xv) (bx : xbox) (h : xheap) (n cn sn : Nat) (L : List xleaf)
    (p : Program) (e : Env) (R : Room) (s : State) (m : MethodId) (args : Array Value) (below : List Frame) (meth : Method) (c : Code) (Q : State → Prop) (as : List Nat) (ws : va_W) (H : Heap) (locs : List Loc) (la : Array Slot) (stv : List Value) : Prop :=
  xSnd l D cl A sv ex el eb nest txt ovr mi bys nm rtt gw rec ∧ xCtx D cl A sv ex el eb nest txt ovr mi bys nm gw y d p R s m args meth c ∧ cn ≤ (xu mi y).1 ∧ sn ≤ (xu mi y).2.1 ∧ xWorld D cl A sv ex s as bx h n ws H locs ∧ xFrm sv ex as (xu mi y).2.2.2.2.2 ls st la stv ∧ xRet l D cl A sv ex mi bys rtt y L p e R s m args below meth c Q as
theorem xkk (E : xStp l D cl A sv ex el eb nest txt ovr mi bys nm rtt gw rec y d ls st bx h n cn sn L p e R s m args below meth c Q as ws H locs la stv) {pc' : Nat} {ls' : List (Nat × xv)} {st' : List xv} {bx' : xbox} {h' : xheap} {n' cn' sn' : Nat} {L' : List xleaf} (hr : rec y d pc' ls' st' bx' h' n' cn' sn' = some L') (hL : ∀ q ∈ L', q ∈ L) {as' : List Nat} {ws' : va_W} {H' : Heap} {locs' : List Loc} {la' : Array Slot} {stv' : List Value}
    (hle : xle as as') (hc : cn' ≤ (xu mi y).1) (hs : sn' ≤ (xu mi y).2.1) (hw : xWorld D cl A sv ex s as' bx' h' n' ws' H' locs') (hf : xFrm sv ex as' (xu mi y).2.2.2.2.2 ls' st' la' stv') : W p l e R s m args below meth c H' locs' cn' sn' Q (F0 m pc' la' stv') :=
  E.1 y d pc' ls' st' bx' h' n' cn' sn' L' hr p e R s m args below meth c Q as' ws' H' locs' la' stv' E.2.1 hc hs hw hf (fun q hq as2 ws2 H2 locs2 cn2 sn2 pc2 la2 rv2 hle2 => E.2.2.2.2.2.2 q (hL q hq) as2 ws2 H2 locs2 cn2 sn2 pc2 la2 rv2 (hle.tr hle2))
theorem xk0 (E : xStp l D cl A sv ex el eb nest txt ovr mi bys nm rtt gw rec y d ls st bx h n cn sn L p e R s m args below meth c Q as ws H locs la stv) {pc' : Nat} {ls' : List (Nat × xv)} {st' : List xv} (hr : rec y d pc' ls' st' bx h n cn sn = some L) {la' : Array Slot} {stv' : List Value}
    (hf : xFrm sv ex as (xu mi y).2.2.2.2.2 ls' st' la' stv') : W p l e R s m args below meth c H locs cn sn Q (F0 m pc' la' stv') :=
  xkk E hr (fun _ q => q) (xle.rf _) E.2.2.1 E.2.2.2.1 E.2.2.2.2.1 hf
theorem xksp (E : xStp l D cl A sv ex el eb nest txt ovr mi bys nm rtt gw rec y d ls st bx h n cn sn L p e R s m args below meth c Q as ws H locs la stv) {i q : Nat} (hx : xspl (fun bx' => rec y d pc ls st bx' h n cn sn) bx i q = some L) : W p l e R s m args below meth c H locs cn sn Q (F0 m pc la stv) := by
  obtain ⟨hbx, hh, hP, hD, hS⟩ := E.2.2.2.2.1
  obtain ⟨bx', L', g1, g2, g3⟩ := xspl_ok hbx hx
  exact xkk E g2 g3 (xle.rf _) E.2.2.1 E.2.2.2.1 ⟨g1, hh, hP, hD, hS⟩ E.2.2.2.2.2.1
/-- an int operation of two -/
theorem xbi_go (E : xStp l D cl A sv ex el eb nest txt ovr mi bys nm rtt gw rec y d ls st bx h n cn sn L p e R s m args below meth c Q as ws H locs la stv) {nx : Nat} {f : Nat → Nat → Nat} {F : Int32 → Int32 → Int32} (hx : x_bi rec nx y d ls st bx h n cn sn f = some L) (hF : ∀ a b, nI (f a b) = F (nI a) (nI b))
    (row : ∀ (x z : Int32) (rest : List Value), W p l e R s m args below meth c H locs cn sn Q (F0 m nx la (.int (F x z) :: rest)) → W p l e R s m args below meth c H locs cn sn Q (F0 m pc la (.int z :: .int x :: rest))) : W p l e R s m args below meth c H locs cn sn Q (F0 m pc la stv) := by
  obtain ⟨b, a, r, rfl, k1, k2, g⟩ := x_bi_ok hx
  have hbx := E.2.2.2.2.1.1
  obtain ⟨hl, hst⟩ := E.2.2.2.2.2.1
  obtain ⟨vb, m1, rfl, hvb, hst⟩ := xstR_cons hst
  obtain ⟨va, m2, rfl, hva, hr⟩ := xstR_cons hst
  obtain ⟨z, rfl⟩ := xden.int sv ex hvb k1
  obtain ⟨x, rfl⟩ := xden.int sv ex hva k2
  refine row x z m2 ?_
  rcases g with ⟨x', z', q1, q2, q3⟩ | g
  · have e1 : x = nI x' := Value.int.inj (xci_ok sv ex hbx hva q1)
    have e2 : z = nI z' := Value.int.inj (xci_ok sv ex hbx hvb q2)
    subst e1; subst e2
    exact xk0 E q3 ⟨hl, by show Value.int _ = Value.int _; rw [hF], hr⟩
  · exact xk0 E g ⟨hl, ⟨_, rfl⟩, hr⟩
theorem xdv_go (E : xStp l D cl A sv ex el eb nest txt ovr mi bys nm rtt gw rec y d ls st bx h n cn sn L p e R s m args below meth c Q as ws H locs la stv) {nx : Nat} {f : Nat → Nat → Nat} {F : Int32 → Int32 → Int32} (hx : x_dv rec nx y d ls st bx h n cn sn f = some L) (hF : ∀ a b, nI (f a b) = F (nI a) (nI b))
    (row : ∀ (x z : Int32) (rest : List Value), ¬ z = 0 → W p l e R s m args below meth c H locs cn sn Q (F0 m nx la (.int (F x z) :: rest)) → W p l e R s m args below meth c H locs cn sn Q (F0 m pc la (.int z :: .int x :: rest))) : W p l e R s m args below meth c H locs cn sn Q (F0 m pc la stv) := by
  obtain ⟨b, a, r, x, z, rfl, q1, q2, hz, g⟩ := x_dv_ok hx
  have hbx := E.2.2.2.2.1.1
  obtain ⟨hl, hst⟩ := E.2.2.2.2.2.1
  obtain ⟨vb, m1, rfl, hvb, hst⟩ := xstR_cons hst
  obtain ⟨va, m2, rfl, hva, hr⟩ := xstR_cons hst
  have e1 := xci_ok sv ex hbx hva q1
  have e2 := xci_ok sv ex hbx hvb q2
  subst e1; subst e2
  refine row _ _ m2 (nI_z hz) ?_
  exact xk0 E g ⟨hl, by show Value.int _ = Value.int _; rw [hF], hr⟩
theorem xbl_go (E : xStp l D cl A sv ex el eb nest txt ovr mi bys nm rtt gw rec y d ls st bx h n cn sn L p e R s m args below meth c Q as ws H locs la stv) {nx : Nat} {f : Nat → Nat → Nat} {F : Int64 → Int64 → Int64} (hx : x_bl rec nx y d ls st bx h n cn sn f = some L) (hF : ∀ a b, lN (f a b) = F (lN a) (lN b))
    (row : ∀ (x z : Int64) (rest : List Value), W p l e R s m args below meth c H locs cn sn Q (F0 m nx la (.long (F x z) :: rest)) → W p l e R s m args below meth c H locs cn sn Q (F0 m pc la (.long z :: .long x :: rest))) : W p l e R s m args below meth c H locs cn sn Q (F0 m pc la stv) := by
  obtain ⟨b, a, r, rfl, k1, k2, g⟩ := x_bl_ok hx
  have hbx := E.2.2.2.2.1.1
  obtain ⟨hl, hst⟩ := E.2.2.2.2.2.1
  obtain ⟨vb, m1, rfl, hvb, hst⟩ := xstR_cons hst
  obtain ⟨va, m2, rfl, hva, hr⟩ := xstR_cons hst
  obtain ⟨z, rfl⟩ := xden.long sv ex hvb k1
  obtain ⟨x, rfl⟩ := xden.long sv ex hva k2
  refine row x z m2 ?_
  rcases g with ⟨x', z', q1, q2, q3⟩ | g
  · have e1 : x = lN x' := Value.long.inj (xcl_ok sv ex hbx hva q1)
    have e2 : z = lN z' := Value.long.inj (xcl_ok sv ex hbx hvb q2)
    subst e1; subst e2
    exact xk0 E q3 ⟨hl, by show Value.long _ = Value.long _; rw [hF], hr⟩
  · exact xk0 E g ⟨hl, ⟨_, rfl⟩, hr⟩
theorem xdl_go (E : xStp l D cl A sv ex el eb nest txt ovr mi bys nm rtt gw rec y d ls st bx h n cn sn L p e R s m args below meth c Q as ws H locs la stv) {nx : Nat} {f : Nat → Nat → Nat} {F : Int64 → Int64 → Int64} (hx : x_dl rec nx y d ls st bx h n cn sn f = some L) (hF : ∀ a b, lN (f a b) = F (lN a) (lN b))
    (row : ∀ (x z : Int64) (rest : List Value), ¬ z = 0 → W p l e R s m args below meth c H locs cn sn Q (F0 m nx la (.long (F x z) :: rest)) → W p l e R s m args below meth c H locs cn sn Q (F0 m pc la (.long z :: .long x :: rest))) : W p l e R s m args below meth c H locs cn sn Q (F0 m pc la stv) := by
  obtain ⟨b, a, r, x, z, rfl, q1, q2, hz, g⟩ := x_dl_ok hx
  have hbx := E.2.2.2.2.1.1
  obtain ⟨hl, hst⟩ := E.2.2.2.2.2.1
  obtain ⟨vb, m1, rfl, hvb, hst⟩ := xstR_cons hst
  obtain ⟨va, m2, rfl, hva, hr⟩ := xstR_cons hst
  have e1 := xcl_ok sv ex hbx hva q1
  have e2 := xcl_ok sv ex hbx hvb q2
  subst e1; subst e2
  refine row _ _ m2 (lN_z hz) ?_
  exact xk0 E g ⟨hl, by show Value.long _ = Value.long _; rw [hF], hr⟩
theorem xsl_go (E : xStp l D cl A sv ex el eb nest txt ovr mi bys nm rtt gw rec y d ls st bx h n cn sn L p e R s m args below meth c Q as ws H locs la stv) {nx : Nat} {f : Nat → Nat → Nat} {F : Int64 → Int32 → Int64} (hx : x_sl rec nx y d ls st bx h n cn sn f = some L) (hF : ∀ a b, lN (f a b) = F (lN a) (nI b))
    (row : ∀ (x : Int64) (z : Int32) (rest : List Value), W p l e R s m args below meth c H locs cn sn Q (F0 m nx la (.long (F x z) :: rest)) → W p l e R s m args below meth c H locs cn sn Q (F0 m pc la (.int z :: .long x :: rest))) : W p l e R s m args below meth c H locs cn sn Q (F0 m pc la stv) := by
  obtain ⟨b, a, r, rfl, k1, k2, g⟩ := x_sl_ok hx
  have hbx := E.2.2.2.2.1.1
  obtain ⟨hl, hst⟩ := E.2.2.2.2.2.1
  obtain ⟨vb, m1, rfl, hvb, hst⟩ := xstR_cons hst
  obtain ⟨va, m2, rfl, hva, hr⟩ := xstR_cons hst
  obtain ⟨z, rfl⟩ := xden.int sv ex hvb k1
  obtain ⟨x, rfl⟩ := xden.long sv ex hva k2
  refine row x z m2 ?_
  rcases g with ⟨x', z', q1, q2, q3⟩ | g
  · have e1 : x = lN x' := Value.long.inj (xcl_ok sv ex hbx hva q1)
    have e2 : z = nI z' := Value.int.inj (xci_ok sv ex hbx hvb q2)
    subst e1; subst e2
    exact xk0 E q3 ⟨hl, by show Value.long _ = Value.long _; rw [hF], hr⟩
  · exact xk0 E g ⟨hl, ⟨_, rfl⟩, hr⟩
theorem xui_go (E : xStp l D cl A sv ex el eb nest txt ovr mi bys nm rtt gw rec y d ls st bx h n cn sn L p e R s m args below meth c Q as ws H locs la stv) {nx : Nat} {f : Nat → Nat} {F : Int32 → Int32} (hx : x_ui rec nx y d ls st bx h n cn sn f = some L) (hF : ∀ a, nI (f a) = F (nI a))
    (row : ∀ (x : Int32) (rest : List Value), W p l e R s m args below meth c H locs cn sn Q (F0 m nx la (.int (F x) :: rest)) → W p l e R s m args below meth c H locs cn sn Q (F0 m pc la (.int x :: rest))) : W p l e R s m args below meth c H locs cn sn Q (F0 m pc la stv) := by
  obtain ⟨a, r, rfl, k2, g⟩ := x_ui_ok hx
  have hbx := E.2.2.2.2.1.1
  obtain ⟨hl, hst⟩ := E.2.2.2.2.2.1
  obtain ⟨va, m2, rfl, hva, hr⟩ := xstR_cons hst
  obtain ⟨x, rfl⟩ := xden.int sv ex hva k2
  refine row x m2 ?_
  rcases g with ⟨x', q1, q3⟩ | g
  · have e1 : x = nI x' := Value.int.inj (xci_ok sv ex hbx hva q1)
    subst e1
    exact xk0 E q3 ⟨hl, by show Value.int _ = Value.int _; rw [hF], hr⟩
  · exact xk0 E g ⟨hl, ⟨_, rfl⟩, hr⟩
theorem xl2i_go (E : xStp l D cl A sv ex el eb nest txt ovr mi bys nm rtt gw rec y d ls st bx h n cn sn L p e R s m args below meth c Q as ws H locs la stv) {nx : Nat} (hx : x_l2i rec nx y d ls st bx h n cn sn = some L)
    (row : ∀ (x : Int64) (rest : List Value), W p l e R s m args below meth c H locs cn sn Q (F0 m nx la (.int x.toInt32 :: rest)) → W p l e R s m args below meth c H locs cn sn Q (F0 m pc la (.long x :: rest))) : W p l e R s m args below meth c H locs cn sn Q (F0 m pc la stv) := by
  obtain ⟨a, r, rfl, k2, g⟩ := x_l2i_ok hx
  have hbx := E.2.2.2.2.1.1
  obtain ⟨hl, hst⟩ := E.2.2.2.2.2.1
  obtain ⟨va, m2, rfl, hva, hr⟩ := xstR_cons hst
  obtain ⟨x, rfl⟩ := xden.long sv ex hva k2
  refine row x m2 ?_
  rcases g with ⟨x', q1, q3⟩ | g
  · have e1 : x = lN x' := Value.long.inj (xcl_ok sv ex hbx hva q1)
    subst e1
    exact xk0 E q3 ⟨hl, by show Value.int _ = Value.int _; rw [lN_l2i, x32], hr⟩
  · exact xk0 E g ⟨hl, ⟨_, rfl⟩, hr⟩
theorem xi2l_go (E : xStp l D cl A sv ex el eb nest txt ovr mi bys nm rtt gw rec y d ls st bx h n cn sn L p e R s m args below meth c Q as ws H locs la stv) {nx : Nat} (hx : x_i2l rec nx y d ls st bx h n cn sn = some L)
    (row : ∀ (x : Int32) (rest : List Value), W p l e R s m args below meth c H locs cn sn Q (F0 m nx la (.long x.toInt64 :: rest)) → W p l e R s m args below meth c H locs cn sn Q (F0 m pc la (.int x :: rest))) : W p l e R s m args below meth c H locs cn sn Q (F0 m pc la stv) := by
  obtain ⟨a, r, w, rfl, g, hw⟩ := x_i2l_ok (sv := sv) (ex := ex) hx
  obtain ⟨hl, hst⟩ := E.2.2.2.2.2.1
  obtain ⟨va, m2, rfl, hva, hr⟩ := xstR_cons hst
  obtain ⟨x, rfl, hx2⟩ := hw as va hva
  exact row x m2 (xk0 E g ⟨hl, hx2, hr⟩)
/-- loads -/
theorem xld_go (E : xStp l D cl A sv ex el eb nest txt ovr mi bys nm rtt gw rec y d ls st bx h n cn sn L p e R s m args below meth c Q as ws H locs la stv) {nx r1 k1 k2 : Nat} (hx : x_ld rec nx r1 y d ls st bx h n cn sn k1 k2 = some L)
    (row : ∀ (w : xv) (v : Value), la[r1]? = some (.val v) → xden sv ex as w v → (xkd w.1 = k1 ∨ xkd w.1 = k2) → W p l e R s m args below meth c H locs cn sn Q (F0 m nx la (v :: stv)) → W p l e R s m args below meth c H locs cn sn Q (F0 m pc la stv)) : W p l e R s m args below meth c H locs cn sn Q (F0 m pc la stv) := by
  obtain ⟨w, g1, g2, g3⟩ := x_ld_ok hx
  obtain ⟨⟨lv, hl, hls⟩, hst⟩ := E.2.2.2.2.2.1
  obtain ⟨k, v, g4, g5⟩ := xlk_ok sv ex hls g1
  exact row w v (lv_at hl k g4) g5 g2 (xk0 E g3 ⟨⟨lv, hl, hls⟩, g5, hst⟩)
end Go
end
section
/-! The step keeps its promise: constants, locals, stack, arithmetic; branches -/
section Inv2
variable {rec : xF} {nx y d pc : Nat} {ls : List (Nat × xv)} {st : List xv} {bx : xbox} {h : xheap} {n c s : Nat} {L : List xleaf}
theorem x_lcmp_ok (hx : x_lcmp rec nx y d pc ls st bx h n c s = some L) : ∃ b a r, st = b :: a :: r ∧ xkd b.1 = 1 ∧ xkd a.1 = 1 ∧
    ((xdec .lt (xrg bx a) (xrg bx b) = some true ∧ rec y d nx ls ((0, 4294967295) :: r) bx h n c s = some L) ∨
     (xdec .lt (xrg bx a) (xrg bx b) = some false ∧ xdec .gt (xrg bx a) (xrg bx b) = some true ∧ rec y d nx ls ((0, 1) :: r) bx h n c s = some L) ∨
     (xdec .lt (xrg bx a) (xrg bx b) = some false ∧ xdec .gt (xrg bx a) (xrg bx b) = some false ∧ rec y d nx ls ((0, 0) :: r) bx h n c s = some L) ∨
     (∃ i q, xspl (fun bx' => rec y d pc ls st bx' h n c s) bx i q = some L) ∨ rec y d nx ls ((7, 0) :: r) bx h n c s = some L) := by
  unfold x_lcmp at hx
  match st, hx with
  | [], hx => cases hx
  | [_], hx => cases hx
  | b :: a :: r, hx =>
    obtain ⟨h1, h2⟩ := xcnd hx
    obtain ⟨g1, g2⟩ := xand h1
    refine ⟨b, a, r, rfl, xeqb g1, xeqb g2, ?_⟩
    cases ha : xdec .lt (xrg bx a) (xrg bx b) with
    | none =>
      rw [ha] at h2
      dsimp only at h2
      cases hp : xpt bx a b with
      | some q => rw [hp] at h2; exact Or.inr (Or.inr (Or.inr (Or.inl ⟨_, _, h2⟩)))
      | none => rw [hp] at h2; exact Or.inr (Or.inr (Or.inr (Or.inr h2)))
    | some t =>
      rw [ha] at h2
      cases t with
      | true => exact Or.inl ⟨rfl, h2⟩
      | false =>
        dsimp only at h2
        cases hb : xdec .gt (xrg bx a) (xrg bx b) with
        | none =>
          rw [hb] at h2
          dsimp only at h2
          cases hp : xpt bx a b with
          | some q => rw [hp] at h2; exact Or.inr (Or.inr (Or.inr (Or.inl ⟨_, _, h2⟩)))
          | none => rw [hp] at h2; exact Or.inr (Or.inr (Or.inr (Or.inr h2)))
        | some t2 =>
          rw [hb] at h2
          cases t2 with
          | true => exact Or.inr (Or.inl ⟨rfl, rfl, h2⟩)
          | false => exact Or.inr (Or.inr (Or.inl ⟨rfl, rfl, h2⟩))
theorem x_tab_ok {dflt lo hi : Int} {offs : Array Int} (hx : x_tab rec y d pc ls st bx h n c s dflt lo hi offs = some L) : ∃ a r, st = a :: r ∧
    ((∃ x t, xci bx a = some x ∧ xts dflt lo hi offs pc (xz x) = some t ∧ rec y d t ls r bx h n c s = some L) ∨
     (a.1 = 1 ∧ ((xbg bx a.2).2 < (lo + 9223372036854775808).toNat ∨ (hi + 9223372036854775808).toNat < (xbg bx a.2).1) ∧ 0 ≤ (pc : Int) + dflt ∧ rec y d ((pc : Int) + dflt).toNat ls r bx h n c s = some L) ∨
     (∃ i q, xspl (fun bx' => rec y d pc ls st bx' h n c s) bx i q = some L)) := by
  unfold x_tab at hx
  match st, hx with
  | [], hx => cases hx
  | a :: r, hx =>
    dsimp only at hx
    refine ⟨a, r, rfl, ?_⟩
    cases hc : xci bx a with
    | some x =>
      rw [hc] at hx
      dsimp only at hx
      cases ht : xts dflt lo hi offs pc (xz x) with
      | none => rw [ht] at hx; cases hx
      | some t => rw [ht] at hx; exact Or.inl ⟨x, t, rfl, ht, hx⟩
    | none =>
      rw [hc] at hx
      obtain ⟨g1, g2⟩ := xcnd hx
      cases hb : (Nat.blt (xbg bx a.2).2 (lo + 9223372036854775808).toNat || Nat.blt (hi + 9223372036854775808).toNat (xbg bx a.2).1) with
      | true =>
        rw [hb] at g2
        simp only [cond_true] at g2
        split at g2
        · rename_i hz
          exact Or.inr (Or.inl ⟨xeqb g1, (xor2 hb).imp xltb xltb, hz, g2⟩)
        · cases g2
      | false =>
        rw [hb] at g2
        exact Or.inr (Or.inr ⟨_, _, g2⟩)
theorem x_lkp_ok {dflt : Int} {ps : Array (Int × Int)} (hx : x_lkp rec y d pc ls st bx h n c s dflt ps = some L) : ∃ a r x, st = a :: r ∧ xci bx a = some x ∧ 0 ≤ (pc : Int) + Op.lookupswitch.offset ps.toList dflt (xz x) ∧ rec y d ((pc : Int) + Op.lookupswitch.offset ps.toList dflt (xz x)).toNat ls r bx h n c s = some L := by
  unfold x_lkp at hx
  match st, hx with
  | [], hx => cases hx
  | a :: r, hx =>
    dsimp only at hx
    cases hc : xci bx a with
    | none => rw [hc] at hx; cases hx
    | some x =>
      rw [hc] at hx
      dsimp only at hx
      split at hx
      · rename_i hz
        exact ⟨a, r, x, rfl, hc, hz, hx⟩
      · cases hx
end Inv2
theorem xts_in {dflt lo hi : Int} {offs : Array Int} {pc t : Nat} {z : Int} (h : xts dflt lo hi offs pc z = some t) : ((z < lo ∨ hi < z) ∧ (pc : Int) + dflt = (t : Int)) ∨ (¬ z < lo ∧ ¬ hi < z ∧ ∃ o, offs[(z - lo).toNat]? = some o ∧ (pc : Int) + o = (t : Int)) := by
  unfold xts at h
  split at h
  · rename_i hz
    split at h
    · cases h; exact Or.inl ⟨hz, by omega⟩
    · cases h
  · rename_i hz
    split at h
    · cases h
    · rename_i o ho
      split at h
      · cases h; exact Or.inr ⟨fun q => hz (Or.inl q), fun q => hz (Or.inr q), o, ho, by omega⟩
      · cases h
section Go2
variable {l : Launch} {D : va_G} {cl : List vw_C} {A : Nat → Prop} {sv : Nat → Int32} {ex : Nat → Nat} {el : Nat → Nat} {eb : Nat → List Nat} {nest : List (String × Nat × MethodName × String)} {txt : Nat → String × Nat × String} {ovr : List String}
variable {mi : xmi} {df : xdf} {bys : Nat → ByteArray} {nm : Nat → MethodName} {rtt : Nat → Option FieldType} {gw : List Cond}
variable {rec : xF} {y d pc : Nat} {ls : List (Nat × xv)} {st : List xv} {bx : xbox} {h : xheap} {n cn sn : Nat} {L : List xleaf}
variable {p : Program} {e : Env} {R : Room} {s : State} {m : MethodId} {args : Array Value} {below : List Frame} {meth : Method} {c : Code} {Q : State → Prop} {as : List Nat} {ws : va_W} {H : Heap} {locs : List Loc} {la : Array Slot} {stv : List Value}
/-- the instructions of a frame alone -/
def xg1 : Instr → Bool
  | .iconst _ => true
  | .bipush _ => true
  | .sipush _ => true
  | .lconst _ => true
  | .ldc _ => true
  | .ldc_w _ => true
  | .ldc2_w _ => true
  | .aconst_null => true
  | .iload _ => true
  | .lload _ => true
  | .aload _ => true
  | .iload_n _ => true
  | .lload_n _ => true
  | .aload_n _ => true
  | .istore _ => true
  | .lstore _ => true
  | .astore _ => true
  | .istore_n _ => true
  | .lstore_n _ => true
  | .astore_n _ => true
  | .iinc _ _ => true
  | .dup => true
  | .pop => true
  | .dup2 => true
  | _ => false
set_option maxHeartbeats 4000000 in
theorem xf1 (E : xStp l D cl A sv ex el eb nest txt ovr mi bys nm rtt gw rec y d ls st bx h n cn sn L p e R s m args below meth c Q as ws H locs la stv) {ins : Instr} {len tg r1 r2 : Nat} (hg : xg1 ins = true) (hdec : decode (bys y) pc = .ok (ins, len)) (hI : xI cl nest txt ovr mi df bys nm rtt gw y pc ins len tg r1 r2)
    (hx : xex mi df el eb rec ins (pc + len) tg r1 r2 y d pc ls st bx h n cn sn = some L) : W p l e R s m args below meth c H locs cn sn Q (F0 m pc la stv) := by
  obtain ⟨hrec, ⟨hex, hb, hml, hown, hts, hK, hEX, hA, hnm, hRf, hRl, hRc, hRs⟩, hc, hs, ⟨hbx, hh, hP, hD, hS⟩, ⟨⟨lv, hl, hls⟩, hst⟩, hret⟩ := id E
  cases ins with
  | iconst k => obtain ⟨rfl, hv⟩ := hI; exact lv_iconst hex hb hdec hv (xk0 E hx ⟨⟨lv, hl, hls⟩, rfl, hst⟩)
  | bipush k => obtain ⟨rfl, hv⟩ := hI; exact lv_bipush hex hb hdec hv (xk0 E hx ⟨⟨lv, hl, hls⟩, rfl, hst⟩)
  | sipush k => obtain ⟨rfl, hv⟩ := hI; exact lv_sipush hex hb hdec hv (xk0 E hx ⟨⟨lv, hl, hls⟩, rfl, hst⟩)
  | lconst k => obtain ⟨rfl, hv⟩ := hI; exact lv_lconst hex hb hdec hv (xk0 E hx ⟨⟨lv, hl, hls⟩, rfl, hst⟩)
  | ldc i =>
    obtain ⟨rfl, hv1, hv2, hv3⟩ := hI
    have hx : cond (Nat.beq r2 0) (rec y d (pc + 2) ls ((0, r1) :: st) bx h n cn sn) (cond (Nat.beq r2 1) (rec y d (pc + 2) ls ((6, 1) :: st) bx h n cn sn) (cond (Nat.beq r2 2) (rec y d (pc + 2) ls ((6, 3) :: st) bx h n cn sn) none)) = some L := hx
    cases hq : Nat.beq r2 0 with
    | true => rw [hq] at hx; exact lv_ldc hex hb hown (hts _ (hv1 (xeqb hq))) hdec (xk0 E hx ⟨⟨lv, hl, hls⟩, rfl, hst⟩)
    | false =>
      rw [hq] at hx
      simp only [cond_false] at hx
      cases hq1 : Nat.beq r2 1 with
      | true =>
        rw [hq1] at hx
        obtain ⟨e1, e2⟩ := hv2 (xeqb hq1)
        refine va_ldcS (own := (nm y).cls) (tx := (txt 1).2.2) (q := ex 1) hex hb hown ?_ hdec (xk0 E hx ⟨⟨lv, hl, hls⟩, rfl, hst⟩)
        rw [e1, e2]
        exact hEX.2.2.2.2.1 1 (Or.inl rfl)
      | false =>
        rw [hq1] at hx
        simp only [cond_false] at hx
        obtain ⟨g1, g2⟩ := xcnd hx
        obtain ⟨e1, e2⟩ := hv3 (xeqb g1)
        refine va_ldcS (own := (nm y).cls) (tx := (txt 3).2.2) (q := ex 3) hex hb hown ?_ hdec (xk0 E g2 ⟨⟨lv, hl, hls⟩, rfl, hst⟩)
        rw [e1, e2]
        exact hEX.2.2.2.2.1 3 (Or.inr rfl)
  | ldc_w i => obtain ⟨rfl, hv⟩ := hI; exact lv_ldcw hex hb hown (hts _ hv) hdec (xk0 E hx ⟨⟨lv, hl, hls⟩, rfl, hst⟩)
  | ldc2_w i => obtain ⟨rfl, hv⟩ := hI; exact lv_ldc2 hex hb hown (hts _ hv) hdec (xk0 E hx ⟨⟨lv, hl, hls⟩, rfl, hst⟩)
  | aconst_null => obtain rfl : len = 1 := hI; exact lv_null hex hb hdec (xk0 E hx ⟨⟨lv, hl, hls⟩, rfl, hst⟩)
  | iload i =>
    obtain ⟨rfl, rfl⟩ := hI
    exact xld_go E hx (fun w v q1 q2 q3 k => by obtain ⟨x, rfl⟩ := xden.int sv ex q2 (q3.elim id id); exact lv_iload hex hb hdec q1 k)
  | lload i =>
    obtain ⟨rfl, rfl⟩ := hI
    exact xld_go E hx (fun w v q1 q2 q3 k => by obtain ⟨x, rfl⟩ := xden.long sv ex q2 (q3.elim id id); exact lv_lload hex hb hdec q1 k)
  | aload i =>
    obtain ⟨rfl, rfl⟩ := hI
    refine xld_go E hx (fun w v q1 q2 q3 k => ?_)
    rcases q3 with q3 | q3
    · obtain ⟨x, rfl⟩ := xden.ref sv ex q2 q3; exact lv_aload hex hb hdec q1 k
    · have := xden.nul sv ex q2 q3; subst this; exact lv_aloadN hex hb hdec q1 k
  | iload_n i =>
    obtain ⟨rfl, hi⟩ := hI
    exact xld_go E hx (fun w v q1 q2 q3 k => by obtain ⟨x, rfl⟩ := xden.int sv ex q2 (q3.elim id id); exact lv_iload_n hex hb hdec hi q1 k)
  | lload_n i =>
    obtain ⟨rfl, hi⟩ := hI
    exact xld_go E hx (fun w v q1 q2 q3 k => by obtain ⟨x, rfl⟩ := xden.long sv ex q2 (q3.elim id id); exact lv_lload_n hex hb hdec hi q1 k)
  | aload_n i =>
    obtain ⟨rfl, hi⟩ := hI
    refine xld_go E hx (fun w v q1 q2 q3 k => ?_)
    rcases q3 with q3 | q3
    · obtain ⟨x, rfl⟩ := xden.ref sv ex q2 q3; exact lv_aload_n hex hb hdec hi q1 k
    · have := xden.nul sv ex q2 q3; subst this; exact lv_aload_nN hex hb hdec hi q1 k
  | istore i =>
    obtain ⟨rfl, rfl, hn⟩ := hI
    obtain ⟨w, r, rfl, g2, g3⟩ := x_st_ok hx
    obtain ⟨v, m1, rfl, hv, hr⟩ := xstR_cons hst
    obtain ⟨x, rfl⟩ := xden.int sv ex hv (g2.elim id id)
    exact lv_istore hex hb hdec hl hn rfl (fun la' hl' => xk0 E g3 ⟨⟨_, hl', rfl, hv, xlsR.filter sv ex (xk1_ok sv ex _) hls⟩, hr⟩)
  | lstore i =>
    obtain ⟨rfl, rfl, hn⟩ := hI
    obtain ⟨w, r, rfl, g2, g3⟩ := x_st_ok hx
    obtain ⟨v, m1, rfl, hv, hr⟩ := xstR_cons hst
    obtain ⟨x, rfl⟩ := xden.long sv ex hv (g2.elim id id)
    exact lv_lstore hex hb hdec hl hn rfl (fun la' hl' => xk0 E g3 ⟨⟨_, hl', rfl, hv, xlsR.filter sv ex (xk2_ok sv ex _) hls⟩, hr⟩)
  | astore i =>
    obtain ⟨rfl, rfl, hn⟩ := hI
    obtain ⟨w, r, rfl, g2, g3⟩ := x_st_ok hx
    obtain ⟨v, m1, rfl, hv, hr⟩ := xstR_cons hst
    obtain ⟨x, rfl⟩ := xden.ref sv ex hv (g2.elim id id)
    exact lv_astore hex hb hdec hl hn rfl (fun la' hl' => xk0 E g3 ⟨⟨_, hl', rfl, hv, xlsR.filter sv ex (xk1_ok sv ex _) hls⟩, hr⟩)
  | istore_n i =>
    obtain ⟨rfl, hi, hn⟩ := hI
    obtain ⟨w, r, rfl, g2, g3⟩ := x_st_ok hx
    obtain ⟨v, m1, rfl, hv, hr⟩ := xstR_cons hst
    obtain ⟨x, rfl⟩ := xden.int sv ex hv (g2.elim id id)
    exact lv_istore_n hex hb hdec hi hl hn rfl (fun la' hl' => xk0 E g3 ⟨⟨_, hl', rfl, hv, xlsR.filter sv ex (xk1_ok sv ex _) hls⟩, hr⟩)
  | lstore_n i =>
    obtain ⟨rfl, hi, hn⟩ := hI
    obtain ⟨w, r, rfl, g2, g3⟩ := x_st_ok hx
    obtain ⟨v, m1, rfl, hv, hr⟩ := xstR_cons hst
    obtain ⟨x, rfl⟩ := xden.long sv ex hv (g2.elim id id)
    exact lv_lstore_n hex hb hdec hi hl hn rfl (fun la' hl' => xk0 E g3 ⟨⟨_, hl', rfl, hv, xlsR.filter sv ex (xk2_ok sv ex _) hls⟩, hr⟩)
  | astore_n i =>
    obtain ⟨rfl, hi, hn⟩ := hI
    obtain ⟨w, r, rfl, g2, g3⟩ := x_st_ok hx
    obtain ⟨v, m1, rfl, hv, hr⟩ := xstR_cons hst
    obtain ⟨x, rfl⟩ := xden.ref sv ex hv (g2.elim id id)
    exact lv_astore_n hex hb hdec hi hl hn rfl (fun la' hl' => xk0 E g3 ⟨⟨_, hl', rfl, hv, xlsR.filter sv ex (xk1_ok sv ex _) hls⟩, hr⟩)
  | iinc i k =>
    obtain ⟨rfl, rfl, hn, hk⟩ := hI
    obtain ⟨w, x, g1, g2, g3⟩ := x_inc_ok hx
    obtain ⟨j, v, g4, g5⟩ := xlk_ok sv ex hls g1
    have e1 := xci_ok sv ex hbx g5 g2
    subst e1
    exact lv_iinc hex hb hdec hl g4 (v := nI ((x + r2) % 4294967296)) (by rw [hk, x32, nI_add]) hn rfl (fun la' hl' => xk0 E g3 ⟨⟨_, hl', rfl, rfl, xlsR.filter sv ex (xk1_ok sv ex _) hls⟩, hst⟩)
  | dup =>
    obtain rfl : len = 1 := hI
    obtain ⟨a, r, rfl, g1, g2⟩ := x_dup_ok hx
    obtain ⟨v, m1, rfl, hv, hr⟩ := xstR_cons hst
    exact lv_dup hex hb hdec (by rw [xden.cat sv ex hv, g1]; rfl) (xk0 E g2 ⟨⟨lv, hl, hls⟩, hv, hv, hr⟩)
  | pop =>
    obtain rfl : len = 1 := hI
    obtain ⟨a, r, rfl, g1, g2⟩ := x_pop_ok hx
    obtain ⟨v, m1, rfl, hv, hr⟩ := xstR_cons hst
    exact lv_pop hex hb hdec (by rw [xden.cat sv ex hv, g1]; rfl) (xk0 E g2 ⟨⟨lv, hl, hls⟩, hr⟩)
  | dup2 =>
    obtain rfl : len = 1 := hI
    rcases x_dup2_ok hx with ⟨a, r, rfl, g1, g2⟩ | ⟨a, b, r, rfl, g1, g3, g2⟩
    · obtain ⟨v, m1, rfl, hv, hr⟩ := xstR_cons hst
      exact lv_dup2_2 hex hb hdec (by rw [xden.cat sv ex hv, g1]; rfl) (xk0 E g2 ⟨⟨lv, hl, hls⟩, hv, hv, hr⟩)
    · obtain ⟨v, m1, rfl, hv, hr⟩ := xstR_cons hst
      obtain ⟨v2, m2, rfl, hv2, hr⟩ := xstR_cons hr
      exact lv_dup2_11 hex hb hdec (by rw [xden.cat sv ex hv, g1]; rfl) (by rw [xden.cat sv ex hv2, g3]; rfl) (xk0 E g2 ⟨⟨lv, hl, hls⟩, hv, hv2, hv, hv2, hr⟩)
  | _ => cases hg
def xg2 : Instr → Bool
  | .iadd => true
  | .isub => true
  | .imul => true
  | .iand => true
  | .ior => true
  | .ishl => true
  | .ishr => true
  | .idiv => true
  | .irem => true
  | .ladd => true
  | .lsub => true
  | .lmul => true
  | .land => true
  | .lor => true
  | .ldiv => true
  | .lrem => true
  | .lshl => true
  | .lshr => true
  | .i2l => true
  | .l2i => true
  | .i2b => true
  | .i2s => true
  | .ineg => true
  | .iushr => true
  | .i2c => true
  | _ => false
set_option maxHeartbeats 4000000 in
theorem xf2 (E : xStp l D cl A sv ex el eb nest txt ovr mi bys nm rtt gw rec y d ls st bx h n cn sn L p e R s m args below meth c Q as ws H locs la stv) {ins : Instr} {len tg r1 r2 : Nat} (hg : xg2 ins = true) (hdec : decode (bys y) pc = .ok (ins, len)) (hI : xI cl nest txt ovr mi df bys nm rtt gw y pc ins len tg r1 r2)
    (hx : xex mi df el eb rec ins (pc + len) tg r1 r2 y d pc ls st bx h n cn sn = some L) : W p l e R s m args below meth c H locs cn sn Q (F0 m pc la stv) := by
  have hex := E.2.1.1
  have hb := E.2.1.2.1
  cases ins with
  | iadd => obtain rfl : len = 1 := hI; exact xbi_go E hx (F := fun x z => x + z) (fun a b => by rw [x32, nI_add]) (fun x z rest k => lv_iadd hex hb hdec k)
  | isub => obtain rfl : len = 1 := hI; exact xbi_go E hx (F := fun x z => x - z) (fun a b => nI_sub a b) (fun x z rest k => lv_isub hex hb hdec k)
  | imul => obtain rfl : len = 1 := hI; exact xbi_go E hx (F := fun x z => x * z) (fun a b => by rw [x32, pk_mul]) (fun x z rest k => lv_imul hex hb hdec k)
  | iand => obtain rfl : len = 1 := hI; exact xbi_go E hx (F := fun x z => x &&& z) (fun a b => nI_xnu _) (fun x z rest k => lv_iand hex hb hdec k)
  | ior => obtain rfl : len = 1 := hI; exact xbi_go E hx (F := fun x z => x ||| z) (fun a b => nI_xnu _) (fun x z rest k => lv_ior hex hb hdec k)
  | ishl => obtain rfl : len = 1 := hI; exact xbi_go E hx (F := fun x z => x <<< (z &&& 31)) (fun a b => nI_xnu _) (fun x z rest k => lv_ishl hex hb hdec k)
  | ishr => obtain rfl : len = 1 := hI; exact xbi_go E hx (F := fun x z => x >>> (z &&& 31)) (fun a b => nI_xnu _) (fun x z rest k => lv_ishr hex hb hdec k)
  | idiv => obtain rfl : len = 1 := hI; exact xdv_go E hx (F := fun x z => x / z) (fun a b => nI_xnu _) (fun x z rest hz k => lv_idiv hex hb hdec hz k)
  | irem => obtain rfl : len = 1 := hI; exact xdv_go E hx (F := fun x z => x - x / z * z) (fun a b => nI_xnu _) (fun x z rest hz k => lv_irem hex hb hdec hz k)
  | ladd => obtain rfl : len = 1 := hI; exact xbl_go E hx (F := fun x z => x + z) (fun a b => lN_xnl _) (fun x z rest k => lv_ladd hex hb hdec k)
  | lsub => obtain rfl : len = 1 := hI; exact xbl_go E hx (F := fun x z => x - z) (fun a b => lN_xnl _) (fun x z rest k => lv_lsub hex hb hdec k)
  | lmul => obtain rfl : len = 1 := hI; exact xbl_go E hx (F := fun x z => x * z) (fun a b => lN_xnl _) (fun x z rest k => lv_lmul hex hb hdec k)
  | land => obtain rfl : len = 1 := hI; exact xbl_go E hx (F := fun x z => x &&& z) (fun a b => lN_xnl _) (fun x z rest k => lv_land hex hb hdec k)
  | lor => obtain rfl : len = 1 := hI; exact xbl_go E hx (F := fun x z => x ||| z) (fun a b => lN_xnl _) (fun x z rest k => lv_lor hex hb hdec k)
  | ldiv => obtain rfl : len = 1 := hI; exact xdl_go E hx (F := fun x z => x / z) (fun a b => lN_xnl _) (fun x z rest hz k => lv_ldiv hex hb hdec hz k)
  | lrem => obtain rfl : len = 1 := hI; exact xdl_go E hx (F := fun x z => x - x / z * z) (fun a b => lN_xnl _) (fun x z rest hz k => lv_lrem hex hb hdec hz k)
  | lshl => obtain rfl : len = 1 := hI; exact xsl_go E hx (F := fun x z => x <<< (z.toInt64 &&& 63)) (fun a b => lN_xnl _) (fun x z rest k => lv_lshl hex hb hdec rfl k)
  | lshr => obtain rfl : len = 1 := hI; exact xsl_go E hx (F := fun x z => x >>> (z.toInt64 &&& 63)) (fun a b => lN_xnl _) (fun x z rest k => lv_lshr hex hb hdec rfl k)
  | i2l => obtain rfl : len = 1 := hI; exact xi2l_go E hx (fun x rest k => lv_i2l hex hb hdec rfl k)
  | l2i => obtain rfl : len = 1 := hI; exact xl2i_go E hx (fun x rest k => lv_l2i hex hb hdec rfl k)
  | i2b => obtain rfl : len = 1 := hI; exact xui_go E hx (F := fun x => x.toInt8.toInt32) (fun a => nI_xnu _) (fun x rest k => lv_i2b hex hb hdec rfl k)
  | ineg => obtain rfl : len = 1 := hI; exact xui_go E hx (F := fun x => -x) (fun a => nI_xnu _) (fun x rest k => lv_ineg hex hb hdec k)
  | iushr => obtain rfl : len = 1 := hI; exact xbi_go E hx (F := fun x z => (x.toUInt32 >>> (z.toUInt32 &&& Int32.toUInt32 31)).toInt32) (fun a b => nI_xnu _) (fun x z rest k => lv_iushr hex hb hdec rfl k)
  | i2s => obtain rfl : len = 1 := hI; exact xui_go E hx (F := fun x => x.toInt16.toInt32) (fun a => nI_xnu _) (fun x rest k => lv_i2s hex hb hdec rfl k)
  | i2c => obtain rfl : len = 1 := hI; exact xui_go E hx (F := fun x => (x.toUInt32 % 65536).toInt32) (fun a => (nI_c65 a).symm) (fun x rest k => lv_i2c hex hb hdec rfl k)
  | _ => cases hg
def xg3 : Instr → Bool
  | .goto _ => true
  | .if_icmp _ _ => true
  | .ifCond _ _ => true
  | .ifnull _ => true
  | .ifnonnull _ => true
  | .lcmp => true
  | .tableswitch _ _ _ _ => true
  | .lookupswitch _ _ => true
  | _ => false
theorem xmapp1 {x : xleaf} {a b : List xleaf} (h : x ∈ a) : x ∈ a ++ b := List.mem_append_left _ h
theorem xmapp2 {x : xleaf} {a b : List xleaf} (h : x ∈ b) : x ∈ a ++ b := List.mem_append_right _ h
set_option maxHeartbeats 4000000 in
theorem xf3 (E : xStp l D cl A sv ex el eb nest txt ovr mi bys nm rtt gw rec y d ls st bx h n cn sn L p e R s m args below meth c Q as ws H locs la stv) {ins : Instr} {len tg r1 r2 : Nat} (hg : xg3 ins = true) (hdec : decode (bys y) pc = .ok (ins, len)) (hI : xI cl nest txt ovr mi df bys nm rtt gw y pc ins len tg r1 r2)
    (hx : xex mi df el eb rec ins (pc + len) tg r1 r2 y d pc ls st bx h n cn sn = some L) : W p l e R s m args below meth c H locs cn sn Q (F0 m pc la stv) := by
  obtain ⟨hrec, ⟨hex, hb, hml, hown, hts, hK, hEX, hA, hnm, hRf, hRl, hRc, hRs⟩, hc, hs, ⟨hbx, hh, hP, hD, hS⟩, ⟨hl, hst⟩, hret⟩ := id E
  cases ins with
  | goto off => obtain ⟨rfl, ht⟩ := hI; exact lv_goto hex hb hdec ht (xk0 E hx ⟨hl, hst⟩)
  | if_icmp o off =>
    obtain ⟨rfl, ht⟩ := hI
    obtain ⟨b, a, r, rfl, k1, k2, g⟩ := x_icmp_ok hx
    obtain ⟨vb, m1, rfl, hvb, hst'⟩ := xstR_cons hst
    obtain ⟨va, m2, rfl, hva, hr⟩ := xstR_cons hst'
    obtain ⟨z, rfl⟩ := xden.int sv ex hvb k1
    obtain ⟨x, rfl⟩ := xden.int sv ex hva k2
    rcases xbr_ok g with ⟨t, q1, q2⟩ | ⟨i, q, q1⟩ | ⟨L1, L2, q1, q2, q3⟩
    · have hif := xdec_ok q1 (xrg_int sv ex hbx hva).1 (xrg_int sv ex hbx hva).2 (xrg_int sv ex hbx hvb).1 (xrg_int sv ex hbx hvb).2
      refine xicmp hex hb hdec ht (fun hr' => ?_) (fun hr' => ?_)
      · have e : t = true := hif.mpr hr'
        subst e; exact xk0 E q2 ⟨hl, hr⟩
      · cases t with
        | true => exact absurd (hif.mp rfl) hr'
        | false => exact xk0 E q2 ⟨hl, hr⟩
    · exact xksp E q1
    · subst q3
      exact xicmp hex hb hdec ht (fun _ => xkk E q1 (fun _ => xmapp1) (xle.rf _) hc hs ⟨hbx, hh, hP, hD, hS⟩ ⟨hl, hr⟩) (fun _ => xkk E q2 (fun _ => xmapp2) (xle.rf _) hc hs ⟨hbx, hh, hP, hD, hS⟩ ⟨hl, hr⟩)
  | ifCond o off =>
    obtain ⟨rfl, ht⟩ := hI
    obtain ⟨a, r, rfl, k2, g⟩ := x_if_ok hx
    obtain ⟨va, m2, rfl, hva, hr⟩ := xstR_cons hst
    obtain ⟨x, rfl⟩ := xden.int sv ex hva k2
    have h0 : xden sv ex as (0, 0) (.int (nI 0)) := rfl
    rcases xbr_ok g with ⟨t, q1, q2⟩ | ⟨i, q, q1⟩ | ⟨L1, L2, q1, q2, q3⟩
    · have hif := xdec_ok q1 (xrg_int sv ex hbx hva).1 (xrg_int sv ex hbx hva).2 (xrg_int sv ex hbx h0).1 (xrg_int sv ex hbx h0).2
      refine xifc hex hb hdec ht (fun hr' => ?_) (fun hr' => ?_)
      · have e : t = true := hif.mpr hr'
        subst e; exact xk0 E q2 ⟨hl, hr⟩
      · cases t with
        | true => exact absurd (hif.mp rfl) hr'
        | false => exact xk0 E q2 ⟨hl, hr⟩
    · exact xksp E q1
    · subst q3
      exact xifc hex hb hdec ht (fun _ => xkk E q1 (fun _ => xmapp1) (xle.rf _) hc hs ⟨hbx, hh, hP, hD, hS⟩ ⟨hl, hr⟩) (fun _ => xkk E q2 (fun _ => xmapp2) (xle.rf _) hc hs ⟨hbx, hh, hP, hD, hS⟩ ⟨hl, hr⟩)
  | ifnull off =>
    obtain ⟨rfl, ht⟩ := hI
    obtain ⟨a, r, rfl, g⟩ := x_nul_ok hx
    obtain ⟨va, m2, rfl, hva, hr⟩ := xstR_cons hst
    rcases g with ⟨k, g⟩ | ⟨k, g⟩
    · obtain ⟨x, rfl⟩ := xden.ref sv ex hva k
      exact lv_ifnull hex hb hdec (xk0 E g ⟨hl, hr⟩)
    · have := xden.nul sv ex hva k
      subst this
      exact lv_ifnullN hex hb hdec ht (xk0 E g ⟨hl, hr⟩)
  | ifnonnull off =>
    obtain ⟨rfl, ht⟩ := hI
    obtain ⟨a, r, rfl, g⟩ := x_nul_ok hx
    obtain ⟨va, m2, rfl, hva, hr⟩ := xstR_cons hst
    rcases g with ⟨k, g⟩ | ⟨k, g⟩
    · obtain ⟨x, rfl⟩ := xden.ref sv ex hva k
      exact lv_ifnonnull hex hb hdec ht (xk0 E g ⟨hl, hr⟩)
    · have := xden.nul sv ex hva k
      subst this
      exact lv_ifnonnullN hex hb hdec (xk0 E g ⟨hl, hr⟩)
  | lcmp =>
    obtain rfl : len = 1 := hI
    obtain ⟨b, a, r, rfl, k1, k2, g⟩ := x_lcmp_ok hx
    obtain ⟨vb, m1, rfl, hvb, hst'⟩ := xstR_cons hst
    obtain ⟨va, m2, rfl, hva, hr⟩ := xstR_cons hst'
    obtain ⟨z, rfl⟩ := xden.long sv ex hvb k1
    obtain ⟨x, rfl⟩ := xden.long sv ex hva k2
    have ra := xrg_long sv ex hbx hva
    have rb := xrg_long sv ex hbx hvb
    rcases g with ⟨q1, g⟩ | ⟨q1, q2, g⟩ | ⟨q1, q2, g⟩ | ⟨i, q, g⟩ | g
    · refine W.lcmp hex hb hdec (xk0 E g ⟨hl, ?_, hr⟩)
      have h1 : x < z := xoff_ltL.mp ((xdec_ok q1 ra.1 ra.2 rb.1 rb.2).mp rfl)
      have h2 := Int64.lt_iff_toInt_lt.mp h1
      show Value.int (lg_cmp x z) = Value.int (nI 4294967295)
      unfold lg_cmp
      rw [if_neg (fun q => by have := Int64.lt_iff_toInt_lt.mp (gt_iff_lt.mp q); omega), if_neg (fun q => by rw [q] at h2; omega)]
      rfl
    · refine W.lcmp hex hb hdec (xk0 E g ⟨hl, ?_, hr⟩)
      have h1 : z < x := xoff_ltL.mp ((xdec_ok q2 ra.1 ra.2 rb.1 rb.2).mp rfl)
      show Value.int (lg_cmp x z) = Value.int (nI 1)
      unfold lg_cmp
      rw [if_pos h1]
      rfl
    · refine W.lcmp hex hb hdec (xk0 E g ⟨hl, ?_, hr⟩)
      have h1 : ¬ x < z := fun q => by have := (xdec_ok q1 ra.1 ra.2 rb.1 rb.2).mpr (xoff_ltL.mpr q); cases this
      have h2 : ¬ z < x := fun q => by have := (xdec_ok q2 ra.1 ra.2 rb.1 rb.2).mpr (xoff_ltL.mpr q); cases this
      have h3 : x = z := by
        apply Int64.toInt_inj.mp
        have a1 : ¬ x.toInt < z.toInt := fun q => h1 (Int64.lt_iff_toInt_lt.mpr q)
        have a2 : ¬ z.toInt < x.toInt := fun q => h2 (Int64.lt_iff_toInt_lt.mpr q)
        omega
      show Value.int (lg_cmp x z) = Value.int (nI 0)
      unfold lg_cmp
      rw [if_neg h2, if_pos h3]
      rfl
    · exact xksp E g
    · exact W.lcmp hex hb hdec (xk0 E g ⟨hl, ⟨_, rfl⟩, hr⟩)
  | tableswitch dflt lo hi offs =>
    obtain ⟨hlo, hhi, hlh⟩ := hI
    obtain ⟨a, r, rfl, g⟩ := x_tab_ok hx
    obtain ⟨va, m2, rfl, hva, hr⟩ := xstR_cons hst
    rcases g with ⟨x, t, q1, q2, g⟩ | ⟨q1, q2, q3, g⟩ | ⟨i, q, g⟩
    · have e1 := xci_ok sv ex hbx hva q1
      subst e1
      rcases xts_in q2 with ⟨h1, h2⟩ | ⟨h1, h2, o, h3, h4⟩
      · exact lv_tableOut hex hb hdec h1 h2 (xk0 E g ⟨hl, hr⟩)
      · exact lv_tableIn hex hb hdec h1 h2 h3 h4 (xk0 E g ⟨hl, hr⟩)
    · obtain ⟨t, i⟩ := a
      have e1 : t = 1 := q1
      subst e1
      have e2 : va = .int (sv i) := hva
      subst e2
      have hri := hbx i
      have hoi := xoff_int (sv i)
      refine lv_tableOut hex hb hdec ?_ (tgt := ((pc : Int) + dflt).toNat) (by omega) (xk0 E g ⟨hl, hr⟩)
      dsimp only at q2 hri
      rcases q2 with q2 | q2
      · left; omega
      · right; omega
    · exact xksp E g
  | lookupswitch dflt ps =>
    have hI : (ps.toList.zip (ps.toList.drop 1)).all (fun (a, next) => a.1 < next.1) = true := hI
    obtain ⟨a, r, x, rfl, q1, q2, g⟩ := x_lkp_ok hx
    obtain ⟨va, m2, rfl, hva, hr⟩ := xstR_cons hst
    have e1 := xci_ok sv ex hbx hva q1
    subst e1
    exact lv_lookup hex hb hdec hI rfl (tgt := ((pc : Int) + Op.lookupswitch.offset ps.toList dflt (xz x)).toNat) (by show (pc : Int) + Op.lookupswitch.offset ps.toList dflt (xz x) = _; omega) (xk0 E g ⟨hl, hr⟩)
  | _ => cases hg
end Go2
end
section
/-! The step keeps its promise: cells -/
section Inv3
variable {mi : xmi} {df : xdf} {el : Nat → Nat} {eb : Nat → List Nat} {rec : xF} {nx tg r1 r2 y d pc : Nat} {ls : List (Nat × xv)} {st : List xv} {bx : xbox} {h : xheap} {n c s : Nat} {L : List xleaf}
theorem x_get_ok (hx : x_get rec nx r1 r2 y d ls st bx h n c s = some L) : ∃ w r, st = w :: r ∧
    ((w.1 = 4 ∧ r1 < 13 ∧ ∃ q v, xg h w.2 = some q ∧ q.1 = r1 ∧ xg q.2.2 r2 = some v ∧ rec y d nx ls (v :: r) bx h n c s = some L) ∨
     (w.1 = 6 ∧ (w.2 = 1 ∨ w.2 = 3) ∧ r1 = 98 ∧ rec y d nx ls ((cond (Nat.beq r2 0) (6, w.2 + 1) (0, 0)) :: r) bx h n c s = some L)) := by
  unfold x_get at hx
  match st, hx with
  | [], hx => cases hx
  | w :: r, hx =>
    refine ⟨w, r, rfl, ?_⟩
    dsimp only at hx
    cases hw : Nat.beq w.1 4 with
    | true =>
      rw [hw] at hx
      simp only [cond_true] at hx
      cases hq : xg h w.2 with
      | none => rw [hq] at hx; cases hx
      | some q =>
        rw [hq] at hx
        obtain ⟨g1, g2⟩ := xcnd hx
        obtain ⟨g3, g4⟩ := xand g1
        cases hv : xg q.2.2 r2 with
        | none => rw [hv] at g2; cases g2
        | some v => rw [hv] at g2; exact Or.inl ⟨xeqb hw, xltb g4, q, v, rfl, xeqb g3, hv, g2⟩
    | false =>
      rw [hw] at hx
      simp only [cond_false] at hx
      obtain ⟨g1, g2⟩ := xcnd hx
      obtain ⟨g3, g4⟩ := xand g1
      obtain ⟨g5, g6⟩ := xand g3
      exact Or.inr ⟨xeqb g5, (xor2 g6).imp xeqb xeqb, xeqb g4, g2⟩
theorem x_put_ok (hx : x_put rec nx tg r1 r2 y d ls st bx h n c s = some L) : ∃ v w r q w0, st = v :: w :: r ∧ w.1 = 4 ∧ xfit tg v = true ∧ xg h w.2 = some q ∧ q.1 = r1 ∧ r2 < q.2.1 ∧ xg q.2.2 r2 = some w0 ∧ rec y d nx ls r bx (xw h w.2 (q.1, q.2.1, xw q.2.2 r2 v)) n c s = some L := by
  unfold x_put at hx
  match st, hx with
  | [], hx => cases hx
  | [_], hx => cases hx
  | v :: w :: r, hx =>
    obtain ⟨g1, g2⟩ := xcnd hx
    obtain ⟨g3, g4⟩ := xand g1
    cases hq : xg h w.2 with
    | none => rw [hq] at g2; cases g2
    | some q =>
      rw [hq] at g2
      obtain ⟨g5, g6⟩ := xcnd g2
      obtain ⟨g7, g8⟩ := xand g5
      cases hv : xg q.2.2 r2 with
      | none => rw [hv] at g6; cases g6
      | some w0 =>
        rw [hv] at g6
        dsimp only at g6
        rw [xsK_eq, xsK_eq] at g6
        exact ⟨v, w, r, q, w0, rfl, xeqb g3, g4, hq, xeqb g7, xltb g8, hv, g6⟩
theorem x_arr_ok {dk : Nat} (hx : x_arr mi rec nx r1 y d ls st bx h n c s dk = some L) : ∃ w r k, st = w :: r ∧ xci bx w = some k ∧ k ≤ 1048576 ∧ x_cell mi rec nx y d ls bx h n c s r1 k (xmk (xd0 dk) 20 0 k) r = some L := by
  unfold x_arr at hx
  match st, hx with
  | [], hx => cases hx
  | w :: r, hx =>
    dsimp only at hx
    cases hc : xci bx w with
    | none => rw [hc] at hx; cases hx
    | some k =>
      rw [hc] at hx
      obtain ⟨g1, g2⟩ := xcnd hx
      exact ⟨w, r, k, rfl, hc, xleb g1, g2⟩
theorem x_new_ok (hx : x_new mi df rec nx r1 y d ls st bx h n c s = some L) : ∃ q, xg df r1 = some q ∧ x_cell mi rec nx y d ls bx h n c s r1 q.1 q.2 st = some L := by
  unfold x_new at hx
  cases hq : xg df r1 with
  | none => rw [hq] at hx; cases hx
  | some q => rw [hq] at hx; exact ⟨q, rfl, hx⟩
theorem x_len_ok (hx : x_len el rec nx y d ls st bx h n c s = some L) : ∃ w r, st = w :: r ∧
    ((w.1 = 4 ∧ ∃ q, xg h w.2 = some q ∧ 13 ≤ q.1 ∧ rec y d nx ls ((0, q.2.1) :: r) bx h n c s = some L) ∨
     (w.1 = 6 ∧ (w.2 = 0 ∨ w.2 = 2 ∨ w.2 = 4) ∧ rec y d nx ls ((0, el w.2) :: r) bx h n c s = some L)) := by
  unfold x_len at hx
  match st, hx with
  | [], hx => cases hx
  | w :: r, hx =>
    refine ⟨w, r, rfl, ?_⟩
    dsimp only at hx
    cases hw : Nat.beq w.1 4 with
    | true =>
      rw [hw] at hx
      simp only [cond_true] at hx
      cases hq : xg h w.2 with
      | none => rw [hq] at hx; cases hx
      | some q =>
        rw [hq] at hx
        obtain ⟨g1, g2⟩ := xcnd hx
        exact Or.inl ⟨xeqb hw, q, rfl, xleb g1, g2⟩
    | false =>
      rw [hw] at hx
      simp only [cond_false] at hx
      obtain ⟨g1, g2⟩ := xcnd hx
      obtain ⟨g3, g4⟩ := xand g1
      exact Or.inr ⟨xeqb g3, (xor2 g4).imp xeqb (fun z => (xor2 z).imp xeqb xeqb), g2⟩
theorem x_ald_ok {kd : Nat} (hx : x_ald el eb rec nx y d pc ls st bx h n c s kd = some L) : ∃ i w r, st = i :: w :: r ∧
    ((∃ x, xci bx i = some x ∧ x < 2147483648 ∧
      ((w.1 = 4 ∧ ∃ q v, xg h w.2 = some q ∧ (q.1 = kd ∨ (kd = 20 ∧ 20 ≤ q.1)) ∧ x < q.2.1 ∧ xg q.2.2 x = some v ∧ rec y d nx ls (v :: r) bx h n c s = some L) ∨
       (w.1 = 6 ∧ w.2 = 0 ∧ kd = 13 ∧ x < el 0 ∧ rec y d nx ls ((1, x) :: r) bx h n c s = some L) ∨
       (w.1 = 6 ∧ (w.2 = 2 ∨ w.2 = 4) ∧ kd = 15 ∧ x < el w.2 ∧ rec y d nx ls ((0, (eb w.2).getD x 0) :: r) bx h n c s = some L))) ∨
     (∃ j q, xspl (fun bx' => rec y d pc ls st bx' h n c s) bx j q = some L)) := by
  unfold x_ald at hx
  match st, hx with
  | [], hx => cases hx
  | [_], hx => cases hx
  | i :: w :: r, hx =>
    refine ⟨i, w, r, rfl, ?_⟩
    rcases x_ix_ok hx with ⟨x, h1, h2, h3⟩ | hs
    · refine Or.inl ⟨x, h1, h2, ?_⟩
      cases hw : Nat.beq w.1 4 with
      | true =>
        rw [hw] at h3
        simp only [cond_true] at h3
        cases hq : xg h w.2 with
        | none => rw [hq] at h3; cases h3
        | some q =>
          rw [hq] at h3
          obtain ⟨g1, g2⟩ := xcnd h3
          obtain ⟨g3, g4⟩ := xand g1
          cases hv : xg q.2.2 x with
          | none => rw [hv] at g2; cases g2
          | some v =>
            rw [hv] at g2
            refine Or.inl ⟨xeqb hw, q, v, rfl, ?_, xltb g4, hv, g2⟩
            rcases xor2 g3 with g | g
            · exact Or.inl (xeqb g)
            · exact Or.inr ⟨xeqb (xand g).1, xleb (xand g).2⟩
      | false =>
        rw [hw] at h3
        simp only [cond_false] at h3
        cases hb : (Nat.beq w.1 6 && Nat.beq w.2 0 && Nat.beq kd 13 && Nat.blt x (el 0)) with
        | true =>
          rw [hb] at h3
          obtain ⟨g1, g2⟩ := xand hb
          obtain ⟨g3, g4⟩ := xand g1
          obtain ⟨g5, g6⟩ := xand g3
          exact Or.inr (Or.inl ⟨xeqb g5, xeqb g6, xeqb g4, xltb g2, h3⟩)
        | false =>
          rw [hb] at h3
          simp only [cond_false] at h3
          obtain ⟨hb, h3⟩ := xcnd h3
          obtain ⟨g1, g2⟩ := xand hb
          obtain ⟨g3, g4⟩ := xand g1
          obtain ⟨g5, g6⟩ := xand g3
          exact Or.inr (Or.inr ⟨xeqb g5, (xor2 g6).imp xeqb xeqb, xeqb g4, xltb g2, h3⟩)
    · exact Or.inr hs
theorem x_ast_ok {kd : Nat} (hx : x_ast rec nx y d pc ls st bx h n c s kd = some L) : ∃ v i w r, st = v :: i :: w :: r ∧
    ((∃ x q, xci bx i = some x ∧ x < 2147483648 ∧ w.1 = 4 ∧ xfit (cond (Nat.beq kd 14) 1 0) v = true ∧ xg h w.2 = some q ∧ q.1 = kd ∧ x < q.2.1 ∧ rec y d nx ls r bx (xw h w.2 (q.1, q.2.1, xw q.2.2 x (cond (Nat.beq kd 15) (xb8 v) v))) n c s = some L) ∨
     (∃ j q, xspl (fun bx' => rec y d pc ls st bx' h n c s) bx j q = some L)) := by
  unfold x_ast at hx
  match st, hx with
  | [], hx => cases hx
  | [_], hx => cases hx
  | [_, _], hx => cases hx
  | v :: i :: w :: r, hx =>
    refine ⟨v, i, w, r, rfl, ?_⟩
    rcases x_ix_ok hx with ⟨x, h1, h2, h3⟩ | hs
    · obtain ⟨g1, g2⟩ := xcnd h3
      obtain ⟨g3, g4⟩ := xand g1
      cases hq : xg h w.2 with
      | none => rw [hq] at g2; cases g2
      | some q =>
        rw [hq] at g2
        obtain ⟨g5, g6⟩ := xcnd g2
        obtain ⟨g7, g8⟩ := xand g5
        rw [xsK_eq, xsK_eq] at g6
        exact Or.inl ⟨x, q, h1, h2, xeqb g3, g4, rfl, xeqb g7, xltb g8, g6⟩
    · exact Or.inr hs
theorem x_aas_ok (hx : x_aas rec nx y d pc ls st bx h n c s = some L) : ∃ v i w r, st = v :: i :: w :: r ∧
    ((∃ x q e, xci bx i = some x ∧ x < 2147483648 ∧ w.1 = 4 ∧ v.1 = 4 ∧ xg h w.2 = some q ∧ xg h v.2 = some e ∧ e.1 < 13 ∧ q.1 = 20 + e.1 ∧ x < q.2.1 ∧ rec y d nx ls r bx (xw h w.2 (q.1, q.2.1, xw q.2.2 x v)) n c s = some L) ∨
     (∃ j q, xspl (fun bx' => rec y d pc ls st bx' h n c s) bx j q = some L)) := by
  unfold x_aas at hx
  match st, hx with
  | [], hx => cases hx
  | [_], hx => cases hx
  | [_, _], hx => cases hx
  | v :: i :: w :: r, hx =>
    refine ⟨v, i, w, r, rfl, ?_⟩
    rcases x_ix_ok hx with ⟨x, h1, h2, h3⟩ | hs
    · obtain ⟨g1, g2⟩ := xcnd h3
      obtain ⟨g3, g4⟩ := xand g1
      cases hq : xg h w.2 with
      | none => rw [hq] at g2; cases g2
      | some q =>
        rw [hq] at g2
        dsimp only at g2
        cases he : xg h v.2 with
        | none => rw [he] at g2; cases g2
        | some e =>
          rw [he] at g2
          obtain ⟨g5, g6⟩ := xcnd g2
          obtain ⟨g7, g8⟩ := xand g5
          obtain ⟨g9, g10⟩ := xand g7
          rw [xsK_eq, xsK_eq] at g6
          exact Or.inl ⟨x, q, e, h1, h2, xeqb g3, xeqb g4, rfl, rfl, xltb g9, xeqb g10, xltb g8, g6⟩
    · exact Or.inr hs
end Inv3
theorem xmk_20 {α : Type} (v : α) {k j : Nat} (hk : k ≤ 1048576) (hj : j < k) : xg (xmk v 20 0 k) j = some v := xmk_get v 20 0 k j (by omega) (Nat.zero_le _) (by omega)
section Go3
variable {l : Launch} {D : va_G} {cl : List vw_C} {A : Nat → Prop} {sv : Nat → Int32} {ex : Nat → Nat} {el : Nat → Nat} {eb : Nat → List Nat} {nest : List (String × Nat × MethodName × String)} {txt : Nat → String × Nat × String} {ovr : List String}
variable {mi : xmi} {df : xdf} {bys : Nat → ByteArray} {nm : Nat → MethodName} {rtt : Nat → Option FieldType} {gw : List Cond}
variable {rec : xF} {y d pc : Nat} {ls : List (Nat × xv)} {st : List xv} {bx : xbox} {h : xheap} {n cn sn : Nat} {L : List xleaf}
variable {p : Program} {e : Env} {R : Room} {s : State} {m : MethodId} {args : Array Value} {below : List Frame} {meth : Method} {c : Code} {Q : State → Prop} {as : List Nat} {ws : va_W} {H : Heap} {locs : List Loc} {la : Array Slot} {stv : List Value}
theorem xK1 {cA : ClassId} {ty : FieldType} (hK : va_K D cl [] s) (h : xaT s cA ty) : va_K D cl [(cA, ty)] s := by
  refine ⟨hK.1, fun k q hk => ?_⟩
  have hk0 : k = 0 := by
    have := (List.getElem?_eq_some_iff.mp hk).1
    simp at this; exact this
  subst hk0
  cases hk
  exact h
theorem xK1' {cA : ClassId} {ty : FieldType} (hK : va_K D cl ([] ++ [(cA, ty)]) s) : xaT s cA ty := hK.2 0 _ rfl
/-- an element set -/
theorem xset13 {as : List Nat} {k m : Nat} {t : xct} {f : Nat → Int32} {x : Nat} {w : xv} {v : Int32} (hf : ∀ j : Nat, j < m → ∃ w : xv, xg t j = some w ∧ xden sv ex as w (.int (f j))) (hx : x < m) (hv : xden sv ex as w (.int v)) : ∀ j : Nat, j < m → ∃ w' : xv, xg (xw t x w) j = some w' ∧ xden sv ex as w' (.int (upd f x v j)) := by
  intro j hj
  by_cases e : j = x
  · subst e
    obtain ⟨w0, q1, q2⟩ := hf j hj
    exact ⟨w, xg_self t j w w0 q1, by rw [pk_us]; exact hv⟩
  · obtain ⟨w0, q1, q2⟩ := hf j hj
    exact ⟨w0, by rw [xg_other t x j w e]; exact q1, by rw [pk_un e]; exact q2⟩
theorem xset14 {as : List Nat} {m : Nat} {t : xct} {f : Nat → Int64} {x : Nat} {w : xv} {v : Int64} (hf : ∀ j : Nat, j < m → ∃ w : xv, xg t j = some w ∧ xden sv ex as w (.long (f j))) (hv : xden sv ex as w (.long v)) : ∀ j : Nat, j < m → ∃ w' : xv, xg (xw t x w) j = some w' ∧ xden sv ex as w' (.long (vp_updL f x v j)) := by
  intro j hj
  by_cases e : j = x
  · subst e
    obtain ⟨w0, q1, q2⟩ := hf j hj
    exact ⟨w, xg_self t j w w0 q1, by rw [pk_uLs]; exact hv⟩
  · obtain ⟨w0, q1, q2⟩ := hf j hj
    exact ⟨w0, by rw [xg_other t x j w e]; exact q1, by rw [pk_uLn e]; exact q2⟩
theorem xset20 {as : List Nat} {m : Nat} {t : xct} {f : Nat → Option Nat} {x : Nat} {w : xv} {v : Option Nat} (hf : ∀ j : Nat, j < m → ∃ w : xv, xg t j = some w ∧ xden sv ex as w (va_rf (f j))) (hv : xden sv ex as w (va_rf v)) : ∀ j : Nat, j < m → ∃ w' : xv, xg (xw t x w) j = some w' ∧ xden sv ex as w' (va_rf (va_up f x v j)) := by
  intro j hj
  by_cases e : j = x
  · subst e
    obtain ⟨w0, q1, q2⟩ := hf j hj
    exact ⟨w, xg_self t j w w0 q1, by unfold va_up; rw [if_pos rfl]; exact hv⟩
  · obtain ⟨w0, q1, q2⟩ := hf j hj
    exact ⟨w0, by rw [xg_other t x j w e]; exact q1, by unfold va_up; rw [if_neg e]; exact q2⟩
def xg4 : Instr → Bool
  | .getfield _ => true
  | .putfield _ => true
  | .getstatic _ => true
  | .new _ => true
  | .newarray _ => true
  | .anewarray _ => true
  | .arraylength => true
  | _ => false
set_option maxHeartbeats 4000000 in
theorem xf4 (E : xStp l D cl A sv ex el eb nest txt ovr mi bys nm rtt gw rec y d ls st bx h n cn sn L p e R s m args below meth c Q as ws H locs la stv) {ins : Instr} {len tg r1 r2 : Nat} (hg : xg4 ins = true) (hdec : decode (bys y) pc = .ok (ins, len)) (hI : xI cl nest txt ovr mi df bys nm rtt gw y pc ins len tg r1 r2)
    (hx : xex mi df el eb rec ins (pc + len) tg r1 r2 y d pc ls st bx h n cn sn = some L) : W p l e R s m args below meth c H locs cn sn Q (F0 m pc la stv) := by
  obtain ⟨hrec, ⟨hex, hb, hml, hown, hts, hK, hEX, hA, hnm, hRf, hRl, hRc, hRs⟩, hc, hs, ⟨hbx, hh, hP, hD, hS⟩, ⟨hl, hst⟩, hret⟩ := id E
  cases ins with
  | getfield i =>
    obtain ⟨rfl, hI1, hI2⟩ := hI
    obtain ⟨w, r, rfl, g⟩ := x_get_ok hx
    obtain ⟨v, m1, rfl, hv, hr⟩ := xstR_cons hst
    rcases g with ⟨k1, k2, q, v2, q1, q2, q3, g⟩ | ⟨k1, k2, k3, g⟩
    · obtain ⟨a, ha, rfl⟩ := xden.own sv ex hv k1
      obtain ⟨ee, he, hcr⟩ := xhR.at cl sv ex hh ha q1
      obtain ⟨C, T, N, f1, f2, f3, f4⟩ := hI1 k2
      obtain ⟨⟨rr, e1, e2⟩, fs, e3, e4, e5⟩ := xcR.obj cl sv ex hcr (by rw [q2]; exact k2)
      subst e3
      have e6 : rr = (C, T, N) := Option.some.inj (e1.symm.trans (by rw [q2]; exact f1))
      subst e6
      have e2' : N = q.2.1 := e2
      obtain ⟨w3, v3, a1, a2, a3⟩ := e5 r2 (by rw [← e2']; exact f2)
      have a4 : w3 = v2 := Option.some.inj (a1.symm.trans q3)
      subst a4
      rw [q2] at he
      exact va_get hex hb hts f4 hown hK hP w.2 he f1 r2 f2 (hts _ f3) (fun _ z => z) a2 hdec (xk0 E g ⟨hl, a3, hr⟩)
    · have hv2 := xden.ext sv ex hv k1
      subst hv2
      obtain ⟨-, -, -, dd, -⟩ := hEX
      obtain ⟨d1, d2, d3, d4⟩ := dd w.2 k2
      cases hq : Nat.beq r2 0 with
      | true =>
        rw [hq] at g
        exact vk_getf hex hb d3 hS hown (hts _ ((hI2 k3).1 (xeqb hq))) (fun _ z => z) hdec (xk0 E g ⟨hl, rfl, hr⟩)
      | false =>
        rw [hq] at g
        exact vk_getf hex hb d2 hS hown (hts _ ((hI2 k3).2 (xneb hq))) (fun _ z => z) hdec (xk0 E g ⟨hl, rfl, hr⟩)
  | putfield i =>
    obtain ⟨rfl, hk13, C, T, N, ty, f1, f2, f3, f4, f5, f6, f7, f8⟩ := hI
    obtain ⟨v, w, r, q, w0, rfl, k1, k2, q1, q2, q3, q4, g⟩ := x_put_ok hx
    obtain ⟨vv, m1, rfl, hv, hst⟩ := xstR_cons hst
    obtain ⟨wv, m2, rfl, hw, hr⟩ := xstR_cons hst
    obtain ⟨a, ha, rfl⟩ := xden.own sv ex hw k1
    obtain ⟨ee, he, hcr⟩ := xhR.at cl sv ex hh ha q1
    have hq13 : q.1 < 13 := by rw [q2]; exact hk13
    obtain ⟨hrr, fs, e3, e4, e5⟩ := xcR.obj cl sv ex hcr hq13
    subst e3
    obtain ⟨n1, n2⟩ := xfit_ok hv (ty := ty r2) (by rw [f7]; exact k2)
    have hnew : xcR cl sv ex s as (q.1, q.2.1, xw q.2.2 r2 v) (.inr (q.1, fs.set r2 vv)) := by
      refine Or.inl ⟨hq13, hrr, fs.set r2 vv, rfl, by rw [List.length_set]; exact e4, fun j hj => ?_⟩
      by_cases ej : j = r2
      · subst ej
        exact ⟨v, vv, xg_self _ _ _ _ q4, List.getElem?_set_self (by rw [e4]; exact q3), hv⟩
      · obtain ⟨w3, v3, a1, a2, a3⟩ := e5 j hj
        exact ⟨w3, v3, by rw [show (q.1, q.2.1, xw q.2.2 r2 v).2.2 = xw q.2.2 r2 v from rfl, xg_other _ _ _ _ ej]; exact a1, by rw [List.getElem?_set_ne (Ne.symm ej)]; exact a2, a3⟩
    have hh' := xhR.set cl sv ex hh ha q1 hnew
    have he' : ws[w.2]? = some (a, .inr (r1, fs)) := by rw [q2] at he; exact he
    rw [q2] at hh'
    rw [q2] at g
    cases hfin : (T r2).2.2.2 with
    | false =>
      exact va_put hex hb hts f4 ty f5 f6 hown hK hP hD hS w.2 he' f1 r2 f2 (hts _ f3) (fun _ z => z) hfin (f5 r2 f2) n1 n2 (by rw [e4]; exact q3) hdec
        (fun H1 locs1 hP1 hD1 hS1 => xkk E g (fun _ z => z) (xle.rf _) hc hs ⟨hbx, hh', hP1, hD1, hS1⟩ ⟨hl, hr⟩)
    | true =>
      obtain ⟨b1, b2⟩ := f8 hfin
      exact va_putF hex hb hts f4 ty f5 f6 hown hK hP hD hS w.2 he' f1 r2 f2 (hts _ f3) (fun _ z => z) hfin (hnm.trans b1) b2 (f5 r2 f2) n1 n2 (by rw [e4]; exact q3) hdec
        (fun H1 locs1 hP1 hD1 hS1 => xkk E g (fun _ z => z) (xle.rf _) hc hs ⟨hbx, hh', hP1, hD1, hS1⟩ ⟨hl, hr⟩)
  | getstatic i =>
    obtain ⟨rfl, hI1, hI2⟩ := hI
    have hx : cond (Nat.beq r1 0) (rec y d (pc + 3) ls ((0, 1) :: st) bx h n cn sn) (rec y d (pc + 3) ls ((10, 0) :: st) bx h n cn sn) = some L := hx
    cases hq : Nat.beq r1 0 with
    | true =>
      rw [hq] at hx
      exact va_gets hex hb hEX.2.1 hS hown (hts _ (hI1 (xeqb hq))) (fun _ z => z) hdec (xk0 E hx ⟨hl, rfl, hst⟩)
    | false =>
      rw [hq] at hx
      rcases hEX.2.2.1 with hz | ⟨t, hz⟩
      · exact va_gets hex hb hz hS hown (hts _ (hI2 (xneb hq))) (fun _ z => z) hdec (xk0 E hx ⟨hl, Or.inl rfl, hst⟩)
      · exact va_gets hex hb hz hS hown (hts _ (hI2 (xneb hq))) (fun _ z => z) hdec (xk0 E hx ⟨hl, Or.inr ⟨t, rfl⟩, hst⟩)
  | new i =>
    obtain ⟨rfl, C, T, N, ty, q, f1, f2, f3, f4, f5, f6, f7, f8, f9, f10⟩ := hI
    obtain ⟨q', g1, g⟩ := x_new_ok hx
    have eq : q' = q := Option.some.inj (g1.symm.trans f8)
    subst eq
    obtain ⟨u, q0, g2, g3, g4, g5, g⟩ := x_cell_ok g
    have hu := xu_of g2
    rw [← hu] at g3 g4
    have hdv : ∀ j, j < N → defaultValue (ty j) = vp_V ((List.range N).map (fun j => defaultValue (ty j))) j := by
      intro j hj
      unfold vp_V
      simp [List.getD, hj]
    rw [f9] at g g4
    refine va_new (ci := r1) (fs := (List.range N).map (fun j => defaultValue (ty j))) hex hb hts f3 ty f4 hown (hts _ f5) (hts _ f6) (hts _ f7) hK hP hD hS hA f1 hdv (by omega) (by omega) hdec (fun a H1 hP1 hD1 hS1 => ?_)
    have hnew : xcR cl sv ex s (as ++ [a]) (r1, N, q'.2) (.inr (r1, (List.range N).map (fun j => defaultValue (ty j)))) := by
      refine Or.inl ⟨f2, ⟨_, f1, rfl⟩, _, rfl, by simp, fun j hj => ?_⟩
      obtain ⟨w3, a1, a2⟩ := f10 j hj
      exact ⟨w3, defaultValue (ty j), a1, by rw [List.getElem?_map, List.getElem?_range hj]; rfl, xdv_ok a2⟩
    have hlen := hh.1
    refine xkk E g (fun _ z => z) (xle.push as a) (by omega) (by omega) ⟨hbx, xhR.push cl sv ex hh g5 hnew, hP1, hD1, hS1⟩ ⟨?_, ?_, xstR.mono sv ex (xle.push as a) hst⟩
    · obtain ⟨lv, h1, h2⟩ := hl
      exact ⟨lv, h1, xlsR.mono sv ex (xle.push as a) h2⟩
    · exact ⟨a, by rw [← hlen, List.getElem?_append_right (Nat.le_refl _), Nat.sub_self]; rfl, rfl⟩
  | newarray at_ =>
    obtain ⟨rfl, f1, f2⟩ := hI
    obtain ⟨w, r, k, rfl, g1, g2, g⟩ := x_arr_ok hx
    obtain ⟨u, q0, g3, g4, g5, g6, g⟩ := x_cell_ok g
    have hu := xu_of g3
    rw [← hu] at g4 g5
    obtain ⟨vv, m1, rfl, hv, hr⟩ := xstR_cons hst
    have e1 := xci_ok sv ex hbx hv g1
    subst e1
    have hlen := hh.1
    have hfin : ∀ (a : Nat) (ee : va_E) (H1 : Heap), xcR cl sv ex s (as ++ [a]) (r1, k, xmk (xd0 r2) 20 0 k) ee → va_P D cl (ws ++ [(a, ee)]) H1 → va_D A (ws ++ [(a, ee)]) → va_S A s.heap H1 locs → W p l e R s m args below meth c H1 locs (cn + 1) (sn + k) Q (F0 m (pc + 2) la (.ref a :: m1)) := by
      intro a ee H1 hnew hP1 hD1 hS1
      refine xkk E g (fun _ z => z) (xle.push as a) (by omega) (by omega) ⟨hbx, xhR.push cl sv ex hh g6 hnew, hP1, hD1, hS1⟩ ⟨?_, ?_, xstR.mono sv ex (xle.push as a) hr⟩
      · obtain ⟨lv, h1, h2⟩ := hl
        exact ⟨lv, h1, xlsR.mono sv ex (xle.push as a) h2⟩
      · exact ⟨a, by rw [← hlen, List.getElem?_append_right (Nat.le_refl _), Nat.sub_self]; rfl, rfl⟩
    have hclamp : (nI k).toNatClampNeg = k := nI_clamp (by omega)
    rcases f2 with ⟨rfl, rfl, rfl⟩ | ⟨rfl, rfl, rfl⟩ | ⟨rfl, rfl, rfl⟩
    · refine va_newa (a0 := (k, .inl (fun _ => 0))) hex hb (hts _ f1) (ty := .int) rfl hK hP hD hS hA (fun cA => rfl) (nI_pos (by omega)) hclamp (by show k * 4 ≤ _; omega) (by omega) (by omega) hdec (fun a cA H1 hK1 hP1 hD1 hS1 => hfin a _ H1 ?_ hP1 hD1 hS1)
      exact Or.inr (Or.inl ⟨rfl, cA, _, rfl, xK1' hK1, fun j (hj : j < k) => ⟨(0, 0), xmk_20 _ g2 hj, rfl⟩⟩)
    · refine va_newa (a0 := (k, .inr (.inl (fun _ => 0)))) hex hb (hts _ f1) (ty := .long) rfl hK hP hD hS hA (fun cA => rfl) (nI_pos (by omega)) hclamp (by show k * 8 ≤ _; omega) (by omega) (by omega) hdec (fun a cA H1 hK1 hP1 hD1 hS1 => hfin a _ H1 ?_ hP1 hD1 hS1)
      exact Or.inr (Or.inr (Or.inl ⟨rfl, cA, _, rfl, xK1' hK1, fun j (hj : j < k) => ⟨(2, 0), xmk_20 _ g2 hj, rfl⟩⟩))
    · refine va_newa (a0 := (k, .inl (fun _ => 0))) hex hb (hts _ f1) (ty := .byte) rfl hK hP hD hS hA (fun cA => rfl) (nI_pos (by omega)) hclamp (by show k * 1 ≤ _; omega) (by omega) (by omega) hdec (fun a cA H1 hK1 hP1 hD1 hS1 => hfin a _ H1 ?_ hP1 hD1 hS1)
      exact Or.inr (Or.inr (Or.inr (Or.inl ⟨rfl, cA, _, rfl, xK1' hK1, fun j (hj : j < k) => ⟨(0, 0), xmk_20 _ g2 hj, rfl⟩⟩)))
  | anewarray i =>
    obtain ⟨rfl, f0, rr, f1, f2, f3⟩ := hI
    obtain ⟨w, r, k, rfl, g1, g2, g⟩ := x_arr_ok hx
    obtain ⟨u, q0, g3, g4, g5, g6, g⟩ := x_cell_ok g
    have hu := xu_of g3
    rw [← hu] at g4 g5
    obtain ⟨vv, m1, rfl, hv, hr⟩ := xstR_cons hst
    have e1 := xci_ok sv ex hbx hv g1
    subst e1
    have hlen := hh.1
    have hclamp : (nI k).toNatClampNeg = k := nI_clamp (by omega)
    refine va_newq hex hb hown (hts _ f2) (hEX.2.2.2.2.2.2 _ f3) hK hP hD hS hA (nI_pos (by omega)) hclamp (by omega) (by omega) (by omega) hdec (fun a cA H1 hK1 hP1 hD1 hS1 => ?_)
    have hnew : xcR cl sv ex s (as ++ [a]) (r1, k, xmk (xd0 2) 20 0 k) (.inl (cA, k, .inr (.inr (.inr (.inr (fun _ => none)))))) :=
      Or.inr (Or.inr (Or.inr (Or.inr ⟨f0, cA, rr, _, f1, rfl, xK1' hK1, fun j (hj : j < k) => ⟨(5, 0), xmk_20 _ g2 hj, rfl⟩⟩)))
    refine xkk E g (fun _ z => z) (xle.push as a) (by omega) (by omega) ⟨hbx, xhR.push cl sv ex hh g6 hnew, hP1, hD1, hS1⟩ ⟨?_, ?_, xstR.mono sv ex (xle.push as a) hr⟩
    · obtain ⟨lv, h1, h2⟩ := hl
      exact ⟨lv, h1, xlsR.mono sv ex (xle.push as a) h2⟩
    · exact ⟨a, by rw [← hlen, List.getElem?_append_right (Nat.le_refl _), Nat.sub_self]; rfl, rfl⟩
  | arraylength =>
    obtain rfl : len = 1 := hI
    obtain ⟨w, r, rfl, g⟩ := x_len_ok hx
    obtain ⟨v, m1, rfl, hv, hr⟩ := xstR_cons hst
    rcases g with ⟨k1, q, q1, q2, g⟩ | ⟨k1, k2, g⟩
    · obtain ⟨a, ha, rfl⟩ := xden.own sv ex hv k1
      obtain ⟨ee, he, hcr⟩ := xhR.at cl sv ex hh ha q1
      obtain ⟨cA, x, ty, e1, e2, e3⟩ := xcR.arr cl sv ex hcr q2
      subst e1
      exact va_alen hex hb (xK1 hK e3) hP w.2 0 he rfl (v := nI q.2.1) (by rw [e2]; rfl) hdec (xk0 E g ⟨hl, rfl, hr⟩)
    · have hv2 := xden.ext sv ex hv k1
      subst hv2
      have key : ∀ i : Nat, i = 1 ∨ i = 3 → w.2 = i + 1 → W p l e R s m args below meth c H locs cn sn Q (F0 m pc la (.ref (ex w.2) :: m1)) := by
        intro i hi k2
        rw [k2] at g ⊢
        obtain ⟨cell, h1, h2, h3, h4, h5, h6, h7⟩ := (hEX.2.2.2.1 i hi).2.2.2
        exact W.alen (n := Int32.ofNat (el (i + 1))) hex hb (by rw [hS.2.1 (ex (i + 1)) (Array.getElem?_eq_some_iff.mp h1).1 h7]; exact h1) h2 h5 rfl rfl hdec (xk0 E g ⟨hl, rfl, hr⟩)
      rcases k2 with k2 | k2 | k2
      · rw [k2] at g ⊢
        exact va_slen hex hb hEX.1.1 hEX.1.2.1 hEX.1.2.2 hS hdec (xk0 E g ⟨hl, rfl, hr⟩)
      · exact key 1 (Or.inl rfl) k2
      · exact key 3 (Or.inr rfl) k2
  | _ => cases hg
end Go3
end
section
/-! The step keeps its promise: arrays, calls, answers; and the whole -/
section Inv4
variable {mi : xmi} {rec : xF} {nx y d pc : Nat} {ls : List (Nat × xv)} {st : List xv} {bx : xbox} {h : xheap} {n c s : Nat} {L : List xleaf}
theorem xcp_ok {t1 : xct} {β : Type} {L : β} {k : xct → Option β} : ∀ (m sp dp : Nat) (t2 : xct), xcp t1 m sp dp t2 k = some L → (∀ j : Nat, dp ≤ j → j < dp + m → ∃ w : xv, xg t2 j = some w) →
    ∃ t : xct, k t = some L ∧ (∀ j : Nat, dp ≤ j → j < dp + m → xg t j = xg t1 (sp + (j - dp))) ∧ (∀ j : Nat, (j < dp ∨ dp + m ≤ j) → xg t j = xg t2 j)
  | 0, sp, dp, t2, h, _ => ⟨t2, h, fun j h1 h2 => by omega, fun j _ => rfl⟩
  | m + 1, sp, dp, t2, h, hs => by
    unfold xcp at h
    cases hw : xg t1 sp with
    | none => rw [hw] at h; cases h
    | some w =>
      rw [hw] at h
      dsimp only at h
      rw [xsK_eq] at h
      obtain ⟨w0, hw0⟩ := hs dp (Nat.le_refl _) (by omega)
      obtain ⟨t, g1, g2, g3⟩ := xcp_ok m (sp + 1) (dp + 1) (xw t2 dp w) h (fun j h1 h2 => by
        obtain ⟨w1, hw1⟩ := hs j (by omega) (by omega)
        exact ⟨w1, by rw [xg_other t2 dp j w (by omega)]; exact hw1⟩)
      refine ⟨t, g1, fun j h1 h2 => ?_, fun j hj => ?_⟩
      · by_cases e : j = dp
        · subst e
          rw [g3 j (Or.inl (by omega)), xg_self t2 j w w0 hw0, Nat.sub_self, Nat.add_zero, hw]
        · rw [g2 j (by omega) (by omega)]
          congr 1
          omega
      · rw [g3 j (by omega), xg_other t2 dp j w (by omega)]
theorem x_cpy_ok (hx : x_cpy rec nx y d ls st bx h n c s = some L) : ∃ wm vd b vs a r m dp sp qa qb, st = wm :: vd :: b :: vs :: a :: r ∧ xci bx wm = some m ∧ xci bx vd = some dp ∧ xci bx vs = some sp ∧ a.1 = 4 ∧ b.1 = 4 ∧ xwds r ≤ 8 ∧ 1 ≤ d ∧ xg h a.2 = some qa ∧ xg h b.2 = some qb ∧ (qa.1 = 13 ∨ qa.1 = 14) ∧ qb.1 = qa.1 ∧ sp + m ≤ qa.2.1 ∧ dp + m ≤ qb.2.1 ∧ sp + m < 2147483648 ∧ dp + m < 2147483648 ∧
    xcp qa.2.2 m sp dp qb.2.2 (fun t => xsK h b.2 (qb.1, qb.2.1, t) (fun h' => rec y d nx ls r bx h' n c s)) = some L := by
  unfold x_cpy at hx
  match st, hx with
  | [], hx => cases hx
  | [_], hx => cases hx
  | [_, _], hx => cases hx
  | [_, _, _], hx => cases hx
  | [_, _, _, _], hx => cases hx
  | wm :: vd :: b :: vs :: a :: r, hx =>
    dsimp only at hx
    cases h1 : xci bx wm with
    | none => rw [h1] at hx; cases hx
    | some m =>
      rw [h1] at hx
      dsimp only at hx
      cases h2 : xci bx vd with
      | none => rw [h2] at hx; cases hx
      | some dp =>
        rw [h2] at hx
        dsimp only at hx
        cases h3 : xci bx vs with
        | none => rw [h3] at hx; cases hx
        | some sp =>
          rw [h3] at hx
          obtain ⟨g1, g2⟩ := xcnd hx
          obtain ⟨g3, g4⟩ := xand g1
          obtain ⟨g5, g6⟩ := xand g3
          obtain ⟨g7, g8⟩ := xand g5
          cases hqa : xg h a.2 with
          | none => rw [hqa] at g2; cases g2
          | some qa =>
            rw [hqa] at g2
            dsimp only at g2
            cases hqb : xg h b.2 with
            | none => rw [hqb] at g2; cases g2
            | some qb =>
              rw [hqb] at g2
              obtain ⟨k1, k2⟩ := xcnd g2
              obtain ⟨k3, k4⟩ := xand k1
              obtain ⟨k5, k6⟩ := xand k3
              obtain ⟨k7, k8⟩ := xand k5
              obtain ⟨k9, k10⟩ := xand k7
              obtain ⟨k11, k12⟩ := xand k9
              exact ⟨wm, vd, b, vs, a, r, m, dp, sp, qa, qb, rfl, h1, h2, h3, xeqb g7, xeqb g8, xleb g6, xleb g4, hqa, hqb, (xor2 k11).imp xeqb xeqb, xeqb k12, xleb k10, xleb k8, xltb k6, xltb k4, k2⟩
theorem x_oin_ok (hx : x_oin rec nx y d ls st bx h n c s = some L) : ∃ w r, st = w :: r ∧ w.1 = 4 ∧ xwds r ≤ 8 ∧ 1 ≤ d ∧ rec y d nx ls r bx h n c s = some L := by
  unfold x_oin at hx
  match st, hx with
  | [], hx => cases hx
  | w :: r, hx =>
    obtain ⟨g1, g2⟩ := xcnd hx
    obtain ⟨g3, g4⟩ := xand g1
    obtain ⟨g5, g6⟩ := xand g3
    exact ⟨w, r, rfl, xeqb g5, xleb g6, xleb g4, g2⟩
theorem x_ret_ok (hx : x_ret mi y st bx h n = some L) : (xu mi y).2.2.2.2.1 = 0 ∧ st = [] ∧ L = [(bx, h, n, none)] := by
  unfold x_ret at hx
  cases hq : xg mi y with
  | none => rw [hq] at hx; cases hx
  | some q =>
    rw [hq] at hx
    dsimp only at hx
    rw [xu_of hq]
    split at hx
    · rename_i e
      split at hx
      · exact ⟨e, rfl, (Option.some.inj hx).symm⟩
      · cases hx
    · cases hx
theorem x_iret_ok (hx : x_iret mi y st bx h n = some L) : ∃ w, st = [w] ∧ xrok (xu mi y).2.2.2.2.1 w = true ∧ L = [(bx, h, n, some w)] := by
  unfold x_iret at hx
  cases hq : xg mi y with
  | none => rw [hq] at hx; cases hx
  | some q =>
    rw [hq] at hx
    dsimp only at hx
    rw [xu_of hq]
    split at hx
    · obtain ⟨g1, g2⟩ := xcnd hx
      exact ⟨_, rfl, g1, (Option.some.inj g2).symm⟩
    · cases hx
theorem x_lret_ok (hx : x_lret mi y st bx h n = some L) : ∃ w, st = [w] ∧ (xu mi y).2.2.2.2.1 = 2 ∧ xkd w.1 = 1 ∧ L = [(bx, h, n, some w)] := by
  unfold x_lret at hx
  cases hq : xg mi y with
  | none => rw [hq] at hx; cases hx
  | some q =>
    rw [hq] at hx
    dsimp only at hx
    rw [xu_of hq]
    split at hx
    · rename_i e
      split at hx
      · obtain ⟨g1, g2⟩ := xcnd hx
        exact ⟨_, rfl, e, xeqb g1, (Option.some.inj g2).symm⟩
      · cases hx
    · cases hx
end Inv4
theorem xin {x N : Nat} (h1 : x < 2147483648) (h2 : x < N) : vp_in (nI x) N := fun q => q.elim (nI_pos (by omega)) (fun z => by rw [nI_clamp (by omega)] at z; omega)
theorem xb8_ok {sv : Nat → Int32} {ex : Nat → Nat} {as : List Nat} : ∀ {w : xv} {z : Int32}, xden sv ex as w (.int z) → xden sv ex as (xb8 w) (.int z.toInt8.toInt32)
  | (0, k), z, h => by
    have e2 : z = nI k := Value.int.inj h
    subst e2
    show Value.int _ = Value.int (nI (xnu _))
    rw [nI_xnu]
  | (_ + 1, _), z, _ => ⟨_, rfl⟩
section Go4
variable {l : Launch} {D : va_G} {cl : List vw_C} {A : Nat → Prop} {sv : Nat → Int32} {ex : Nat → Nat} {el : Nat → Nat} {eb : Nat → List Nat} {nest : List (String × Nat × MethodName × String)} {txt : Nat → String × Nat × String} {ovr : List String}
variable {mi : xmi} {df : xdf} {bys : Nat → ByteArray} {nm : Nat → MethodName} {rtt : Nat → Option FieldType} {gw : List Cond}
variable {rec : xF} {y d pc : Nat} {ls : List (Nat × xv)} {st : List xv} {bx : xbox} {h : xheap} {n cn sn : Nat} {L : List xleaf}
variable {p : Program} {e : Env} {R : Room} {s : State} {m : MethodId} {args : Array Value} {below : List Frame} {meth : Method} {c : Code} {Q : State → Prop} {as : List Nat} {ws : va_W} {H : Heap} {locs : List Loc} {la : Array Slot} {stv : List Value}
def xg5 : Instr → Bool
  | .iaload => true
  | .laload => true
  | .baload => true
  | .aaload => true
  | .iastore => true
  | .lastore => true
  | .bastore => true
  | .aastore => true
  | _ => false
set_option maxHeartbeats 4000000 in
theorem xf5 (E : xStp l D cl A sv ex el eb nest txt ovr mi bys nm rtt gw rec y d ls st bx h n cn sn L p e R s m args below meth c Q as ws H locs la stv) {ins : Instr} {len tg r1 r2 : Nat} (hg : xg5 ins = true) (hdec : decode (bys y) pc = .ok (ins, len)) (hI : xI cl nest txt ovr mi df bys nm rtt gw y pc ins len tg r1 r2)
    (hx : xex mi df el eb rec ins (pc + len) tg r1 r2 y d pc ls st bx h n cn sn = some L) : W p l e R s m args below meth c H locs cn sn Q (F0 m pc la stv) := by
  obtain ⟨hrec, ⟨hex, hb, hml, hown, hts, hK, hEX, hA, hnm, hRf, hRl, hRc, hRs⟩, hc, hs, ⟨hbx, hh, hP, hD, hS⟩, ⟨hl, hst⟩, hret⟩ := id E
  cases ins with
  | iaload =>
    obtain rfl : len = 1 := hI
    obtain ⟨i, w, r, rfl, g⟩ := x_ald_ok hx
    rcases g with ⟨x, q1, q2, g⟩ | ⟨j, q, g⟩
    · obtain ⟨vi, m1, rfl, hvi, hst'⟩ := xstR_cons hst
      obtain ⟨vw, m2, rfl, hvw, hr⟩ := xstR_cons hst'
      have e1 := xci_ok sv ex hbx hvi q1
      subst e1
      have hcl : (nI x).toNatClampNeg = x := nI_clamp (by omega)
      rcases g with ⟨k1, q, v, g1, g2, g3, g4, g⟩ | ⟨k1, k2, k3, k4, g⟩ | ⟨k1, k2, k3, k4, g⟩
      · obtain ⟨a, ha, rfl⟩ := xden.own sv ex hvw k1
        obtain ⟨ee, he, hcr⟩ := xhR.at cl sv ex hh ha g1
        obtain ⟨cA, f, e1, e2, e3⟩ := xcR.a13 cl sv ex hcr (by omega)
        subst e1
        refine va_iald hex hb (xK1 hK e2) hP w.2 0 he rfl (xin q2 g3) hdec ?_
        rw [hcl]
        obtain ⟨w3, a1, a2⟩ := e3 x g3
        have a4 : w3 = v := Option.some.inj (a1.symm.trans g4)
        subst a4
        exact xk0 E g ⟨hl, a2, hr⟩
      · have hv2 := xden.ext sv ex hvw k1
        rw [k2] at hv2
        subst hv2
        refine va_sld hex hb hEX.1.1 hEX.1.2.1 hEX.1.2.2 hS (xin q2 k4) hdec ?_
        rw [hcl]
        exact xk0 E g ⟨hl, rfl, hr⟩
      · cases k3
    · exact xksp E g
  | laload =>
    obtain rfl : len = 1 := hI
    obtain ⟨i, w, r, rfl, g⟩ := x_ald_ok hx
    rcases g with ⟨x, q1, q2, g⟩ | ⟨j, q, g⟩
    · obtain ⟨vi, m1, rfl, hvi, hst'⟩ := xstR_cons hst
      obtain ⟨vw, m2, rfl, hvw, hr⟩ := xstR_cons hst'
      have e1 := xci_ok sv ex hbx hvi q1
      subst e1
      have hcl : (nI x).toNatClampNeg = x := nI_clamp (by omega)
      rcases g with ⟨k1, q, v, g1, g2, g3, g4, g⟩ | ⟨k1, k2, k3, k4, g⟩ | ⟨k1, k2, k3, k4, g⟩
      · obtain ⟨a, ha, rfl⟩ := xden.own sv ex hvw k1
        obtain ⟨ee, he, hcr⟩ := xhR.at cl sv ex hh ha g1
        obtain ⟨cA, f, e1, e2, e3⟩ := xcR.a14 cl sv ex hcr (by omega)
        subst e1
        refine va_lald hex hb (xK1 hK e2) hP w.2 0 he rfl (xin q2 g3) hdec ?_
        rw [hcl]
        obtain ⟨w3, a1, a2⟩ := e3 x g3
        have a4 : w3 = v := Option.some.inj (a1.symm.trans g4)
        subst a4
        exact xk0 E g ⟨hl, a2, hr⟩
      · cases k3
      · cases k3
    · exact xksp E g
  | baload =>
    obtain rfl : len = 1 := hI
    obtain ⟨i, w, r, rfl, g⟩ := x_ald_ok hx
    rcases g with ⟨x, q1, q2, g⟩ | ⟨j, q, g⟩
    · obtain ⟨vi, m1, rfl, hvi, hst'⟩ := xstR_cons hst
      obtain ⟨vw, m2, rfl, hvw, hr⟩ := xstR_cons hst'
      have e1 := xci_ok sv ex hbx hvi q1
      subst e1
      have hcl : (nI x).toNatClampNeg = x := nI_clamp (by omega)
      rcases g with ⟨k1, q, v, g1, g2, g3, g4, g⟩ | ⟨k1, k2, k3, k4, g⟩ | ⟨k1, k2, k3, k4, g⟩
      · obtain ⟨a, ha, rfl⟩ := xden.own sv ex hvw k1
        obtain ⟨ee, he, hcr⟩ := xhR.at cl sv ex hh ha g1
        obtain ⟨cA, f, e1, e2, e3⟩ := xcR.a15 cl sv ex hcr (by omega)
        subst e1
        refine va_bald hex hb (xK1 hK e2) hP w.2 0 he rfl (xin q2 g3) hdec ?_
        rw [hcl]
        obtain ⟨w3, a1, a2⟩ := e3 x g3
        have a4 : w3 = v := Option.some.inj (a1.symm.trans g4)
        subst a4
        exact xk0 E g ⟨hl, a2, hr⟩
      · cases k3
      · have hv2 := xden.ext sv ex hvw k1
        subst hv2
        have key : ∀ i : Nat, i = 1 ∨ i = 3 → w.2 = i + 1 → W p l e R s m args below meth c H locs cn sn Q (F0 m pc la (.int (nI x) :: .ref (ex w.2) :: m2)) := by
          intro i hi k2
          rw [k2] at g k4 ⊢
          refine va_tb hex hb (hEX.2.2.2.1 i hi).2.2.2 hS (xin q2 k4) (v := .int (nI ((eb (i + 1)).getD x 0))) (by rw [hcl]) hdec ?_
          exact xk0 E g ⟨hl, rfl, hr⟩
        rcases k2 with k2 | k2
        · exact key 1 (Or.inl rfl) k2
        · exact key 3 (Or.inr rfl) k2
    · exact xksp E g
  | aaload =>
    obtain rfl : len = 1 := hI
    obtain ⟨i, w, r, rfl, g⟩ := x_ald_ok hx
    rcases g with ⟨x, q1, q2, g⟩ | ⟨j, q, g⟩
    · obtain ⟨vi, m1, rfl, hvi, hst'⟩ := xstR_cons hst
      obtain ⟨vw, m2, rfl, hvw, hr⟩ := xstR_cons hst'
      have e1 := xci_ok sv ex hbx hvi q1
      subst e1
      have hcl : (nI x).toNatClampNeg = x := nI_clamp (by omega)
      rcases g with ⟨k1, q, v, g1, g2, g3, g4, g⟩ | ⟨k1, k2, k3, k4, g⟩ | ⟨k1, k2, k3, k4, g⟩
      · obtain ⟨a, ha, rfl⟩ := xden.own sv ex hvw k1
        obtain ⟨ee, he, hcr⟩ := xhR.at cl sv ex hh ha g1
        obtain ⟨cA, rr, f, e0, e1, e2, e3⟩ := xcR.a20 cl sv ex hcr (by omega)
        subst e1
        refine va_aldq hex hb (xK1 hK e2) hP w.2 0 he rfl (xin q2 g3) hdec ?_
        rw [hcl]
        obtain ⟨w3, a1, a2⟩ := e3 x g3
        have a4 : w3 = v := Option.some.inj (a1.symm.trans g4)
        subst a4
        exact xk0 E g ⟨hl, a2, hr⟩
      · cases k3
      · cases k3
    · exact xksp E g
  | iastore =>
    obtain rfl : len = 1 := hI
    obtain ⟨v, i, w, r, rfl, g⟩ := x_ast_ok hx
    rcases g with ⟨x, q, q1, q2, k1, k2, g1, g2, g3, g⟩ | ⟨j, q, g⟩
    · obtain ⟨vv, m0, rfl, hvv, hst'⟩ := xstR_cons hst
      obtain ⟨vi, m1, rfl, hvi, hst'⟩ := xstR_cons hst'
      obtain ⟨vw, m2, rfl, hvw, hr⟩ := xstR_cons hst'
      have e1 := xci_ok sv ex hbx hvi q1
      subst e1
      have hcl : (nI x).toNatClampNeg = x := nI_clamp (by omega)
      obtain ⟨z, rfl⟩ := xden.int sv ex hvv (xeqb k2)
      obtain ⟨a, ha, rfl⟩ := xden.own sv ex hvw k1
      obtain ⟨ee, he, hcr⟩ := xhR.at cl sv ex hh ha g1
      obtain ⟨cA, f, e1, e2, e3⟩ := xcR.a13 cl sv ex hcr g2
      subst e1
      refine va_iast hex hb (xK1 hK e2) hP hD hS w.2 0 he rfl (xin q2 g3) hdec (fun H1 locs1 hP1 hD1 hS1 => ?_)
      rw [hcl] at hP1 hD1
      exact xkk E g (fun _ z => z) (xle.rf _) hc hs ⟨hbx, xhR.set cl sv ex hh ha g1 (Or.inr (Or.inl ⟨g2, cA, _, rfl, e2, xset13 (k := 0) e3 g3 hvv⟩)), hP1, hD1, hS1⟩ ⟨hl, hr⟩
    · exact xksp E g
  | lastore =>
    obtain rfl : len = 1 := hI
    obtain ⟨v, i, w, r, rfl, g⟩ := x_ast_ok hx
    rcases g with ⟨x, q, q1, q2, k1, k2, g1, g2, g3, g⟩ | ⟨j, q, g⟩
    · obtain ⟨vv, m0, rfl, hvv, hst'⟩ := xstR_cons hst
      obtain ⟨vi, m1, rfl, hvi, hst'⟩ := xstR_cons hst'
      obtain ⟨vw, m2, rfl, hvw, hr⟩ := xstR_cons hst'
      have e1 := xci_ok sv ex hbx hvi q1
      subst e1
      have hcl : (nI x).toNatClampNeg = x := nI_clamp (by omega)
      obtain ⟨z, rfl⟩ := xden.long sv ex hvv (xeqb k2)
      obtain ⟨a, ha, rfl⟩ := xden.own sv ex hvw k1
      obtain ⟨ee, he, hcr⟩ := xhR.at cl sv ex hh ha g1
      obtain ⟨cA, f, e1, e2, e3⟩ := xcR.a14 cl sv ex hcr g2
      subst e1
      refine va_last hex hb (xK1 hK e2) hP hD hS w.2 0 he rfl (xin q2 g3) hdec (fun H1 locs1 hP1 hD1 hS1 => ?_)
      rw [hcl] at hP1 hD1
      exact xkk E g (fun _ z => z) (xle.rf _) hc hs ⟨hbx, xhR.set cl sv ex hh ha g1 (Or.inr (Or.inr (Or.inl ⟨g2, cA, _, rfl, e2, xset14 e3 hvv⟩))), hP1, hD1, hS1⟩ ⟨hl, hr⟩
    · exact xksp E g
  | bastore =>
    obtain rfl : len = 1 := hI
    obtain ⟨v, i, w, r, rfl, g⟩ := x_ast_ok hx
    rcases g with ⟨x, q, q1, q2, k1, k2, g1, g2, g3, g⟩ | ⟨j, q, g⟩
    · obtain ⟨vv, m0, rfl, hvv, hst'⟩ := xstR_cons hst
      obtain ⟨vi, m1, rfl, hvi, hst'⟩ := xstR_cons hst'
      obtain ⟨vw, m2, rfl, hvw, hr⟩ := xstR_cons hst'
      have e1 := xci_ok sv ex hbx hvi q1
      subst e1
      have hcl : (nI x).toNatClampNeg = x := nI_clamp (by omega)
      obtain ⟨z, rfl⟩ := xden.int sv ex hvv (xeqb k2)
      obtain ⟨a, ha, rfl⟩ := xden.own sv ex hvw k1
      obtain ⟨ee, he, hcr⟩ := xhR.at cl sv ex hh ha g1
      obtain ⟨cA, f, e1, e2, e3⟩ := xcR.a15 cl sv ex hcr g2
      subst e1
      refine va_bast hex hb (xK1 hK e2) hP hD hS w.2 0 he rfl (xin q2 g3) hdec (fun H1 locs1 hP1 hD1 hS1 => ?_)
      rw [hcl] at hP1 hD1
      exact xkk E g (fun _ z => z) (xle.rf _) hc hs ⟨hbx, xhR.set cl sv ex hh ha g1 (Or.inr (Or.inr (Or.inr (Or.inl ⟨g2, cA, _, rfl, e2, xset13 (k := 0) e3 g3 (xb8_ok hvv)⟩)))), hP1, hD1, hS1⟩ ⟨hl, hr⟩
    · exact xksp E g
  | aastore =>
    obtain rfl : len = 1 := hI
    obtain ⟨v, i, w, r, rfl, g⟩ := x_aas_ok hx
    rcases g with ⟨x, q, eo, q1, q2, k1, k2, g1, g2, g3, g4, g5, g⟩ | ⟨j, q, g⟩
    · obtain ⟨vv, m0, rfl, hvv, hst'⟩ := xstR_cons hst
      obtain ⟨vi, m1, rfl, hvi, hst'⟩ := xstR_cons hst'
      obtain ⟨vw, m2, rfl, hvw, hr⟩ := xstR_cons hst'
      have e1 := xci_ok sv ex hbx hvi q1
      subst e1
      have hcl : (nI x).toNatClampNeg = x := nI_clamp (by omega)
      have hvv0 := hvv
      obtain ⟨b, hb2, rfl⟩ := xden.own sv ex hvv k2
      obtain ⟨a, ha, rfl⟩ := xden.own sv ex hvw k1
      obtain ⟨ee, he, hcr⟩ := xhR.at cl sv ex hh ha g1
      obtain ⟨ef, he2, hcr2⟩ := xhR.at cl sv ex hh hb2 g2
      obtain ⟨cA, rr, f, e0, e1, e2, e3⟩ := xcR.a20 cl sv ex hcr (by omega)
      subst e1
      obtain ⟨-, fs, e4, -, -⟩ := xcR.obj cl sv ex hcr2 g3
      subst e4
      have e0' : cl[eo.1]? = some rr := by rw [← e0]; congr 1; omega
      refine va_astq hex hb (xK1 hK e2) hP hD hS w.2 0 v.2 eo.1 he rfl he2 e0' (xin q2 g5) hdec (fun H1 locs1 hP1 hD1 hS1 => ?_)
      rw [hcl] at hP1 hD1
      exact xkk E g (fun _ z => z) (xle.rf _) hc hs ⟨hbx, xhR.set cl sv ex hh ha g1 (Or.inr (Or.inr (Or.inr (Or.inr ⟨by show 20 ≤ q.1; omega, cA, rr, _, e0, rfl, e2, xset20 (v := some b) e3 hvv0⟩)))), hP1, hD1, hS1⟩ ⟨hl, hr⟩
    · exact xksp E g
  | _ => cases hg
end Go4
end
section
/-! The step keeps its promise: calls, answers; and the whole -/
theorem xnos {L : List xleaf} (h : (none : xR) = some L) : False := by cases h
section Go5
variable {l : Launch} {D : va_G} {cl : List vw_C} {A : Nat → Prop} {sv : Nat → Int32} {ex : Nat → Nat} {el : Nat → Nat} {eb : Nat → List Nat} {nest : List (String × Nat × MethodName × String)} {txt : Nat → String × Nat × String} {ovr : List String}
variable {cd : xcd} {mi : xmi} {df : xdf} {bys : Nat → ByteArray} {nm : Nat → MethodName} {rtt : Nat → Option FieldType} {gw : List Cond}
variable {rec : xF} {y d pc : Nat} {ls : List (Nat × xv)} {st : List xv} {bx : xbox} {h : xheap} {n cn sn : Nat} {L : List xleaf}
variable {p : Program} {e : Env} {R : Room} {s : State} {m : MethodId} {args : Array Value} {below : List Frame} {meth : Method} {c : Code} {Q : State → Prop} {as : List Nat} {ws : va_W} {H : Heap} {locs : List Loc} {la : Array Slot} {stv : List Value}
def xGood (gw : List Cond) : Prop := ∀ w ∈ gw, (w.onTables && w.keeps) = true ∨ ∃ ty, w = .arrayClass ty
/-- a call, once its run is had -/
theorem xgo_fin (E : xStp l D cl A sv ex el eb nest txt ovr mi bys nm rtt gw rec y d ls st bx h n cn sn L p e R s m args below meth c Q as ws H locs la stv) {z : Nat} {ar rest : List xv} {av rv : List Value} (mok : xMok mi bys nm rtt gw z) (hx : x_go mi rec (pc + 3) y d ls bx h n cn sn z ar rest = some L) (har : xstR sv ex as ar av) (hre : xstR sv ex as rest rv)
    (run : ∀ (d' : Nat) (M : List xleaf), d = d' + 1 → Met l (nm z) (Cond.code (nm z) (bys z) (xu mi z).2.2.2.2.2 (rtt z) :: gw) ({ frames := d', cells := (xu mi z).1, slots := (xu mi z).2.1, locals := 43 * d' }) (xPc D cl A sv ex el eb nest txt ovr as h n av) (xQc D cl A sv ex as M) (xu mi z).1 (xu mi z).2.1 A →
      (rv.map fun v => v.category).sum ≤ 8 → cn + (xu mi z).1 ≤ R.cells ∧ sn + (xu mi z).2.1 ≤ R.slots → va_Run p l e R s m args below meth c H locs cn sn (xu mi z).1 (xu mi z).2.1 (F0 m pc la stv) rv (xQc D cl A sv ex as M av.toArray) A) : W p l e R s m args below meth c H locs cn sn Q (F0 m pc la stv) := by
  obtain ⟨hrec, ⟨hex, hb, hml, hown, hts, hK, hEX, hA, hnm, hRf, hRl, hRc, hRs⟩, hc, hs, ⟨hbx, hh, hP, hD, hS⟩, ⟨⟨lv, hl, hls⟩, hst⟩, hret⟩ := id E
  obtain ⟨d', q, u, M, g1, g2, g3, g4, g5, g6, g7, g8, g9⟩ := x_go_ok hx
  have hq := xu_of g2
  have hu := xu_of g3
  rw [← hq] at g6 g7
  rw [← hu] at g5 g6 g7 g9
  have hmet := xmet l D cl A sv ex el eb nest txt ovr mi bys nm rtt gw hrec g8 mok har g5 hbx
  refine xcallW (A := A) (run d' M g1 hmet (by rw [xwds_ok sv ex hre]; exact g4) ⟨by omega, by omega⟩) hS.2.2 (fun _ z => z) (fun v st₀ t H1 locs1 h0 ht hvm hqc hL => ?_)
  obtain ⟨⟨leaf, hleaf, as', ws', rv', hle, hb', hh', hP', hD', hoc, hrv⟩, hF⟩ := hqc
  have ev : v = rv' := by cases hoc; rfl
  subst ev
  obtain ⟨L', k1, k2⟩ := g9 leaf hleaf
  have hS' : va_S A s.heap H1 locs1 := by
    obtain ⟨f1, f2⟩ := hF
    rw [h0] at f1 f2
    rw [ht] at f1 f2
    exact ⟨Nat.le_trans hS.1 f1, fun a ha hna => (f2 a (Nat.lt_of_lt_of_le ha hS.1) hna).trans (hS.2.1 a ha hna), hL⟩
  refine xkk E k1 k2 hle g6 g7 ⟨hb', xhR.moved cl sv ex hvm.symm hh', by rw [← ht]; exact hP', hD', hS'⟩ ⟨⟨lv, hl, xlsR.mono sv ex hle hls⟩, ?_⟩
  cases hlr : leaf.2.2.2 with
  | none =>
    rw [hlr] at hrv
    have e : v = none := hrv
    subst e
    exact xstR.mono sv ex hle hre
  | some w =>
    rw [hlr] at hrv
    obtain ⟨v', rfl, hw⟩ := hrv
    exact ⟨hw, xstR.mono sv ex hle hre⟩
theorem xpre (E : xStp l D cl A sv ex el eb nest txt ovr mi bys nm rtt gw rec y d ls st bx h n cn sn L p e R s m args below meth c Q as ws H locs la stv) {av : List Value} : FrameBlind (xPc D cl A sv ex el eb nest txt ovr as h n av) ∧ ∀ U : State, U.heap = H → s.WarmedH U.vm → xPc D cl A sv ex el eb nest txt ovr as h n av av.toArray U := by
  obtain ⟨hrec, ⟨hex, hb, hml, hown, hts, hK, hEX, hA, hnm, hRf, hRl, hRc, hRs⟩, hc, hs, ⟨hbx, hh, hP, hD, hS⟩, hf, hret⟩ := id E
  refine ⟨fun a U g mk q => ?_, fun U hU hW => ?_⟩
  · obtain ⟨q1, ⟨ws', q2, q3, q4⟩, q5, q6, q7⟩ := q
    exact ⟨q1, ⟨ws', xhR.moved cl sv ex (u := U) (U := U.calling g mk a) (Vm.Alike.refl U.vm) q2, q3, q4⟩, va_K.moved (u := U) (U := U.calling g mk a) (Vm.Alike.refl U.vm) q5, xEX.same A sv ex rfl rfl q6, q7⟩
  · refine ⟨rfl, ⟨ws, xhR.moved cl sv ex hW.alike hh, by rw [hU]; exact hP, hD⟩, va_K.moved hW.alike hK, xEX.moved A sv ex hW (by rw [hU]; exact hS.1) (fun a ha hna => by rw [hU]; exact hS.2.1 a ha hna) hEX, fun q hq => hA q (by rw [hU] at hq; exact Nat.le_trans hS.1 hq)⟩
theorem xpay (hg : xGood gw) {z : Nat} (hts : ∀ w ∈ gw, w.before args s = true) (mok : xMok mi bys nm rtt gw z) : ∀ w ∈ (Cond.code (nm z) (bys z) (xu mi z).2.2.2.2.2 (rtt z) :: gw), ∀ (a' : Array Value) (U : State), s.WarmedH U.vm → w.before a' U = true := by
  intro w hw a' U hW
  have hm : w ∈ gw := by
    rcases List.mem_cons.mp hw with e | e
    · rw [e]; exact mok.1
    · exact e
  exact word_at hW (hg w hm) (hts w hm)
def xg6 : Instr → Bool
  | .invokevirtual _ => true
  | .invokespecial _ => true
  | .invokestatic _ => true
  | .return_ => true
  | .ireturn => true
  | .lreturn => true
  | _ => false
theorem xva_cpy_in {α : Type} {f g : Nat → α} {sp dp k j : Nat} (h : dp ≤ j) (h2 : j < dp + k) : va_cpy f g sp dp k j = f (sp + (j - dp)) := pk_cpy_in h h2
set_option maxHeartbeats 8000000 in
theorem xf6 (hgw : xGood gw) (E : xStp l D cl A sv ex el eb nest txt ovr mi bys nm rtt gw rec y d ls st bx h n cn sn L p e R s m args below meth c Q as ws H locs la stv) {ins : Instr} {len tg r1 r2 : Nat} (hg : xg6 ins = true) (hdec : decode (bys y) pc = .ok (ins, len)) (hI : xI cl nest txt ovr mi df bys nm rtt gw y pc ins len tg r1 r2)
    (hx : xex mi df el eb rec ins (pc + len) tg r1 r2 y d pc ls st bx h n cn sn = some L) : W p l e R s m args below meth c H locs cn sn Q (F0 m pc la stv) := by
  obtain ⟨hrec, ⟨hex, hb, hml, hown, hts, hK, hEX, hA, hnm, hRf, hRl, hRc, hRs⟩, hc, hs, ⟨hbx, hh, hP, hD, hS⟩, ⟨⟨lv, hl, hls⟩, hst⟩, hret⟩ := id E
  cases ins with
  | invokevirtual i =>
    obtain ⟨rfl, mok, f1, f2, f3, f4, f5⟩ := hI
    obtain ⟨u, q, g1, g2, g3, g4⟩ := x_call_ok hx
    have hu := xu_of g1
    obtain ⟨w, l2, g5, g6⟩ := g4 rfl
    obtain ⟨aV, rV, a1, a2, a3, a4⟩ := xpop_ok sv ex _ (acc := []) (accV := []) trivial hst g2
    rw [g5] at a1 g3
    obtain ⟨b0, aV', rfl, hw, har⟩ := xstR_cons a1
    have hsk : stv = aV'.reverse ++ b0 :: rV := by
      have := a3.symm
      simpa using this
    have hlen : aV'.length = (xu mi r1).2.2.1 := by
      rw [hu]
      have := a4
      simp at this
      exact this
    have hrc : ∃ b : Nat, b0 = .ref b ∧ ∃ cellB : Cell, H[b]? = some cellB ∧ cellB.vm.isStatics = false ∧ s.vm.findClass (nm r1).cls = some cellB.cls := by
      have g6 : xrcv u.2.2.2.1 h w = true := g6
      unfold xrcv at g6
      cases hw4 : Nat.beq w.1 4 with
      | true =>
        rw [hw4] at g6
        simp only [cond_true] at g6
        cases hq : xg h w.2 with
        | none => rw [hq] at g6; cases g6
        | some qo =>
          rw [hq] at g6
          obtain ⟨k1, k2⟩ := xand g6
          obtain ⟨a, ha, rfl⟩ := xden.own sv ex hw (xeqb hw4)
          obtain ⟨ee, he, hcr⟩ := xhR.at cl sv ex hh ha hq
          have ek : qo.1 = (xu mi r1).2.2.2.1 := by rw [hu]; exact xeqb k1
          have ek13 : (xu mi r1).2.2.2.1 < 13 := by rw [hu]; exact xltb k2
          obtain ⟨-, fs, e4, -, -⟩ := xcR.obj cl sv ex hcr (by rw [ek]; exact ek13)
          subst e4
          obtain ⟨rr, e1, e2⟩ := f4 ek13
          rw [← e2]
          exact ⟨a, rfl, va_recv hK hP (by rw [← ek] at e1; exact e1) he⟩
      | false =>
        rw [hw4] at g6
        simp only [cond_false] at g6
        obtain ⟨k1, k2⟩ := xand g6
        obtain ⟨k3, k4⟩ := xand k1
        have hv2 := xden.ext sv ex hw (xeqb k3)
        subst hv2
        rw [f5 (by rw [hu]; exact xeqb k2)]
        obtain ⟨cell, h1, h2, h3, -⟩ := (hEX.2.2.2.1 w.2 ((xor2 k4).imp xeqb xeqb)).1.kept hS.2.1
        exact ⟨ex w.2, rfl, cell, h1, h2, h3⟩
    obtain ⟨b, rfl, hcell⟩ := hrc
    refine xgo_fin E mok g3 (av := .ref b :: aV') ⟨hw, har⟩ a2 (fun d' M ed hmet h8 hroom => ?_)
    have hp := xpre E (av := .ref b :: aV')
    refine va_runV (As := aV') (rest := rV) (n := (xu mi r1).2.2.1) (C := (nm r1).cls) (bytes := bys r1) (maxL := (xu mi r1).2.2.2.2.2) (ret := rtt r1) ⟨hex, hb, hml, hown, hts⟩ hmet ⟨⟨rfl, rfl, by show d' + 1 ≤ _; omega, by have := mok.2.2.2.2.2.2; show 8 + ((xu mi r1).2.2.2.2.2 + 11) + 43 * d' ≤ _; omega, xpay hgw hts mok, List.mem_cons_self, hts _ mok.1, hts _ mok.2.1, ⟨mok.2.2.2.1, mok.2.2.2.2.1⟩, fun sig hsig => ?_, hts _ f1⟩, hts _ f2, hts _ f3⟩ ⟨hp.1, hcell, hp.2⟩ rfl hlen hl.1 hsk (lv_room h8) hdec hroom
    have hd := mok.2.2.2.2.2.1
    rw [hsig] at hd
    exact (Option.some.inj hd).symm
  | invokespecial i =>
    obtain ⟨rfl, f1, f2⟩ := hI
    have hx : cond (Nat.beq r2 6) (x_oin rec (pc + 3) y d ls st bx h n cn sn) (x_call mi rec (pc + 3) r1 y d ls st bx h n cn sn true false) = some L := hx
    cases h6 : Nat.beq r2 6 with
    | true =>
      rw [h6] at hx
      obtain ⟨w, r, rfl, g1, g2, g3, g⟩ := x_oin_ok hx
      obtain ⟨v, m1, rfl, hv, hr⟩ := xstR_cons hst
      obtain ⟨a, ha, rfl⟩ := xden.own sv ex hv g1
      obtain ⟨k1, k2, k3⟩ := f1 (xeqb h6)
      have h8 := lv_room (m := m) (pc := pc) (ls := la) (rest := .ref a :: m1) (st := m1) (by rw [xwds_ok sv ex hr]; exact g2)
      exact W.objInit hex hb hown (hts _ k1) (hts _ k2) (hts _ k3) (g := F0 m pc la (.ref a :: m1)) rfl (hl.1.trans hml.symm) rfl hdec (by omega) (by omega) (xk0 E g ⟨⟨lv, hl, hls⟩, hr⟩)
    | false =>
      rw [h6] at hx
      obtain ⟨mok, k1, k2, k3, k4, k5⟩ := f2 (xneb h6)
      obtain ⟨u, q, g1, g2, g3, g4⟩ := x_call_ok hx
      have hu := xu_of g1
      obtain ⟨w, l2, g5, g6⟩ := g4 rfl
      obtain ⟨aV, rV, a1, a2, a3, a4⟩ := xpop_ok sv ex _ (acc := []) (accV := []) trivial hst g2
      rw [g5] at a1 g3
      obtain ⟨b0, aV', rfl, hw, har⟩ := xstR_cons a1
      have hsk : stv = aV'.reverse ++ b0 :: rV := by
        have := a3.symm
        simpa using this
      have hlen : aV'.length = (xu mi r1).2.2.1 := by
        rw [hu]
        have := a4
        simp at this
        exact this
      obtain ⟨b, hab, rfl⟩ := xden.own sv ex hw (xeqb g6)
      refine xgo_fin E mok g3 (av := .ref b :: aV') ⟨hw, har⟩ a2 (fun d' M ed hmet h8 hroom => ?_)
      have hp := xpre E (av := .ref b :: aV')
      have hd := mok.2.2.2.2.2.1
      have hn : ∀ sig, parseMethodDescriptor (nm r1).desc = some sig → (xu mi r1).2.2.1 = sig.parameters.length := fun sig hsig => by
        rw [hsig] at hd
        exact (Option.some.inj hd).symm
      have hpay := xpay hgw hts mok
      have hcode := mok.1
      have hfr : d' + 1 ≤ R.frames := by omega
      have hlo : 8 + ((xu mi r1).2.2.2.2.2 + 11) + 43 * d' ≤ R.locals := by have := mok.2.2.2.2.2.2; omega
      rw [k1] at hmet hpay hcode
      by_cases h5 : r2 = 5
      · obtain ⟨host, hhost⟩ := k5 h5
        exact va_runIN (As := aV') (rest := rV) (n := (xu mi r1).2.2.1) (host := host) (bytes := bys r1) (maxL := (xu mi r1).2.2.2.2.2) ⟨hex, hb, hml, hown, hts⟩ hmet ⟨⟨⟨rfl, rfl, hfr, hlo, hpay, List.mem_cons_self⟩, hts _ hcode, hts _ mok.2.1, ⟨mok.2.2.2.1, mok.2.2.2.2.1⟩, hn, va_Nw.use rfl (hEX.2.2.2.2.2.1 _ hhost)⟩, k2, hts _ k3⟩ hp rfl hlen hl.1 hsk (lv_room h8) hdec hroom
      · exact va_runI (As := aV') (rest := rV) (n := (xu mi r1).2.2.1) (bytes := bys r1) (maxL := (xu mi r1).2.2.2.2.2) ⟨hex, hb, hml, hown, hts⟩ hmet ⟨⟨rfl, rfl, hfr, hlo, hpay, List.mem_cons_self, hts _ hcode, hts _ mok.2.1, ⟨mok.2.2.2.1, mok.2.2.2.2.1⟩, hn, hts _ (k4 h5)⟩, k2, hts _ k3⟩ hp rfl hlen hl.1 hsk (lv_room h8) hdec hroom
  | invokestatic i =>
    obtain ⟨rfl, f1, f2⟩ := hI
    have hx : cond (Nat.beq r2 8) (x_cpy rec (pc + 3) y d ls st bx h n cn sn) (x_call mi rec (pc + 3) r1 y d ls st bx h n cn sn false false) = some L := hx
    cases h6 : Nat.beq r2 8 with
    | true =>
      rw [h6] at hx
      obtain ⟨k1, k2, k3, k4⟩ := f1 (xeqb h6)
      obtain ⟨wm, vd, wb, vs, wa, r, mm, dp, sp, qa, qb, rfl, h1, h2, h3, ha4, hb4, hr8, hd1, hqa, hqb, hkd, hkd2, b1, b2, b3, b4, g⟩ := x_cpy_ok hx
      obtain ⟨vm1, m1, rfl, hvm1, hst'⟩ := xstR_cons hst
      obtain ⟨vd1, m2, rfl, hvd1, hst'⟩ := xstR_cons hst'
      obtain ⟨vb1, m3, rfl, hvb1, hst'⟩ := xstR_cons hst'
      obtain ⟨vs1, m4, rfl, hvs1, hst'⟩ := xstR_cons hst'
      obtain ⟨va1, m5, rfl, hva1, hr⟩ := xstR_cons hst'
      have e1 := xci_ok sv ex hbx hvm1 h1
      have e2 := xci_ok sv ex hbx hvd1 h2
      have e3 := xci_ok sv ex hbx hvs1 h3
      subst e1; subst e2; subst e3
      obtain ⟨a, haa, rfl⟩ := xden.own sv ex hva1 ha4
      obtain ⟨b, hbb, rfl⟩ := xden.own sv ex hvb1 hb4
      obtain ⟨ea, hea, hcra⟩ := xhR.at cl sv ex hh haa hqa
      obtain ⟨eb', heb, hcrb⟩ := xhR.at cl sv ex hh hbb hqb
      have c1 : (nI mm).toNatClampNeg = mm := nI_clamp (by omega)
      have c2 : (nI dp).toNatClampNeg = dp := nI_clamp (by omega)
      have c3 : (nI sp).toNatClampNeg = sp := nI_clamp (by omega)
      have hw8 : (m5.map fun v => v.category).sum + (nativeFrameWords "java/lang/System" "arraycopy" 5 + 11) ≤ R.locals := by
        rw [xwds_ok sv ex hr]
        have : nativeFrameWords "java/lang/System" "arraycopy" 5 = 7 := by decide +kernel
        omega
      rcases hkd with hkd | hkd
      · obtain ⟨cA, f, e1, e2, e3⟩ := xcR.a13 cl sv ex hcra hkd
        obtain ⟨cB, fb, e4, e5, e6⟩ := xcR.a13 cl sv ex hcrb (by omega)
        subst e1; subst e4
        obtain ⟨t, g1, g2, g3⟩ := xcp_ok mm sp dp qb.2.2 g (fun j j1 j2 => by obtain ⟨w3, a1, -⟩ := e6 j (by omega); exact ⟨w3, a1⟩)
        rw [xsK_eq] at g1
        have hK2 : va_K D cl [(cA, .int), (cB, .int)] s := (xK1 hK e2).app (xK1 hK e5)
        refine va_copyi hex hb (hml.trans hl.1.symm) hown (hts _ k1) (hts _ k2) (hts _ k3) (hts _ k4) hK2 hP hD hS wa.2 wb.2 0 1 hea heb rfl rfl rfl (nI_pos (by omega)) (nI_pos (by omega)) (nI_pos (by omega)) (by rw [c3, c1]; exact b1) (by rw [c2, c1]; exact b2) (fun _ _ => rfl) (by omega) hw8 hdec (fun H1 locs1 hP1 hD1 hS1 => ?_)
        rw [c1, c2, c3] at hP1 hD1
        refine xkk E g1 (fun _ z => z) (xle.rf _) hc hs ⟨hbx, xhR.set cl sv ex hh hbb hqb (Or.inr (Or.inl ⟨by show qb.1 = 13; omega, cB, _, rfl, e5, fun j hj => ?_⟩)), hP1, hD1, hS1⟩ ⟨⟨lv, hl, hls⟩, hr⟩
        have hj : j < qb.2.1 := hj
        by_cases hin : dp ≤ j ∧ j < dp + mm
        · obtain ⟨w3, a1, a2⟩ := e3 (sp + (j - dp)) (by omega)
          exact ⟨w3, by rw [show ((qb.1, qb.2.1, t) : xcell).2.2 = t from rfl, g2 j hin.1 hin.2]; exact a1, by rw [pk_cpy_in hin.1 hin.2]; exact a2⟩
        · obtain ⟨w3, a1, a2⟩ := e6 j hj
          exact ⟨w3, by rw [show ((qb.1, qb.2.1, t) : xcell).2.2 = t from rfl, g3 j (by omega)]; exact a1, by rw [pk_cpy_out (by omega)]; exact a2⟩
      · obtain ⟨cA, f, e1, e2, e3⟩ := xcR.a14 cl sv ex hcra hkd
        obtain ⟨cB, fb, e4, e5, e6⟩ := xcR.a14 cl sv ex hcrb (by omega)
        subst e1; subst e4
        obtain ⟨t, g1, g2, g3⟩ := xcp_ok mm sp dp qb.2.2 g (fun j j1 j2 => by obtain ⟨w3, a1, -⟩ := e6 j (by omega); exact ⟨w3, a1⟩)
        rw [xsK_eq] at g1
        have hK2 : va_K D cl [(cA, .long), (cB, .long)] s := (xK1 hK e2).app (xK1 hK e5)
        refine va_copyl hex hb (hml.trans hl.1.symm) hown (hts _ k1) (hts _ k2) (hts _ k3) (hts _ k4) hK2 hP hD hS wa.2 wb.2 0 1 hea heb rfl rfl rfl (nI_pos (by omega)) (nI_pos (by omega)) (nI_pos (by omega)) (by rw [c3, c1]; exact b1) (by rw [c2, c1]; exact b2) (fun _ _ => rfl) (by omega) hw8 hdec (fun H1 locs1 hP1 hD1 hS1 => ?_)
        rw [c1, c2, c3] at hP1 hD1
        refine xkk E g1 (fun _ z => z) (xle.rf _) hc hs ⟨hbx, xhR.set cl sv ex hh hbb hqb (Or.inr (Or.inr (Or.inl ⟨by show qb.1 = 14; omega, cB, _, rfl, e5, fun j hj => ?_⟩))), hP1, hD1, hS1⟩ ⟨⟨lv, hl, hls⟩, hr⟩
        have hj : j < qb.2.1 := hj
        by_cases hin : dp ≤ j ∧ j < dp + mm
        · obtain ⟨w3, a1, a2⟩ := e3 (sp + (j - dp)) (by omega)
          exact ⟨w3, by rw [show ((qb.1, qb.2.1, t) : xcell).2.2 = t from rfl, g2 j hin.1 hin.2]; exact a1, by rw [pk_cpy_in hin.1 hin.2]; exact a2⟩
        · obtain ⟨w3, a1, a2⟩ := e6 j hj
          exact ⟨w3, by rw [show ((qb.1, qb.2.1, t) : xcell).2.2 = t from rfl, g3 j (by omega)]; exact a1, by rw [pk_cpy_out (by omega)]; exact a2⟩
    | false =>
      rw [h6] at hx
      obtain ⟨mok, k1, k2⟩ := f2 (xneb h6)
      obtain ⟨u, q, g1, g2, g3, -⟩ := x_call_ok hx
      have hu := xu_of g1
      obtain ⟨aV, rV, a1, a2, a3, a4⟩ := xpop_ok sv ex _ (acc := []) (accV := []) trivial hst g2
      have hsk : stv = aV.reverse ++ rV := by
        have := a3.symm
        simpa using this
      have hlen : aV.length = (xu mi r1).2.2.1 := by
        rw [hu]
        have := a4
        simp at this
        exact this
      refine xgo_fin E mok g3 (av := aV) a1 a2 (fun d' M ed hmet h8 hroom => ?_)
      have hp := xpre E (av := aV)
      have hd := mok.2.2.2.2.2.1
      have hn : ∀ sig, parseMethodDescriptor (nm r1).desc = some sig → (xu mi r1).2.2.1 = sig.parameters.length := fun sig hsig => by
        rw [hsig] at hd
        exact (Option.some.inj hd).symm
      have hfr : d' + 1 ≤ R.frames := by omega
      have hlo : 8 + ((xu mi r1).2.2.2.2.2 + 11) + 43 * d' ≤ R.locals := by have := mok.2.2.2.2.2.2; omega
      exact va_runS (As := aV) (rest := rV) (n := (xu mi r1).2.2.1) (bytes := bys r1) (maxL := (xu mi r1).2.2.2.2.2) (ret := rtt r1) ⟨hex, hb, hml, hown, hts⟩ hmet ⟨⟨rfl, rfl, hfr, hlo, xpay hgw hts mok, List.mem_cons_self, hts _ mok.1, hts _ mok.2.1, ⟨mok.2.2.2.1, mok.2.2.2.2.1⟩, hn, hts _ k1⟩, hts _ k2⟩ hp rfl hlen hl.1 hsk (lv_room h8) hdec hroom
  | return_ =>
    obtain ⟨rfl, f1⟩ := hI
    obtain ⟨g1, rfl, rfl⟩ := x_ret_ok hx
    have := xstR_nil hst
    subst this
    exact hret (bx, h, n, none) List.mem_cons_self as ws H locs cn sn pc la none (xle.rf _) ⟨hbx, hh, hP, hD, hS⟩ hc hs (Or.inl ⟨f1 g1, rfl, rfl, hdec⟩)
  | ireturn =>
    obtain ⟨rfl, f1, f3, f4, f5⟩ := hI
    obtain ⟨w, rfl, g1, rfl⟩ := x_iret_ok hx
    obtain ⟨v, m1, rfl, hv, hr⟩ := xstR_cons hst
    have := xstR_nil hr
    subst this
    have key : ∃ (x : Int32) (ty : FieldType), v = .int x ∧ rtt y = some ty ∧ narrow ty (.int x) = .int x := by
      unfold xrok at g1
      split at g1
      · rename_i e1
        obtain ⟨x, rfl⟩ := xden.int sv ex hv (xeqb g1)
        exact ⟨x, .int, rfl, f1 e1, rfl⟩
      · rename_i e1
        obtain ⟨k1, k2⟩ := xand g1
        obtain ⟨t, k⟩ := w
        have e2 : t = 0 := xeqb k1
        subst e2
        have e3 : v = .int (nI k) := hv
        refine ⟨nI k, .boolean, e3, f3 e1, ?_⟩
        rcases nI_bool (xleb k2) with z | z <;> rw [z] <;> rfl
      · rename_i e1
        obtain ⟨k1, k2⟩ := xand g1
        obtain ⟨t, k⟩ := w
        have e2 : t = 0 := xeqb k1
        subst e2
        have e3 : v = .int (nI k) := hv
        exact ⟨nI k, .char, e3, f4 e1, xr1 (xltb k2)⟩
      · rename_i e1
        obtain ⟨k1, k2⟩ := xand g1
        obtain ⟨t, k⟩ := w
        have e2 : t = 0 := xeqb k1
        subst e2
        have e3 : v = .int (nI k) := hv
        exact ⟨nI k, .byte, e3, f5 e1, xr2 (xltb k2)⟩
      · cases g1
    obtain ⟨x, ty, rfl, e1, e2⟩ := key
    exact hret (bx, h, n, some w) List.mem_cons_self as ws H locs cn sn pc la (some (.int x)) (xle.rf _) ⟨hbx, hh, hP, hD, hS⟩ hc hs (Or.inr (Or.inl ⟨w, x, ty, e1, rfl, rfl, hv, e2, hdec⟩))
  | lreturn =>
    obtain ⟨rfl, f1⟩ := hI
    obtain ⟨w, rfl, g1, g2, rfl⟩ := x_lret_ok hx
    obtain ⟨v, m1, rfl, hv, hr⟩ := xstR_cons hst
    have := xstR_nil hr
    subst this
    obtain ⟨x, rfl⟩ := xden.long sv ex hv g2
    exact hret (bx, h, n, some w) List.mem_cons_self as ws H locs cn sn pc la (some (.long x)) (xle.rf _) ⟨hbx, hh, hP, hD, hS⟩ hc hs (Or.inr (Or.inr ⟨w, x, f1 g1, rfl, rfl, hv, hdec⟩))
  | _ => cases hg
set_option maxHeartbeats 4000000 in
theorem xstep_snd (hgw : xGood gw) (hOK : xOK cl nest txt ovr cd mi df bys nm rtt gw) (hrec : xSnd l D cl A sv ex el eb nest txt ovr mi bys nm rtt gw rec) : xSnd l D cl A sv ex el eb nest txt ovr mi bys nm rtt gw (xstep cd mi df el eb rec) := by
  intro y d pc ls st bx h n cn sn L hx p e R s m args below meth c Q as ws H locs la stv hC hc hs hw hf hr
  unfold xstep at hx
  cases ht : xg cd y with
  | none => rw [ht] at hx; cases hx
  | some t =>
    rw [ht] at hx
    dsimp only at hx
    cases he : xg t pc with
    | none => rw [he] at hx; cases hx
    | some e1 =>
      rw [he] at hx
      dsimp only at hx
      obtain ⟨len, hnx, hdec, hI⟩ := hOK y t pc e1 ht he
      have E : xStp l D cl A sv ex el eb nest txt ovr mi bys nm rtt gw rec y d ls st bx h n cn sn L p e R s m args below meth c Q as ws H locs la stv := ⟨hrec, hC, hc, hs, hw, hf, hr⟩
      rw [hnx] at hx
      generalize e1.1 = ins at hx hdec hI
      by_cases h1 : xg1 ins = true
      · exact xf1 E h1 hdec hI hx
      by_cases h2 : xg2 ins = true
      · exact xf2 E h2 hdec hI hx
      by_cases h3 : xg3 ins = true
      · exact xf3 E h3 hdec hI hx
      by_cases h4 : xg4 ins = true
      · exact xf4 E h4 hdec hI hx
      by_cases h5 : xg5 ins = true
      · exact xf5 E h5 hdec hI hx
      by_cases h6 : xg6 ins = true
      · exact xf6 hgw E h6 hdec hI hx
      exfalso
      cases ins <;> first | exact h1 rfl | exact h2 rfl | exact h3 rfl | exact h4 rfl | exact h5 rfl | exact h6 rfl | exact xnos hx
theorem xrun_snd (hgw : xGood gw) (hOK : xOK cl nest txt ovr cd mi df bys nm rtt gw) : ∀ f : Nat, xSnd l D cl A sv ex el eb nest txt ovr mi bys nm rtt gw (xrun cd mi df el eb f)
  | 0 => fun _ _ _ _ _ _ _ _ _ _ _ hx => (xnos hx).elim
  | f + 1 => xstep_snd hgw hOK (xrun_snd hgw hOK f)
end Go5
end
section
/-! Runs over plain numbers: a value is a tag and an Int; the heap's numbers are a function of cell and place over fixed cells -/
abbrev cv : Type := Nat × Int
abbrev cg : Type := Nat → Nat → Int
def c32 (z : Int) : Nat := (z % 4294967296).toNat
def c64 (z : Int) : Nat := (z % 18446744073709551616).toNat
def i32 (z : Int) : Int32 := nI (c32 z)
def i64 (z : Int) : Int64 := lN (c64 z)
def cI (z : Int) : Prop := -2147483648 ≤ z ∧ z < 2147483648
def cL (z : Int) : Prop := -9223372036854775808 ≤ z ∧ z < 9223372036854775808
theorem i32_int {z : Int} (h : cI z) : (i32 z).toInt = z := by
  unfold i32
  rw [nI_int]
  unfold c32
  unfold cI at h
  split <;> omega
theorem i64_int {z : Int} (h : cL z) : (i64 z).toInt = z := by
  unfold i64
  rw [lN_int]
  unfold c64
  unfold cL at h
  split <;> omega
theorem cI_of (x : Int32) : cI x.toInt := i32_lo x
theorem cL_of (x : Int64) : cL x.toInt := i64_lo x
theorem i32_of (x : Int32) : i32 x.toInt = x := Int32.toInt_inj.mp (i32_int (cI_of x))
theorem i64_of (x : Int64) : i64 x.toInt = x := Int64.toInt_inj.mp (i64_int (cL_of x))
def cenc (v : cv) : xv := match v.1 with
  | 0 => (0, c32 v.2)
  | 2 => (2, c64 v.2)
  | t => (t, v.2.toNat)
theorem cenc_1 : ∀ v : cv, (cenc v).1 = v.1
  | (0, _) => rfl
  | (1, _) => rfl
  | (2, _) => rfl
  | (_ + 3, _) => rfl
theorem cenc_4 (k : Nat) : cenc (4, (k : Int)) = (4, k) := rfl
theorem cenc_6 (k : Nat) : cenc (6, (k : Int)) = (6, k) := rfl
def cle (q : Nat × cv) : Nat × xv := (q.1, cenc q.2)
/-- what may stand for what -/
def xim (sv : Nat → Int32) (w w' : xv) : Prop := w = w' ∨ (w.1 = 1 ∧ w' = (0, xnu (sv w.2))) ∨ (w.1 = 0 ∧ w'.1 = 0 ∧ nI w.2 = nI w'.2) ∨ (w.1 = 2 ∧ w'.1 = 2 ∧ lN w.2 = lN w'.2)
def ximS (sv : Nat → Int32) : List xv → List xv → Prop
  | [], [] => True
  | w :: l, v :: m => xim sv w v ∧ ximS sv l m
  | _, _ => False
theorem ximS.rf (sv : Nat → Int32) : ∀ l, ximS sv l l
  | [] => trivial
  | _ :: l => ⟨Or.inl rfl, ximS.rf sv l⟩
theorem xim_ok {sv : Nat → Int32} {ex : Nat → Nat} {as : List Nat} {w w' : xv} {v : Value} (h : xim sv w w') (hv : xden sv ex as w v) : xden sv ex as w' v := by
  obtain ⟨t, k⟩ := w
  obtain ⟨t', k'⟩ := w'
  rcases h with h | ⟨h1, h2⟩ | ⟨h1, h2, h3⟩ | ⟨h1, h2, h3⟩
  · rw [← h]; exact hv
  · have h1 : t = 1 := h1
    subst h1
    rw [h2]
    show v = .int (nI (xnu _))
    rw [nI_xnu]; exact hv
  · have h1 : t = 0 := h1
    have h2 : t' = 0 := h2
    subst h1; subst h2
    have hv : v = .int (nI k) := hv
    show v = .int (nI k')
    rw [hv]; exact congrArg _ h3
  · have h1 : t = 2 := h1
    have h2 : t' = 2 := h2
    subst h1; subst h2
    have hv : v = .long (lN k) := hv
    show v = .long (lN k')
    rw [hv]; exact congrArg _ h3
abbrev xG : Type := Nat → Nat → Nat → List (Nat × xv) → List xv → xbox → xheap → Nat → Nat → Nat → List xleaf → Prop
def cG1 (cd : xcd) (mi : xmi) (df : xdf) (el : Nat → Nat) (eb : Nat → List Nat) (G : xG) : Prop :=
  ∀ rec : xF, (∀ (y d pc : Nat) (ls : List (Nat × xv)) (st : List xv) (bx : xbox) (h : xheap) (n c s : Nat) (L : List xleaf), rec y d pc ls st bx h n c s = some L → G y d pc ls st bx h n c s L) → ∀ (y d pc : Nat) (ls : List (Nat × xv)) (st : List xv) (bx : xbox) (h : xheap) (n c s : Nat) (L : List xleaf), xstep cd mi df el eb rec y d pc ls st bx h n c s = some L → G y d pc ls st bx h n c s L
def cG2 (sv : Nat → Int32) (G : xG) : Prop :=
  ∀ (y d pc : Nat) (ls ls' : List (Nat × xv)) (st st' : List xv) (bx : xbox) (h : xheap) (n c s : Nat) (L : List xleaf), (∀ q' ∈ ls', ∃ q ∈ ls, q.1 = q'.1 ∧ xim sv q.2 q'.2) → ximS sv st st' → G y d pc ls' st' bx h n c s L → G y d pc ls st bx h n c s L
section GoG
variable {l : Launch} {D : va_G} {cl : List vw_C} {A : Nat → Prop} {sv : Nat → Int32} {ex : Nat → Nat} {el : Nat → Nat} {eb : Nat → List Nat} {nest : List (String × Nat × MethodName × String)} {txt : Nat → String × Nat × String} {ovr : List String}
variable {cd : xcd} {mi : xmi} {df : xdf} {bys : Nat → ByteArray} {nm : Nat → MethodName} {rtt : Nat → Option FieldType} {gw : List Cond}
theorem xGo_1 (hgw : xGood gw) (hOK : xOK cl nest txt ovr cd mi df bys nm rtt gw) : cG1 cd mi df el eb (xGo l D cl A sv ex el eb nest txt ovr mi bys nm rtt gw) :=
  fun _ hrec => xstep_snd hgw hOK hrec
theorem ximS_ok {as : List Nat} : ∀ {a a' : List xv} {b : List Value}, ximS sv a a' → xstR sv ex as a b → xstR sv ex as a' b
  | [], [], [], _, _ => trivial
  | [], [], _ :: _, _, h => h.elim
  | [], _ :: _, _, h, _ => h.elim
  | _ :: _, [], _, h, _ => h.elim
  | _ :: _, _ :: _, [], _, h => h.elim
  | w :: l, w' :: l', v :: m, h, k => ⟨xim_ok h.1 k.1, ximS_ok h.2 k.2⟩
theorem xlsR_mem {as : List Nat} : ∀ {a : List (Nat × xv)} {b : List (Nat × Value)}, xlsR sv ex as a b → ∀ q ∈ a, ∃ v, (q.1, v) ∈ b ∧ xden sv ex as q.2 v
  | [], _, _, q, hq => absurd hq (List.not_mem_nil)
  | _ :: _, [], h, _, _ => h.elim
  | p :: l, r :: m, h, q, hq => by
    rcases List.mem_cons.mp hq with e | hq
    · subst e
      refine ⟨r.2, ?_, h.2.1⟩
      have : r = (q.1, r.2) := by rw [← h.1]
      rw [← this]
      exact List.mem_cons_self
    · obtain ⟨v, h1, h2⟩ := xlsR_mem h.2.2 q hq
      exact ⟨v, List.mem_cons_of_mem _ h1, h2⟩
theorem xlsR_sub {as : List Nat} {b : List (Nat × Value)} : ∀ {a : List (Nat × xv)}, (∀ q ∈ a, ∃ v, (q.1, v) ∈ b ∧ xden sv ex as q.2 v) → ∃ b', (∀ r ∈ b', r ∈ b) ∧ xlsR sv ex as a b'
  | [], _ => ⟨[], fun _ h => absurd h (List.not_mem_nil), trivial⟩
  | q :: l, h => by
    obtain ⟨v, h1, h2⟩ := h q List.mem_cons_self
    obtain ⟨b', h3, h4⟩ := xlsR_sub (fun p hp => h p (List.mem_cons_of_mem _ hp))
    refine ⟨(q.1, v) :: b', fun r hr => ?_, rfl, h2, h4⟩
    rcases List.mem_cons.mp hr with e | hr
    · rw [e]; exact h1
    · exact h3 r hr
theorem xGo_2 : cG2 sv (xGo l D cl A sv ex el eb nest txt ovr mi bys nm rtt gw) := by
  intro y d pc ls ls' st st' bx h n c s L hls hst hG p e R s0 m args below meth co Q as ws H locs la stv hC hc hs hw hf hr
  obtain ⟨⟨lv, h1, h2⟩, h3⟩ := hf
  obtain ⟨lv', h4, h5⟩ := xlsR_sub (sv := sv) (ex := ex) (as := as) (b := lv) (a := ls') (fun q' hq' => by
    obtain ⟨q, g1, g2, g3⟩ := hls q' hq'
    obtain ⟨v, g4, g5⟩ := xlsR_mem h2 q g1
    exact ⟨v, by rw [← g2]; exact g4, xim_ok g3 g5⟩)
  exact hG p e R s0 m args below meth co Q as ws H locs la stv hC hc hs hw ⟨⟨lv', ⟨h1.1, h1.2.1, fun q hq => h1.2.2 q (h4 q hq)⟩, h5⟩, ximS_ok hst h3⟩ hr
end GoG
/-- a run that knows one or two states -/
noncomputable def xtwo (S T : Nat × Nat × Nat × List (Nat × xv) × List xv × xbox × xheap × Nat × Nat × Nat) (L M : List xleaf) : xF := fun y d pc ls st bx h n c s =>
  @ite _ ((y, d, pc, ls, st, bx, h, n, c, s) = S) (Classical.propDecidable _) (some L) (@ite _ ((y, d, pc, ls, st, bx, h, n, c, s) = T) (Classical.propDecidable _) (some M) none)
theorem xtwo_1 {y d pc : Nat} {ls : List (Nat × xv)} {st : List xv} {bx : xbox} {h : xheap} {n c s : Nat} {T : Nat × Nat × Nat × List (Nat × xv) × List xv × xbox × xheap × Nat × Nat × Nat} {L M : List xleaf} : xtwo (y, d, pc, ls, st, bx, h, n, c, s) T L M y d pc ls st bx h n c s = some L := by
  unfold xtwo; rw [if_pos rfl]
theorem xtwo_2 {y d pc : Nat} {ls : List (Nat × xv)} {st : List xv} {bx : xbox} {h : xheap} {n c s : Nat} {S : Nat × Nat × Nat × List (Nat × xv) × List xv × xbox × xheap × Nat × Nat × Nat} {L M : List xleaf} (hd : S.2.1 ≠ d) : xtwo S (y, d, pc, ls, st, bx, h, n, c, s) L M y d pc ls st bx h n c s = some M := by
  unfold xtwo
  rw [if_neg (fun e => hd (by rw [← e])), if_pos rfl]
theorem xtwo_ok {G : xG} {y d pc y' d' pc' : Nat} {ls ls' : List (Nat × xv)} {st st' : List xv} {bx bx' : xbox} {h h' : xheap} {n c s n' c' s' : Nat} {L M : List xleaf} (h1 : G y d pc ls st bx h n c s L) (h2 : G y' d' pc' ls' st' bx' h' n' c' s' M) :
    ∀ (y1 d1 pc1 : Nat) (ls1 : List (Nat × xv)) (st1 : List xv) (bx1 : xbox) (hh1 : xheap) (n1 c1 s1 : Nat) (L1 : List xleaf), xtwo (y, d, pc, ls, st, bx, h, n, c, s) (y', d', pc', ls', st', bx', h', n', c', s') L M y1 d1 pc1 ls1 st1 bx1 hh1 n1 c1 s1 = some L1 → G y1 d1 pc1 ls1 st1 bx1 hh1 n1 c1 s1 L1 := by
  intro y1 d1 pc1 ls1 st1 bx1 hh1 n1 c1 s1 L1 hx
  unfold xtwo at hx
  split at hx
  · rename_i e
    cases e
    cases hx
    exact h1
  · split at hx
    · rename_i e
      cases e
      cases hx
      exact h2
    · cases hx
end
section
/-! What a run promises: it ends, and Q holds of the numbers then and of the answer -/
def cpl (w : xv) (z : Int) : xv := match w.1 with
  | 0 => (0, c32 z)
  | 2 => (2, c64 z)
  | _ => w
def cHR (h0 h : xheap) (g : cg) : Prop := ∀ (k : Nat) (q : xcell), xg h0 k = some q → ∃ t : xct, xg h k = some (q.1, q.2.1, t) ∧ ∀ (j : Nat) (w : xv), xg q.2.2 j = some w → xg t j = some (cpl w (g k j))
section Run
variable {sv : Nat → Int32} {cd : xcd} {mi : xmi} {df : xdf} {el : Nat → Nat} {eb : Nat → List Nat} {G : xG} {h0 : xheap} {n0 : Nat}
def cT (G : xG) (h0 : xheap) (n0 : Nat) (y d pc : Nat) (ls : List (Nat × cv)) (st : List cv) (g : cg) (cn sn : Nat) (Q : cg → Option cv → Prop) : Prop :=
  ∀ h : xheap, cHR h0 h g → ∃ (h' : xheap) (g' : cg) (rv : Option cv), cHR h0 h' g' ∧ Q g' rv ∧ G y d pc (ls.map cle) (st.map cenc) [] h n0 cn sn [([], h', n0, rv.map cenc)]
def cC (cd : xcd) (y pc : Nat) (e : xins) : Prop := ∃ t, xg cd y = some t ∧ xg t pc = some e
def cW (sv : Nat → Int32) (cd : xcd) (mi : xmi) (df : xdf) (el : Nat → Nat) (eb : Nat → List Nat) (G : xG) : Prop := cG1 cd mi df el eb G ∧ cG2 sv G
variable {y d pc pc' nx tg r1 r2 cn sn : Nat} {ins : Instr} {ls ls' : List (Nat × cv)} {st st' : List cv} {g g' : cg} {Q Q' : cg → Option cv → Prop}
theorem cT.mono (h : cT G h0 n0 y d pc ls st g cn sn Q) (hq : ∀ g r, Q g r → Q' g r) : cT G h0 n0 y d pc ls st g cn sn Q' := by
  intro hp hh
  obtain ⟨h', g', rv, a, b, c⟩ := h hp hh
  exact ⟨h', g', rv, a, hq _ _ b, c⟩
theorem cC.step (hc : cC cd y pc (ins, nx, tg, r1, r2)) (rec : xF) (lx : List (Nat × xv)) (sx : List xv) (bx : xbox) (h : xheap) (n c s : Nat) : xstep cd mi df el eb rec y d pc lx sx bx h n c s = xex mi df el eb rec ins nx tg r1 r2 y d pc lx sx bx h n c s := by
  obtain ⟨t, h1, h2⟩ := hc
  unfold xstep
  rw [h1]
  dsimp only
  rw [h2]
/-- one step -/
theorem cT_st (hG : cW sv cd mi df el eb G) (hc : cC cd y pc (ins, nx, tg, r1, r2))
    (hS : ∀ h, cHR h0 h g → ∃ h', cHR h0 h' g' ∧ ∃ (lx : List (Nat × xv)) (sx : List xv), (∀ rec : xF, xex mi df el eb rec ins nx tg r1 r2 y d pc (ls.map cle) (st.map cenc) [] h n0 cn sn = rec y d pc' lx sx [] h' n0 cn sn) ∧ (∀ q' ∈ ls'.map cle, ∃ q ∈ lx, q.1 = q'.1 ∧ xim sv q.2 q'.2) ∧ ximS sv sx (st'.map cenc))
    (k : cT G h0 n0 y d pc' ls' st' g' cn sn Q) : cT G h0 n0 y d pc ls st g cn sn Q := by
  intro h hh
  obtain ⟨h1, hh1, lx, sx, e, q1, q2⟩ := hS h hh
  obtain ⟨h2, g2, rv, a, b, c⟩ := k h1 hh1
  refine ⟨h2, g2, rv, a, b, ?_⟩
  have c2 := hG.2 _ _ _ _ _ _ _ _ _ _ _ _ _ q1 q2 c
  refine hG.1 (xtwo (y, d, pc', lx, sx, [], h1, n0, cn, sn) (y, d, pc', lx, sx, [], h1, n0, cn, sn) _ _) (xtwo_ok c2 c2) _ _ _ _ _ _ _ _ _ _ _ ?_
  rw [hc.step, e]
  exact xtwo_1
theorem cls_rf (ls : List (Nat × cv)) : ∀ q' ∈ ls.map cle, ∃ q ∈ ls.map cle, q.1 = q'.1 ∧ xim sv q.2 q'.2 := fun q' hq => ⟨q', hq, rfl, Or.inl rfl⟩
/-- a step of the stack alone -/
theorem cT_s0 (hG : cW sv cd mi df el eb G) (hc : cC cd y pc (ins, nx, tg, r1, r2)) (sx : List xv)
    (e : ∀ (rec : xF) (h : xheap), xex mi df el eb rec ins nx tg r1 r2 y d pc (ls.map cle) (st.map cenc) [] h n0 cn sn = rec y d pc' (ls.map cle) sx [] h n0 cn sn) 
    (k : cT G h0 n0 y d pc' ls st' g cn sn Q) (hs : ximS sv sx (st'.map cenc)) : cT G h0 n0 y d pc ls st g cn sn Q :=
  cT_st hG hc (fun h hh => ⟨h, hh, ls.map cle, sx, fun rec => e rec h, cls_rf ls, hs⟩) k
theorem xim32 (a : Nat) : xim sv (0, a) (cenc (0, (nI a).toInt)) := Or.inr (Or.inr (Or.inl ⟨rfl, rfl, (i32_of (nI a)).symm⟩))
theorem xim64 (a : Nat) : xim sv (2, a) (cenc (2, (lN a).toInt)) := Or.inr (Or.inr (Or.inr ⟨rfl, rfl, (i64_of (lN a)).symm⟩))
theorem xim1 (i : Nat) : xim sv (1, i) (cenc (0, (sv i).toInt)) := by
  refine Or.inr (Or.inl ⟨rfl, ?_⟩)
  show (0, c32 (sv i).toInt) = (0, xnu (sv i))
  have h := i32_of (sv i)
  have h2 : xnu (nI (c32 (sv i).toInt)) = xnu (sv i) := congrArg xnu h
  have h3 : c32 (sv i).toInt < 4294967296 := by unfold c32; omega
  have h4 : xnu (nI (c32 (sv i).toInt)) = c32 (sv i).toInt := by
    show (BitVec.ofNat 32 _).toNat = _
    rw [BitVec.toNat_ofNat]
    exact Nat.mod_eq_of_lt h3
  rw [← h2, h4]
theorem ximF {a : Nat} {x : Int32} (h : nI a = x) : xim sv (0, a) (cenc (0, x.toInt)) := by rw [← h]; exact xim32 a
theorem ximFL {a : Nat} {x : Int64} (h : lN a = x) : xim sv (2, a) (cenc (2, x.toInt)) := by rw [← h]; exact xim64 a
/-- a number pushed -/
theorem cT_push (hG : cW sv cd mi df el eb G) (hc : cC cd y pc (ins, nx, tg, r1, r2)) (he : ∀ (rec : xF) (lx : List (Nat × xv)) (sx : List xv) (h : xheap), xex mi df el eb rec ins nx tg r1 r2 y d pc lx sx [] h n0 cn sn = rec y d nx lx ((0, r1) :: sx) [] h n0 cn sn)
    (k : cT G h0 n0 y d nx ls ((0, (nI r1).toInt) :: st) g cn sn Q) : cT G h0 n0 y d pc ls st g cn sn Q :=
  cT_s0 hG hc _ (fun rec h => he rec _ _ h) k ⟨xim32 _, ximS.rf sv _⟩
theorem cT_pushL (hG : cW sv cd mi df el eb G) (hc : cC cd y pc (ins, nx, tg, r1, r2)) (he : ∀ (rec : xF) (lx : List (Nat × xv)) (sx : List xv) (h : xheap), xex mi df el eb rec ins nx tg r1 r2 y d pc lx sx [] h n0 cn sn = rec y d nx lx ((2, r1) :: sx) [] h n0 cn sn)
    (k : cT G h0 n0 y d nx ls ((2, (lN r1).toInt) :: st) g cn sn Q) : cT G h0 n0 y d pc ls st g cn sn Q :=
  cT_s0 hG hc _ (fun rec h => he rec _ _ h) k ⟨xim64 _, ximS.rf sv _⟩
/-- anything else pushed -/
theorem cT_pushV (hG : cW sv cd mi df el eb G) (hc : cC cd y pc (ins, nx, tg, r1, r2)) {v : cv} (he : ∀ (rec : xF) (lx : List (Nat × xv)) (sx : List xv) (h : xheap), xex mi df el eb rec ins nx tg r1 r2 y d pc lx sx [] h n0 cn sn = rec y d nx lx (cenc v :: sx) [] h n0 cn sn)
    (k : cT G h0 n0 y d nx ls (v :: st) g cn sn Q) : cT G h0 n0 y d pc ls st g cn sn Q :=
  cT_s0 hG hc _ (fun rec h => he rec _ _ h) k ⟨Or.inl rfl, ximS.rf sv _⟩
/-- a local -/
def clk : List (Nat × cv) → Nat → Option cv
  | [], _ => none
  | q :: l, i => cond (Nat.beq q.1 i) (some q.2) (clk l i)
theorem clk_map (i : Nat) : ∀ ls : List (Nat × cv), xlk (ls.map cle) i = (clk ls i).map cenc
  | [] => rfl
  | q :: l => by
    show cond (Nat.beq q.1 i) (some (cenc q.2)) (xlk (l.map cle) i) = _
    rw [clk_map i l]
    show _ = (cond (Nat.beq q.1 i) (some q.2) (clk l i)).map cenc
    cases Nat.beq q.1 i <;> rfl
theorem cT_ld (hG : cW sv cd mi df el eb G) (hc : cC cd y pc (ins, nx, tg, r1, r2)) {k1 k2 : Nat} {v : cv} (he : ∀ (rec : xF) (lx : List (Nat × xv)) (sx : List xv) (h : xheap), xex mi df el eb rec ins nx tg r1 r2 y d pc lx sx [] h n0 cn sn = x_ld rec nx r1 y d lx sx [] h n0 cn sn k1 k2)
    (hv : clk ls r1 = some v) (hk : xkd v.1 = k1 ∨ xkd v.1 = k2) (k : cT G h0 n0 y d nx ls (v :: st) g cn sn Q) : cT G h0 n0 y d pc ls st g cn sn Q := by
  refine cT_s0 hG hc (cenc v :: st.map cenc) (fun rec h => ?_) k (ximS.rf sv _)
  rw [he]
  unfold x_ld
  rw [clk_map, hv]
  show cond (Nat.beq (xkd (cenc v).1) k1 || Nat.beq (xkd (cenc v).1) k2) _ none = _
  rw [cenc_1]
  have : (Nat.beq (xkd v.1) k1 || Nat.beq (xkd v.1) k2) = true := by
    rcases hk with e | e <;> rw [e, Nat.beq_refl]
    · rfl
    · cases Nat.beq k2 k1 <;> rfl
  rw [this]; rfl
/-- what is left of the locals behind a store -/
def ckp (f : Nat → Nat × xv → Bool) (i : Nat) (q : Nat × cv) : Bool := f i (q.1, (q.2.1, 0))
theorem ckp_map {f : Nat → Nat × xv → Bool} (hf : ∀ (i j : Nat) (w : xv), f i (j, w) = f i (j, (w.1, 0))) (i : Nat) : ∀ ls : List (Nat × cv), (ls.map cle).filter (f i) = (ls.filter (ckp f i)).map cle
  | [] => rfl
  | q :: l => by
    rw [List.map_cons, List.filter_cons, List.filter_cons, ckp_map hf i l]
    have e : f i (cle q) = ckp f i q := by
      show f i (q.1, cenc q.2) = f i (q.1, (q.2.1, 0))
      rw [hf, cenc_1]
    rw [e]
    cases ckp f i q <;> rfl
theorem xk1_0 (i j : Nat) (w : xv) : xk1 i (j, w) = xk1 i (j, (w.1, 0)) := rfl
theorem xk2_0 (i j : Nat) (w : xv) : xk2 i (j, w) = xk2 i (j, (w.1, 0)) := rfl
theorem cT_sto (hG : cW sv cd mi df el eb G) (hc : cC cd y pc (ins, nx, tg, r1, r2)) {k1 k2 : Nat} {f : Nat → Nat × xv → Bool} {v : cv} (hf : ∀ (i j : Nat) (w : xv), f i (j, w) = f i (j, (w.1, 0))) (he : ∀ (rec : xF) (lx : List (Nat × xv)) (sx : List xv) (h : xheap), xex mi df el eb rec ins nx tg r1 r2 y d pc lx sx [] h n0 cn sn = x_st rec nx r1 y d lx sx [] h n0 cn sn k1 k2 f)
    (hk : xkd v.1 = k1 ∨ xkd v.1 = k2) (k : cT G h0 n0 y d nx ((r1, v) :: ls.filter (ckp f r1)) st g cn sn Q) : cT G h0 n0 y d pc ls (v :: st) g cn sn Q := by
  refine cT_st (g' := g) hG hc (fun h hh => ⟨h, hh, cle (r1, v) :: (ls.filter (ckp f r1)).map cle, st.map cenc, fun rec => ?_, cls_rf ((r1, v) :: ls.filter (ckp f r1)), ximS.rf sv _⟩) k
  rw [he]
  show cond (Nat.beq (xkd (cenc v).1) k1 || Nat.beq (xkd (cenc v).1) k2) _ none = _
  rw [cenc_1]
  have : (Nat.beq (xkd v.1) k1 || Nat.beq (xkd v.1) k2) = true := by
    rcases hk with e | e <;> rw [e, Nat.beq_refl]
    · rfl
    · cases Nat.beq k2 k1 <;> rfl
  rw [this, xfl_eq, ckp_map hf]; rfl
theorem cT_inc (hG : cW sv cd mi df el eb G) {i : Nat} {z : Int} (hc : cC cd y pc (.iinc i z, nx, tg, r1, r2)) {a : Int} (hv : clk ls r1 = some (0, a))
    (k : cT G h0 n0 y d nx ((r1, (0, (i32 a + nI r2).toInt)) :: ls.filter (ckp xk1 r1)) st g cn sn Q) : cT G h0 n0 y d pc ls st g cn sn Q := by
  refine cT_st (g' := g) hG hc (fun h hh => ⟨h, hh, (r1, (0, (c32 a + r2) % 4294967296)) :: (ls.filter (ckp xk1 r1)).map cle, st.map cenc, fun rec => ?_, ?_, ximS.rf sv _⟩) k
  · show x_inc rec nx r1 r2 y d (ls.map cle) (st.map cenc) [] h n0 cn sn = _
    unfold x_inc
    rw [clk_map, hv]
    show xfl (xk1 r1) (ls.map cle) _ = _
    rw [xfl_eq, xfrc_eq, ckp_map xk1_0]
    rfl
  · intro q' hq'
    rcases List.mem_cons.mp hq' with e | hq'
    · refine ⟨_, List.mem_cons_self, ?_, ?_⟩
      · rw [e]; rfl
      · rw [e]
        exact ximF (a := (c32 a + r2) % 4294967296) (by rw [x32, ← nI_add, show nI (c32 a) = i32 a from rfl])
    · exact ⟨q', List.mem_cons_of_mem _ hq', rfl, Or.inl rfl⟩
theorem cT_bi (hG : cW sv cd mi df el eb G) (hc : cC cd y pc (ins, nx, tg, r1, r2)) {f : Nat → Nat → Nat} {F : Int32 → Int32 → Int32} {a b : Int} (he : ∀ (rec : xF) (lx : List (Nat × xv)) (sx : List xv) (h : xheap), xex mi df el eb rec ins nx tg r1 r2 y d pc lx sx [] h n0 cn sn = x_bi rec nx y d lx sx [] h n0 cn sn f) (hF : ∀ a b, nI (f a b) = F (nI a) (nI b))
    (k : cT G h0 n0 y d nx ls ((0, (F (i32 a) (i32 b)).toInt) :: st) g cn sn Q) : cT G h0 n0 y d pc ls ((0, b) :: (0, a) :: st) g cn sn Q := by
  refine cT_s0 hG hc ((0, f (c32 a) (c32 b)) :: st.map cenc) (fun rec h => ?_) k ⟨ximF (hF _ _), ximS.rf sv _⟩
  rw [he]
  show xfrc (f (c32 a) (c32 b)) (fun q => rec y d nx (ls.map cle) ((0, q) :: st.map cenc) [] h n0 cn sn) = _
  rw [xfrc_eq]
theorem c32_z {b : Int} (hb : cI b) (h : b ≠ 0) : Nat.beq (c32 b % 4294967296) 0 = false := by
  cases hq : Nat.beq (c32 b % 4294967296) 0 with
  | false => rfl
  | true =>
    have e := Nat.eq_of_beq_eq_true hq
    unfold c32 at e
    unfold cI at hb
    omega
theorem c64_z {b : Int} (hb : cL b) (h : b ≠ 0) : Nat.beq (c64 b % 18446744073709551616) 0 = false := by
  cases hq : Nat.beq (c64 b % 18446744073709551616) 0 with
  | false => rfl
  | true =>
    have e := Nat.eq_of_beq_eq_true hq
    unfold c64 at e
    unfold cL at hb
    omega
theorem cT_dv (hG : cW sv cd mi df el eb G) (hc : cC cd y pc (ins, nx, tg, r1, r2)) {f : Nat → Nat → Nat} {F : Int32 → Int32 → Int32} {a b : Int} (he : ∀ (rec : xF) (lx : List (Nat × xv)) (sx : List xv) (h : xheap), xex mi df el eb rec ins nx tg r1 r2 y d pc lx sx [] h n0 cn sn = x_dv rec nx y d lx sx [] h n0 cn sn f) (hF : ∀ a b, nI (f a b) = F (nI a) (nI b)) (hb : cI b) (hz : b ≠ 0)
    (k : cT G h0 n0 y d nx ls ((0, (F (i32 a) (i32 b)).toInt) :: st) g cn sn Q) : cT G h0 n0 y d pc ls ((0, b) :: (0, a) :: st) g cn sn Q := by
  refine cT_s0 hG hc ((0, f (c32 a) (c32 b)) :: st.map cenc) (fun rec h => ?_) k ⟨ximF (hF _ _), ximS.rf sv _⟩
  rw [he]
  show cond (Nat.beq (c32 b % 4294967296) 0) none (xfrc (f (c32 a) (c32 b)) (fun q => rec y d nx (ls.map cle) ((0, q) :: st.map cenc) [] h n0 cn sn)) = _
  rw [c32_z hb hz, xfrc_eq]; rfl
theorem cT_bl (hG : cW sv cd mi df el eb G) (hc : cC cd y pc (ins, nx, tg, r1, r2)) {f : Nat → Nat → Nat} {F : Int64 → Int64 → Int64} {a b : Int} (he : ∀ (rec : xF) (lx : List (Nat × xv)) (sx : List xv) (h : xheap), xex mi df el eb rec ins nx tg r1 r2 y d pc lx sx [] h n0 cn sn = x_bl rec nx y d lx sx [] h n0 cn sn f) (hF : ∀ a b, lN (f a b) = F (lN a) (lN b))
    (k : cT G h0 n0 y d nx ls ((2, (F (i64 a) (i64 b)).toInt) :: st) g cn sn Q) : cT G h0 n0 y d pc ls ((2, b) :: (2, a) :: st) g cn sn Q := by
  refine cT_s0 hG hc ((2, f (c64 a) (c64 b)) :: st.map cenc) (fun rec h => ?_) k ⟨ximFL (hF _ _), ximS.rf sv _⟩
  rw [he]
  show xfrc (f (c64 a) (c64 b)) (fun q => rec y d nx (ls.map cle) ((2, q) :: st.map cenc) [] h n0 cn sn) = _
  rw [xfrc_eq]
theorem cT_dl (hG : cW sv cd mi df el eb G) (hc : cC cd y pc (ins, nx, tg, r1, r2)) {f : Nat → Nat → Nat} {F : Int64 → Int64 → Int64} {a b : Int} (he : ∀ (rec : xF) (lx : List (Nat × xv)) (sx : List xv) (h : xheap), xex mi df el eb rec ins nx tg r1 r2 y d pc lx sx [] h n0 cn sn = x_dl rec nx y d lx sx [] h n0 cn sn f) (hF : ∀ a b, lN (f a b) = F (lN a) (lN b)) (hb : cL b) (hz : b ≠ 0)
    (k : cT G h0 n0 y d nx ls ((2, (F (i64 a) (i64 b)).toInt) :: st) g cn sn Q) : cT G h0 n0 y d pc ls ((2, b) :: (2, a) :: st) g cn sn Q := by
  refine cT_s0 hG hc ((2, f (c64 a) (c64 b)) :: st.map cenc) (fun rec h => ?_) k ⟨ximFL (hF _ _), ximS.rf sv _⟩
  rw [he]
  show cond (Nat.beq (c64 b % 18446744073709551616) 0) none (xfrc (f (c64 a) (c64 b)) (fun q => rec y d nx (ls.map cle) ((2, q) :: st.map cenc) [] h n0 cn sn)) = _
  rw [c64_z hb hz, xfrc_eq]; rfl
theorem cT_sl (hG : cW sv cd mi df el eb G) (hc : cC cd y pc (ins, nx, tg, r1, r2)) {f : Nat → Nat → Nat} {F : Int64 → Int32 → Int64} {a b : Int} (he : ∀ (rec : xF) (lx : List (Nat × xv)) (sx : List xv) (h : xheap), xex mi df el eb rec ins nx tg r1 r2 y d pc lx sx [] h n0 cn sn = x_sl rec nx y d lx sx [] h n0 cn sn f) (hF : ∀ a b, lN (f a b) = F (lN a) (nI b))
    (k : cT G h0 n0 y d nx ls ((2, (F (i64 a) (i32 b)).toInt) :: st) g cn sn Q) : cT G h0 n0 y d pc ls ((0, b) :: (2, a) :: st) g cn sn Q := by
  refine cT_s0 hG hc ((2, f (c64 a) (c32 b)) :: st.map cenc) (fun rec h => ?_) k ⟨ximFL (hF _ _), ximS.rf sv _⟩
  rw [he]
  show xfrc (f (c64 a) (c32 b)) (fun q => rec y d nx (ls.map cle) ((2, q) :: st.map cenc) [] h n0 cn sn) = _
  rw [xfrc_eq]
theorem cT_ui (hG : cW sv cd mi df el eb G) (hc : cC cd y pc (ins, nx, tg, r1, r2)) {f : Nat → Nat} {F : Int32 → Int32} {a : Int} (he : ∀ (rec : xF) (lx : List (Nat × xv)) (sx : List xv) (h : xheap), xex mi df el eb rec ins nx tg r1 r2 y d pc lx sx [] h n0 cn sn = x_ui rec nx y d lx sx [] h n0 cn sn f) (hF : ∀ a, nI (f a) = F (nI a))
    (k : cT G h0 n0 y d nx ls ((0, (F (i32 a)).toInt) :: st) g cn sn Q) : cT G h0 n0 y d pc ls ((0, a) :: st) g cn sn Q := by
  refine cT_s0 hG hc ((0, f (c32 a)) :: st.map cenc) (fun rec h => ?_) k ⟨ximF (hF _), ximS.rf sv _⟩
  rw [he]
  show xfrc (f (c32 a)) (fun q => rec y d nx (ls.map cle) ((0, q) :: st.map cenc) [] h n0 cn sn) = _
  rw [xfrc_eq]
theorem cT_i2l (hG : cW sv cd mi df el eb G) (hc : cC cd y pc (.i2l, nx, tg, r1, r2)) {a : Int} (ha : cI a)
    (k : cT G h0 n0 y d nx ls ((2, a) :: st) g cn sn Q) : cT G h0 n0 y d pc ls ((0, a) :: st) g cn sn Q := by
  refine cT_s0 hG hc ((2, xnl (nI (c32 a)).toInt64) :: st.map cenc) (fun rec h => ?_) k ⟨?_, ximS.rf sv _⟩
  · show xfrc (xnl (nI (c32 a)).toInt64) (fun q => rec y d nx (ls.map cle) ((2, q) :: st.map cenc) [] h n0 cn sn) = _
    rw [xfrc_eq]
  · have := ximFL (sv := sv) (lN_xnl (nI (c32 a)).toInt64)
    rw [x_i2lI, show (nI (c32 a)).toInt = a from i32_int ha] at this
    exact this
theorem cT_l2i (hG : cW sv cd mi df el eb G) (hc : cC cd y pc (.l2i, nx, tg, r1, r2)) {a : Int}
    (k : cT G h0 n0 y d nx ls ((0, (i64 a).toInt32.toInt) :: st) g cn sn Q) : cT G h0 n0 y d pc ls ((2, a) :: st) g cn sn Q := by
  refine cT_s0 hG hc ((0, c64 a % 4294967296) :: st.map cenc) (fun rec h => ?_) k ⟨ximF (by rw [x32, ← lN_l2i]; rfl), ximS.rf sv _⟩
  show xfrc (c64 a % 4294967296) (fun q => rec y d nx (ls.map cle) ((0, q) :: st.map cenc) [] h n0 cn sn) = _
  rw [xfrc_eq]
theorem cT_dup (hG : cW sv cd mi df el eb G) (hc : cC cd y pc (.dup, nx, tg, r1, r2)) {v : cv} (hv : Nat.beq (xkd v.1) 1 = false)
    (k : cT G h0 n0 y d nx ls (v :: v :: st) g cn sn Q) : cT G h0 n0 y d pc ls (v :: st) g cn sn Q := by
  refine cT_s0 hG hc _ (fun rec h => ?_) k (ximS.rf sv _)
  show cond (Nat.beq (xkd (cenc v).1) 1) none _ = _
  rw [cenc_1, hv]; rfl
theorem cT_pop (hG : cW sv cd mi df el eb G) (hc : cC cd y pc (.pop, nx, tg, r1, r2)) {v : cv} (hv : Nat.beq (xkd v.1) 1 = false)
    (k : cT G h0 n0 y d nx ls st g cn sn Q) : cT G h0 n0 y d pc ls (v :: st) g cn sn Q := by
  refine cT_s0 hG hc _ (fun rec h => ?_) k (ximS.rf sv _)
  show cond (Nat.beq (xkd (cenc v).1) 1) none _ = _
  rw [cenc_1, hv]; rfl
theorem cT_dup2L (hG : cW sv cd mi df el eb G) (hc : cC cd y pc (.dup2, nx, tg, r1, r2)) {v : cv} (hv : Nat.beq (xkd v.1) 1 = true)
    (k : cT G h0 n0 y d nx ls (v :: v :: st) g cn sn Q) : cT G h0 n0 y d pc ls (v :: st) g cn sn Q := by
  refine cT_s0 hG hc _ (fun rec h => ?_) k (ximS.rf sv _)
  show cond (Nat.beq (xkd (cenc v).1) 1) _ _ = _
  rw [cenc_1, hv]; rfl
theorem cT_dup2 (hG : cW sv cd mi df el eb G) (hc : cC cd y pc (.dup2, nx, tg, r1, r2)) {v w : cv} (hv : Nat.beq (xkd v.1) 1 = false) (hw : Nat.beq (xkd w.1) 1 = false)
    (k : cT G h0 n0 y d nx ls (v :: w :: v :: w :: st) g cn sn Q) : cT G h0 n0 y d pc ls (v :: w :: st) g cn sn Q := by
  refine cT_s0 hG hc _ (fun rec h => ?_) k (ximS.rf sv _)
  show cond (Nat.beq (xkd (cenc v).1) 1) _ (cond (Nat.beq (xkd (cenc w).1) 1) none _) = _
  rw [cenc_1, cenc_1, hv, hw]; rfl
theorem cT_goto (hG : cW sv cd mi df el eb G) {o : Int} (hc : cC cd y pc (.goto o, nx, tg, r1, r2)) (k : cT G h0 n0 y d tg ls st g cn sn Q) : cT G h0 n0 y d pc ls st g cn sn Q :=
  cT_s0 hG hc _ (fun _ _ => rfl) k (ximS.rf sv _)
/-! branches -/
def crel (o : Jvm.ClassFile.Cond) (a b : Int) : Bool :=
  match o with
  | .eq => decide (a = b)
  | .ne => decide (a ≠ b)
  | .lt => decide (a < b)
  | .ge => decide (b ≤ a)
  | .gt => decide (b < a)
  | .le => decide (a ≤ b)
theorem xoi_c {a : Int} (h : cI a) : (xoi (c32 a) : Int) = a + 9223372036854775808 := by
  rw [xoi_ok, xoff_int, show (nI (c32 a)).toInt = a from i32_int h]
theorem xol_c {a : Int} (h : cL a) : (xol (c64 a) : Int) = a + 9223372036854775808 := by
  rw [xol_ok, xoff_long, show (lN (c64 a)).toInt = a from i64_int h]
theorem xdec_c (o : Jvm.ClassFile.Cond) {x z : Nat} {a b : Int} (hx : (x : Int) = a + 9223372036854775808) (hz : (z : Int) = b + 9223372036854775808) : xdec o (x, x) (z, z) = some (crel o a b) := by
  have e1 : Nat.beq x z = decide (a = b) := by
    rw [Bool.eq_iff_iff]
    constructor
    · intro h
      have := Nat.eq_of_beq_eq_true h
      exact decide_eq_true (by omega)
    · intro h
      have := of_decide_eq_true h
      have : x = z := by omega
      rw [this]; exact Nat.beq_refl z
  have e2 : Nat.blt x z = decide (a < b) := by
    rw [Bool.eq_iff_iff]
    constructor
    · intro h
      have := xltb h
      exact decide_eq_true (by omega)
    · intro h
      have := of_decide_eq_true h
      exact Nat.ble_eq_true_of_le (by omega)
  have e3 : Nat.blt z x = decide (b < a) := by
    rw [Bool.eq_iff_iff]
    constructor
    · intro h
      have := xltb h
      exact decide_eq_true (by omega)
    · intro h
      have := of_decide_eq_true h
      exact Nat.ble_eq_true_of_le (by omega)
  have e4 : Nat.ble z x = decide (b ≤ a) := by
    rw [Bool.eq_iff_iff]
    constructor
    · intro h
      have := xleb h
      exact decide_eq_true (by omega)
    · intro h
      have := of_decide_eq_true h
      exact Nat.ble_eq_true_of_le (by omega)
  have e5 : Nat.ble x z = decide (a ≤ b) := by
    rw [Bool.eq_iff_iff]
    constructor
    · intro h
      have := xleb h
      exact decide_eq_true (by omega)
    · intro h
      have := of_decide_eq_true h
      exact Nat.ble_eq_true_of_le (by omega)
  have r1 := Nat.beq_refl x
  have r2 := Nat.beq_refl z
  cases o <;> unfold xdec crel <;> dsimp only <;> simp only [e1, e2, e3, e4, e5, r1, r2, Bool.true_and]
  · by_cases h : a = b
    · simp [h]
    · have : (decide (a < b) || decide (b < a)) = true := by
        rcases Int.lt_or_gt_of_ne h with q | q
        · simp [q]
        · simp [show b < a from q]
      simp [h, this]
  · by_cases h : a = b
    · simp [h]
    · have : (decide (a < b) || decide (b < a)) = true := by
        rcases Int.lt_or_gt_of_ne h with q | q
        · simp [q]
        · simp [show b < a from q]
      simp [h, this]
  · by_cases h : a < b
    · simp [h]
    · simp [h, show b ≤ a by omega]
  · by_cases h : a < b
    · simp [h, show ¬ b ≤ a by omega]
    · simp [h, show b ≤ a by omega]
  · by_cases h : b < a
    · simp [h]
    · simp [h, show a ≤ b by omega]
  · by_cases h : b < a
    · simp [h, show ¬ a ≤ b by omega]
    · simp [h, show a ≤ b by omega]
theorem cT_icmp (hG : cW sv cd mi df el eb G) {o : Jvm.ClassFile.Cond} {z : Int} (hc : cC cd y pc (.if_icmp o z, nx, tg, r1, r2)) {a b : Int} (ha : cI a) (hb : cI b)
    (k : cT G h0 n0 y d (cond (crel o a b) tg nx) ls st g cn sn Q) : cT G h0 n0 y d pc ls ((0, b) :: (0, a) :: st) g cn sn Q := by
  refine cT_s0 hG hc (st.map cenc) (fun rec h => ?_) k (ximS.rf sv _)
  show xbr o [] (0, c32 a) (0, c32 b) (fun t => rec y d (cond t tg nx) (ls.map cle) (st.map cenc) [] h n0 cn sn) (fun bx' => rec y d pc (ls.map cle) ((0, c32 b) :: (0, c32 a) :: st.map cenc) bx' h n0 cn sn) = _
  unfold xbr
  rw [show xrg [] (0, c32 a) = (xoi (c32 a), xoi (c32 a)) from rfl, show xrg [] (0, c32 b) = (xoi (c32 b), xoi (c32 b)) from rfl, xdec_c o (xoi_c ha) (xoi_c hb)]
theorem cT_if (hG : cW sv cd mi df el eb G) {o : Jvm.ClassFile.Cond} {z : Int} (hc : cC cd y pc (.ifCond o z, nx, tg, r1, r2)) {a : Int} (ha : cI a)
    (k : cT G h0 n0 y d (cond (crel o a 0) tg nx) ls st g cn sn Q) : cT G h0 n0 y d pc ls ((0, a) :: st) g cn sn Q := by
  refine cT_s0 hG hc (st.map cenc) (fun rec h => ?_) k (ximS.rf sv _)
  show xbr o [] (0, c32 a) (0, 0) (fun t => rec y d (cond t tg nx) (ls.map cle) (st.map cenc) [] h n0 cn sn) (fun bx' => rec y d pc (ls.map cle) ((0, c32 a) :: st.map cenc) bx' h n0 cn sn) = _
  unfold xbr
  rw [show xrg [] (0, c32 a) = (xoi (c32 a), xoi (c32 a)) from rfl, show xrg [] (0, 0) = (xoi (c32 0), xoi (c32 0)) from rfl, xdec_c o (xoi_c ha) (xoi_c (a := 0) (by unfold cI; omega))]
theorem cT_nul (hG : cW sv cd mi df el eb G) (hc : cC cd y pc (ins, nx, tg, r1, r2)) {t : Bool} (he : ∀ (rec : xF) (lx : List (Nat × xv)) (sx : List xv) (h : xheap), xex mi df el eb rec ins nx tg r1 r2 y d pc lx sx [] h n0 cn sn = x_nul rec nx tg y d lx sx [] h n0 cn sn t) {v : cv}
    (hv : (xkd v.1 = 2 ∧ pc' = cond t nx tg) ∨ (xkd v.1 = 3 ∧ pc' = cond t tg nx)) (k : cT G h0 n0 y d pc' ls st g cn sn Q) : cT G h0 n0 y d pc ls (v :: st) g cn sn Q := by
  refine cT_s0 hG hc (st.map cenc) (fun rec h => ?_) k (ximS.rf sv _)
  rw [he]
  show (match xkd (cenc v).1 with
    | 2 => rec y d (cond t nx tg) (ls.map cle) (st.map cenc) [] h n0 cn sn
    | 3 => rec y d (cond t tg nx) (ls.map cle) (st.map cenc) [] h n0 cn sn
    | _ => none) = _
  rw [cenc_1]
  rcases hv with ⟨e1, e2⟩ | ⟨e1, e2⟩ <;> rw [e1, e2] <;> rfl
theorem c32_m1 : c32 (-1) = 4294967295 := by decide +kernel
def csgn (z : Int) : Int := if z < 0 then -1 else if 0 < z then 1 else 0
theorem cT_lcmp (hG : cW sv cd mi df el eb G) (hc : cC cd y pc (.lcmp, nx, tg, r1, r2)) {a b : Int} (ha : cL a) (hb : cL b)
    (k : cT G h0 n0 y d nx ls ((0, csgn (a - b)) :: st) g cn sn Q) : cT G h0 n0 y d pc ls ((2, b) :: (2, a) :: st) g cn sn Q := by
  refine cT_s0 hG hc (cenc (0, csgn (a - b)) :: st.map cenc) (fun rec h => ?_) k (ximS.rf sv _)
  show x_lcmp rec nx y d pc (ls.map cle) ((2, c64 b) :: (2, c64 a) :: st.map cenc) [] h n0 cn sn = _
  have e1 : xdec .lt (xrg [] (2, c64 a)) (xrg [] (2, c64 b)) = some (crel .lt a b) := xdec_c .lt (xol_c ha) (xol_c hb)
  have e2 : xdec .gt (xrg [] (2, c64 a)) (xrg [] (2, c64 b)) = some (crel .gt a b) := xdec_c .gt (xol_c ha) (xol_c hb)
  have e0 : (Nat.beq (xkd 2) 1 && Nat.beq (xkd 2) 1) = true := rfl
  unfold x_lcmp
  dsimp only
  rw [e0, cond_true, e1, e2]
  show _ = rec y d nx (ls.map cle) ((0, c32 (csgn (a - b))) :: st.map cenc) [] h n0 cn sn
  unfold crel csgn
  dsimp only
  by_cases h1 : a < b
  · rw [if_pos (by omega)]
    rw [c32_m1]
    simp only [h1, decide_true]
  · rw [if_neg (by omega)]
    by_cases h2 : b < a
    · rw [if_pos (by omega)]
      rw [show c32 1 = 1 from rfl]
      simp only [h1, h2, decide_true, decide_false]
    · rw [if_neg (by omega)]
      rw [show c32 0 = 0 from rfl]
      simp only [h1, h2, decide_false]
end Run
end
section
/-! Runs: cells, switches, calls, answers -/
def cval (w : xv) (z : Int) : cv := match w.1 with
  | 0 => (0, z)
  | 2 => (2, z)
  | t => (t, (w.2 : Int))
theorem cval_enc : ∀ (w : xv) (z : Int), cenc (cval w z) = cpl w z
  | (0, _), _ => rfl
  | (1, _), _ => rfl
  | (2, _), _ => rfl
  | (_ + 3, _), _ => rfl
def cup (g : cg) (k j : Nat) (z : Int) : cg := fun k' j' => if k' = k ∧ j' = j then z else g k' j'
theorem c32_xnu (x : Int32) : c32 x.toInt = xnu x := by
  have h := i32_of x
  have h2 : xnu (nI (c32 x.toInt)) = xnu x := congrArg xnu h
  have h3 : c32 x.toInt < 4294967296 := by unfold c32; omega
  have h4 : xnu (nI (c32 x.toInt)) = c32 x.toInt := by
    show (BitVec.ofNat 32 _).toNat = _
    rw [BitVec.toNat_ofNat]
    exact Nat.mod_eq_of_lt h3
  rw [← h2, h4]
theorem c32_nat {z : Int} (h1 : 0 ≤ z) (h2 : z < 4294967296) : c32 z = z.toNat := by unfold c32; omega
theorem cHR.set {h0 h : xheap} {g : cg} (hh : cHR h0 h g) {k j : Nat} {q : xcell} {w : xv} {t : xct} {v : cv} (hq : xg h0 k = some q) (hw : xg q.2.2 j = some w) (ht : xg h k = some (q.1, q.2.1, t)) (hv : cenc v = cpl w v.2) : cHR h0 (xw h k (q.1, q.2.1, xw t j (cenc v))) (cup g k j v.2) := by
  intro k' q' hq'
  by_cases e : k' = k
  · subst e
    have e2 : q' = q := Option.some.inj (hq'.symm.trans hq)
    subst e2
    refine ⟨xw t j (cenc v), xg_self _ _ _ _ ht, fun j' w' hw' => ?_⟩
    obtain ⟨t2, a1, a2⟩ := hh k' q' hq
    have e3 : t2 = t := by
      have := Option.some.inj (a1.symm.trans ht)
      exact congrArg (fun c : xcell => c.2.2) this
    subst e3
    unfold cup
    by_cases ej : j' = j
    · subst ej
      have e4 : w' = w := Option.some.inj (hw'.symm.trans hw)
      subst e4
      rw [if_pos ⟨rfl, rfl⟩, xg_self _ _ _ _ (a2 _ _ hw), hv]
    · rw [if_neg (fun z => ej z.2), xg_other _ _ _ _ ej]
      exact a2 _ _ hw'
  · obtain ⟨t2, a1, a2⟩ := hh k' q' hq'
    refine ⟨t2, by rw [xg_other _ _ _ _ e]; exact a1, fun j' w' hw' => ?_⟩
    unfold cup
    rw [if_neg (fun z => e z.1)]
    exact a2 _ _ hw'
/-- the fixed cells are as their kinds say -/
def cH0 (h0 : xheap) : Prop := ∀ (k : Nat) (q : xcell), xg h0 k = some q → (q.2.1 < 2147483648) ∧ ∀ j : Nat, j < q.2.1 → ∃ w : xv, xg q.2.2 j = some w ∧ (q.1 = 13 ∨ q.1 = 15 → w.1 = 0) ∧ (q.1 = 14 → w.1 = 2) ∧ (20 ≤ q.1 → w.1 = 4)
def cpop {α : Type} : Nat → List α → List α → Option (List α × List α)
  | 0, acc, st => some (acc, st)
  | _ + 1, _, [] => none
  | n + 1, acc, w :: st => cpop n (w :: acc) st
theorem cpop_map : ∀ (n : Nat) (acc st : List cv), xpop n (acc.map cenc) (st.map cenc) = (cpop n acc st).map (fun q => (q.1.map cenc, q.2.map cenc))
  | 0, _, _ => rfl
  | _ + 1, _, [] => rfl
  | n + 1, acc, w :: st => cpop_map n (w :: acc) st
def carg : Nat → List cv → List (Nat × cv)
  | _, [] => []
  | i, w :: l => (i, w) :: carg (cond (Nat.beq (xkd w.1) 1) (i + 2) (i + 1)) l
theorem carg_map : ∀ (i : Nat) (a : List cv), xarg i (a.map cenc) = (carg i a).map cle
  | _, [] => rfl
  | i, w :: l => by
    show (i, cenc w) :: xarg (cond (Nat.beq (xkd (cenc w).1) 1) (i + 2) (i + 1)) (l.map cenc) = cle (i, w) :: (carg (cond (Nat.beq (xkd w.1) 1) (i + 2) (i + 1)) l).map cle
    rw [cenc_1, carg_map]; rfl
def cwds : List cv → Nat
  | [] => 0
  | w :: l => cond (Nat.beq (xkd w.1) 1) 2 1 + cwds l
theorem cwds_map : ∀ a : List cv, xwds (a.map cenc) = cwds a
  | [] => rfl
  | w :: l => by
    show cond (Nat.beq (xkd (cenc w).1) 1) 2 1 + xwds (l.map cenc) = _
    rw [cenc_1, cwds_map]; rfl
theorem xcp_fw {t1 : xct} : ∀ (m sp dp : Nat) (t2 : xct), (∀ j, sp ≤ j → j < sp + m → ∃ w : xv, xg t1 j = some w) → (∀ j, dp ≤ j → j < dp + m → ∃ w : xv, xg t2 j = some w) →
    ∃ t : xct, (∀ c : xct → xR, xcp t1 m sp dp t2 c = c t) ∧ (∀ j, dp ≤ j → j < dp + m → xg t j = xg t1 (sp + (j - dp))) ∧ (∀ j, j < dp ∨ dp + m ≤ j → xg t j = xg t2 j)
  | 0, sp, dp, t2, _, _ => ⟨t2, fun _ => rfl, fun j a b => by omega, fun _ _ => rfl⟩
  | m + 1, sp, dp, t2, h1, h2 => by
    obtain ⟨w, hw⟩ := h1 sp (Nat.le_refl _) (by omega)
    obtain ⟨w2, hw2⟩ := h2 dp (Nat.le_refl _) (by omega)
    obtain ⟨t, e1, e2, e3⟩ := xcp_fw m (sp + 1) (dp + 1) (xw t2 dp w) (fun j a b => h1 j (by omega) (by omega)) (fun j a b => by
      rw [xg_other _ _ _ _ (by omega)]
      exact h2 j (by omega) (by omega))
    refine ⟨t, fun c => ?_, fun j a b => ?_, fun j a => ?_⟩
    · show (match xg t1 sp with
        | none => none
        | some w => xsK t2 dp w (fun t => xcp t1 m (sp + 1) (dp + 1) t c)) = _
      rw [hw]
      dsimp only
      rw [xsK_eq, e1]
    · by_cases ej : j = dp
      · subst ej
        rw [e3 j (by omega), xg_self _ _ _ _ hw2, Nat.sub_self, Nat.add_zero, hw]
      · rw [e2 j (by omega) (by omega)]
        congr 1
        omega
    · rw [e3 j (by omega), xg_other _ _ _ _ (by omega)]
section Run2
variable {sv : Nat → Int32} {cd : xcd} {mi : xmi} {df : xdf} {el : Nat → Nat} {eb : Nat → List Nat} {G : xG} {h0 : xheap} {n0 : Nat}
variable {y d pc pc' nx tg r1 r2 cn sn : Nat} {ins : Instr} {ls ls' : List (Nat × cv)} {st st' : List cv} {g g' : cg} {Q Q' : cg → Option cv → Prop}
theorem cT_tab (hG : cW sv cd mi df el eb G) {a b e : Int} {f : Array Int} (hc : cC cd y pc (.tableswitch a b e f, nx, tg, r1, r2)) {z : Int} (hz : cI z) {t : Nat} (ht : xts a b e f pc z = some t)
    (k : cT G h0 n0 y d t ls st g cn sn Q) : cT G h0 n0 y d pc ls ((0, z) :: st) g cn sn Q := by
  refine cT_s0 hG hc (st.map cenc) (fun rec h => ?_) k (ximS.rf sv _)
  show (match xts a b e f pc (xz (c32 z)) with
      | some t => rec y d t (ls.map cle) (st.map cenc) [] h n0 cn sn
      | none => none) = _
  rw [show xz (c32 z) = z from i32_int hz, ht]
theorem cT_lkp (hG : cW sv cd mi df el eb G) {a : Int} {f : Array (Int × Int)} (hc : cC cd y pc (.lookupswitch a f, nx, tg, r1, r2)) {z : Int} (hz : cI z) (ht : 0 ≤ (pc : Int) + Op.lookupswitch.offset f.toList a z)
    (k : cT G h0 n0 y d ((pc : Int) + Op.lookupswitch.offset f.toList a z).toNat ls st g cn sn Q) : cT G h0 n0 y d pc ls ((0, z) :: st) g cn sn Q := by
  refine cT_s0 hG hc (st.map cenc) (fun rec h => ?_) k (ximS.rf sv _)
  show (if 0 ≤ (pc : Int) + Op.lookupswitch.offset f.toList a (xz (c32 z)) then rec y d ((pc : Int) + Op.lookupswitch.offset f.toList a (xz (c32 z))).toNat (ls.map cle) (st.map cenc) [] h n0 cn sn else none) = _
  rw [show xz (c32 z) = z from i32_int hz, if_pos ht]
theorem xnb1 {a b : Nat} (h : a = b) : Nat.beq a b = true := by rw [h]; exact Nat.beq_refl b
theorem xlt1 {a b : Nat} (h : a < b) : Nat.blt a b = true := Nat.ble_eq_true_of_le h
theorem xle1 {a b : Nat} (h : a ≤ b) : Nat.ble a b = true := Nat.ble_eq_true_of_le h
theorem cT_get (hG : cW sv cd mi df el eb G) {i : Nat} (hc : cC cd y pc (.getfield i, nx, tg, r1, r2)) {k : Nat} {q : xcell} {w : xv} (hq : xg h0 k = some q) (hk : q.1 = r1) (h13 : r1 < 13) (hw : xg q.2.2 r2 = some w)
    (kk : cT G h0 n0 y d nx ls (cval w (g k r2) :: st) g cn sn Q) : cT G h0 n0 y d pc ls ((4, (k : Int)) :: st) g cn sn Q := by
  refine cT_st (g' := g) hG hc (fun h hh => ⟨h, hh, ls.map cle, cenc (cval w (g k r2)) :: st.map cenc, fun rec => ?_, cls_rf ls, ximS.rf sv _⟩) kk
  obtain ⟨t, a1, a2⟩ := hh k q hq
  show (cond (Nat.beq 4 4) (match xg h k with
        | none => none
        | some q => cond (Nat.beq q.1 r1 && Nat.blt r1 13)
            (match xg q.2.2 r2 with
              | none => none
              | some v => rec y d nx (ls.map cle) (v :: st.map cenc) [] h n0 cn sn) none) none) = _
  rw [a1]
  show cond (Nat.beq q.1 r1 && Nat.blt r1 13) (match xg t r2 with
              | none => none
              | some v => rec y d nx (ls.map cle) (v :: st.map cenc) [] h n0 cn sn) none = _
  rw [xnb1 hk, xlt1 h13, a2 _ _ hw, cval_enc]
  rfl
theorem cT_getE (hG : cW sv cd mi df el eb G) {i : Nat} (hc : cC cd y pc (.getfield i, nx, tg, r1, r2)) {k : Nat} (hk : k = 1 ∨ k = 3) (h98 : r1 = 98)
    (kk : cT G h0 n0 y d nx ls ((cond (Nat.beq r2 0) (6, ((k + 1 : Nat) : Int)) (0, 0)) :: st) g cn sn Q) : cT G h0 n0 y d pc ls ((6, (k : Int)) :: st) g cn sn Q := by
  refine cT_s0 hG hc (cenc (cond (Nat.beq r2 0) (6, ((k + 1 : Nat) : Int)) (0, 0)) :: st.map cenc) (fun rec h => ?_) kk (ximS.rf sv _)
  subst h98
  show cond (Nat.beq 6 6 && (Nat.beq k 1 || Nat.beq k 3) && Nat.beq 98 98) (rec y d nx (ls.map cle) ((cond (Nat.beq r2 0) (6, k + 1) (0, 0)) :: st.map cenc) [] h n0 cn sn) none = _
  have : (Nat.beq k 1 || Nat.beq k 3) = true := by rcases hk with e | e <;> subst e <;> rfl
  rw [this]
  cases Nat.beq r2 0 <;> rfl
theorem cT_put (hG : cW sv cd mi df el eb G) {i : Nat} (hc : cC cd y pc (.putfield i, nx, tg, r1, r2)) {k : Nat} {q : xcell} {w : xv} {v : cv} (hq : xg h0 k = some q) (hk : q.1 = r1) (hl : r2 < q.2.1) (hw : xg q.2.2 r2 = some w) (hv : cenc v = cpl w v.2) (hf : xfit tg (cenc v) = true)
    (kk : cT G h0 n0 y d nx ls st (cup g k r2 v.2) cn sn Q) : cT G h0 n0 y d pc ls (v :: (4, (k : Int)) :: st) g cn sn Q := by
  refine cT_st (g' := cup g k r2 v.2) hG hc (fun h hh => ?_) kk
  obtain ⟨t, a1, a2⟩ := hh k q hq
  refine ⟨_, hh.set hq hw a1 hv, ls.map cle, st.map cenc, fun rec => ?_, cls_rf ls, ximS.rf sv _⟩
  show cond (Nat.beq 4 4 && xfit tg (cenc v)) (match xg h k with
        | none => none
        | some q => cond (Nat.beq q.1 r1 && Nat.blt r2 q.2.1)
            (match xg q.2.2 r2 with
              | none => none
              | some _ => xsK q.2.2 r2 (cenc v) (fun t => xsK h k (q.1, q.2.1, t) (fun h' => rec y d nx (ls.map cle) (st.map cenc) [] h' n0 cn sn))) none) none = _
  rw [hf, a1]
  show cond (Nat.beq q.1 r1 && Nat.blt r2 q.2.1)
            (match xg t r2 with
              | none => none
              | some _ => xsK t r2 (cenc v) (fun t => xsK h k (q.1, q.2.1, t) (fun h' => rec y d nx (ls.map cle) (st.map cenc) [] h' n0 cn sn))) none = _
  rw [xnb1 hk, xlt1 hl, a2 _ _ hw]
  show xsK t r2 (cenc v) (fun t => xsK h k (q.1, q.2.1, t) (fun h' => rec y d nx (ls.map cle) (st.map cenc) [] h' n0 cn sn)) = _
  rw [xsK_eq, xsK_eq]
theorem cT_len (hG : cW sv cd mi df el eb G) (hc : cC cd y pc (.arraylength, nx, tg, r1, r2)) {k : Nat} {q : xcell} (hq : xg h0 k = some q) (h13 : 13 ≤ q.1) (hl : q.2.1 < 2147483648)
    (kk : cT G h0 n0 y d nx ls ((0, (q.2.1 : Int)) :: st) g cn sn Q) : cT G h0 n0 y d pc ls ((4, (k : Int)) :: st) g cn sn Q := by
  refine cT_st (g' := g) (ls' := ls) (st' := (0, (q.2.1 : Int)) :: st) hG hc (fun h hh => ⟨h, hh, ls.map cle, (0, q.2.1) :: st.map cenc, fun rec => ?_, cls_rf ls, ⟨Or.inl ?_, ximS.rf sv _⟩⟩) kk
  · obtain ⟨t, a1, a2⟩ := hh k q hq
    show (cond (Nat.beq 4 4) (match xg h k with
        | none => none
        | some q => cond (Nat.ble 13 q.1) (rec y d nx (ls.map cle) ((0, q.2.1) :: st.map cenc) [] h n0 cn sn) none) none) = _
    rw [a1]
    show cond (Nat.ble 13 q.1) (rec y d nx (ls.map cle) ((0, q.2.1) :: st.map cenc) [] h n0 cn sn) none = _
    rw [xle1 h13]; rfl
  · show (0, q.2.1) = (0, c32 (q.2.1 : Int))
    rw [c32_nat (by omega) (by omega)]; rfl
theorem cT_lenE (hG : cW sv cd mi df el eb G) (hc : cC cd y pc (.arraylength, nx, tg, r1, r2)) {k : Nat} (hk : k = 0 ∨ k = 2 ∨ k = 4) (hl : el k < 2147483648)
    (kk : cT G h0 n0 y d nx ls ((0, (el k : Int)) :: st) g cn sn Q) : cT G h0 n0 y d pc ls ((6, (k : Int)) :: st) g cn sn Q := by
  refine cT_s0 hG hc ((0, el k) :: st.map cenc) (fun rec h => ?_) kk ⟨Or.inl ?_, ximS.rf sv _⟩
  · show cond (Nat.beq 6 6 && (Nat.beq k 0 || (Nat.beq k 2 || Nat.beq k 4))) (rec y d nx (ls.map cle) ((0, el k) :: st.map cenc) [] h n0 cn sn) none = _
    rcases hk with e | e | e <;> subst e <;> rfl
  · show (0, el k) = (0, c32 (el k : Int))
    rw [c32_nat (by omega) (by omega)]; rfl
theorem cT_ald (hG : cW sv cd mi df el eb G) (hc : cC cd y pc (ins, nx, tg, r1, r2)) {kd : Nat} (he : ∀ (rec : xF) (lx : List (Nat × xv)) (sx : List xv) (h : xheap), xex mi df el eb rec ins nx tg r1 r2 y d pc lx sx [] h n0 cn sn = x_ald el eb rec nx y d pc lx sx [] h n0 cn sn kd)
    {k i : Nat} {q : xcell} {w : xv} (hq : xg h0 k = some q) (hk : q.1 = kd ∨ (kd = 20 ∧ 20 ≤ q.1)) (hl : i < q.2.1) (h31 : i < 2147483648) (hw : xg q.2.2 i = some w)
    (kk : cT G h0 n0 y d nx ls (cval w (g k i) :: st) g cn sn Q) : cT G h0 n0 y d pc ls ((0, (i : Int)) :: (4, (k : Int)) :: st) g cn sn Q := by
  refine cT_st (g' := g) hG hc (fun h hh => ⟨h, hh, ls.map cle, cenc (cval w (g k i)) :: st.map cenc, fun rec => ?_, cls_rf ls, ximS.rf sv _⟩) kk
  obtain ⟨t, a1, a2⟩ := hh k q hq
  have hi : c32 (i : Int) = i := by rw [c32_nat (by omega) (by omega)]; rfl
  rw [he]
  show cond (Nat.blt (c32 (i : Int)) 2147483648) (cond (Nat.beq 4 4)
        (match xg h k with
          | none => none
          | some q => cond ((Nat.beq q.1 kd || (Nat.beq kd 20 && Nat.ble 20 q.1)) && Nat.blt (c32 (i : Int)) q.2.1)
              (match xg q.2.2 (c32 (i : Int)) with
                | none => none
                | some v => rec y d nx (ls.map cle) (v :: st.map cenc) [] h n0 cn sn) none) _) none = _
  rw [hi, xlt1 h31, a1]
  have hb : (Nat.beq q.1 kd || (Nat.beq kd 20 && Nat.ble 20 q.1)) = true := by
    rcases hk with e | ⟨e1, e2⟩
    · rw [xnb1 e]; rfl
    · rw [xnb1 e1, xle1 e2]; cases Nat.beq q.1 kd <;> rfl
  show cond ((Nat.beq q.1 kd || (Nat.beq kd 20 && Nat.ble 20 q.1)) && Nat.blt i q.2.1)
              (match xg t i with
                | none => none
                | some v => rec y d nx (ls.map cle) (v :: st.map cenc) [] h n0 cn sn) none = _
  rw [hb, xlt1 hl, a2 _ _ hw, cval_enc]
  rfl
theorem cT_aldS (hG : cW sv cd mi df el eb G) (hc : cC cd y pc (.iaload, nx, tg, r1, r2)) {i : Nat} (hl : i < el 0) (h31 : i < 2147483648)
    (kk : cT G h0 n0 y d nx ls ((0, (sv i).toInt) :: st) g cn sn Q) : cT G h0 n0 y d pc ls ((0, (i : Int)) :: (6, 0) :: st) g cn sn Q := by
  refine cT_s0 hG hc ((1, i) :: st.map cenc) (fun rec h => ?_) kk ⟨xim1 i, ximS.rf sv _⟩
  have hi : c32 (i : Int) = i := by rw [c32_nat (by omega) (by omega)]; rfl
  show cond (Nat.blt (c32 (i : Int)) 2147483648) (cond (Nat.beq 6 6 && Nat.beq 0 0 && Nat.beq 13 13 && Nat.blt (c32 (i : Int)) (el 0)) (rec y d nx (ls.map cle) ((1, (c32 (i : Int))) :: st.map cenc) [] h n0 cn sn) _) none = _
  rw [hi, xlt1 h31, xlt1 hl]; rfl
theorem cT_aldT (hG : cW sv cd mi df el eb G) (hc : cC cd y pc (.baload, nx, tg, r1, r2)) {i k : Nat} (hk : k = 2 ∨ k = 4) (hl : i < el k) (h31 : i < 2147483648)
    (kk : cT G h0 n0 y d nx ls ((0, (nI ((eb k).getD i 0)).toInt) :: st) g cn sn Q) : cT G h0 n0 y d pc ls ((0, (i : Int)) :: (6, (k : Int)) :: st) g cn sn Q := by
  refine cT_s0 hG hc ((0, (eb k).getD i 0) :: st.map cenc) (fun rec h => ?_) kk ⟨xim32 _, ximS.rf sv _⟩
  have hi : c32 (i : Int) = i := by rw [c32_nat (by omega) (by omega)]; rfl
  show cond (Nat.blt (c32 (i : Int)) 2147483648) (cond (Nat.beq 6 6 && Nat.beq k 0 && Nat.beq 15 13 && Nat.blt (c32 (i : Int)) (el 0)) (rec y d nx (ls.map cle) ((1, (c32 (i : Int))) :: st.map cenc) [] h n0 cn sn)
    (cond (Nat.beq 6 6 && (Nat.beq k 2 || Nat.beq k 4) && Nat.beq 15 15 && Nat.blt (c32 (i : Int)) (el k)) (rec y d nx (ls.map cle) ((0, (eb k).getD (c32 (i : Int)) 0) :: st.map cenc) [] h n0 cn sn) none)) none = _
  rw [hi, xlt1 h31, xlt1 hl]
  rcases hk with e | e <;> subst e <;> rfl
/-- the value that is stored -/
def cstv (kd : Nat) (v : cv) : cv := cond (Nat.beq kd 15) (0, (i32 v.2).toInt8.toInt32.toInt) v
theorem cT_ast (hG : cW sv cd mi df el eb G) (hc : cC cd y pc (ins, nx, tg, r1, r2)) {kd : Nat} (he : ∀ (rec : xF) (lx : List (Nat × xv)) (sx : List xv) (h : xheap), xex mi df el eb rec ins nx tg r1 r2 y d pc lx sx [] h n0 cn sn = x_ast rec nx y d pc lx sx [] h n0 cn sn kd)
    {k i : Nat} {q : xcell} {w : xv} {v : cv} (hq : xg h0 k = some q) (hk : q.1 = kd) (hl : i < q.2.1) (h31 : i < 2147483648) (hw : xg q.2.2 i = some w) (hv : (kd = 14 ∧ v.1 = 2 ∧ w.1 = 2) ∨ ((kd = 13 ∨ kd = 15) ∧ v.1 = 0 ∧ w.1 = 0))
    (kk : cT G h0 n0 y d nx ls st (cup g k i (cstv kd v).2) cn sn Q) : cT G h0 n0 y d pc ls (v :: (0, (i : Int)) :: (4, (k : Int)) :: st) g cn sn Q := by
  have hi : c32 (i : Int) = i := by rw [c32_nat (by omega) (by omega)]; rfl
  obtain ⟨vt, vz⟩ := v
  obtain ⟨wt, wn⟩ := w
  have hsv : cenc (cstv kd (vt, vz)) = cpl (wt, wn) (cstv kd (vt, vz)).2 ∧ cond (Nat.beq kd 15) (xb8 (cenc (vt, vz))) (cenc (vt, vz)) = cenc (cstv kd (vt, vz)) ∧ xfit (cond (Nat.beq kd 14) 1 0) (cenc (vt, vz)) = true := by
    rcases hv with ⟨e1, e2, e3⟩ | ⟨e1, e2, e3⟩
    · have e2 : vt = 2 := e2
      have e3 : wt = 2 := e3
      subst e1; subst e2; subst e3
      exact ⟨rfl, rfl, rfl⟩
    · have e2 : vt = 0 := e2
      have e3 : wt = 0 := e3
      subst e2; subst e3
      rcases e1 with e1 | e1
      · subst e1; exact ⟨rfl, rfl, rfl⟩
      · subst e1
        refine ⟨rfl, ?_, rfl⟩
        show (0, xnu (nI (c32 vz)).toInt8.toInt32) = (0, c32 (i32 vz).toInt8.toInt32.toInt)
        rw [c32_xnu]; rfl
  refine cT_st (g' := cup g k i (cstv kd (vt, vz)).2) hG hc (fun h hh => ?_) kk
  obtain ⟨t, a1, a2⟩ := hh k q hq
  refine ⟨_, hh.set hq hw a1 hsv.1, ls.map cle, st.map cenc, fun rec => ?_, cls_rf ls, ximS.rf sv _⟩
  rw [he]
  show cond (Nat.blt (c32 (i : Int)) 2147483648) (cond (Nat.beq 4 4 && xfit (cond (Nat.beq kd 14) 1 0) (cenc (vt, vz)))
        (match xg h k with
          | none => none
          | some q => cond (Nat.beq q.1 kd && Nat.blt (c32 (i : Int)) q.2.1)
              (xsK q.2.2 (c32 (i : Int)) (cond (Nat.beq kd 15) (xb8 (cenc (vt, vz))) (cenc (vt, vz))) (fun t => xsK h k (q.1, q.2.1, t) (fun h' => rec y d nx (ls.map cle) (st.map cenc) [] h' n0 cn sn))) none) none) none = _
  rw [hi, xlt1 h31, hsv.2.2, a1, hsv.2.1]
  show cond (Nat.beq q.1 kd && Nat.blt i q.2.1)
              (xsK t i (cenc (cstv kd (vt, vz))) (fun t => xsK h k (q.1, q.2.1, t) (fun h' => rec y d nx (ls.map cle) (st.map cenc) [] h' n0 cn sn))) none = _
  rw [xnb1 hk, xlt1 hl]
  show xsK t i (cenc (cstv kd (vt, vz))) (fun t => xsK h k (q.1, q.2.1, t) (fun h' => rec y d nx (ls.map cle) (st.map cenc) [] h' n0 cn sn)) = _
  rw [xsK_eq, xsK_eq]
/-- a copy of m places -/
def ccp (g : cg) (ka kb sp dp m : Nat) : cg := fun k j => if k = kb ∧ dp ≤ j ∧ j < dp + m then g ka (sp + (j - dp)) else g k j
theorem cT_cpy (hG : cW sv cd mi df el eb G) (h00 : cH0 h0) {i : Nat} (hc : cC cd y (pc) (.invokestatic i, nx, tg, r1, r2)) (h8 : r2 = 8) {ka kb sp dp m : Nat} {qa qb : xcell} (hqa : xg h0 ka = some qa) (hqb : xg h0 kb = some qb) (hk : qa.1 = 13 ∨ qa.1 = 14) (hk2 : qb.1 = qa.1) (hs : sp + m ≤ qa.2.1) (hd : dp + m ≤ qb.2.1) (hw : cwds st ≤ 8) (hdp : 1 ≤ d)
    (kk : cT G h0 n0 y d nx ls st (ccp g ka kb sp dp m) cn sn Q) : cT G h0 n0 y d pc ls ((0, (m : Int)) :: (0, (dp : Int)) :: (4, (kb : Int)) :: (0, (sp : Int)) :: (4, (ka : Int)) :: st) g cn sn Q := by
  subst h8
  obtain ⟨la, wa⟩ := h00 ka qa hqa
  obtain ⟨lb, wb⟩ := h00 kb qb hqb
  have e1 : c32 (m : Int) = m := by rw [c32_nat (by omega) (by omega)]; rfl
  have e2 : c32 (dp : Int) = dp := by rw [c32_nat (by omega) (by omega)]; rfl
  have e3 : c32 (sp : Int) = sp := by rw [c32_nat (by omega) (by omega)]; rfl
  refine cT_st (g' := ccp g ka kb sp dp m) hG hc (fun h hh => ?_) kk
  obtain ⟨ta, a1, a2⟩ := hh ka qa hqa
  obtain ⟨tb, b1, b2⟩ := hh kb qb hqb
  obtain ⟨t, f1, f2, f3⟩ := xcp_fw (t1 := ta) m sp dp tb (fun j x1 x2 => by
      obtain ⟨w, w1, -⟩ := wa j (by omega)
      exact ⟨_, a2 _ _ w1⟩) (fun j x1 x2 => by
      obtain ⟨w, w1, -⟩ := wb j (by omega)
      exact ⟨_, b2 _ _ w1⟩)
  refine ⟨xw h kb (qb.1, qb.2.1, t), ?_, ls.map cle, st.map cenc, fun rec => ?_, cls_rf ls, ximS.rf sv _⟩
  · intro k' q' hq'
    by_cases e : k' = kb
    · subst e
      have e4 : q' = qb := Option.some.inj (hq'.symm.trans hqb)
      subst e4
      refine ⟨t, xg_self _ _ _ _ b1, fun j w hw => ?_⟩
      unfold ccp
      by_cases hin : dp ≤ j ∧ j < dp + m
      · rw [if_pos ⟨rfl, hin.1, hin.2⟩, f2 j hin.1 hin.2]
        obtain ⟨w2, w3, w4, w5, -⟩ := wa (sp + (j - dp)) (by omega)
        obtain ⟨w6, w7, w8, w9, -⟩ := wb j (by omega)
        have e5 : w6 = w := Option.some.inj (w7.symm.trans hw)
        subst e5
        rw [a2 _ _ w3]
        obtain ⟨t2, n2⟩ := w2
        obtain ⟨t6, n6⟩ := w6
        rcases hk with hk | hk
        · have x1 : t2 = 0 := w4 (Or.inl hk)
          have x2 : t6 = 0 := w8 (Or.inl (by rw [hk2]; exact hk))
          subst x1; subst x2; rfl
        · have x1 : t2 = 2 := w5 hk
          have x2 : t6 = 2 := w9 (by rw [hk2]; exact hk)
          subst x1; subst x2; rfl
      · rw [if_neg (fun z => hin z.2), f3 j (by omega)]
        exact b2 _ _ hw
    · obtain ⟨t2, c1, c2⟩ := hh k' q' hq'
      refine ⟨t2, by rw [xg_other _ _ _ _ e]; exact c1, fun j w hw => ?_⟩
      unfold ccp
      rw [if_neg (fun z => e z.1)]
      exact c2 _ _ hw
  · show cond (Nat.beq 4 4 && Nat.beq 4 4 && Nat.ble (xwds (st.map cenc)) 8 && Nat.ble 1 d)
            (match xg h ka with
              | none => none
              | some qa => match xg h kb with
                | none => none
                | some qb => cond ((Nat.beq qa.1 13 || Nat.beq qa.1 14) && Nat.beq qb.1 qa.1 && Nat.ble (c32 (sp : Int) + c32 (m : Int)) qa.2.1 && Nat.ble (c32 (dp : Int) + c32 (m : Int)) qb.2.1 && Nat.blt (c32 (sp : Int) + c32 (m : Int)) 2147483648 && Nat.blt (c32 (dp : Int) + c32 (m : Int)) 2147483648)
                    (xcp qa.2.2 (c32 (m : Int)) (c32 (sp : Int)) (c32 (dp : Int)) qb.2.2 (fun t => xsK h kb (qb.1, qb.2.1, t) (fun h' => rec y d nx (ls.map cle) (st.map cenc) [] h' n0 cn sn))) none) none = _
    rw [e1, e2, e3, cwds_map, xle1 hw, xle1 hdp, a1, b1]
    show cond ((Nat.beq qa.1 13 || Nat.beq qa.1 14) && Nat.beq qb.1 qa.1 && Nat.ble (sp + m) qa.2.1 && Nat.ble (dp + m) qb.2.1 && Nat.blt (sp + m) 2147483648 && Nat.blt (dp + m) 2147483648)
                    (xcp ta m sp dp tb (fun t => xsK h kb (qb.1, qb.2.1, t) (fun h' => rec y d nx (ls.map cle) (st.map cenc) [] h' n0 cn sn))) none = _
    have hb : (Nat.beq qa.1 13 || Nat.beq qa.1 14) = true := by
      rcases hk with e | e <;> rw [e] <;> rfl
    rw [hb, xnb1 hk2, xle1 hs, xle1 hd, xlt1 (show sp + m < 2147483648 by omega), xlt1 (show dp + m < 2147483648 by omega)]
    show xcp ta m sp dp tb (fun t => xsK h kb (qb.1, qb.2.1, t) (fun h' => rec y d nx (ls.map cle) (st.map cenc) [] h' n0 cn sn)) = _
    rw [f1, xsK_eq]
/-- the receiver -/
def crcv (h0 : xheap) (inst virt : Bool) (kd : Nat) (args : List cv) : Prop :=
  inst = false ∨ ∃ (v : cv) (l : List cv), args = v :: l ∧ ((∃ (k : Nat) (q : xcell), v = (4, (k : Int)) ∧ xg h0 k = some q ∧ q.1 = kd ∧ kd < 13) ∨ (virt = true ∧ (v = (6, 1) ∨ v = (6, 3)) ∧ kd = 98))
def cpsh (rv : Option cv) (st : List cv) : List cv := match rv with
  | none => st
  | some v => v :: st
theorem cT_call (hG : cW sv cd mi df el eb G) (hc : cC cd y pc (ins, nx, tg, r1, r2)) {inst virt : Bool} {d' : Nat} (he : ∀ (rec : xF) (lx : List (Nat × xv)) (sx : List xv) (h : xheap), xex mi df el eb rec ins nx tg r1 r2 y (d' + 1) pc lx sx [] h n0 cn sn = x_call mi rec nx r1 y (d' + 1) lx sx [] h n0 cn sn inst virt)
    {q u : Nat × Nat × Nat × Nat × Nat × Nat} {args rest : List cv} (hq : xg mi y = some q) (hu : xg mi r1 = some u) (hp : cpop (cond inst (u.2.2.1 + 1) u.2.2.1) [] st = some (args, rest)) (hr : crcv h0 inst virt u.2.2.2.1 args)
    (hw : cwds rest ≤ 8) (ha : cwds args ≤ u.2.2.2.2.2) (hu1 : u.1 = 0) (hu2 : u.2.1 = 0) (hcn : cn ≤ q.1) (hsn : sn ≤ q.2.1) (hinst : args = [] → inst = false) {Q1 : cg → Option cv → Prop}
    (k1 : cT G h0 n0 r1 d' 0 (carg 0 args) [] g 0 0 Q1) (k2 : ∀ (g1 : cg) (rv : Option cv), Q1 g1 rv → cT G h0 n0 y (d' + 1) nx ls (cpsh rv rest) g1 cn sn Q) : cT G h0 n0 y (d' + 1) pc ls st g cn sn Q := by
  intro h hh
  obtain ⟨h1, g1, rv1, a1, b1, c1⟩ := k1 h hh
  obtain ⟨h2, g2, rv2, a2, b2, c2⟩ := k2 g1 rv1 b1 h1 a1
  refine ⟨h2, g2, rv2, a2, b2, ?_⟩
  refine hG.1 (xtwo (r1, d', 0, (carg 0 args).map cle, [], [], h, n0, 0, 0) (y, d' + 1, nx, ls.map cle, (cpsh rv1 rest).map cenc, [], h1, n0, cn, sn) [([], h1, n0, rv1.map cenc)] [([], h2, n0, rv2.map cenc)]) (xtwo_ok c1 c2) _ _ _ _ _ _ _ _ _ _ _ ?_
  rw [hc.step, he]
  generalize hrec : (xtwo (r1, d', 0, (carg 0 args).map cle, [], [], h, n0, 0, 0) (y, d' + 1, nx, ls.map cle, (cpsh rv1 rest).map cenc, [], h1, n0, cn, sn) [([], h1, n0, rv1.map cenc)] [([], h2, n0, rv2.map cenc)]) = rec
  have r1' : rec r1 d' 0 ((carg 0 args).map cle) [] [] h n0 0 0 = some [([], h1, n0, rv1.map cenc)] := by rw [← hrec]; exact xtwo_1
  have r2' : rec y (d' + 1) nx (ls.map cle) ((cpsh rv1 rest).map cenc) [] h1 n0 cn sn = some [([], h2, n0, rv2.map cenc)] := by rw [← hrec]; exact xtwo_2 (by show d' ≠ d' + 1; omega)
  have hgo : x_go mi rec nx y (d' + 1) (ls.map cle) [] h n0 cn sn r1 (args.map cenc) (rest.map cenc) = some [([], h2, n0, rv2.map cenc)] := by
    unfold x_go
    dsimp only
    rw [hq, hu]
    dsimp only
    rw [cwds_map, cwds_map, hu1, hu2, xle1 hw, xle1 ha, xle1 (show cn + 0 ≤ q.1 from hcn), xle1 (show sn + 0 ≤ q.2.1 from hsn), carg_map, r1']
    show xfrc (cn + 0) (fun c' => xfrc (sn + 0) (fun s' => xbind (fun l => rec y (d' + 1) nx (ls.map cle) (match l.2.2.2 with
                | none => rest.map cenc
                | some w => w :: rest.map cenc) l.1 l.2.1 l.2.2.1 c' s') [([], h1, n0, rv1.map cenc)])) = _
    rw [xfrc_eq, xfrc_eq]
    show xapp (rec y (d' + 1) nx (ls.map cle) (match rv1.map cenc with
                | none => rest.map cenc
                | some w => w :: rest.map cenc) [] h1 n0 cn sn) (some []) = _
    have e : (match rv1.map cenc with
                | none => rest.map cenc
                | some w => w :: rest.map cenc) = (cpsh rv1 rest).map cenc := by cases rv1 <;> rfl
    rw [e, r2']
    rfl
  unfold x_call
  rw [hu]
  dsimp only
  have hpm := cpop_map (cond inst (u.2.2.1 + 1) u.2.2.1) [] st
  rw [hp] at hpm
  rw [show xpop (cond inst (u.2.2.1 + 1) u.2.2.1) [] (st.map cenc) = some (args.map cenc, rest.map cenc) from hpm]
  dsimp only
  cases args with
  | nil =>
    rw [hinst rfl]
    exact hgo
  | cons v l =>
    show cond (!inst || cond virt (xrcv u.2.2.2.1 h (cenc v)) (Nat.beq (cenc v).1 4)) (x_go mi rec nx y (d' + 1) (ls.map cle) [] h n0 cn sn r1 (cenc v :: l.map cenc) (rest.map cenc)) none = _
    have hcd : (!inst || cond virt (xrcv u.2.2.2.1 h (cenc v)) (Nat.beq (cenc v).1 4)) = true := by
      rcases hr with e | ⟨v', l', e1, e2⟩
      · rw [e]; rfl
      · have e3 : v = v' := (List.cons.inj e1).1
        subst e3
        rcases e2 with ⟨k, qk, e4, e5, e6, e7⟩ | ⟨e4, e5, e6⟩
        · subst e4
          obtain ⟨t, t1, -⟩ := hh k qk e5
          have e8 : xrcv u.2.2.2.1 h (cenc (4, (k : Int))) = true := by
            show (match xg h k with
              | none => false
              | some q => Nat.beq q.1 u.2.2.2.1 && Nat.blt u.2.2.2.1 13) = true
            rw [t1]
            show (Nat.beq qk.1 u.2.2.2.1 && Nat.blt u.2.2.2.1 13) = true
            rw [xnb1 e6, xlt1 e7]; rfl
          rw [e8]
          cases inst <;> cases virt <;> rfl
        · subst e4
          rw [e6]
          rcases e5 with e5 | e5 <;> subst e5 <;> cases inst <;> rfl
    rw [hcd]
    exact hgo
/-! answers -/
theorem cT_ret (hG : cW sv cd mi df el eb G) (hc : cC cd y pc (.return_, nx, tg, r1, r2)) {q : Nat × Nat × Nat × Nat × Nat × Nat} (hq : xg mi y = some q) (h0' : q.2.2.2.2.1 = 0) (k : Q g none) : cT G h0 n0 y d pc ls [] g cn sn Q := by
  intro h hh
  refine ⟨h, g, none, hh, k, ?_⟩
  refine hG.1 (fun _ _ _ _ _ _ _ _ _ _ => none) (fun _ _ _ _ _ _ _ _ _ _ _ z => by cases z) _ _ _ _ _ _ _ _ _ _ _ ?_
  rw [hc.step]
  show x_ret mi y [] [] h n0 = _
  unfold x_ret
  rw [hq]
  dsimp only
  rw [h0']
  rfl
theorem cT_iret (hG : cW sv cd mi df el eb G) (hc : cC cd y pc (.ireturn, nx, tg, r1, r2)) {q : Nat × Nat × Nat × Nat × Nat × Nat} {v : cv} (hq : xg mi y = some q) (hr : xrok q.2.2.2.2.1 (cenc v) = true) (k : Q g (some v)) : cT G h0 n0 y d pc ls [v] g cn sn Q := by
  intro h hh
  refine ⟨h, g, some v, hh, k, ?_⟩
  refine hG.1 (fun _ _ _ _ _ _ _ _ _ _ => none) (fun _ _ _ _ _ _ _ _ _ _ _ z => by cases z) _ _ _ _ _ _ _ _ _ _ _ ?_
  rw [hc.step]
  show x_iret mi y [cenc v] [] h n0 = _
  unfold x_iret
  rw [hq]
  dsimp only
  rw [hr]
  rfl
theorem cT_lret (hG : cW sv cd mi df el eb G) (hc : cC cd y pc (.lreturn, nx, tg, r1, r2)) {q : Nat × Nat × Nat × Nat × Nat × Nat} {v : cv} (hq : xg mi y = some q) (h2 : q.2.2.2.2.1 = 2) (hv : v.1 = 2) (k : Q g (some v)) : cT G h0 n0 y d pc ls [v] g cn sn Q := by
  intro h hh
  refine ⟨h, g, some v, hh, k, ?_⟩
  refine hG.1 (fun _ _ _ _ _ _ _ _ _ _ => none) (fun _ _ _ _ _ _ _ _ _ _ _ z => by cases z) _ _ _ _ _ _ _ _ _ _ _ ?_
  rw [hc.step]
  show x_lret mi y [cenc v] [] h n0 = _
  unfold x_lret
  rw [hq]
  dsimp only
  rw [h2]
  show cond (Nat.beq (xkd (cenc v).1) 1) _ _ = _
  rw [cenc_1, hv]
  rfl
/-- fewer locals -/
theorem cT_drop (hG : cW sv cd mi df el eb G) (hs : ∀ q ∈ ls', q ∈ ls) (k : cT G h0 n0 y d pc ls' st g cn sn Q) : cT G h0 n0 y d pc ls st g cn sn Q := by
  intro h hh
  obtain ⟨h2, g2, rv, a, b, c⟩ := k h hh
  refine ⟨h2, g2, rv, a, b, hG.2 _ _ _ _ _ _ _ _ _ _ _ _ _ (fun q' hq' => ?_) (ximS.rf sv _) c⟩
  obtain ⟨q, h1, h2⟩ := List.mem_map.mp hq'
  exact ⟨q', List.mem_map.mpr ⟨q, hs q h1, h2⟩, rfl, Or.inl rfl⟩
end Run2
end
section
/-! Linear expressions over symbols, intervals, facts -/
abbrev ae : Type := Int × List (Nat × Int)
abbrev aenv : Type := Lean.RArray (Nat × Option (Int × Int))
theorem xcnb {b x : Bool} (h : cond b x false = true) : b = true ∧ x = true := by cases b <;> simp_all
theorem xcnt {b x : Bool} (h : cond b true x = true) : b = true ∨ x = true := by cases b <;> simp_all
def evl (ρ : Nat → Int) : List (Nat × Int) → Int
  | [] => 0
  | q :: l => q.2 * ρ q.1 + evl ρ l
def ev (ρ : Nat → Int) (e : ae) : Int := e.1 + evl ρ e.2
/-! numbers, quick for the kernel -/
def zle (a b : Int) : Bool := match a, b with
  | .ofNat m, .ofNat n => Nat.ble m n
  | .negSucc _, .ofNat _ => true
  | .ofNat _, .negSucc _ => false
  | .negSucc m, .negSucc n => Nat.ble n m
def zeq (a b : Int) : Bool := match a, b with
  | .ofNat m, .ofNat n => Nat.beq m n
  | .negSucc _, .ofNat _ => false
  | .ofNat _, .negSucc _ => false
  | .negSucc m, .negSucc n => Nat.beq m n
def zlt (a b : Int) : Bool := !zle b a
theorem zle_iff : ∀ {a b : Int}, zle a b = true ↔ a ≤ b
  | .ofNat m, .ofNat n => ⟨fun h => Int.ofNat_le.mpr (Nat.le_of_ble_eq_true h), fun h => Nat.ble_eq_true_of_le (Int.ofNat_le.mp h)⟩
  | .negSucc m, .ofNat n => ⟨fun _ => by have : (Int.negSucc m) < 0 := Int.negSucc_lt_zero m; have : (0 : Int) ≤ Int.ofNat n := Int.natCast_nonneg n; omega, fun _ => rfl⟩
  | .ofNat m, .negSucc n => ⟨fun h => (by cases h), fun h => by have : (Int.negSucc n) < 0 := Int.negSucc_lt_zero n; have : (0 : Int) ≤ Int.ofNat m := Int.natCast_nonneg m; omega⟩
  | .negSucc m, .negSucc n => ⟨fun h => by have := Nat.le_of_ble_eq_true (show Nat.ble n m = true from h); rw [Int.negSucc_eq, Int.negSucc_eq]; omega, fun h => by rw [Int.negSucc_eq, Int.negSucc_eq] at h; exact Nat.ble_eq_true_of_le (by omega)⟩
theorem zeq_iff : ∀ {a b : Int}, zeq a b = true ↔ a = b
  | .ofNat m, .ofNat n => ⟨fun h => congrArg _ (Nat.eq_of_beq_eq_true h), fun h => (by cases h; exact Nat.beq_refl _)⟩
  | .negSucc m, .ofNat n => ⟨fun h => (by cases h), fun h => (by cases h)⟩
  | .ofNat m, .negSucc n => ⟨fun h => (by cases h), fun h => (by cases h)⟩
  | .negSucc m, .negSucc n => ⟨fun h => congrArg _ (Nat.eq_of_beq_eq_true h), fun h => (by cases h; exact Nat.beq_refl _)⟩
theorem zlt_iff {a b : Int} : zlt a b = true ↔ a < b := by
  unfold zlt
  cases h : zle b a with
  | true => have := zle_iff.mp h; constructor
            · intro z; cases z
            · intro z; omega
  | false => constructor
             · intro _
               have : ¬ b ≤ a := fun z => by rw [zle_iff.mpr z] at h; cases h
               omega
             · intro _; rfl
theorem zle_f {a b : Int} (h : zle a b = false) : b < a := by
  have : ¬ a ≤ b := fun z => by rw [zle_iff.mpr z] at h; cases h
  omega
def zmn (a b : Int) : Int := cond (zle a b) a b
def zmx (a b : Int) : Int := cond (zle a b) b a
theorem zmn_l (a b : Int) : zmn a b ≤ a := by
  unfold zmn; cases h : zle a b with
  | true => exact Int.le_refl _
  | false => exact Int.le_of_lt (zle_f h)
theorem zmn_r (a b : Int) : zmn a b ≤ b := by
  unfold zmn; cases h : zle a b with
  | true => exact zle_iff.mp h
  | false => exact Int.le_refl _
theorem zmn_of {a b c : Int} (h1 : c ≤ a) (h2 : c ≤ b) : c ≤ zmn a b := by
  unfold zmn; cases zle a b <;> assumption
theorem zmx_l (a b : Int) : a ≤ zmx a b := by
  unfold zmx; cases h : zle a b with
  | true => exact zle_iff.mp h
  | false => exact Int.le_refl _
theorem zmx_r (a b : Int) : b ≤ zmx a b := by
  unfold zmx; cases h : zle a b with
  | true => exact Int.le_refl _
  | false => exact Int.le_of_lt (zle_f h)
theorem zmx_of {a b c : Int} (h1 : a ≤ c) (h2 : b ≤ c) : zmx a b ≤ c := by
  unfold zmx; cases zle a b <;> assumption
noncomputable def zfrc {β : Type} (z : Int) (c : Int → β) : β := Int.rec (motive := fun _ => β) (fun n => xfrc n (fun m => c (.ofNat m))) (fun n => xfrc n (fun m => c (.negSucc m))) z
theorem zfrc_eq {β : Type} (z : Int) (c : Int → β) : zfrc z c = c z := by
  cases z with
  | ofNat n => exact xfrc_eq n (fun m => c (.ofNat m))
  | negSucc n => exact xfrc_eq n (fun m => c (.negSucc m))
noncomputable def lfrc {β : Type} (l : List (Nat × Int)) (c : List (Nat × Int) → β) : β :=
  List.rec (motive := fun _ => (List (Nat × Int) → β) → β) (fun c => c []) (fun q _ r c => xfrc q.1 (fun s => zfrc q.2 (fun z => r (fun m => c ((s, z) :: m))))) l c
theorem lfrc_eq {β : Type} : ∀ (l : List (Nat × Int)) (c : List (Nat × Int) → β), lfrc l c = c l
  | [], _ => rfl
  | q :: l, c => by
    show xfrc q.1 (fun s => zfrc q.2 (fun z => lfrc l (fun m => c ((s, z) :: m)))) = _
    rw [xfrc_eq, zfrc_eq, lfrc_eq l]
noncomputable def efrc {β : Type} (e : ae) (c : ae → β) : β := zfrc e.1 (fun z => lfrc e.2 (fun l => c (z, l)))
theorem efrc_eq {β : Type} (e : ae) (c : ae → β) : efrc e c = c e := by unfold efrc; rw [zfrc_eq, lfrc_eq]
/-! sums -/
def eins (s : Nat) (c : Int) : List (Nat × Int) → List (Nat × Int)
  | [] => [(s, c)]
  | q :: l => cond (Nat.beq q.1 s) (cond (zeq (Int.add q.2 c) 0) l ((s, Int.add q.2 c) :: l)) (cond (Nat.ble s q.1) ((s, c) :: q :: l) (q :: eins s c l))
theorem eins_ev (ρ : Nat → Int) (s : Nat) (c : Int) : ∀ l, evl ρ (eins s c l) = c * ρ s + evl ρ l
  | [] => rfl
  | q :: l => by
    show evl ρ (cond (Nat.beq q.1 s) (cond (zeq (Int.add q.2 c) 0) l ((s, Int.add q.2 c) :: l)) (cond (Nat.ble s q.1) ((s, c) :: q :: l) (q :: eins s c l))) = c * ρ s + (q.2 * ρ q.1 + evl ρ l)
    cases h : Nat.beq q.1 s with
    | true =>
      have e := Nat.eq_of_beq_eq_true h
      rw [e]
      have hd : (Int.add q.2 c) * ρ s = q.2 * ρ s + c * ρ s := Int.add_mul q.2 c (ρ s)
      cases hz : zeq (Int.add q.2 c) 0 with
      | true =>
        have hz := zeq_iff.mp hz
        rw [hz, Int.zero_mul] at hd
        simp only [cond_true]
        omega
      | false =>
        simp only [cond_true, cond_false]
        show (Int.add q.2 c) * ρ s + evl ρ l = _
        omega
    | false =>
      simp only [cond_false]
      cases Nat.ble s q.1 with
      | true => rfl
      | false =>
        show q.2 * ρ q.1 + evl ρ (eins s c l) = _
        rw [eins_ev ρ s c l]
        omega
/-- a + k b -/
def eaddl (k : Int) : List (Nat × Int) → List (Nat × Int) → List (Nat × Int)
  | [], l => l
  | q :: m, l => eaddl k m (eins q.1 (Int.mul k q.2) l)
theorem eaddl_ev (ρ : Nat → Int) (k : Int) : ∀ m l, evl ρ (eaddl k m l) = evl ρ l + k * evl ρ m
  | [], l => by show evl ρ l = evl ρ l + k * 0; rw [Int.mul_zero, Int.add_zero]
  | q :: m, l => by
    show evl ρ (eaddl k m (eins q.1 (Int.mul k q.2) l)) = evl ρ l + k * (q.2 * ρ q.1 + evl ρ m)
    rw [eaddl_ev ρ k m, eins_ev, Int.mul_add, ← Int.mul_assoc]
    show k * q.2 * ρ q.1 + evl ρ l + k * evl ρ m = _
    omega
def eadd (a b : ae) (k : Int) : ae := cond (zeq k 0) a (Int.add a.1 (Int.mul k b.1), eaddl k b.2 a.2)
theorem eadd_ev (ρ : Nat → Int) (a b : ae) (k : Int) : ev ρ (eadd a b k) = ev ρ a + k * ev ρ b := by
  unfold eadd
  cases h : zeq k 0 with
  | true =>
    rw [zeq_iff.mp h, Int.zero_mul, Int.add_zero]; rfl
  | false =>
    show (a.1 + k * b.1) + evl ρ (eaddl k b.2 a.2) = (a.1 + evl ρ a.2) + k * (b.1 + evl ρ b.2)
    rw [eaddl_ev, Int.mul_add]
    omega
def ecst (c : Int) : ae := (c, [])
theorem ecst_ev (ρ : Nat → Int) (c : Int) : ev ρ (ecst c) = c := by show c + 0 = c; omega
def esym (s : Nat) : ae := (0, [(s, 1)])
theorem esym_ev (ρ : Nat → Int) (s : Nat) : ev ρ (esym s) = ρ s := by show 0 + (1 * ρ s + 0) = ρ s; omega
def eadc (a : ae) (c : Int) : ae := (Int.add a.1 c, a.2)
theorem eadc_ev (ρ : Nat → Int) (a : ae) (c : Int) : ev ρ (eadc a c) = ev ρ a + c := by
  show (a.1 + c) + evl ρ a.2 = (a.1 + evl ρ a.2) + c
  omega
def escl (a : ae) (k : Int) : ae := eadd (0, []) a k
theorem escl_ev (ρ : Nat → Int) (a : ae) (k : Int) : ev ρ (escl a k) = k * ev ρ a := by
  unfold escl
  rw [eadd_ev]
  show 0 + 0 + _ = _
  omega
/-! intervals -/
def envR (env : aenv) (ρ : Nat → Int) : Prop := ∀ (s : Nat) (i : Int × Int), xg env s = some (some i) → i.1 ≤ ρ s ∧ ρ s ≤ i.2
noncomputable def eub (env : aenv) : List (Nat × Int) → Int → Option Int
  | [], acc => some acc
  | q :: l, acc => match xg env q.1 with
    | some (some i) => zfrc (Int.add acc (Int.mul q.2 (cond (zle 0 q.2) i.2 i.1))) (fun a => eub env l a)
    | _ => none
theorem mul_ub {k x lo hi : Int} (h1 : lo ≤ x) (h2 : x ≤ hi) : k * x ≤ Int.mul k (cond (zle 0 k) hi lo) := by
  show k * x ≤ k * (cond (zle 0 k) hi lo)
  cases h : zle 0 k with
  | true => exact Int.mul_le_mul_of_nonneg_left h2 (zle_iff.mp h)
  | false =>
    have hk := zle_f h
    exact Int.mul_le_mul_of_nonpos_left (by omega) h1
theorem eub_ok {env : aenv} {ρ : Nat → Int} (hE : envR env ρ) : ∀ (l : List (Nat × Int)) (acc u : Int), eub env l acc = some u → acc + evl ρ l ≤ u
  | [], acc, u, h => by
    have : acc = u := Option.some.inj h
    show acc + 0 ≤ u
    omega
  | q :: l, acc, u, h => by
    unfold eub at h
    split at h
    · rename_i i hg
      rw [zfrc_eq] at h
      have ih := eub_ok hE l _ u h
      obtain ⟨a1, a2⟩ := hE q.1 i hg
      have := mul_ub (k := q.2) a1 a2
      show acc + (q.2 * ρ q.1 + evl ρ l) ≤ u
      have e : Int.add acc (Int.mul q.2 (cond (zle 0 q.2) i.2 i.1)) = acc + Int.mul q.2 (cond (zle 0 q.2) i.2 i.1) := rfl
      rw [e] at ih
      omega
    · cases h
noncomputable def eu (env : aenv) (e : ae) : Option Int := eub env e.2 e.1
theorem eu_ok {env : aenv} {ρ : Nat → Int} (hE : envR env ρ) {e : ae} {u : Int} (h : eu env e = some u) : ev ρ e ≤ u := eub_ok hE e.2 e.1 u h
/-! facts: each is at most 0 -/
def fxR (fx : List ae) (ρ : Nat → Int) : Prop := ∀ f ∈ fx, ev ρ f ≤ 0
/-- a symbol of one sign in both -/
def esh1 (q : Nat × Int) : List (Nat × Int) → Bool
  | [] => false
  | r :: l => cond (Nat.beq q.1 r.1) (cond (zle 0 q.2) (zle 0 r.2) (zle r.2 0)) (esh1 q l)
def eshr (e : List (Nat × Int)) : List (Nat × Int) → Bool
  | [] => false
  | q :: l => cond (esh1 q e) true (eshr e l)
/-- is e at most 0, by the facts: d of them, one behind another -/
noncomputable def elef (env : aenv) (fx : List ae) : Nat → ae → Bool
  | 0, e => match eu env e with
    | none => false
    | some u => zle u 0
  | d + 1, e => match eu env e with
    | none => false
    | some u => cond (zle u 0) true (fx.any (fun f => cond (eshr e.2 f.2) (efrc (eadd e f (-1)) (fun x => elef env fx d x)) false))
theorem elef_ok {env : aenv} {ρ : Nat → Int} {fx : List ae} (hE : envR env ρ) (hF : fxR fx ρ) : ∀ (d : Nat) (e : ae), elef env fx d e = true → ev ρ e ≤ 0
  | 0, e, h => by
    unfold elef at h
    cases hu : eu env e with
    | none => rw [hu] at h; cases h
    | some u =>
      rw [hu] at h
      have := eu_ok hE hu
      have := zle_iff.mp h
      omega
  | d + 1, e, h => by
    unfold elef at h
    cases hu : eu env e with
    | none => rw [hu] at h; cases h
    | some u =>
      rw [hu] at h
      dsimp only at h
      cases hz : zle u 0 with
      | true =>
        have := eu_ok hE hu
        have := zle_iff.mp hz
        omega
      | false =>
        rw [hz] at h
        simp only [cond_false] at h
        obtain ⟨f, hf, h2⟩ := List.any_eq_true.mp h
        obtain ⟨-, h3⟩ := xcnb h2
        rw [efrc_eq] at h3
        have := elef_ok hE hF d _ h3
        rw [eadd_ev] at this
        have := hF f hf
        omega
/-! the same as a number -/
noncomputable def eubf (env : aenv) (fx : List ae) : Nat → ae → Option Int
  | 0, e => eu env e
  | d + 1, e => match eu env e with
    | none => none
    | some u => some (fx.foldl (fun u f => cond (eshr e.2 f.2) (efrc (eadd e f (-1)) (fun x => match eubf env fx d x with
      | none => u
      | some w => zmn u w)) u) u)
theorem eubf_fold {α : Type} {x : Int} {F : Int → α → Int} : ∀ (l : List α) (u : Int), (∀ u, ∀ f ∈ l, x ≤ u → x ≤ F u f) → x ≤ u → x ≤ l.foldl F u
  | [], _, _, h => h
  | f :: l, u, hF, h => eubf_fold l (F u f) (fun u g hg => hF u g (List.mem_cons_of_mem _ hg)) (hF u f List.mem_cons_self h)
theorem eubf_ok {env : aenv} {ρ : Nat → Int} {fx : List ae} (hE : envR env ρ) (hF : fxR fx ρ) : ∀ (d : Nat) (e : ae) (u : Int), eubf env fx d e = some u → ev ρ e ≤ u
  | 0, e, u, h => eu_ok hE h
  | d + 1, e, u, h => by
    unfold eubf at h
    cases hu : eu env e with
    | none => rw [hu] at h; cases h
    | some u0 =>
      rw [hu] at h
      have h := Option.some.inj h
      rw [← h]
      refine eubf_fold fx u0 (fun u f hf hx => ?_) (eu_ok hE hu)
      cases hs : eshr e.2 f.2 with
      | false => exact hx
      | true =>
        simp only [cond_true]
        rw [efrc_eq]
        cases hw : eubf env fx d (eadd e f (-1)) with
        | none => exact hx
        | some w =>
          dsimp only
          refine zmn_of hx ?_
          have := eubf_ok hE hF d _ w hw
          rw [eadd_ev] at this
          have := hF f hf
          omega
/-- lower and upper bound, by the facts -/
noncomputable def ebd (env : aenv) (fx : List ae) (e : ae) : Option (Int × Int) :=
  match e.2 with
  | [] => some (e.1, e.1)
  | _ => match eubf env fx 2 e with
    | none => none
    | some u => efrc (escl e (-1)) (fun x => match eubf env fx 2 x with
      | none => none
      | some w => some (Int.neg w, u))
theorem ebd_ok {env : aenv} {ρ : Nat → Int} {fx : List ae} (hE : envR env ρ) (hF : fxR fx ρ) {e : ae} {i : Int × Int} (h : ebd env fx e = some i) : i.1 ≤ ev ρ e ∧ ev ρ e ≤ i.2 := by
  unfold ebd at h
  split at h
  · rename_i hn
    have h := Option.some.inj h
    have : ev ρ e = e.1 := by unfold ev; rw [hn]; show e.1 + 0 = e.1; omega
    rw [← h, this]
    exact ⟨Int.le_refl _, Int.le_refl _⟩
  · cases hu : eubf env fx 2 e with
    | none => rw [hu] at h; cases h
    | some u =>
      rw [hu] at h
      dsimp only at h
      rw [efrc_eq] at h
      cases hw : eubf env fx 2 (escl e (-1)) with
      | none => rw [hw] at h; cases h
      | some w =>
        rw [hw] at h
        have h := Option.some.inj h
        rw [← h]
        have h1 := eubf_ok hE hF 2 _ u hu
        have h2 := eubf_ok hE hF 2 _ w hw
        rw [escl_ev] at h2
        refine ⟨?_, h1⟩
        show -w ≤ ev ρ e
        omega
/-- does e lie between lo and hi -/
noncomputable def efit (env : aenv) (fx : List ae) (e : ae) (lo hi : Int) : Bool :=
  match e.2 with
  | [] => cond (zle lo e.1) (zle e.1 hi) false
  | _ => efrc (eadc e (Int.neg hi)) (fun a => cond (elef env fx 2 a) (efrc (eadd (lo, []) e (-1)) (fun b => elef env fx 2 b)) false)
theorem efit_ok {env : aenv} {ρ : Nat → Int} {fx : List ae} (hE : envR env ρ) (hF : fxR fx ρ) {e : ae} {lo hi : Int} (h : efit env fx e lo hi = true) : lo ≤ ev ρ e ∧ ev ρ e ≤ hi := by
  unfold efit at h
  split at h
  · rename_i hn
    obtain ⟨h1, h2⟩ := xcnb h
    have : ev ρ e = e.1 := by unfold ev; rw [hn]; show e.1 + 0 = e.1; omega
    rw [this]
    exact ⟨zle_iff.mp h1, zle_iff.mp h2⟩
  · rw [efrc_eq] at h
    obtain ⟨h1, h2⟩ := xcnb h
    rw [efrc_eq] at h2
    have h1 := elef_ok hE hF 2 _ h1
    have h2 := elef_ok hE hF 2 _ h2
    rw [eadc_ev] at h1
    rw [eadd_ev] at h2
    have e1 : ev ρ ((lo, []) : ae) = lo := ecst_ev ρ lo
    rw [e1] at h2
    have e2 : Int.neg hi = -hi := rfl
    rw [e2] at h1
    constructor <;> omega
/-! what is assumed narrows the intervals -/
theorem xw_none {α : Type} (t : Lean.RArray (Nat × α)) (k : Nat) (v : α) (h : xg t k = none) : xg (xw t k v) k = none := by
  induction t with
  | leaf q =>
    rw [xg_leaf] at h
    rw [xw_leaf]
    cases hb : Nat.beq q.1 k with
    | true => rw [hb] at h; cases h
    | false => rw [hb] at h; simp only [cond_false]; rw [xg_leaf, hb]; rfl
  | branch p a b iha ihb =>
    rw [xg_branch] at h
    rw [xw_branch]
    cases hb : Nat.ble p k with
    | true => rw [hb] at h; simp only [cond_true] at h ⊢; rw [xg_branch, hb]; exact ihb h
    | false => rw [hb] at h; simp only [cond_false] at h ⊢; rw [xg_branch, hb]; exact iha h
theorem envR_set {env : aenv} {ρ : Nat → Int} (hE : envR env ρ) {s : Nat} {i : Int × Int} (h1 : i.1 ≤ ρ s) (h2 : ρ s ≤ i.2) : envR (xw env s (some i)) ρ := by
  intro t j ht
  by_cases e : t = s
  · subst e
    cases hg : xg env t with
    | none =>
      have := xw_none env t (some i) hg
      rw [this] at ht
      cases ht
    | some w =>
      rw [xg_self env t (some i) w hg] at ht
      have := Option.some.inj (Option.some.inj ht)
      rw [← this]
      exact ⟨h1, h2⟩
  · rw [xg_other env s t _ e] at ht
    exact hE t j ht
/-- n: what is at least 0; l: the symbols to narrow, with their factors in -n -/
noncomputable def anar (n : ae) : List (Nat × Int) → aenv → (aenv → Bool) → Bool
  | [], env, k => k env
  | q :: l, env, k => match xg env q.1 with
    | some (some i) => match eub env (eins q.1 q.2 n.2) n.1 with
      | none => false
      | some u => cond (zle q.2 0)
        (zfrc (Int.neg (Int.ediv u (Int.neg q.2))) (fun a => cond (zle a i.1) (anar n l env k) (cond (zle a i.2) (xsK env q.1 (some (a, i.2)) (fun env' => anar n l env' k)) true)))
        (zfrc (Int.ediv u q.2) (fun b => cond (zle i.2 b) (anar n l env k) (cond (zle i.1 b) (xsK env q.1 (some (i.1, b)) (fun env' => anar n l env' k)) true)))
    | _ => false
theorem zdiv_ub {k x u : Int} (hk : 0 < k) (h : k * x ≤ u) : x ≤ Int.ediv u k := by
  show x ≤ u / k
  rw [Int.le_ediv_iff_mul_le hk, Int.mul_comm]
  exact h
theorem zdiv_lb {k x u : Int} (hk : k < 0) (h : k * x ≤ u) : Int.neg (Int.ediv u (Int.neg k)) ≤ x := by
  have h1 : (-k) * (-x) ≤ u := by rw [Int.neg_mul_neg]; exact h
  have := zdiv_ub (k := -k) (x := -x) (u := u) (by omega) h1
  have e1 : Int.ediv u (Int.neg k) = Int.ediv u (-k) := rfl
  have e2 : Int.neg (Int.ediv u (Int.neg k)) = - Int.ediv u (-k) := rfl
  omega
theorem anar_ok {n : ae} {P : (Nat → Int) → Prop} (hP : ∃ ρ, P ρ) : ∀ (l : List (Nat × Int)) (env : aenv) (k : aenv → Bool), anar n l env k = true → (∀ ρ, P ρ → envR env ρ ∧ 0 ≤ ev ρ n) → (∀ q ∈ l, q.2 ≠ 0) → ∃ env', k env' = true ∧ ∀ ρ, P ρ → envR env' ρ
  | [], env, k, h, hR, _ => ⟨env, h, fun ρ p => (hR ρ p).1⟩
  | q :: l, env, k, h, hR, hz => by
    have hz' : ∀ q ∈ l, q.2 ≠ 0 := fun r hr => hz r (List.mem_cons_of_mem _ hr)
    have hq0 := hz q List.mem_cons_self
    unfold anar at h
    split at h
    · rename_i i hg
      cases hu : eub env (eins q.1 q.2 n.2) n.1 with
      | none => rw [hu] at h; cases h
      | some u =>
        rw [hu] at h
        dsimp only at h
        have key : ∀ ρ, P ρ → q.2 * ρ q.1 ≤ u := by
          intro ρ p
          obtain ⟨h1, h2⟩ := hR ρ p
          have h3 := eub_ok h1 _ _ u hu
          rw [eins_ev] at h3
          have h4 : ev ρ n = n.1 + evl ρ n.2 := rfl
          omega
        cases hs : zle q.2 0 with
        | true =>
          rw [hs] at h
          simp only [cond_true] at h
          rw [zfrc_eq] at h
          have hk : q.2 < 0 := by have := zle_iff.mp hs; omega
          cases h1 : zle (Int.neg (Int.ediv u (Int.neg q.2))) i.1 with
          | true => rw [h1] at h; exact anar_ok hP l env k h hR hz'
          | false =>
            rw [h1] at h
            simp only [cond_false] at h
            rcases hP with ⟨ρ0, p0⟩
            have hb0 := zdiv_lb hk (key ρ0 p0)
            have hi0 := (hR ρ0 p0).1 q.1 i hg
            cases h2 : zle (Int.neg (Int.ediv u (Int.neg q.2))) i.2 with
            | false => have := zle_f h2; omega
            | true =>
              rw [h2] at h
              simp only [cond_true] at h
              rw [xsK_eq] at h
              exact anar_ok ⟨ρ0, p0⟩ l _ k h (fun ρ p => ⟨envR_set (hR ρ p).1 (zdiv_lb hk (key ρ p)) ((hR ρ p).1 q.1 i hg).2, (hR ρ p).2⟩) hz'
        | false =>
          rw [hs] at h
          simp only [cond_false] at h
          rw [zfrc_eq] at h
          have hk : 0 < q.2 := zle_f hs
          cases h1 : zle i.2 (Int.ediv u q.2) with
          | true => rw [h1] at h; exact anar_ok hP l env k h hR hz'
          | false =>
            rw [h1] at h
            simp only [cond_false] at h
            rcases hP with ⟨ρ0, p0⟩
            have hb0 := zdiv_ub hk (key ρ0 p0)
            have hi0 := (hR ρ0 p0).1 q.1 i hg
            cases h2 : zle i.1 (Int.ediv u q.2) with
            | false => have := zle_f h2; omega
            | true =>
              rw [h2] at h
              simp only [cond_true] at h
              rw [xsK_eq] at h
              exact anar_ok ⟨ρ0, p0⟩ l _ k h (fun ρ p => ⟨envR_set (hR ρ p).1 ((hR ρ p).1 q.1 i hg).1 (zdiv_ub hk (key ρ p)), (hR ρ p).2⟩) hz'
    · cases h
/-- all facts narrow once -/
def znz : List (Nat × Int) → Bool
  | [] => true
  | q :: l => cond (zeq q.2 0) false (znz l)
theorem znz_ok : ∀ {l : List (Nat × Int)}, znz l = true → ∀ q ∈ l, q.2 ≠ 0
  | [], _, _, hq => absurd hq List.not_mem_nil
  | r :: l, h, q, hq => by
    unfold znz at h
    cases hz : zeq r.2 0 with
    | true => rw [hz] at h; cases h
    | false =>
      rw [hz] at h
      rcases List.mem_cons.mp hq with e | hq
      · rw [e]; intro z; rw [zeq_iff.mpr z] at hz; cases hz
      · exact znz_ok h q hq
noncomputable def aprp : List ae → aenv → (aenv → Bool) → Bool
  | [], env, k => k env
  | f :: l, env, k => cond (znz f.2) (efrc (escl f (-1)) (fun n => anar n f.2 env (fun env' => aprp l env' k))) false
theorem aprp_ok {P : (Nat → Int) → Prop} (hP : ∃ ρ, P ρ) : ∀ (l : List ae) (env : aenv) (k : aenv → Bool), aprp l env k = true → (∀ ρ, P ρ → envR env ρ ∧ fxR l ρ) → ∃ env', k env' = true ∧ ∀ ρ, P ρ → envR env' ρ
  | [], env, k, h, hR => ⟨env, h, fun ρ p => (hR ρ p).1⟩
  | f :: l, env, k, h, hR => by
    unfold aprp at h
    obtain ⟨h1, h2⟩ := xcnb h
    rw [efrc_eq] at h2
    obtain ⟨env', h3, h4⟩ := anar_ok hP _ _ _ h2 (fun ρ p => ⟨(hR ρ p).1, by rw [escl_ev]; have := (hR ρ p).2 f List.mem_cons_self; omega⟩) (znz_ok h1)
    exact aprp_ok hP l env' k h3 (fun ρ p => ⟨h4 ρ p, fun g hg => (hR ρ p).2 g (List.mem_cons_of_mem _ hg)⟩)
/-- symbols that are known go into the constant -/
noncomputable def enrm (env : aenv) : List (Nat × Int) → Int → List (Nat × Int) → (Int → List (Nat × Int) → ae) → ae
  | [], c, acc, k => k c acc
  | q :: l, c, acc, k => match xg env q.1 with
    | some (some i) => cond (zeq i.1 i.2) (enrm env l (Int.add c (Int.mul q.2 i.1)) acc k) (enrm env l c acc (fun c' a => k c' (q :: a)))
    | _ => enrm env l c acc (fun c' a => k c' (q :: a))
noncomputable def enor (env : aenv) (e : ae) : ae := match e.2 with
  | [] => e
  | _ => enrm env e.2 e.1 [] (fun c l => (c, l))
theorem enrm_ok {env : aenv} {ρ : Nat → Int} (hE : envR env ρ) : ∀ (l : List (Nat × Int)) (c : Int) (acc : List (Nat × Int)) (k : Int → List (Nat × Int) → ae), ∃ (c' : Int) (m : List (Nat × Int)), enrm env l c acc k = k c' m ∧ c' + evl ρ m = c + evl ρ l + evl ρ acc
  | [], c, acc, k => ⟨c, acc, rfl, by show c + evl ρ acc = c + 0 + evl ρ acc; omega⟩
  | q :: l, c, acc, k => by
    have keep : ∃ (c' : Int) (m : List (Nat × Int)), enrm env l c acc (fun c' a => k c' (q :: a)) = k c' m ∧ c' + evl ρ m = c + evl ρ (q :: l) + evl ρ acc := by
      obtain ⟨c', m, h1, h2⟩ := enrm_ok hE l c acc (fun c' a => k c' (q :: a))
      refine ⟨c', q :: m, h1, ?_⟩
      show c' + (q.2 * ρ q.1 + evl ρ m) = c + (q.2 * ρ q.1 + evl ρ l) + evl ρ acc
      omega
    unfold enrm
    split
    · rename_i i hg
      cases hz : zeq i.1 i.2 with
      | false => exact keep
      | true =>
        simp only [cond_true]
        obtain ⟨c', m, h1, h2⟩ := enrm_ok hE l (Int.add c (Int.mul q.2 i.1)) acc k
        refine ⟨c', m, h1, ?_⟩
        obtain ⟨b1, b2⟩ := hE q.1 i hg
        have e := zeq_iff.mp hz
        have e2 : ρ q.1 = i.1 := by omega
        show c' + evl ρ m = c + (q.2 * ρ q.1 + evl ρ l) + evl ρ acc
        rw [e2]
        have e3 : Int.add c (Int.mul q.2 i.1) = c + q.2 * i.1 := rfl
        rw [e3] at h2
        omega
    · exact keep
theorem enor_ok {env : aenv} {ρ : Nat → Int} (hE : envR env ρ) (e : ae) : ev ρ (enor env e) = ev ρ e := by
  unfold enor
  split
  · rfl
  · obtain ⟨c', m, h1, h2⟩ := enrm_ok hE e.2 e.1 [] (fun c l => (c, l))
    rw [h1]
    show c' + evl ρ m = e.1 + evl ρ e.2
    rw [h2]
    show e.1 + evl ρ e.2 + 0 = _
    omega
/-- e is at most 0: true where that can't be -/
noncomputable def aas (env : aenv) (fx : List ae) (e : ae) (k : aenv → List ae → Bool) : Bool :=
  match eu env e with
  | none => false
  | some u => cond (zle u 0) (k env fx)
    (efrc (escl e (-1)) (fun n => efrc (eadc n 1) (fun n1 => cond (elef env fx 2 n1) true
      (cond (znz e.2) (anar n e.2 env (fun env' => match (enor env' e).2 with
        | [] => k env' fx
        | [_] => k env' fx
        | _ => k env' (e :: fx))) false))))
theorem aas_ok {P : (Nat → Int) → Prop} (hP : ∃ ρ, P ρ) {env : aenv} {fx : List ae} {e : ae} {k : aenv → List ae → Bool} (h : aas env fx e k = true) (hR : ∀ ρ, P ρ → envR env ρ ∧ fxR fx ρ ∧ ev ρ e ≤ 0) :
    ∃ env' fx', k env' fx' = true ∧ ∀ ρ, P ρ → envR env' ρ ∧ fxR fx' ρ := by
  unfold aas at h
  cases hu : eu env e with
  | none => rw [hu] at h; cases h
  | some u =>
    rw [hu] at h
    dsimp only at h
    cases hz : zle u 0 with
    | true => rw [hz] at h; exact ⟨env, fx, h, fun ρ p => ⟨(hR ρ p).1, (hR ρ p).2.1⟩⟩
    | false =>
      rw [hz] at h
      simp only [cond_false] at h
      rw [efrc_eq, efrc_eq] at h
      cases hf : elef env fx 2 (eadc (escl e (-1)) 1) with
      | true =>
        obtain ⟨ρ, p⟩ := hP
        have := elef_ok (hR ρ p).1 (hR ρ p).2.1 2 _ hf
        rw [eadc_ev, escl_ev] at this
        have := (hR ρ p).2.2
        omega
      | false =>
        rw [hf] at h
        simp only [cond_false] at h
        obtain ⟨h1, h2⟩ := xcnb h
        obtain ⟨env', h3, h4⟩ := anar_ok hP _ _ _ h2 (fun ρ p => ⟨(hR ρ p).1, by rw [escl_ev]; have := (hR ρ p).2.2; omega⟩) (znz_ok h1)
        split at h3
        · exact ⟨env', fx, h3, fun ρ p => ⟨h4 ρ p, (hR ρ p).2.1⟩⟩
        · exact ⟨env', fx, h3, fun ρ p => ⟨h4 ρ p, (hR ρ p).2.1⟩⟩
        · refine ⟨env', e :: fx, h3, fun ρ p => ⟨h4 ρ p, fun f hf => ?_⟩⟩
          rcases List.mem_cons.mp hf with z | hf
          · rw [z]; exact (hR ρ p).2.2
          · exact (hR ρ p).2.1 f hf
end
section
/-! Conditions, and what the machine's arithmetic does to numbers in their range -/
noncomputable def aK (k : aenv → List ae → Bool) (env : aenv) (fx : List ae) : Bool := aprp fx env (fun env' => k env' fx)
noncomputable def acnd (o : Jvm.ClassFile.Cond) (env : aenv) (fx : List ae) (e : ae) (k : aenv → List ae → Bool) : Bool :=
  match e.2 with
  | [] => cond (crel o e.1 0) (k env fx) true
  | _ => match o with
    | .le => aas env fx e (aK k)
    | .lt => efrc (eadc e 1) (fun x => aas env fx x (aK k))
    | .ge => efrc (escl e (-1)) (fun x => aas env fx x (aK k))
    | .gt => efrc (eadd (1, []) e (-1)) (fun x => aas env fx x (aK k))
    | .eq => aas env fx e (fun env1 fx1 => efrc (escl e (-1)) (fun x => aas env1 fx1 x (aK k)))
    | .ne => match (enor env e).2 with
      | [] => cond (zeq (enor env e).1 0) true (k env fx)
      | _ => efrc (escl e (-1)) (fun x => cond (elef env fx 2 x) (efrc (eadc x 1) (fun z => aas env fx z (aK k)))
          (cond (elef env fx 2 e) (efrc (eadc e 1) (fun z => aas env fx z (aK k))) (k env fx)))
theorem aK_ok {P : (Nat → Int) → Prop} (hP : ∃ ρ, P ρ) {k : aenv → List ae → Bool} {env : aenv} {fx : List ae} (h : aK k env fx = true) (hR : ∀ ρ, P ρ → envR env ρ ∧ fxR fx ρ) : ∃ env' fx', k env' fx' = true ∧ ∀ ρ, P ρ → envR env' ρ ∧ fxR fx' ρ := by
  obtain ⟨env', h1, h2⟩ := aprp_ok hP _ _ _ h hR
  exact ⟨env', fx, h1, fun ρ p => ⟨h2 ρ p, (hR ρ p).2⟩⟩
theorem aas_K {P : (Nat → Int) → Prop} (hP : ∃ ρ, P ρ) {env : aenv} {fx : List ae} {e : ae} {k : aenv → List ae → Bool} (h : aas env fx e (aK k) = true) (hR : ∀ ρ, P ρ → envR env ρ ∧ fxR fx ρ ∧ ev ρ e ≤ 0) :
    ∃ env' fx', k env' fx' = true ∧ ∀ ρ, P ρ → envR env' ρ ∧ fxR fx' ρ := by
  obtain ⟨env', fx', h1, h2⟩ := aas_ok hP h hR
  exact aK_ok hP h1 h2
theorem acnd_ok {P : (Nat → Int) → Prop} (hP : ∃ ρ, P ρ) {o : Jvm.ClassFile.Cond} {env : aenv} {fx : List ae} {e : ae} {k : aenv → List ae → Bool} (h : acnd o env fx e k = true) (hR : ∀ ρ, P ρ → envR env ρ ∧ fxR fx ρ ∧ crel o (ev ρ e) 0 = true) :
    ∃ env' fx', k env' fx' = true ∧ ∀ ρ, P ρ → envR env' ρ ∧ fxR fx' ρ := by
  have hR2 : ∀ ρ, P ρ → envR env ρ ∧ fxR fx ρ := fun ρ p => ⟨(hR ρ p).1, (hR ρ p).2.1⟩
  unfold acnd at h
  split at h
  · rename_i hn
    obtain ⟨ρ0, p0⟩ := hP
    have e0 : ev ρ0 e = e.1 := by unfold ev; rw [hn]; show e.1 + 0 = e.1; omega
    have := (hR ρ0 p0).2.2
    rw [e0] at this
    rw [this] at h
    exact ⟨env, fx, h, hR2⟩
  · split at h
    · refine aas_K hP h (fun ρ p => ⟨(hR ρ p).1, (hR ρ p).2.1, ?_⟩)
      exact of_decide_eq_true (hR ρ p).2.2
    · rw [efrc_eq] at h
      refine aas_K hP h (fun ρ p => ⟨(hR ρ p).1, (hR ρ p).2.1, ?_⟩)
      have : ev ρ e < 0 := of_decide_eq_true (hR ρ p).2.2
      rw [eadc_ev]; omega
    · rw [efrc_eq] at h
      refine aas_K hP h (fun ρ p => ⟨(hR ρ p).1, (hR ρ p).2.1, ?_⟩)
      have : 0 ≤ ev ρ e := of_decide_eq_true (hR ρ p).2.2
      rw [escl_ev]; omega
    · rw [efrc_eq] at h
      refine aas_K hP h (fun ρ p => ⟨(hR ρ p).1, (hR ρ p).2.1, ?_⟩)
      have : 0 < ev ρ e := of_decide_eq_true (hR ρ p).2.2
      rw [eadd_ev]
      have e1 : ev ρ ((1, []) : ae) = 1 := ecst_ev ρ 1
      rw [e1]; omega
    · have hz : ∀ ρ, P ρ → ev ρ e = 0 := fun ρ p => of_decide_eq_true (hR ρ p).2.2
      obtain ⟨env1, fx1, h1, h2⟩ := aas_ok hP h (fun ρ p => ⟨(hR ρ p).1, (hR ρ p).2.1, by rw [hz ρ p]; exact Int.le_refl _⟩)
      rw [efrc_eq] at h1
      exact aas_K hP h1 (fun ρ p => ⟨(h2 ρ p).1, (h2 ρ p).2, by rw [escl_ev, hz ρ p]; omega⟩)
    · have hz : ∀ ρ, P ρ → ev ρ e ≠ 0 := fun ρ p => of_decide_eq_true (hR ρ p).2.2
      split at h
      · rename_i hn
        cases hc : zeq (enor env e).1 0 with
        | false => rw [hc] at h; exact ⟨env, fx, h, hR2⟩
        | true =>
          obtain ⟨ρ0, p0⟩ := hP
          have e1 := enor_ok (hR ρ0 p0).1 e
          have e2 : ev ρ0 (enor env e) = (enor env e).1 := by unfold ev; rw [hn]; show (enor env e).1 + 0 = _; omega
          have e3 := zeq_iff.mp hc
          have := hz ρ0 p0
          omega
      · rw [efrc_eq] at h
        cases h1 : elef env fx 2 (escl e (-1)) with
        | true =>
          rw [h1] at h
          simp only [cond_true] at h
          rw [efrc_eq] at h
          refine aas_K hP h (fun ρ p => ⟨(hR ρ p).1, (hR ρ p).2.1, ?_⟩)
          have a1 := elef_ok (hR ρ p).1 (hR ρ p).2.1 2 _ h1
          rw [escl_ev] at a1
          have := hz ρ p
          rw [eadc_ev, escl_ev]; omega
        | false =>
          rw [h1] at h
          simp only [cond_false] at h
          cases h2 : elef env fx 2 e with
          | true =>
            rw [h2] at h
            simp only [cond_true] at h
            rw [efrc_eq] at h
            refine aas_K hP h (fun ρ p => ⟨(hR ρ p).1, (hR ρ p).2.1, ?_⟩)
            have a1 := elef_ok (hR ρ p).1 (hR ρ p).2.1 2 _ h2
            have := hz ρ p
            rw [eadc_ev]; omega
          | false => rw [h2] at h; exact ⟨env, fx, h, hR2⟩
/-! arithmetic -/
theorem nI_em {a b : Nat} (h : a % 4294967296 = b % 4294967296) : nI a = nI b := by rw [← x32 a, h, x32]
theorem lN_em {a b : Nat} (h : a % 18446744073709551616 = b % 18446744073709551616) : lN a = lN b := by rw [← x64 a, h, x64]
theorem i32_add (a b : Int) : i32 a + i32 b = i32 (a + b) := by
  unfold i32
  rw [nI_add]
  apply nI_em
  unfold c32
  omega
theorem i32_sub (a b : Int) : i32 a - i32 b = i32 (a - b) := by
  unfold i32
  rw [← nI_sub]
  apply nI_em
  unfold c32
  omega
theorem c32_mod (a : Int) : ((c32 a : Nat) : Int) = a % 4294967296 := by unfold c32; omega
theorem c64_mod (a : Int) : ((c64 a : Nat) : Int) = a % 18446744073709551616 := by unfold c64; omega
theorem i32_mul (a b : Int) : i32 a * i32 b = i32 (a * b) := by
  unfold i32
  rw [pk_mul]
  apply nI_em
  apply Int.ofNat.inj
  show (((c32 a * c32 b % 4294967296 : Nat)) : Int) = ((c32 (a * b) % 4294967296 : Nat) : Int)
  rw [Int.natCast_emod, Int.natCast_emod, Int.natCast_mul, c32_mod, c32_mod, c32_mod]
  show a % 4294967296 * (b % 4294967296) % 4294967296 = a * b % 4294967296 % 4294967296
  rw [← Int.mul_emod, Int.emod_emod_of_dvd _ (Int.dvd_refl _)]
theorem i32_neg (a : Int) : -i32 a = i32 (-a) := by
  have h := i32_sub 0 a
  rw [show i32 0 = 0 from rfl] at h
  rw [show (0 : Int32) - i32 a = -i32 a from Int32.zero_sub _] at h
  rw [h]
  congr 1
  omega
theorem lN_add2 (a b : Nat) : lN a + lN b = lN (a + b) := (Int64.ofNat_add a b).symm
theorem lN_mul2 (a b : Nat) : lN a * lN b = lN (a * b) := (Int64.ofNat_mul a b).symm
theorem i64_add (a b : Int) : i64 a + i64 b = i64 (a + b) := by
  unfold i64
  rw [lN_add2]
  apply lN_em
  unfold c64
  omega
theorem i64_sub (a b : Int) : i64 a - i64 b = i64 (a - b) := by
  have h : i64 (a - b) + i64 b = i64 a := by
    rw [i64_add]; congr 1; omega
  rw [← h, Int64.add_sub_cancel]
theorem i64_mul (a b : Int) : i64 a * i64 b = i64 (a * b) := by
  unfold i64
  rw [lN_mul2]
  apply lN_em
  apply Int.ofNat.inj
  show (((c64 a * c64 b % 18446744073709551616 : Nat)) : Int) = ((c64 (a * b) % 18446744073709551616 : Nat) : Int)
  rw [Int.natCast_emod, Int.natCast_emod, Int.natCast_mul, c64_mod, c64_mod, c64_mod]
  show a % 18446744073709551616 * (b % 18446744073709551616) % 18446744073709551616 = a * b % 18446744073709551616 % 18446744073709551616
  rw [← Int.mul_emod, Int.emod_emod_of_dvd _ (Int.dvd_refl _)]
theorem i64_i32 {a : Int} (h : cI a) : (i64 a).toInt32.toInt = a := by
  have e : (i64 a).toInt32 = i32 a := by
    unfold i64 i32
    rw [lN_l2i]
    apply nI_em
    unfold c64 c32
    unfold cI at h
    omega
  rw [e, i32_int h]
theorem i2b_in (x : Int32) : -128 ≤ x.toInt8.toInt32.toInt ∧ x.toInt8.toInt32.toInt ≤ 127 := by
  generalize x.toInt8 = w
  have h1 := w.toBitVec.toInt_lt
  have h2 := w.toBitVec.le_toInt
  have e : w.toInt32.toInt = w.toBitVec.toInt := by rw [Int8.toInt_toInt32]; rfl
  rw [e]
  generalize w.toBitVec.toInt = z at h1 h2
  constructor <;> omega
theorem i2b_id {a : Int} (h1 : -128 ≤ a) (h2 : a ≤ 127) : (i32 a).toInt8.toInt32.toInt = a := by
  rw [Int8.toInt_toInt32]
  have e : (i32 a).toInt8.toInt = (i32 a).toInt.bmod (2 ^ 8) := Int32.toInt_toInt8 (i32 a)
  rw [e, i32_int (by unfold cI; omega)]
  rw [Int.bmod_def]
  split <;> omega
theorem i2s_in (x : Int32) : -32768 ≤ x.toInt16.toInt32.toInt ∧ x.toInt16.toInt32.toInt ≤ 32767 := by
  generalize x.toInt16 = w
  have h1 := w.toBitVec.toInt_lt
  have h2 := w.toBitVec.le_toInt
  have e : w.toInt32.toInt = w.toBitVec.toInt := by rw [Int16.toInt_toInt32]; rfl
  rw [e]
  generalize w.toBitVec.toInt = z at h1 h2
  constructor <;> omega
theorem i2s_id {a : Int} (h1 : -32768 ≤ a) (h2 : a ≤ 32767) : (i32 a).toInt16.toInt32.toInt = a := by
  rw [Int16.toInt_toInt32]
  have e : (i32 a).toInt16.toInt = (i32 a).toInt.bmod (2 ^ 16) := Int32.toInt_toInt16 (i32 a)
  rw [e, i32_int (by unfold cI; omega)]
  rw [Int.bmod_def]
  split <;> omega
theorem i2c_int (a : Nat) : (nI (a % 65536)).toInt = ((a % 65536 : Nat) : Int) := nI_toInt (by omega)
theorem i2c_in (x : Int32) : 0 ≤ ((x.toUInt32 % 65536).toInt32).toInt ∧ ((x.toUInt32 % 65536).toInt32).toInt ≤ 65535 := by
  have h := nI_c65 (xnu x)
  rw [nI_xnu] at h
  rw [h, i2c_int]
  omega
theorem i2c_id {a : Int} (h1 : 0 ≤ a) (h2 : a ≤ 65535) : (((i32 a).toUInt32 % 65536).toInt32).toInt = a := by
  unfold i32
  rw [nI_c65, i2c_int]
  unfold c32
  omega
theorem toInt_xnu {Z : Int32} (h : xnu Z < 2147483648) : Z.toInt = (xnu Z : Int) := by
  have := nI_toInt (n := xnu Z) h
  rw [nI_xnu] at this
  exact this
theorem xnu_i32 {y : Int} (h : cI y) (h0 : 0 ≤ y) : xnu (i32 y) = y.toNat := by
  have e : c32 y = y.toNat := c32_nat h0 (by unfold cI at h; omega)
  unfold i32
  rw [e]
  show (BitVec.ofNat 32 _).toNat = _
  rw [BitVec.toNat_ofNat]
  apply Nat.mod_eq_of_lt
  unfold cI at h
  omega
theorem xnu_and (X Y : Int32) : xnu (X &&& Y) = xnu X &&& xnu Y := by
  unfold xnu
  rw [Int32.toBitVec_and, BitVec.toNat_and]
theorem xnu_or (X Y : Int32) : xnu (X ||| Y) = xnu X ||| xnu Y := by
  unfold xnu
  rw [Int32.toBitVec_or, BitVec.toNat_or]
theorem iand_r (X : Int32) {y : Int} (h : cI y) (h0 : 0 ≤ y) : 0 ≤ (X &&& i32 y).toInt ∧ (X &&& i32 y).toInt ≤ y := by
  have e1 := xnu_i32 h h0
  have e2 : xnu (X &&& i32 y) ≤ y.toNat := by
    rw [xnu_and, e1]
    exact Nat.and_le_right
  unfold cI at h
  rw [toInt_xnu (by omega)]
  omega
theorem iand_l (X : Int32) {y : Int} (h : cI y) (h0 : 0 ≤ y) : 0 ≤ (i32 y &&& X).toInt ∧ (i32 y &&& X).toInt ≤ y := by
  have e1 := xnu_i32 h h0
  have e2 : xnu (i32 y &&& X) ≤ y.toNat := by
    rw [xnu_and, e1]
    exact Nat.and_le_left
  unfold cI at h
  rw [toInt_xnu (by omega)]
  omega
theorem ior_in {x y : Int} (hx : cI x) (hy : cI y) (x0 : 0 ≤ x) (y0 : 0 ≤ y) {k : Nat} (h1 : x.toNat < 2 ^ k) (h2 : y.toNat < 2 ^ k) (hk : k ≤ 31) : 0 ≤ (i32 x ||| i32 y).toInt ∧ (i32 x ||| i32 y).toInt ≤ (2 ^ k - 1 : Int) := by
  have e : xnu (i32 x ||| i32 y) < 2 ^ k := by
    rw [xnu_or, xnu_i32 hx x0, xnu_i32 hy y0]
    exact Nat.or_lt_two_pow h1 h2
  have hp : 2 ^ k ≤ 2147483648 := Nat.le_trans (Nat.pow_le_pow_right (by decide) hk) (by decide)
  rw [toInt_xnu (by omega)]
  refine ⟨Int.natCast_nonneg _, ?_⟩
  have e2 : ((2 ^ k : Nat) : Int) = (2 ^ k : Int) := by rw [Int.natCast_pow]; rfl
  rw [← e2]
  omega
theorem i32s_l : ∀ n, n < 32 → ((nI n &&& 31).toBitVec.smod 32).toNat = n := by decide +kernel
theorem ishl_in {x s : Int} (x0 : 0 ≤ x) (s0 : 0 ≤ s) (s1 : s ≤ 30) (hf : x * 2 ^ s.toNat < 2147483648) : (i32 x <<< (i32 s &&& 31)).toInt = x * 2 ^ s.toNat := by
  have hx : x < 2147483648 := by
    have : 0 < (2 : Int) ^ s.toNat := Int.pow_pos (by decide)
    have h2 : x * 1 ≤ x * 2 ^ s.toNat := Int.mul_le_mul_of_nonneg_left (by omega) x0
    omega
  have e1 : c32 x = x.toNat := c32_nat x0 (by omega)
  have e2 : c32 s = s.toNat := c32_nat s0 (by omega)
  unfold i32
  rw [e1, e2]
  have hn : ((x.toNat * 2 ^ s.toNat : Nat) : Int) = x * 2 ^ s.toNat := by
    rw [Int.natCast_mul, Int.natCast_pow, Int.toNat_of_nonneg x0]; rfl
  rw [pk_shlN (n := x.toNat) (nI s.toNat &&& 31) s.toNat (i32s_l _ (by omega)) (by omega), nI_toInt (by omega), hn]
theorem ishr_in (X s : Int32) : (0 ≤ X.toInt → 0 ≤ (X >>> s).toInt ∧ (X >>> s).toInt ≤ X.toInt) ∧ (X.toInt ≤ 0 → X.toInt ≤ (X >>> s).toInt ∧ (X >>> s).toInt ≤ 0) ∧ (X.toInt < 0 → (X >>> s).toInt < 0) := by
  rw [pk_shr X s _ rfl]
  generalize (s.toBitVec.smod 32).toNat = k
  generalize X.toInt = x
  rw [Int.shiftRight_eq_div_pow]
  have hp : 0 < ((2 ^ k : Nat) : Int) := by
    have := Nat.two_pow_pos k
    omega
  generalize ((2 ^ k : Nat) : Int) = p at hp
  refine ⟨fun h => ⟨Int.ediv_nonneg h (by omega), Int.ediv_le_self p h⟩, fun h => ⟨?_, ?_⟩, fun h => Int.ediv_neg_of_neg_of_pos h hp⟩
  · rw [Int.le_ediv_iff_mul_le hp]
    have := Int.mul_le_mul_of_nonpos_left (a := x) h (show (1 : Int) ≤ p by omega)
    omega
  · have : x / p ≤ 0 / p := Int.ediv_le_ediv hp h
    rw [Int.zero_ediv] at this
    exact this
theorem i32_bmod (z : Int) : (i32 z).toInt = z.bmod 4294967296 := by
  unfold i32
  rw [nI_int]
  unfold c32
  rw [Int.bmod_def]
  split <;> split <;> omega
theorem i64_bmod (z : Int) : (i64 z).toInt = z.bmod 18446744073709551616 := by
  unfold i64
  rw [lN_int]
  unfold c64
  rw [Int.bmod_def]
  split <;> split <;> omega
theorem i32_div {a b : Int} (ha : cI a) (hb : cI b) : i32 a / i32 b = i32 (a.tdiv b) := by
  apply Int32.toInt_inj.mp
  rw [i32_bmod, Int32.toInt_div, i32_int ha, i32_int hb]
theorem i64_div {a b : Int} (ha : cL a) (hb : cL b) : i64 a / i64 b = i64 (a.tdiv b) := by
  apply Int64.toInt_inj.mp
  rw [i64_bmod, Int64.toInt_div, i64_int ha, i64_int hb]
theorem tmod_in (a : Int) {b : Int} (hb : b ≠ 0) : (0 ≤ a → 0 ≤ a.tmod b ∧ a.tmod b ≤ a) ∧ (a ≤ 0 → a ≤ a.tmod b ∧ a.tmod b ≤ 0) ∧ (0 < b → -b < a.tmod b ∧ a.tmod b < b) ∧ (b < 0 → b < a.tmod b ∧ a.tmod b < -b) := by
  have pos : ∀ x : Int, 0 ≤ x → 0 ≤ x.tmod b ∧ x.tmod b ≤ x ∧ (0 < b → x.tmod b < b) ∧ (b < 0 → x.tmod b < -b) := by
    intro x hx
    rw [Int.tmod_eq_emod_of_nonneg hx]
    refine ⟨Int.emod_nonneg x hb, ?_, fun h => Int.emod_lt_of_pos x h, fun h => ?_⟩
    · by_cases h : 0 < b
      · have := Int.mul_ediv_add_emod x b
        have h2 : 0 ≤ b * (x / b) := Int.mul_nonneg (by omega) (Int.ediv_nonneg hx (by omega))
        omega
      · have h1 : 0 < -b := by omega
        have := Int.mul_ediv_add_emod x (-b)
        have h2 : 0 ≤ (-b) * (x / (-b)) := Int.mul_nonneg (by omega) (Int.ediv_nonneg hx (by omega))
        rw [Int.emod_neg] at this
        omega
    · have := Int.emod_lt_of_pos x (show 0 < -b by omega)
      rw [Int.emod_neg] at this
      exact this
  by_cases h : 0 ≤ a
  · obtain ⟨h1, h2, h3, h4⟩ := pos a h
    refine ⟨fun _ => ⟨h1, h2⟩, fun h5 => ⟨by omega, by omega⟩, fun q => ⟨by omega, h3 q⟩, fun q => ⟨by omega, h4 q⟩⟩
  · obtain ⟨h1, h2, h3, h4⟩ := pos (-a) (by omega)
    rw [Int.neg_tmod] at h1 h2 h3 h4
    refine ⟨fun q => absurd q h, fun _ => ⟨by omega, by omega⟩, fun q => ?_, fun q => ?_⟩
    · have := h3 q; constructor <;> omega
    · have := h4 q; constructor <;> omega
theorem i32_rem {a b : Int} (ha : cI a) (hb : cI b) (h0 : b ≠ 0) : (i32 a - i32 a / i32 b * i32 b).toInt = a.tmod b := by
  rw [i32_div ha hb, i32_mul, i32_sub]
  have e : a - a.tdiv b * b = a.tmod b := by
    have := Int.mul_tdiv_add_tmod a b
    rw [Int.mul_comm] at this
    omega
  rw [e]
  apply i32_int
  obtain ⟨h1, h2, -, -⟩ := tmod_in a h0
  unfold cI at *
  by_cases h : 0 ≤ a
  · have := h1 h; omega
  · have := h2 (by omega); omega
theorem i64_rem {a b : Int} (ha : cL a) (hb : cL b) (h0 : b ≠ 0) : (i64 a - i64 a / i64 b * i64 b).toInt = a.tmod b := by
  rw [i64_div ha hb, i64_mul, i64_sub]
  have e : a - a.tdiv b * b = a.tmod b := by
    have := Int.mul_tdiv_add_tmod a b
    rw [Int.mul_comm] at this
    omega
  rw [e]
  apply i64_int
  obtain ⟨h1, h2, -, -⟩ := tmod_in a h0
  unfold cL at *
  by_cases h : 0 ≤ a
  · have := h1 h; omega
  · have := h2 (by omega); omega
theorem tdiv_in {a b al ah bl bh : Int} (h1 : al ≤ a) (h2 : a ≤ ah) (h3 : bl ≤ b) (h4 : b ≤ bh) (a0 : 0 ≤ al) (b0 : 0 < bl) : Int.ediv al bh ≤ a.tdiv b ∧ a.tdiv b ≤ Int.ediv ah bl := by
  rw [Int.tdiv_eq_ediv_of_nonneg (show 0 ≤ a by omega)]
  show al / bh ≤ a / b ∧ a / b ≤ ah / bl
  constructor
  · rw [Int.le_ediv_iff_mul_le (show 0 < b by omega)]
    have e1 : al / bh * b ≤ al / bh * bh := Int.mul_le_mul_of_nonneg_left h4 (Int.ediv_nonneg a0 (by omega))
    have e2 : al / bh * bh ≤ al := Int.ediv_mul_le al (by omega)
    omega
  · rw [Int.le_ediv_iff_mul_le b0]
    have e1 : a / b * bl ≤ a / b * b := Int.mul_le_mul_of_nonneg_left h3 (Int.ediv_nonneg (by omega) (by omega))
    have e2 : a / b * b ≤ a := Int.ediv_mul_le a (by omega)
    omega
/-- a product's bounds -/
def zmul4 (a b c d : Int) : Int × Int := (zmn (zmn (Int.mul a c) (Int.mul a d)) (zmn (Int.mul b c) (Int.mul b d)), zmx (zmx (Int.mul a c) (Int.mul a d)) (zmx (Int.mul b c) (Int.mul b d)))
theorem zmul_1 {x y c d : Int} (h3 : c ≤ y) (h4 : y ≤ d) : zmn (x * c) (x * d) ≤ x * y ∧ x * y ≤ zmx (x * c) (x * d) := by
  by_cases h : 0 ≤ x
  · have e1 := Int.mul_le_mul_of_nonneg_left h3 h
    have e2 := Int.mul_le_mul_of_nonneg_left h4 h
    exact ⟨Int.le_trans (zmn_l _ _) e1, Int.le_trans e2 (zmx_r _ _)⟩
  · have e1 := Int.mul_le_mul_of_nonpos_left (a := x) (by omega) h3
    have e2 := Int.mul_le_mul_of_nonpos_left (a := x) (by omega) h4
    exact ⟨Int.le_trans (zmn_r _ _) e2, Int.le_trans e1 (zmx_l _ _)⟩
theorem zmul4_ok {x y a b c d : Int} (h1 : a ≤ x) (h2 : x ≤ b) (h3 : c ≤ y) (h4 : y ≤ d) : (zmul4 a b c d).1 ≤ x * y ∧ x * y ≤ (zmul4 a b c d).2 := by
  have k1 := zmul_1 (x := y) h1 h2
  have k2 := zmul_1 (x := a) h3 h4
  have k3 := zmul_1 (x := b) h3 h4
  rw [Int.mul_comm y a, Int.mul_comm y b, Int.mul_comm y x] at k1
  constructor
  · refine Int.le_trans ?_ k1.1
    exact zmn_of (Int.le_trans (zmn_l _ _) k2.1) (Int.le_trans (zmn_r _ _) k3.1)
  · refine Int.le_trans k1.2 ?_
    exact zmx_of (Int.le_trans k2.2 (zmx_l _ _)) (Int.le_trans k3.2 (zmx_r _ _))
end
section
/-! Values, places, what is known of them -/
abbrev av : Type := Nat × Nat × ae
abbrev am : Type := Nat × ae × ae × av
abbrev gho : Type := Nat × Nat × Nat × ae
abbrev acol : Type := Int × Int × Int × Int × Int
/-- kind, length, least and greatest cell, columns, tags and types of the places -/
abbrev aty : Type := Nat × Nat × (Int × Int) × List (Int × Int × List acol) × List (Nat × Nat)
def aag (ne : Nat) (ρ ρ' : Nat → Int) : Prop := ∀ s : Nat, s < ne → ρ' s = ρ s
/-- for all that agree below ne -/
def aC (ne : Nat) (ρ : Nat → Int) (X : (Nat → Int) → Prop) : Prop := ∀ ρ' : Nat → Int, aag ne ρ ρ' → X ρ'
theorem aag.rf (ne : Nat) (ρ : Nat → Int) : aag ne ρ ρ := fun _ _ => rfl
theorem aag.tr {n m : Nat} {a b c : Nat → Int} (hnm : n ≤ m) (h1 : aag n a b) (h2 : aag m b c) : aag n a c := fun s hs => (h2 s (Nat.lt_of_lt_of_le hs hnm)).trans (h1 s hs)
theorem aC.self {ne : Nat} {ρ : Nat → Int} {X : (Nat → Int) → Prop} (h : aC ne ρ X) : X ρ := h ρ (aag.rf ne ρ)
theorem aC.mono {ne ne' : Nat} {ρ ρ' : Nat → Int} {X : (Nat → Int) → Prop} (h : aC ne ρ X) (hn : ne ≤ ne') (ha : aag ne ρ ρ') : aC ne' ρ' X := fun τ ht => h τ (aag.tr hn ha ht)
theorem aC.imp {ne : Nat} {ρ : Nat → Int} {X Y : (Nat → Int) → Prop} (h : aC ne ρ X) (k : ∀ ρ', X ρ' → Y ρ') : aC ne ρ Y := fun τ ht => k τ (h τ ht)
theorem aC.and {ne : Nat} {ρ : Nat → Int} {X Y : (Nat → Int) → Prop} (h : aC ne ρ X) (k : aC ne ρ Y) : aC ne ρ (fun r => X r ∧ Y r) := fun τ ht => ⟨h τ ht, k τ ht⟩
def aup (ρ : Nat → Int) (s : Nat) (z : Int) : Nat → Int := fun t => if t = s then z else ρ t
theorem aup_ag (ρ : Nat → Int) (s : Nat) (z : Int) : aag s ρ (aup ρ s z) := fun t ht => by unfold aup; rw [if_neg (by omega)]
theorem aup_self (ρ : Nat → Int) (s : Nat) (z : Int) : aup ρ s z s = z := by unfold aup; rw [if_pos rfl]
/-- a new symbol -/
noncomputable def afrs (lo hi : Int) (env : aenv) (ne : Nat) (k : aenv → Nat → Bool) : Bool := xsK env ne (some (lo, hi)) (fun env' => xfrc (ne + 1) (fun n => k env' n))
theorem afrs_eq (lo hi : Int) (env : aenv) (ne : Nat) (k : aenv → Nat → Bool) : afrs lo hi env ne k = k (xw env ne (some (lo, hi))) (ne + 1) := by unfold afrs; rw [xsK_eq, xfrc_eq]
theorem afrs_ok {lo hi z : Int} {env : aenv} {ne : Nat} {ρ : Nat → Int} (h : aC ne ρ (envR env)) (h1 : lo ≤ z) (h2 : z ≤ hi) : aC (ne + 1) (aup ρ ne z) (envR (xw env ne (some (lo, hi)))) := by
  intro τ ht
  have e : τ ne = z := by rw [ht ne (by omega), aup_self]
  exact envR_set (h τ (aag.tr (by omega) (aup_ag ρ ne z) ht)) (by rw [e]; exact h1) (by rw [e]; exact h2)
theorem afrs_ev {z : Int} {ne : Nat} {ρ : Nat → Int} : aC (ne + 1) (aup ρ ne z) (fun τ => ev τ (esym ne) = z) := fun τ ht => by show ev τ (esym ne) = z; rw [esym_ev, ht ne (by omega), aup_self]
section World
variable (h0 : xheap) (tyt : Lean.RArray (Nat × Nat)) (typs : Lean.RArray (Nat × aty))
def agt {α : Type} : List α → Nat → Option α
  | [], _ => none
  | q :: _, 0 => some q
  | _ :: l, n + 1 => agt l n
def apl (T : aty) (j : Nat) : Option (Nat × Nat) := cond (Nat.blt T.1 13) (agt T.2.2.2.2 j) (agt T.2.2.2.2 0)
/-- the types are right -/
def aWd : Prop := ∀ (k t : Nat), xg tyt k = some t → ∃ (q : xcell) (T : aty), xg h0 k = some q ∧ xg typs t = some T ∧ T.1 = q.1 ∧ T.2.1 = q.2.1 ∧ q.2.1 < 2147483648 ∧ T.2.2.1.1 ≤ (k : Int) ∧ (k : Int) ≤ T.2.2.1.2 ∧
  ∀ j : Nat, j < q.2.1 → ∃ (w : xv) (u : Nat × Nat), xg q.2.2 j = some w ∧ apl T j = some u ∧ w.1 = u.1 ∧ (u.1 = 0 ∨ u.1 = 2 ∨ (u.1 = 4 ∧ xg tyt w.2 = some u.2))
/-- what lies at a place -/
def cat (g : cg) (k j : Nat) (v : cv) : Prop := ∃ (q : xcell) (w : xv), xg h0 k = some q ∧ xg q.2.2 j = some w ∧ v = cval w (g k j)
theorem cat_inj {g : cg} {k j : Nat} {v v' : cv} (h : cat h0 g k j v) (h' : cat h0 g k j v') : v = v' := by
  obtain ⟨q, w, a1, a2, a3⟩ := h
  obtain ⟨q', w', b1, b2, b3⟩ := h'
  have e1 : q = q' := Option.some.inj (a1.symm.trans b1)
  subst e1
  have e2 : w = w' := Option.some.inj (a2.symm.trans b2)
  subst e2
  rw [a3, b3]
/-- the columns hold -/
def acv (c : acol) (j : Nat) : Prop := c.1 ≤ (j : Int) ∧ (j : Int) ≤ c.2.1 ∧ ((j : Int) - c.1) % c.2.2.1 = 0
def aInv (g : cg) : Prop := ∀ (k t : Nat) (T : aty), xg tyt k = some t → xg typs t = some T → (∀ b ∈ T.2.2.2.1, ∀ c ∈ b.2.2, ∀ j : Nat, b.1 ≤ (j : Int) → (j : Int) ≤ b.2.1 → acv c j → c.2.2.2.1 ≤ g k j ∧ g k j ≤ c.2.2.2.2) ∧ ∀ (j : Nat) (u : Nat × Nat), j < T.2.1 → apl T j = some u → (u.1 = 0 → cI (g k j)) ∧ (u.1 = 2 → cL (g k j))
/-- a value -/
def avR (ρ : Nat → Int) (a : av) (v : cv) : Prop :=
  match a.1 with
  | 0 => v = (0, ev ρ a.2.2) ∧ cI (ev ρ a.2.2)
  | 2 => v = (2, ev ρ a.2.2) ∧ cL (ev ρ a.2.2)
  | 4 => ∃ k : Nat, v = (4, (k : Int)) ∧ ev ρ a.2.2 = (k : Int) ∧ xg tyt k = some a.2.1
  | 5 => v = (5, 0)
  | 6 => v = (6, (a.2.1 : Int))
  | 9 => v = (0, csgn (ev ρ a.2.2))
  | 10 => v = (10, 0)
  | _ => False
def amR (ρ : Nat → Int) (g : cg) (m : am) : Prop := ∃ (k j : Nat) (v : cv), ev ρ m.2.1 = (k : Int) ∧ ev ρ m.2.2.1 = (j : Int) ∧ xg tyt k = some m.1 ∧ cat h0 g k j v ∧ avR tyt ρ m.2.2.2 v
def amsR (ρ : Nat → Int) (g : cg) (mem : List am) : Prop := ∀ m ∈ mem, amR h0 tyt ρ g m
end World
/-! equal, surely different -/
def leqb : List (Nat × Int) → List (Nat × Int) → Bool
  | [], [] => true
  | q :: l, r :: m => cond (Nat.beq q.1 r.1) (cond (zeq q.2 r.2) (leqb l m) false) false
  | [], _ :: _ => false
  | _ :: _, [] => false
theorem leqb_ok : ∀ {a b : List (Nat × Int)}, leqb a b = true → a = b
  | [], [], _ => rfl
  | (s, c) :: l, (t, d) :: m, h => by
    obtain ⟨h1, h2⟩ := xcnb (show cond (Nat.beq s t) (cond (zeq c d) (leqb l m) false) false = true from h)
    obtain ⟨h3, h4⟩ := xcnb h2
    rw [xeqb h1, zeq_iff.mp h3, leqb_ok h4]
  | [], _ :: _, h => by cases h
  | _ :: _, [], h => by cases h
def eeqb (a b : ae) : Bool := cond (zeq a.1 b.1) (leqb a.2 b.2) false
theorem eeqb_ok {a b : ae} (h : eeqb a b = true) : a = b := by
  obtain ⟨h1, h2⟩ := xcnb h
  obtain ⟨x, y⟩ := a
  obtain ⟨z, w⟩ := b
  have e1 : x = z := zeq_iff.mp h1
  have e2 : y = w := leqb_ok h2
  rw [e1, e2]
/-- the same value, whatever the symbols -/
noncomputable def eeq (env : aenv) (a b : ae) : Bool := cond (eeqb a b) true (match (enor env (eadd a b (-1))).2 with
  | [] => zeq (enor env (eadd a b (-1))).1 0
  | _ => false)
theorem eeq_ok {env : aenv} {ρ : Nat → Int} (hE : envR env ρ) {a b : ae} (h : eeq env a b = true) : ev ρ a = ev ρ b := by
  unfold eeq at h
  rcases xcnt h with h | h
  · rw [eeqb_ok h]
  · split at h
    · rename_i hn
      have e1 := enor_ok hE (eadd a b (-1))
      rw [eadd_ev] at e1
      have e2 : ev ρ (enor env (eadd a b (-1))) = (enor env (eadd a b (-1))).1 := by unfold ev; rw [hn]; show _ + 0 = _; omega
      have e3 := zeq_iff.mp h
      omega
    · cases h
def zgcd (l : List (Nat × Int)) : Nat := match l with
  | [] => 0
  | q :: l => Nat.gcd q.2.natAbs (zgcd l)
theorem zgcd_ok (ρ : Nat → Int) : ∀ l : List (Nat × Int), ((zgcd l : Nat) : Int) ∣ evl ρ l
  | [] => Int.dvd_zero _
  | q :: l => by
    have h1 : ((Nat.gcd q.2.natAbs (zgcd l) : Nat) : Int) ∣ q.2 := Int.dvd_natAbs.mp (Int.natCast_dvd_natCast.mpr (Nat.gcd_dvd_left _ _))
    have h2 : ((Nat.gcd q.2.natAbs (zgcd l) : Nat) : Int) ∣ evl ρ l := Int.dvd_trans (Int.natCast_dvd_natCast.mpr (Nat.gcd_dvd_right _ _)) (zgcd_ok ρ l)
    exact Int.dvd_add (Int.dvd_trans h1 (Int.dvd_mul_right _ _)) h2
noncomputable def enei (env : aenv) (d : ae) : Bool := match d.2 with
  | [] => !(zeq d.1 0)
  | _ => cond (match eu env d with
      | none => false
      | some u => zlt u 0) true (cond (efrc (escl d (-1)) (fun n => match eu env n with
        | none => false
        | some u => zlt u 0)) true (!(zeq (Int.emod d.1 (zgcd d.2 : Int)) 0)))
noncomputable def ene (env : aenv) (a b : ae) : Bool := efrc (enor env (eadd a b (-1))) (fun d => enei env d)
theorem ene_ok {env : aenv} {ρ : Nat → Int} (hE : envR env ρ) {a b : ae} (h : ene env a b = true) : ev ρ a ≠ ev ρ b := by
  unfold ene at h
  rw [efrc_eq] at h
  have e1 := enor_ok hE (eadd a b (-1))
  rw [eadd_ev] at e1
  generalize enor env (eadd a b (-1)) = d at h e1
  have key : ev ρ d ≠ 0 := by
    unfold enei at h
    split at h
    · rename_i hn
      intro z
      have e2 : ev ρ d = d.1 := by unfold ev; rw [hn]; show _ + 0 = _; omega
      have : d.1 = 0 := by omega
      rw [zeq_iff.mpr this] at h
      cases h
    · rcases xcnt h with h | h
      · cases hu : eu env d with
        | none => rw [hu] at h; cases h
        | some u =>
          rw [hu] at h
          have := eu_ok hE hu
          have := zlt_iff.mp h
          omega
      · rcases xcnt h with h | h
        · rw [efrc_eq] at h
          cases hu : eu env (escl d (-1)) with
          | none => rw [hu] at h; cases h
          | some u =>
            rw [hu] at h
            have := eu_ok hE hu
            rw [escl_ev] at this
            have := zlt_iff.mp h
            omega
        · intro z
          have hd := zgcd_ok ρ d.2
          have h3 : ((zgcd d.2 : Nat) : Int) ∣ d.1 := by
            have e2 : d.1 = -(evl ρ d.2) := by have : ev ρ d = d.1 + evl ρ d.2 := rfl; omega
            rw [e2]
            exact Int.dvd_neg.mpr hd
          have h4 : Int.emod d.1 (zgcd d.2 : Int) = 0 := Int.emod_eq_zero_of_dvd h3
          rw [zeq_iff.mpr h4] at h
          cases h
  omega
/-! places -/
/-- where t, c, i is known -/
noncomputable def amg (env : aenv) (t : Nat) (c i : ae) : List am → Option av
  | [] => none
  | m :: l => cond (Nat.beq m.1 t) (cond (eeq env m.2.1 c) (cond (eeq env m.2.2.1 i) (some m.2.2.2) (amg env t c i l)) (amg env t c i l)) (amg env t c i l)
theorem amg_ok {h0 : xheap} {tyt : Lean.RArray (Nat × Nat)} {env : aenv} {ρ : Nat → Int} {g : cg} (hE : envR env ρ) {t : Nat} {c i : ae} : ∀ {mem : List am} {v : av}, amsR h0 tyt ρ g mem → amg env t c i mem = some v → ∃ (k j : Nat) (w : cv), ev ρ c = (k : Int) ∧ ev ρ i = (j : Int) ∧ cat h0 g k j w ∧ avR tyt ρ v w
  | [], _, _, h => by cases h
  | m :: l, v, hm, h => by
    have hl : amsR h0 tyt ρ g l := fun x hx => hm x (List.mem_cons_of_mem _ hx)
    have h : cond (Nat.beq m.1 t) (cond (eeq env m.2.1 c) (cond (eeq env m.2.2.1 i) (some m.2.2.2) (amg env t c i l)) (amg env t c i l)) (amg env t c i l) = some v := h
    cases h1 : Nat.beq m.1 t with
    | false => rw [h1] at h; exact amg_ok hE hl h
    | true =>
      rw [h1] at h
      cases h2 : eeq env m.2.1 c with
      | false => rw [h2] at h; exact amg_ok hE hl h
      | true =>
        rw [h2] at h
        cases h3 : eeq env m.2.2.1 i with
        | false => rw [h3] at h; exact amg_ok hE hl h
        | true =>
          rw [h3] at h
          have e : m.2.2.2 = v := Option.some.inj h
          obtain ⟨k, j, w, a1, a2, a3, a4, a5⟩ := hm m List.mem_cons_self
          exact ⟨k, j, w, by rw [← eeq_ok hE h2]; exact a1, by rw [← eeq_ok hE h3]; exact a2, a4, by rw [← e]; exact a5⟩
/-- what a store at t, c, i leaves -/
noncomputable def amk (env : aenv) (t : Nat) (c i : ae) : List am → (List am → Bool) → Bool
  | [], k => k []
  | m :: l, k => cond (cond (Nat.beq m.1 t) (cond (Nat.beq m.2.2.2.1 4) true (cond (ene env m.2.2.1 i) true (ene env m.2.1 c))) true) (amk env t c i l (fun r => k (m :: r))) (amk env t c i l k)
theorem amk_ok (env : aenv) (t : Nat) (c i : ae) : ∀ (mem : List am) (k : List am → Bool), ∃ r, amk env t c i mem k = k r ∧ ∀ m ∈ r, m ∈ mem ∧ (cond (Nat.beq m.1 t) (cond (Nat.beq m.2.2.2.1 4) true (cond (ene env m.2.2.1 i) true (ene env m.2.1 c))) true) = true
  | [], k => ⟨[], rfl, fun _ h => absurd h List.not_mem_nil⟩
  | m :: l, k => by
    unfold amk
    cases hb : (cond (Nat.beq m.1 t) (cond (Nat.beq m.2.2.2.1 4) true (cond (ene env m.2.2.1 i) true (ene env m.2.1 c))) true) with
    | true =>
      obtain ⟨r, h1, h2⟩ := amk_ok env t c i l (fun r => k (m :: r))
      refine ⟨m :: r, h1, fun x hx => ?_⟩
      rcases List.mem_cons.mp hx with e | hx
      · rw [e]; exact ⟨List.mem_cons_self, hb⟩
      · exact ⟨List.mem_cons_of_mem _ (h2 x hx).1, (h2 x hx).2⟩
    | false =>
      obtain ⟨r, h1, h2⟩ := amk_ok env t c i l k
      exact ⟨r, h1, fun x hx => ⟨List.mem_cons_of_mem _ (h2 x hx).1, (h2 x hx).2⟩⟩
theorem cval_ref {w : xv} {z z' : Int} (h : (cval w z).1 = 4) : cval w z' = cval w z := by
  obtain ⟨t, n⟩ := w
  match t, h with
  | 0, h => cases h
  | 1, _ => rfl
  | 2, h => cases h
  | _ + 3, _ => rfl
/-- a place that is kept behind a store of a number -/
theorem amR_keep {h0 : xheap} {tyt : Lean.RArray (Nat × Nat)} {env : aenv} {ρ : Nat → Int} {g : cg} (hE : envR env ρ) {t k j : Nat} {c i : ae} {z : Int} (hc : ev ρ c = (k : Int)) (hi : ev ρ i = (j : Int)) (ht : xg tyt k = some t) {m : am} (hm : amR h0 tyt ρ g m)
    (hk : (cond (Nat.beq m.1 t) (cond (Nat.beq m.2.2.2.1 4) true (cond (ene env m.2.2.1 i) true (ene env m.2.1 c))) true) = true) : amR h0 tyt ρ (cup g k j z) m := by
  obtain ⟨k', j', v, a1, a2, a3, ⟨q, w, b1, b2, b3⟩, a5⟩ := hm
  by_cases hs : k' = k ∧ j' = j
  · obtain ⟨e1, e2⟩ := hs
    subst e1; subst e2
    have e3 : m.1 = t := Option.some.inj (a3.symm.trans ht)
    rw [xnb1 e3] at hk
    simp only [cond_true] at hk
    rcases xcnt hk with hk | hk
    · have h4 : m.2.2.2.1 = 4 := xeqb hk
      have hv : v.1 = 4 := by
        unfold avR at a5
        rw [h4] at a5
        obtain ⟨kk, e, -⟩ := a5
        rw [e]
      rw [b3] at hv
      refine ⟨k', j', v, a1, a2, a3, ⟨q, w, b1, b2, ?_⟩, a5⟩
      rw [b3]
      exact (cval_ref hv).symm
    · rcases xcnt hk with hk | hk
      · exact absurd (a2.trans hi.symm) (ene_ok hE hk)
      · exact absurd (a1.trans hc.symm) (ene_ok hE hk)
  · refine ⟨k', j', v, a1, a2, a3, ⟨q, w, b1, b2, ?_⟩, a5⟩
    unfold cup
    rw [if_neg hs]
    exact b3
end
section
/-! Loads -/
def zdvd (s : Int) : List (Nat × Int) → Bool
  | [] => true
  | q :: l => cond (zeq (Int.emod q.2 s) 0) (zdvd s l) false
theorem zdvd_ok {s : Int} (ρ : Nat → Int) : ∀ {l : List (Nat × Int)}, zdvd s l = true → s ∣ evl ρ l
  | [], _ => Int.dvd_zero _
  | q :: l, h => by
    obtain ⟨h1, h2⟩ := xcnb (show cond (zeq (Int.emod q.2 s) 0) (zdvd s l) false = true from h)
    have h3 : s ∣ q.2 := Int.dvd_of_emod_eq_zero (zeq_iff.mp h1)
    exact Int.dvd_add (Int.dvd_trans h3 (Int.dvd_mul_right _ _)) (zdvd_ok ρ h2)
/-- an index between lo and hi, n: does it lie in the column -/
def acin (lo hi : Int) (n : ae) (c : acol) : Bool := cond (zle c.1 lo) (cond (zle hi c.2.1) (cond (zeq c.2.2.1 1) true (cond (zeq (Int.emod (Int.add n.1 (Int.neg c.1)) c.2.2.1) 0) (zdvd c.2.2.1 n.2) false)) false) false
theorem acin_ok {lo hi : Int} {n : ae} {c : acol} {ρ : Nat → Int} {j : Nat} (h : acin lo hi n c = true) (h1 : ev ρ n = (j : Int)) (h2 : lo ≤ (j : Int)) (h3 : (j : Int) ≤ hi) : acv c j := by
  obtain ⟨a1, a2⟩ := xcnb h
  obtain ⟨a3, a4⟩ := xcnb a2
  have a1 := zle_iff.mp a1
  have a3 := zle_iff.mp a3
  refine ⟨by omega, by omega, ?_⟩
  rcases xcnt a4 with a | a
  · rw [zeq_iff.mp a]; exact Int.emod_one _
  · obtain ⟨b1, b2⟩ := xcnb a
    have b3 : c.2.2.1 ∣ (n.1 + -c.1) := Int.dvd_of_emod_eq_zero (zeq_iff.mp b1)
    have b4 := zdvd_ok ρ b2
    apply Int.emod_eq_zero_of_dvd
    have e : (j : Int) - c.1 = (n.1 + -c.1) + evl ρ n.2 := by rw [← h1]; show n.1 + evl ρ n.2 - c.1 = _; omega
    rw [e]
    exact Int.dvd_add b3 b4
def acb1 (lo hi : Int) (n : ae) : List acol → Int × Int → Int × Int
  | [], b => b
  | c :: l, b => acb1 lo hi n l (cond (acin lo hi n c) (zmx b.1 c.2.2.2.1, zmn b.2 c.2.2.2.2) b)
def acbs (lo hi : Int) (n : ae) : List (Int × Int × List acol) → Int × Int → Int × Int
  | [], b => b
  | q :: l, b => cond (cond (zle q.1 lo) (zle hi q.2.1) false) (acbs lo hi n l (acb1 lo hi n q.2.2 b)) (acbs lo hi n l b)
theorem acb1_ok {lo hi : Int} {n : ae} {ρ : Nat → Int} {j : Nat} {z : Int} (h1 : ev ρ n = (j : Int)) (h2 : lo ≤ (j : Int)) (h3 : (j : Int) ≤ hi) : ∀ (l : List acol) (b : Int × Int), (∀ c ∈ l, acv c j → c.2.2.2.1 ≤ z ∧ z ≤ c.2.2.2.2) → b.1 ≤ z → z ≤ b.2 → (acb1 lo hi n l b).1 ≤ z ∧ z ≤ (acb1 lo hi n l b).2
  | [], b, _, a1, a2 => ⟨a1, a2⟩
  | c :: l, b, hc, a1, a2 => by
    show (acb1 lo hi n l (cond (acin lo hi n c) (zmx b.1 c.2.2.2.1, zmn b.2 c.2.2.2.2) b)).1 ≤ z ∧ z ≤ (acb1 lo hi n l (cond (acin lo hi n c) (zmx b.1 c.2.2.2.1, zmn b.2 c.2.2.2.2) b)).2
    have hl : ∀ c ∈ l, acv c j → c.2.2.2.1 ≤ z ∧ z ≤ c.2.2.2.2 := fun x hx => hc x (List.mem_cons_of_mem _ hx)
    cases h : acin lo hi n c with
    | false => exact acb1_ok h1 h2 h3 l b hl a1 a2
    | true =>
      obtain ⟨b1, b2⟩ := hc c List.mem_cons_self (acin_ok h h1 h2 h3)
      exact acb1_ok h1 h2 h3 l _ hl (zmx_of a1 b1) (zmn_of a2 b2)
theorem acbs_ok {lo hi : Int} {n : ae} {ρ : Nat → Int} {j : Nat} {z : Int} (h1 : ev ρ n = (j : Int)) (h2 : lo ≤ (j : Int)) (h3 : (j : Int) ≤ hi) : ∀ (l : List (Int × Int × List acol)) (b : Int × Int), (∀ q ∈ l, ∀ c ∈ q.2.2, q.1 ≤ (j : Int) → (j : Int) ≤ q.2.1 → acv c j → c.2.2.2.1 ≤ z ∧ z ≤ c.2.2.2.2) → b.1 ≤ z → z ≤ b.2 → (acbs lo hi n l b).1 ≤ z ∧ z ≤ (acbs lo hi n l b).2
  | [], b, _, a1, a2 => ⟨a1, a2⟩
  | q :: l, b, hc, a1, a2 => by
    have hl : ∀ q ∈ l, ∀ c ∈ q.2.2, q.1 ≤ (j : Int) → (j : Int) ≤ q.2.1 → acv c j → c.2.2.2.1 ≤ z ∧ z ≤ c.2.2.2.2 := fun x hx => hc x (List.mem_cons_of_mem _ hx)
    unfold acbs
    cases h : cond (zle q.1 lo) (zle hi q.2.1) false with
    | false => exact acbs_ok h1 h2 h3 l b hl a1 a2
    | true =>
      obtain ⟨b1, b2⟩ := xcnb h
      have b1 := zle_iff.mp b1
      have b2 := zle_iff.mp b2
      simp only [cond_true]
      obtain ⟨c1, c2⟩ := acb1_ok h1 h2 h3 q.2.2 b (fun c hc' => hc q List.mem_cons_self c hc' (by omega) (by omega)) a1 a2
      exact acbs_ok h1 h2 h3 l _ hl c1 c2
section Load
variable (h0 : xheap) (tyt : Lean.RArray (Nat × Nat)) (typs : Lean.RArray (Nat × aty)) (GS : gho → (Nat → Int) → cg → Prop) (HK : aenv → List ae → List am → List gho → Nat → ae → ae → Int × Int → Int × Int)
def ghR (gh : List gho) (ρ : Nat → Int) (g : cg) : Prop := ∀ x ∈ gh, GS x ρ g
/-- all that is known -/
def coR (env : aenv) (fx : List ae) (mem : List am) (gh : List gho) (g : cg) (ρ : Nat → Int) : Prop := envR env ρ ∧ fxR fx ρ ∧ amsR h0 tyt ρ g mem ∧ ghR GS gh ρ g
def aHK : Prop := ∀ (env : aenv) (fx : List ae) (mem : List am) (gh : List gho) (g : cg) (ρ : Nat → Int) (t : Nat) (c i : ae) (b : Int × Int) (k j : Nat), coR h0 tyt GS env fx mem gh g ρ → ev ρ c = (k : Int) → ev ρ i = (j : Int) → xg tyt k = some t → b.1 ≤ g k j → g k j ≤ b.2 → (HK env fx mem gh t c i b).1 ≤ g k j ∧ g k j ≤ (HK env fx mem gh t c i b).2
/-- a number that isn't known yet -/
noncomputable def anum (T : aty) (tag t : Nat) (c i : ae) (full : Int × Int) (mem : List am) (env : aenv) (fx : List ae) (gh : List gho) (ne : Nat) (k : av → List am → aenv → Nat → Bool) : Bool :=
  match eu env i with
  | none => false
  | some hi => efrc (escl i (-1)) (fun n => match eu env n with
    | none => false
    | some lo => zfrc (Int.neg lo) (fun lo => zfrc (HK env fx mem gh t c i (acbs lo hi i T.2.2.2.1 full)).1 (fun a => zfrc (HK env fx mem gh t c i (acbs lo hi i T.2.2.2.1 full)).2 (fun b =>
      afrs a b env ne (fun env' ne' => k (tag, 0, esym ne) ((t, c, i, (tag, 0, esym ne)) :: mem) env' ne')))))
noncomputable def aload (t : Nat) (c0 i0 : ae) (mem : List am) (env : aenv) (fx : List ae) (gh : List gho) (ne : Nat) (k : av → List am → aenv → Nat → Bool) : Bool :=
  efrc (enor env c0) (fun c => efrc (enor env i0) (fun i => match amg env t c i mem with
    | some v => k v mem env ne
    | none => match xg typs t with
      | none => false
      | some T => cond (cond (Nat.blt T.1 13) (match i.2 with
          | [] => true
          | _ => false) true)
        (match apl T i.1.toNat with
          | none => false
          | some u => match u.1 with
            | 0 => anum HK T 0 t c i (-2147483648, 2147483647) mem env fx gh ne k
            | 2 => anum HK T 2 t c i (-9223372036854775808, 9223372036854775807) mem env fx gh ne k
            | 4 => match c.2, i.2 with
              | [], [] => (match xg h0 c.1.toNat with
                | none => false
                | some q => match xg q.2.2 i.1.toNat with
                  | none => false
                  | some w => xfrc w.2 (fun w2 => k (4, u.2, ((w2 : Int), [])) mem env ne))
              | _, _ => (match xg typs u.2 with
                | none => false
                | some T2 => zfrc T2.2.2.1.1 (fun a => zfrc T2.2.2.1.2 (fun b => xfrc u.2 (fun t2 => afrs a b env ne (fun env' ne' => k (4, t2, esym ne) ((t, c, i, (4, t2, esym ne)) :: mem) env' ne')))))
            | _ => false) false))
variable {h0 tyt typs GS HK}
theorem amsR_cons {ρ : Nat → Int} {g : cg} {m : am} {mem : List am} (h1 : amR h0 tyt ρ g m) (h2 : amsR h0 tyt ρ g mem) : amsR h0 tyt ρ g (m :: mem) := fun x hx => by
  rcases List.mem_cons.mp hx with e | hx
  · rw [e]; exact h1
  · exact h2 x hx
theorem anum_ok (hHK : aHK h0 tyt GS HK) {g : cg} (hI : aInv tyt typs g) {T : aty} {tag t : Nat} {c i : ae} {full : Int × Int} {mem : List am} {env : aenv} {fx : List ae} {gh : List gho} {ne : Nat} {k : av → List am → aenv → Nat → Bool} {ρ : Nat → Int} {kc j : Nat}
    (hC : aC ne ρ (coR h0 tyt GS env fx mem gh g)) (hp : aC ne ρ (fun τ => ev τ c = (kc : Int) ∧ ev τ i = (j : Int))) (ht : xg tyt kc = some t) (hT : xg typs t = some T) {v0 : cv} (hcat : cat h0 g kc j v0) (hf : full.1 ≤ g kc j ∧ g kc j ≤ full.2) (hv : ∀ τ : Nat → Int, ∀ e : ae, ev τ e = g kc j → avR tyt τ (tag, 0, e) v0)
    (h : anum HK T tag t c i full mem env fx gh ne k = true) : ∃ v mem' env' ne' ρ', k v mem' env' ne' = true ∧ ne ≤ ne' ∧ aag ne ρ ρ' ∧ aC ne' ρ' (coR h0 tyt GS env' fx mem' gh g) ∧ aC ne' ρ' (fun τ => avR tyt τ v v0) := by
  unfold anum at h
  cases hu : eu env i with
  | none => rw [hu] at h; cases h
  | some hi =>
    rw [hu] at h
    dsimp only at h
    rw [efrc_eq] at h
    cases hl : eu env (escl i (-1)) with
    | none => rw [hl] at h; cases h
    | some lo =>
      rw [hl] at h
      dsimp only at h
      rw [zfrc_eq, zfrc_eq, zfrc_eq, afrs_eq] at h
      have hR := hC.self
      have hpp := hp.self
      have b1 := eu_ok hR.1 hu
      have b2 := eu_ok hR.1 hl
      rw [escl_ev] at b2
      have hbd := acbs_ok (lo := Int.neg lo) (hi := hi) (n := i) (ρ := ρ) (j := j) (z := g kc j) hpp.2 (by show -lo ≤ _; omega) (by omega) T.2.2.2.1 full (fun q hq c hc => (hI kc t T ht hT).1 q hq c hc j) hf.1 hf.2
      have hbd2 := hHK env fx mem gh g ρ t c i _ kc j hR hpp.1 hpp.2 ht hbd.1 hbd.2
      refine ⟨_, _, _, _, aup ρ ne (g kc j), h, by omega, aup_ag ρ ne _, ?_, ?_⟩
      · have hE : aC (ne + 1) (aup ρ ne (g kc j)) (envR _) := afrs_ok (hC.imp (fun _ x => x.1)) hbd2.1 hbd2.2
        intro τ hτ
        have hτ2 : aag ne ρ τ := aag.tr (by omega) (aup_ag ρ ne _) hτ
        have hc := hC τ hτ2
        have hq := hp τ hτ2
        have hev : ev τ (esym ne) = g kc j := by rw [esym_ev, hτ ne (by omega), aup_self]
        exact ⟨hE τ hτ, hc.2.1, amsR_cons ⟨kc, j, v0, hq.1, hq.2, ht, hcat, hv τ _ hev⟩ hc.2.2.1, hc.2.2.2⟩
      · intro τ hτ
        exact hv τ _ (by rw [esym_ev, hτ ne (by omega), aup_self])
theorem aload_ok (hW : aWd h0 tyt typs) (hHK : aHK h0 tyt GS HK) {g : cg} (hI : aInv tyt typs g) {t : Nat} {c0 i0 : ae} {mem : List am} {env : aenv} {fx : List ae} {gh : List gho} {ne : Nat} {k : av → List am → aenv → Nat → Bool} {ρ : Nat → Int} {kc j : Nat}
    (hC : aC ne ρ (coR h0 tyt GS env fx mem gh g)) (hp0 : aC ne ρ (fun τ => ev τ c0 = (kc : Int) ∧ ev τ i0 = (j : Int))) (ht : xg tyt kc = some t) {v0 : cv} (hcat : cat h0 g kc j v0) {q : xcell} (hq : xg h0 kc = some q) (hj : j < q.2.1)
    (h : aload h0 typs HK t c0 i0 mem env fx gh ne k = true) : ∃ v mem' env' ne' ρ', k v mem' env' ne' = true ∧ ne ≤ ne' ∧ aag ne ρ ρ' ∧ aC ne' ρ' (coR h0 tyt GS env' fx mem' gh g) ∧ aC ne' ρ' (fun τ => avR tyt τ v v0) := by
  unfold aload at h
  rw [efrc_eq, efrc_eq] at h
  have hp : aC ne ρ (fun τ => ev τ (enor env c0) = (kc : Int) ∧ ev τ (enor env i0) = (j : Int)) := fun τ hτ => by
    have := hp0 τ hτ
    have hE := (hC τ hτ).1
    exact ⟨(enor_ok hE c0).trans this.1, (enor_ok hE i0).trans this.2⟩
  generalize enor env c0 = c at h hp
  generalize enor env i0 = i at h hp
  cases hm : amg env t c i mem with
  | some v =>
    rw [hm] at h
    refine ⟨v, mem, env, ne, ρ, h, Nat.le_refl _, aag.rf ne ρ, hC, fun τ hτ => ?_⟩
    obtain ⟨k', j', w, a1, a2, a3, a4⟩ := amg_ok (hC τ hτ).1 (hC τ hτ).2.2.1 hm
    have hq := hp τ hτ
    have e1 : k' = kc := by have := hq.1; omega
    have e2 : j' = j := by have := hq.2; omega
    subst e1; subst e2
    rw [cat_inj h0 hcat a3]
    exact a4
  | none =>
    rw [hm] at h
    dsimp only at h
    obtain ⟨q', T, w1, w2, w3, w4, w5, w6, w7, w8⟩ := hW kc t ht
    have eq : q' = q := Option.some.inj (w1.symm.trans hq)
    subst eq
    obtain ⟨w, u, u1, u2, u3, u4⟩ := w8 j hj
    rw [w2] at h
    obtain ⟨h1, h2⟩ := xcnb h
    have hpl : apl T i.1.toNat = some u := by
      rw [← u2]
      cases hb : Nat.blt T.1 13 with
      | false => unfold apl; rw [hb]; rfl
      | true =>
        rw [hb] at h1
        simp only [cond_true] at h1
        split at h1
        · rename_i hn
          have e := hp.self.2
          have e2 : ev ρ i = i.1 := by unfold ev; rw [hn]; show _ + 0 = _; omega
          have e3 : i.1.toNat = j := by omega
          rw [e3]
        · cases h1
    rw [hpl] at h2
    dsimp only at h2
    have hcv : v0 = cval w (g kc j) := by
      obtain ⟨qq, ww, c1, c2, c3⟩ := hcat
      have e1 : qq = q' := Option.some.inj (c1.symm.trans w1)
      subst e1
      have e2 : ww = w := Option.some.inj (c2.symm.trans u1)
      subst e2
      exact c3
    have hrange := (hI kc t T ht w2).2 j u (by rw [w4]; exact hj) u2
    obtain ⟨wt, wn⟩ := w
    obtain ⟨ut, un⟩ := u
    have u3 : wt = ut := u3
    subst u3
    split at h2
    · rename_i hz
      have hz : wt = 0 := hz
      subst hz
      have hr := hrange.1 rfl
      refine anum_ok hHK hI hC hp ht w2 hcat ?_ (fun τ e he => ?_) h2
      · unfold cI at hr
        constructor
        · exact hr.1
        · show g kc j ≤ 2147483647
          omega
      · rw [hcv]
        exact ⟨by show (0, g kc j) = (0, ev τ e); rw [he], by show cI (ev τ e); rw [he]; exact hr⟩
    · rename_i hz
      have hz : wt = 2 := hz
      subst hz
      have hr := hrange.2 rfl
      refine anum_ok hHK hI hC hp ht w2 hcat ?_ (fun τ e he => ?_) h2
      · unfold cL at hr
        constructor
        · exact hr.1
        · show g kc j ≤ 9223372036854775807
          omega
      · rw [hcv]
        exact ⟨by show (2, g kc j) = (2, ev τ e); rw [he], by show cL (ev τ e); rw [he]; exact hr⟩
    · rename_i hz
      have hz : wt = 4 := hz
      subst hz
      have hty : xg tyt wn = some un := by
        rcases u4 with z | z | z
        · cases z
        · cases z
        · exact z.2
      have hv4 : ∀ τ : Nat → Int, ∀ e : ae, ev τ e = (wn : Int) → avR tyt τ (4, un, e) v0 := fun τ e he => ⟨wn, hcv, he, hty⟩
      split at h2
      · rename_i hc0 hi0
        have e1 : ev ρ c = c.1 := by unfold ev; rw [hc0]; show _ + 0 = _; omega
        have e2 : ev ρ i = i.1 := by unfold ev; rw [hi0]; show _ + 0 = _; omega
        have e3 : c.1.toNat = kc := by have := hp.self.1; omega
        have e4 : i.1.toNat = j := by have := hp.self.2; omega
        rw [e3, w1] at h2
        dsimp only at h2
        rw [e4, u1] at h2
        dsimp only at h2
        rw [xfrc_eq] at h2
        exact ⟨_, mem, env, ne, ρ, h2, Nat.le_refl _, aag.rf ne ρ, hC, fun τ _ => hv4 τ _ (by show (wn : Int) + 0 = _; omega)⟩
      · obtain ⟨q2, T2, x1, x2, x3, x4, x5, x6, x7, x8⟩ := hW wn un hty
        have h2 : (match xg typs un with
                | none => false
                | some T2 => zfrc T2.2.2.1.1 (fun a => zfrc T2.2.2.1.2 (fun b => xfrc un (fun t2 => afrs a b env ne (fun env' ne' => k (4, t2, esym ne) ((t, c, i, (4, t2, esym ne)) :: mem) env' ne'))))) = true := h2
        rw [x2] at h2
        dsimp only at h2
        rw [zfrc_eq, zfrc_eq, xfrc_eq, afrs_eq] at h2
        refine ⟨_, _, _, _, aup ρ ne (wn : Int), h2, by omega, aup_ag ρ ne _, ?_, ?_⟩
        · have hE : aC (ne + 1) (aup ρ ne (wn : Int)) (envR _) := afrs_ok (hC.imp (fun _ x => x.1)) x6 x7
          intro τ hτ
          have hτ2 : aag ne ρ τ := aag.tr (by omega) (aup_ag ρ ne _) hτ
          have hc := hC τ hτ2
          have hq := hp τ hτ2
          have hev : ev τ (esym ne) = (wn : Int) := by rw [esym_ev, hτ ne (by omega), aup_self]
          exact ⟨hE τ hτ, hc.2.1, amsR_cons ⟨kc, j, v0, hq.1, hq.2, ht, hcat, hv4 τ _ hev⟩ hc.2.2.1, hc.2.2.2⟩
        · intro τ hτ
          exact hv4 τ _ (by rw [esym_ev, hτ ne (by omega), aup_self])
    · cases h2
end Load
end
section
/-! The checker's step: one instruction over expressions; rec is asked about what follows -/
abbrev afr : Type := Nat × Nat × List (Nat × av) × List av
/-- method, depth that is left at least, pc, locals, stack, frames below, places, intervals, facts, ghosts, symbols -/
abbrev aF : Type := Nat → Nat → Nat → List (Nat × av) → List av → List afr → List am → aenv → List ae → List gho → Nat → Bool
def alk : List (Nat × av) → Nat → Option av
  | [], _ => none
  | q :: l, i => cond (Nat.beq q.1 i) (some q.2) (alk l i)
def akp (f : Nat → Nat × xv → Bool) (i : Nat) (q : Nat × av) : Bool := f i (q.1, (q.2.1, 0))
def aflt (p : Nat × av → Bool) : List (Nat × av) → (List (Nat × av) → Bool) → Bool
  | [], c => c []
  | q :: l, c => cond (p q) (aflt p l (fun m => c (q :: m))) (aflt p l c)
theorem aflt_eq (p : Nat × av → Bool) : ∀ (l : List (Nat × av)) (c : List (Nat × av) → Bool), aflt p l c = c (l.filter p)
  | [], _ => rfl
  | q :: l, c => by
    show cond (p q) (aflt p l (fun m => c (q :: m))) (aflt p l c) = _
    rw [aflt_eq p l, aflt_eq p l, List.filter_cons]
    cases p q <;> rfl
/-- a number's value -/
def sI (n : Nat) : Int := cond (Nat.blt n 2147483648) (Int.ofNat n) (Int.negSucc (4294967295 - n))
def sL (n : Nat) : Int := cond (Nat.blt n 9223372036854775808) (Int.ofNat n) (Int.negSucc (18446744073709551615 - n))
def aneg : Jvm.ClassFile.Cond → Jvm.ClassFile.Cond
  | .eq => .ne
  | .ne => .eq
  | .lt => .ge
  | .ge => .lt
  | .gt => .le
  | .le => .gt
/-- e, if it is in the range, else anything there -/
noncomputable def aar (tag : Nat) (e : ae) (lo hi : Int) (env : aenv) (fx : List ae) (ne : Nat) (k : av → aenv → Nat → Bool) : Bool :=
  cond (efit env fx e lo hi) (k (tag, 0, e) env ne) (afrs lo hi env ne (fun env' ne' => k (tag, 0, esym ne) env' ne'))
/-- something between lo and hi -/
noncomputable def aany (tag : Nat) (lo hi : Int) (env : aenv) (ne : Nat) (k : av → aenv → Nat → Bool) : Bool :=
  cond (zeq lo hi) (zfrc lo (fun z => k (tag, 0, (z, [])) env ne)) (zfrc lo (fun lo => zfrc hi (fun hi => afrs lo hi env ne (fun env' ne' => k (tag, 0, esym ne) env' ne'))))
noncomputable def acn2 (sp : Bool) (o : Jvm.ClassFile.Cond) (env : aenv) (fx : List ae) (e : ae) (k : aenv → List ae → Bool) : Bool :=
  match o, sp with
  | .ne, true => cond (acnd .lt env fx e k) (acnd .gt env fx e k) false
  | o, _ => acnd o env fx e k
def awds : List av → Nat
  | [] => 0
  | w :: l => cond (Nat.beq (xkd w.1) 1) 2 1 + awds l
def aarg : Nat → List av → List (Nat × av)
  | _, [] => []
  | i, w :: l => (i, w) :: aarg (cond (Nat.beq (xkd w.1) 1) (i + 2) (i + 1)) l
/-! stores -/
/-- may the index meet the column -/
def ahit (lo hi : Int) (n : ae) (c : acol) : Bool := cond (zle c.1 hi) (cond (zle lo c.2.1) (cond (zeq c.2.2.1 1) true (zeq (Int.emod (Int.add n.1 (Int.neg c.1)) (Nat.gcd c.2.2.1.natAbs (zgcd n.2) : Nat)) 0)) false) false
/-- a column that lies d behind c, no wider -/
def acol2 (d : Int) (b : Int × Int × List acol) (c : acol) (l : List (Int × Int × List acol)) : Bool :=
  l.any (fun b2 => cond (zeq b2.1 (Int.add b.1 d)) (cond (zeq b2.2.1 (Int.add b.2.1 d)) (b2.2.2.any (fun c2 => cond (zeq c2.1 (Int.add c.1 d)) (cond (zeq c2.2.1 (Int.add c.2.1 d)) (cond (zeq c2.2.2.1 c.2.2.1) (cond (zle c.2.2.2.1 c2.2.2.2.1) (zle c2.2.2.2.2 c.2.2.2.2) false) false) false) false)) false) false)
noncomputable def acpr (env : aenv) (mem : List am) (t : Nat) (c i e : ae) (cols : List (Int × Int × List acol)) (b : Int × Int × List acol) (col : acol) : Bool :=
  mem.any (fun m => cond (Nat.beq m.1 t) (cond (cond (Nat.beq m.2.2.2.1 0) true (Nat.beq m.2.2.2.1 2)) (cond (eeqb m.2.2.2.2.2 e) (cond (eeq env m.2.1 c) (efrc (enor env (eadd m.2.2.1 i (-1))) (fun d => match d.2 with
    | [] => acol2 d.1 b col cols
    | _ => false)) false) false) false) false)
noncomputable def acok (env : aenv) (fx : List ae) (mem : List am) (t : Nat) (c i : ae) (lo hi : Int) (e : ae) (cols : List (Int × Int × List acol)) : Bool :=
  cols.all (fun b => cond (cond (zle b.1 hi) (zle lo b.2.1) false) (b.2.2.all (fun col => cond (ahit lo hi i col) (cond (efit env fx e col.2.2.2.1 col.2.2.2.2) true (acpr env mem t c i e cols b col)) true)) true)
section Store
variable (typs : Lean.RArray (Nat × aty)) (HS : aenv → List ae → List am → List gho → Nat → ae → ae → av → List gho) (WOK : aenv → List ae → Nat → ae → ae → Bool)
/-- a number put at a place -/
noncomputable def astor (t : Nat) (c0 i0 : ae) (v : av) (mem : List am) (env : aenv) (fx : List ae) (gh : List gho) (ne : Nat) (k : List am → List gho → Bool) : Bool :=
  efrc (enor env c0) (fun c => efrc (enor env i0) (fun i => match xg typs t with
    | none => false
    | some T => match eu env i with
      | none => false
      | some hi => efrc (escl i (-1)) (fun n => match eu env n with
        | none => false
        | some lo => zfrc (Int.neg lo) (fun lo => cond (WOK env fx t c i) (cond (acok env fx mem t c i lo hi v.2.2 T.2.2.2.1)
          (match amg env t c i mem with
            | some old => cond (Nat.beq old.1 v.1 && eeq env old.2.2 v.2.2) (k mem gh) (amk env t c i mem (fun r => k ((t, c, i, v) :: r) (HS env fx mem gh t c i v)))
            | none => amk env t c i mem (fun r => k ((t, c, i, v) :: r) (HS env fx mem gh t c i v))) false) false))))
end Store
/-- the symbol that is the script's length; the one that is the script's int at e -/
def asl : List gho → Option Nat
  | [] => none
  | q :: l => cond (Nat.beq q.1 51) (some q.2.1) (asl l)
noncomputable def asg (env : aenv) (e : ae) : List gho → Option Nat
  | [] => none
  | q :: l => cond (Nat.beq q.1 50) (cond (eeq env q.2.2.2 e) (some q.2.1) (asg env e l)) (asg env e l)
section AStep
variable (h0 : xheap) (tyt : Lean.RArray (Nat × Nat)) (typs : Lean.RArray (Nat × aty)) (HK : aenv → List ae → List am → List gho → Nat → ae → ae → Int × Int → Int × Int) (HS : aenv → List ae → List am → List gho → Nat → ae → ae → av → List gho) (WOK : aenv → List ae → Nat → ae → ae → Bool) (WOA : aenv → List ae → Nat → ae → Bool)
variable (HA : aenv → List ae → List am → List gho → Nat → ae → Nat → ae → ae → ae → ae → List gho)
variable (mi : xmi) (el : Nat → Nat) (eb : Nat → List Nat) (inl : Nat → Bool)
variable (SM : Nat → Nat → List av → List am → aenv → List ae → List gho → Nat → (Option av → List am → aenv → List ae → List gho → Nat → Bool) → Bool) (RT : Option av → List am → aenv → List ae → List gho → Nat → Bool)
variable (rec : aF)
variable (nx tg r1 r2 y dd pc : Nat) (ls : List (Nat × av)) (st : List av) (fr : List afr) (mem : List am) (env : aenv) (fx : List ae) (gh : List gho) (ne : Nat)
noncomputable def a_psh (z : Int) : Bool := zfrc z (fun z => rec y dd nx ls ((0, 0, (z, [])) :: st) fr mem env fx gh ne)
noncomputable def a_pshL (z : Int) : Bool := zfrc z (fun z => rec y dd nx ls ((2, 0, (z, [])) :: st) fr mem env fx gh ne)
noncomputable def a_ld (k1 k2 : Nat) : Bool :=
  match alk ls r1 with
  | none => false
  | some w => cond (Nat.beq (xkd w.1) k1 || Nat.beq (xkd w.1) k2) (rec y dd nx ls (w :: st) fr mem env fx gh ne) false
noncomputable def a_st (k1 k2 : Nat) (f : Nat → Nat × xv → Bool) : Bool :=
  match st with
  | [] => false
  | w :: r => cond (Nat.beq (xkd w.1) k1 || Nat.beq (xkd w.1) k2) (aflt (akp f r1) ls (fun m => rec y dd nx ((r1, w) :: m) r fr mem env fx gh ne)) false
noncomputable def a_inc : Bool :=
  match alk ls r1 with
  | none => false
  | some w => cond (Nat.beq w.1 0 && Nat.blt r2 4294967296) (efrc (eadc w.2.2 (sI r2)) (fun e => aar 0 e (-2147483648) 2147483647 env fx ne (fun v env ne => aflt (akp xk1 r1) ls (fun m => rec y dd nx ((r1, v) :: m) st fr mem env fx gh ne)))) false
/-- a + s b -/
noncomputable def a_add (tag : Nat) (lo hi s : Int) : Bool :=
  match st with
  | b :: a :: r => cond (Nat.beq b.1 tag && Nat.beq a.1 tag) (efrc (eadd a.2.2 b.2.2 s) (fun e => aar tag e lo hi env fx ne (fun v env ne => rec y dd nx ls (v :: r) fr mem env fx gh ne))) false
  | _ => false
noncomputable def a_mul (tag : Nat) (lo hi : Int) : Bool :=
  match st with
  | b :: a :: r => cond (Nat.beq b.1 tag && Nat.beq a.1 tag) (efrc (enor env b.2.2) (fun eb => efrc (enor env a.2.2) (fun ea => match eb.2 with
      | [] => efrc (escl ea eb.1) (fun e => aar tag e lo hi env fx ne (fun v env ne => rec y dd nx ls (v :: r) fr mem env fx gh ne))
      | _ => match ea.2 with
        | [] => efrc (escl eb ea.1) (fun e => aar tag e lo hi env fx ne (fun v env ne => rec y dd nx ls (v :: r) fr mem env fx gh ne))
        | _ => match ebd env [] ea with
          | none => false
          | some ia => match ebd env [] eb with
            | none => false
            | some ib => cond (zle lo (zmul4 ia.1 ia.2 ib.1 ib.2).1 && zle (zmul4 ia.1 ia.2 ib.1 ib.2).2 hi)
                (aany tag (zmul4 ia.1 ia.2 ib.1 ib.2).1 (zmul4 ia.1 ia.2 ib.1 ib.2).2 env ne (fun v env ne => rec y dd nx ls (v :: r) fr mem env fx gh ne))
                (aany tag lo hi env ne (fun v env ne => rec y dd nx ls (v :: r) fr mem env fx gh ne))))) false
  | _ => false
/-- a divisor that isn't 0 -/
noncomputable def a_div (tag : Nat) (lo hi : Int) : Bool :=
  match st with
  | b :: a :: r => cond (Nat.beq b.1 tag && Nat.beq a.1 tag) (match ebd env fx a.2.2 with
      | none => false
      | some ia => match ebd env fx b.2.2 with
        | none => false
        | some ib => cond (zlt 0 ib.1 || zlt ib.2 0)
            (cond (zle 0 ia.1 && zlt 0 ib.1) (aany tag (Int.ediv ia.1 ib.2) (Int.ediv ia.2 ib.1) env ne (fun v env ne => rec y dd nx ls (v :: r) fr mem env fx gh ne))
              (aany tag lo hi env ne (fun v env ne => rec y dd nx ls (v :: r) fr mem env fx gh ne))) false) false
  | _ => false
noncomputable def a_rem (tag : Nat) (fa : Bool) : Bool :=
  match st with
  | b :: a :: r => cond (Nat.beq b.1 tag && Nat.beq a.1 tag) (match ebd env fx a.2.2 with
      | none => false
      | some ia => match ebd env fx b.2.2 with
        | none => false
        | some ib => cond (zlt 0 ib.1 || zlt ib.2 0)
            (zfrc (Int.add (cond (zlt 0 ib.1) ib.2 (Int.neg ib.1)) (-1)) (fun m => aany tag (cond (zle 0 ia.1) 0 (zmx (Int.neg m) ia.1)) (cond (zle ia.2 0) 0 (zmn m ia.2)) env ne (fun v env ne =>
              cond fa (efrc (eadc (eadd v.2.2 b.2.2 (cond (zlt 0 ib.1) (-1) 1)) 1) (fun f1 => efrc (eadc (eadd (escl v.2.2 (-1)) b.2.2 (cond (zlt 0 ib.1) (-1) 1)) 1) (fun f2 => rec y dd nx ls (v :: r) fr mem env (f1 :: f2 :: fx) gh ne)))
                (rec y dd nx ls (v :: r) fr mem env fx gh ne)))) false) false
  | _ => false
/-- both known: the machine's own answer -/
noncomputable def a_bit (F : Int32 → Int32 → Int32) (bd : Int × Int → Int × Int → Int × Int) (fa : Bool) : Bool :=
  match st with
  | b :: a :: r => cond (Nat.beq b.1 0 && Nat.beq a.1 0) (match a.2.2.2, b.2.2.2 with
      | [], [] => zfrc (F (i32 a.2.2.1) (i32 b.2.2.1)).toInt (fun z => rec y dd nx ls ((0, 0, (z, [])) :: r) fr mem env fx gh ne)
      | _, _ => match ebd env fx a.2.2 with
        | none => false
        | some ia => match ebd env fx b.2.2 with
          | none => false
          | some ib => zfrc (bd ia ib).1 (fun lo => zfrc (bd ia ib).2 (fun hi => aany 0 lo hi env ne (fun v env ne => cond (fa && zle 0 ib.1) (efrc (eadd v.2.2 b.2.2 (-1)) (fun f => rec y dd nx ls (v :: r) fr mem env (f :: fx) gh ne)) (rec y dd nx ls (v :: r) fr mem env fx gh ne))))) false
  | _ => false
/-- two longs, of which nothing is known then; or a long and an int -/
noncomputable def a_lng (tb : Nat) : Bool :=
  match st with
  | b :: a :: r => cond (Nat.beq b.1 tb && Nat.beq a.1 2) (afrs (-9223372036854775808) 9223372036854775807 env ne (fun env' ne' => rec y dd nx ls ((2, 0, esym ne) :: r) fr mem env' fx gh ne')) false
  | _ => false
noncomputable def a_cnv (t1 t2 : Nat) (lo hi s : Int) : Bool :=
  match st with
  | a :: r => cond (Nat.beq a.1 t1) (efrc (escl a.2.2 s) (fun e => aar t2 e lo hi env fx ne (fun v env ne => rec y dd nx ls (v :: r) fr mem env fx gh ne))) false
  | _ => false
noncomputable def a_i2l : Bool :=
  match st with
  | a :: r => cond (Nat.beq a.1 0) (rec y dd nx ls ((2, 0, a.2.2) :: r) fr mem env fx gh ne) false
  | _ => false
noncomputable def a_dup : Bool :=
  match st with
  | a :: r => cond (Nat.beq (xkd a.1) 1) false (rec y dd nx ls (a :: a :: r) fr mem env fx gh ne)
  | _ => false
noncomputable def a_pop : Bool :=
  match st with
  | a :: r => cond (Nat.beq (xkd a.1) 1) false (rec y dd nx ls r fr mem env fx gh ne)
  | _ => false
noncomputable def a_dup2 : Bool :=
  match st with
  | a :: r => cond (Nat.beq (xkd a.1) 1) (rec y dd nx ls (a :: a :: r) fr mem env fx gh ne)
      (match r with
        | b :: r' => cond (Nat.beq (xkd b.1) 1) false (rec y dd nx ls (a :: b :: a :: b :: r') fr mem env fx gh ne)
        | _ => false)
  | _ => false
noncomputable def a_br (sp : Bool) (o : Jvm.ClassFile.Cond) (e : ae) (r : List av) : Bool :=
  cond (acn2 sp o env fx e (fun env fx => rec y dd tg ls r fr mem env fx gh ne)) (acn2 sp (aneg o) env fx e (fun env fx => rec y dd nx ls r fr mem env fx gh ne)) false
noncomputable def a_icmp (sp : Bool) (o : Jvm.ClassFile.Cond) : Bool :=
  match st with
  | b :: a :: r => cond (Nat.beq b.1 0 && Nat.beq a.1 0) (efrc (eadd a.2.2 b.2.2 (-1)) (fun e => a_br rec nx tg y dd ls fr mem env fx gh ne sp o e r)) false
  | _ => false
noncomputable def a_if (sp : Bool) (o : Jvm.ClassFile.Cond) : Bool :=
  match st with
  | a :: r => cond (Nat.beq a.1 0 || Nat.beq a.1 9) (a_br rec nx tg y dd ls fr mem env fx gh ne sp o a.2.2 r) false
  | _ => false
noncomputable def a_nul (t : Bool) : Bool :=
  match st with
  | a :: r => match xkd a.1 with
    | 2 => rec y dd (cond t nx tg) ls r fr mem env fx gh ne
    | 3 => rec y dd (cond t tg nx) ls r fr mem env fx gh ne
    | _ => false
  | _ => false
noncomputable def a_lcmp : Bool :=
  match st with
  | b :: a :: r => cond (Nat.beq b.1 2 && Nat.beq a.1 2) (efrc (eadd a.2.2 b.2.2 (-1)) (fun e => rec y dd nx ls ((9, 0, e) :: r) fr mem env fx gh ne)) false
  | _ => false
noncomputable def atab (e : ae) (r : List av) : List Int → Int → Bool
  | [], _ => true
  | o :: l, v => cond (cond (zle 0 (Int.add (pc : Int) o)) (efrc (eadc e (Int.neg v)) (fun x => acnd .eq env fx x (fun env fx => rec y dd (Int.add (pc : Int) o).toNat ls r fr mem env fx gh ne))) false) (zfrc (Int.add v 1) (fun w => atab e r l w)) false
noncomputable def a_tab (dflt lo hi : Int) (offs : Array Int) : Bool :=
  match st with
  | a :: r => cond (Nat.beq a.1 0 && zle 0 (Int.add (pc : Int) dflt) && zeq (Int.add (Int.add hi 1) (Int.neg lo)) (offs.size : Int))
      (cond (efrc (eadc a.2.2 (Int.neg lo)) (fun x => acnd .lt env fx x (fun env fx => rec y dd (Int.add (pc : Int) dflt).toNat ls r fr mem env fx gh ne)))
        (cond (efrc (eadc a.2.2 (Int.neg hi)) (fun x => acnd .gt env fx x (fun env fx => rec y dd (Int.add (pc : Int) dflt).toNat ls r fr mem env fx gh ne)))
          (atab rec y dd pc ls fr mem env fx gh ne a.2.2 r offs.toList lo) false) false) false
  | _ => false
noncomputable def alkp (e : ae) (r : List av) (dflt : Int) : List (Int × Int) → aenv → List ae → Bool
  | [], env, fx => cond (zle 0 (Int.add (pc : Int) dflt)) (rec y dd (Int.add (pc : Int) dflt).toNat ls r fr mem env fx gh ne) false
  | q :: l, env, fx => efrc (eadc e (Int.neg q.1)) (fun x =>
      cond (cond (zle 0 (Int.add (pc : Int) q.2)) (acnd .eq env fx x (fun env fx => rec y dd (Int.add (pc : Int) q.2).toNat ls r fr mem env fx gh ne)) false)
        (cond (acnd .lt env fx x (fun env fx => alkp e r dflt l env fx)) (acnd .gt env fx x (fun env fx => alkp e r dflt l env fx)) false) false)
noncomputable def a_lkp (dflt : Int) (ps : Array (Int × Int)) : Bool :=
  match st with
  | a :: r => cond (Nat.beq a.1 0) (alkp rec y dd pc ls fr mem gh ne a.2.2 r dflt ps.toList env fx) false
  | _ => false
noncomputable def a_get : Bool :=
  match st with
  | w :: r => match w.1 with
    | 4 => match xg typs w.2.1 with
      | none => false
      | some T => cond (Nat.beq T.1 r1 && Nat.blt r1 13 && Nat.blt r2 T.2.1) (aload h0 typs HK w.2.1 w.2.2 ((r2 : Int), []) mem env fx gh ne (fun v mem env ne => rec y dd nx ls (v :: r) fr mem env fx gh ne)) false
    | 6 => cond ((Nat.beq w.2.1 1 || Nat.beq w.2.1 3) && Nat.beq r1 98) (rec y dd nx ls ((cond (Nat.beq r2 0) (6, w.2.1 + 1, (0, [])) (0, 0, (0, []))) :: r) fr mem env fx gh ne) false
    | _ => false
  | _ => false
/-- does the value fit a field -/
noncomputable def aftf (tc : Nat) (v : av) : Bool :=
  match tc with
  | 0 => Nat.beq v.1 0
  | 1 => Nat.beq v.1 2
  | 3 => cond (Nat.beq v.1 0) (efit env fx v.2.2 0 1) false
  | _ => false
noncomputable def a_put : Bool :=
  match st with
  | v :: w :: r => cond (Nat.beq w.1 4 && aftf env fx tg v) (match xg typs w.2.1 with
      | none => false
      | some T => cond (Nat.beq T.1 r1 && Nat.blt r1 13 && Nat.blt r2 T.2.1) (match agt T.2.2.2.2 r2 with
        | none => false
        | some u => cond (Nat.beq u.1 v.1) (astor typs HS WOK w.2.1 w.2.2 ((r2 : Int), []) v mem env fx gh ne (fun mem gh => rec y dd nx ls r fr mem env fx gh ne)) false) false) false
  | _ => false
noncomputable def a_len : Bool :=
  match st with
  | w :: r => match w.1 with
    | 4 => match xg typs w.2.1 with
      | none => false
      | some T => cond (Nat.ble 13 T.1) (xfrc T.2.1 (fun n => rec y dd nx ls ((0, 0, ((n : Int), [])) :: r) fr mem env fx gh ne)) false
    | 6 => cond (Nat.beq w.2.1 0) (match asl gh with
      | none => false
      | some s => rec y dd nx ls ((0, 0, esym s) :: r) fr mem env fx gh ne) (cond ((Nat.beq w.2.1 2 || Nat.beq w.2.1 4) && Nat.blt (el w.2.1) 2147483648) (xfrc (el w.2.1) (fun n => rec y dd nx ls ((0, 0, ((n : Int), [])) :: r) fr mem env fx gh ne)) false)
    | _ => false
  | _ => false
noncomputable def a_ald (kd : Nat) : Bool :=
  match st with
  | i :: w :: r => cond (Nat.beq i.1 0) (match w.1 with
    | 4 => match xg typs w.2.1 with
      | none => false
      | some T => cond ((Nat.beq T.1 kd || (Nat.beq kd 20 && Nat.ble 20 T.1)) && Nat.ble 13 T.1 && efit env fx i.2.2 0 (Int.add (T.2.1 : Int) (-1))) (aload h0 typs HK w.2.1 w.2.2 i.2.2 mem env fx gh ne (fun v mem env ne => rec y dd nx ls (v :: r) fr mem env fx gh ne)) false
    | 6 => efrc (enor env i.2.2) (fun n => cond (Nat.beq w.2.1 0) (cond (Nat.beq kd 13) (match asl gh with
        | none => false
        | some s => cond (elef env fx 2 (escl n (-1)) && elef env fx 2 (eadc (eadd n (esym s) (-1)) 1)) (match asg env n gh with
          | some z => rec y dd nx ls ((0, 0, esym z) :: r) fr mem env fx gh ne
          | none => afrs (-2147483648) 2147483647 env ne (fun env' ne' => rec y dd nx ls ((0, 0, esym ne) :: r) fr mem env' fx ((50, ne, 0, n) :: gh) ne')) false) false) (match n.2 with
      | [] => cond ((Nat.beq w.2.1 2 || Nat.beq w.2.1 4) && Nat.beq kd 15 && zle 0 n.1 && Nat.blt n.1.toNat (el w.2.1) && Nat.blt n.1.toNat 2147483648 && Nat.blt ((eb w.2.1).getD n.1.toNat 0) 2147483648) (xfrc ((eb w.2.1).getD n.1.toNat 0) (fun z => rec y dd nx ls ((0, 0, ((z : Int), [])) :: r) fr mem env fx gh ne)) false
      | _ => false))
    | _ => false) false
  | _ => false
noncomputable def a_ast (kd : Nat) : Bool :=
  match st with
  | v :: i :: w :: r => cond (Nat.beq i.1 0 && Nat.beq w.1 4 && Nat.beq v.1 (cond (Nat.beq kd 14) 2 0)) (match xg typs w.2.1 with
      | none => false
      | some T => cond (Nat.beq T.1 kd && Nat.ble 13 T.1 && efit env fx i.2.2 0 (Int.add (T.2.1 : Int) (-1))) (match agt T.2.2.2.2 0 with
        | none => false
        | some u => cond (Nat.beq u.1 v.1) (cond (Nat.beq kd 15)
            (aar 0 v.2.2 (-128) 127 env fx ne (fun v env ne => astor typs HS WOK w.2.1 w.2.2 i.2.2 v mem env fx gh ne (fun mem gh => rec y dd nx ls r fr mem env fx gh ne)))
            (astor typs HS WOK w.2.1 w.2.2 i.2.2 v mem env fx gh ne (fun mem gh => rec y dd nx ls r fr mem env fx gh ne))) false) false) false
  | _ => false
/-- a call: of a method that is walked into, or by what is known of it -/
noncomputable def a_go (z : Nat) (args rest : List av) : Bool :=
  match dd with
  | 0 => false
  | d' + 1 => match xg mi z with
    | none => false
    | some u => cond (Nat.ble (awds rest) 8 && Nat.ble (awds args) u.2.2.2.2.2 && Nat.beq u.1 0 && Nat.beq u.2.1 0)
        (cond (inl z) (rec z d' 0 (aarg 0 args) [] ((y, nx, ls, rest) :: fr) mem env fx gh ne)
          (SM z d' args mem env fx gh ne (fun rv mem env fx gh ne => rec y dd nx ls (match rv with
            | none => rest
            | some v => v :: rest) fr mem env fx gh ne))) false
noncomputable def arcv (kd : Nat) (w : av) : Bool :=
  match w.1 with
  | 4 => (match xg typs w.2.1 with
    | none => false
    | some T => Nat.beq T.1 kd && Nat.blt kd 13)
  | 6 => (Nat.beq w.2.1 1 || Nat.beq w.2.1 3) && Nat.beq kd 98
  | _ => false
noncomputable def a_call (inst : Bool) : Bool :=
  match xg mi r1 with
  | none => false
  | some u => match cpop (cond inst (u.2.2.1 + 1) u.2.2.1) [] st with
    | none => false
    | some q => match q.1 with
      | [] => cond inst false (a_go mi inl SM rec nx y dd ls fr mem env fx gh ne r1 [] q.2)
      | w :: l => cond (!inst || arcv typs u.2.2.2.1 w) (a_go mi inl SM rec nx y dd ls fr mem env fx gh ne r1 (w :: l) q.2) false
noncomputable def a_cpy : Bool :=
  match st with
  | m :: dp :: b :: sp :: a :: r => cond (Nat.beq m.1 0 && Nat.beq dp.1 0 && Nat.beq b.1 4 && Nat.beq sp.1 0 && Nat.beq a.1 4 && Nat.ble (awds r) 8 && Nat.ble 1 dd) (match xg typs a.2.1 with
    | none => false
    | some Ta => match xg typs b.2.1 with
      | none => false
      | some Tb => cond ((Nat.beq Ta.1 13 || Nat.beq Ta.1 14) && Nat.beq Tb.1 Ta.1 && elef env fx 2 (escl m.2.2 (-1)) && elef env fx 2 (escl dp.2.2 (-1)) && elef env fx 2 (escl sp.2.2 (-1)) && elef env fx 2 (eadc (eadd sp.2.2 m.2.2 1) (Int.neg (Ta.2.1 : Int))) && elef env fx 2 (eadc (eadd dp.2.2 m.2.2 1) (Int.neg (Tb.2.1 : Int))) && WOA env fx b.2.1 b.2.2 &&
          Tb.2.2.2.1.all (fun B => B.2.2.all (fun c => Ta.2.2.2.1.any (fun A => cond (zle A.1 0) (cond (zle (Ta.2.1 : Int) (Int.add A.2.1 1)) (A.2.2.any (fun c2 => cond (zle c2.1 0) (cond (zle (Ta.2.1 : Int) (Int.add c2.2.1 1)) (cond (zeq c2.2.2.1 1) (cond (zle c.2.2.2.1 c2.2.2.2.1) (zle c2.2.2.2.2 c.2.2.2.2) false) false) false) false)) false) false))))
        (rec y dd nx ls r fr (mem.filter (fun x => cond (Nat.beq x.1 b.2.1) (ene env x.2.1 b.2.2) true)) env fx (HA env fx mem gh a.2.1 a.2.2 b.2.1 b.2.2 sp.2.2 dp.2.2 m.2.2) ne) false) false
  | _ => false
noncomputable def a_ret (rv : Option av) : Bool :=
  match fr with
  | [] => RT rv mem env fx gh ne
  | q :: l => rec q.1 (dd + 1) q.2.1 q.2.2.1 (match rv with
    | none => q.2.2.2
    | some v => v :: q.2.2.2) l mem env fx gh ne
noncomputable def arok (rt : Nat) (v : av) : Bool :=
  match rt with
  | 1 => true
  | 3 => efit env fx v.2.2 0 1
  | 4 => efit env fx v.2.2 0 65535
  | 5 => efit env fx v.2.2 0 127
  | _ => false
noncomputable def a_vret : Bool :=
  match xg mi y with
  | none => false
  | some q => match q.2.2.2.2.1, st with
    | 0, [] => a_ret RT rec dd fr mem env fx gh ne none
    | _, _ => false
noncomputable def a_iret : Bool :=
  match xg mi y with
  | none => false
  | some q => match st with
    | [w] => cond (Nat.beq w.1 0 && arok env fx q.2.2.2.2.1 w) (a_ret RT rec dd fr mem env fx gh ne (some w)) false
    | _ => false
noncomputable def a_lret : Bool :=
  match xg mi y with
  | none => false
  | some q => match st with
    | [w] => cond (Nat.beq w.1 2 && Nat.beq q.2.2.2.2.1 2) (a_ret RT rec dd fr mem env fx gh ne (some w)) false
    | _ => false
end AStep
def bdand (a b : Int × Int) : Int × Int := cond (zle 0 b.1) (0, cond (zle 0 a.1) (zmn a.2 b.2) b.2) (cond (zle 0 a.1) (0, a.2) (-2147483648, 2147483647))
def bdor (a b : Int × Int) : Int × Int := cond (zle 0 a.1 && zle 0 b.1) (0, ((2 ^ (Nat.log2 (zmx a.2 b.2).toNat + 1) - 1 : Nat) : Int)) (-2147483648, 2147483647)
def bdshl (a b : Int × Int) : Int × Int := cond (zle 0 a.1 && (zle 0 b.1 && (zle b.2 30 && zle (Int.mul a.2 ((2 ^ b.2.toNat : Nat) : Int)) 2147483647))) (Int.mul a.1 ((2 ^ b.1.toNat : Nat) : Int), Int.mul a.2 ((2 ^ b.2.toNat : Nat) : Int)) (-2147483648, 2147483647)
def bdshr (a _b : Int × Int) : Int × Int := cond (zle 0 a.1) (0, a.2) (a.1, zmx a.2 (-1))
def bdful (_a _b : Int × Int) : Int × Int := (-2147483648, 2147483647)
end
section
/-! The step is right: what the states say, frames, numbers -/
abbrev cfr : Type := Nat × Nat × List (Nat × cv) × List cv
section States
variable (G : xG) (h0 : xheap) (n0 : Nat) (cn0 sn0 : Nat → Nat) (Q : cg → Option cv → Prop)
def cQ : List cfr → Nat → cg → Option cv → Prop
  | [], _, g, rv => Q g rv
  | q :: l, d, g, rv => cT G h0 n0 q.1 (d + 1) q.2.1 q.2.2.1 (cpsh rv q.2.2.2) g (cn0 q.1) (sn0 q.1) (cQ l (d + 1))
def cTF (frc : List cfr) (y d pc : Nat) (lsc : List (Nat × cv)) (stc : List cv) (g : cg) : Prop := cT G h0 n0 y d pc lsc stc g (cn0 y) (sn0 y) (cQ G h0 n0 cn0 sn0 Q frc d)
variable (tyt : Lean.RArray (Nat × Nat)) (typs : Lean.RArray (Nat × aty)) (GS : gho → (Nat → Int) → cg → Prop)
def stR (τ : Nat → Int) : List av → List cv → Prop
  | [], [] => True
  | a :: l, v :: m => avR tyt τ a v ∧ stR τ l m
  | _, _ => False
def lsR (τ : Nat → Int) : List (Nat × av) → List (Nat × cv) → Prop
  | [], [] => True
  | a :: l, v :: m => v.1 = a.1 ∧ avR tyt τ a.2 v.2 ∧ lsR τ l m
  | _, _ => False
def frR (τ : Nat → Int) : List afr → List cfr → Prop
  | [], [] => True
  | a :: l, v :: m => v.1 = a.1 ∧ v.2.1 = a.2.1 ∧ lsR tyt τ a.2.2.1 v.2.2.1 ∧ stR tyt τ a.2.2.2 v.2.2.2 ∧ frR τ l m
  | _, _ => False
/-- fixed: the first symbols, what is not written -/
def aFX (p : Nat) (ρ0 : Nat → Int) (g0 : cg) (wc : Nat → Nat → Prop) (ρ : Nat → Int) (ne : Nat) (g : cg) : Prop := p ≤ ne ∧ aag p ρ0 ρ ∧ ∀ k j : Nat, ¬ wc k j → g k j = g0 k j
def aGm (FX : (Nat → Int) → Nat → cg → Prop) (ρ : Nat → Int) (ls : List (Nat × av)) (st : List av) (fr : List afr) (mem : List am) (env : aenv) (fx : List ae) (gh : List gho) (ne : Nat) (g : cg) (lsc : List (Nat × cv)) (stc : List cv) (frc : List cfr) : Prop :=
  aC ne ρ (coR h0 tyt GS env fx mem gh g) ∧ aC ne ρ (fun τ => lsR tyt τ ls lsc ∧ stR tyt τ st stc ∧ frR tyt τ fr frc) ∧ aInv tyt typs g ∧ FX ρ ne g
def aSnd (FX : (Nat → Int) → Nat → cg → Prop) (rec : aF) : Prop := ∀ (y dd pc : Nat) (ls : List (Nat × av)) (st : List av) (fr : List afr) (mem : List am) (env : aenv) (fx : List ae) (gh : List gho) (ne : Nat), rec y dd pc ls st fr mem env fx gh ne = true →
  ∀ (ρ : Nat → Int) (g : cg) (lsc : List (Nat × cv)) (stc : List cv) (frc : List cfr) (d : Nat), aGm h0 tyt typs GS FX ρ ls st fr mem env fx gh ne g lsc stc frc → dd ≤ d → cTF G h0 n0 cn0 sn0 Q frc y d pc lsc stc g
/-- a value, found -/
def aRes (env : aenv) (fx : List ae) (mem : List am) (gh : List gho) (ne : Nat) (ρ : Nat → Int) (g : cg) (k : av → aenv → Nat → Bool) (v0 : cv) : Prop :=
  ∃ v env' ne' ρ', k v env' ne' = true ∧ ne ≤ ne' ∧ aag ne ρ ρ' ∧ aC ne' ρ' (coR h0 tyt GS env' fx mem gh g) ∧ aC ne' ρ' (fun τ => avR tyt τ v v0)
def aFXm (FX : (Nat → Int) → Nat → cg → Prop) : Prop := ∀ (ρ ρ' : Nat → Int) (ne ne' : Nat) (g : cg), FX ρ ne g → ne ≤ ne' → aag ne ρ ρ' → FX ρ' ne' g
end States
theorem aFX_m {p : Nat} {ρ0 : Nat → Int} {g0 : cg} {wc : Nat → Nat → Prop} : aFXm (aFX p ρ0 g0 wc) := fun ρ ρ' ne ne' g h hn ha => ⟨by have := h.1; omega, aag.tr h.1 h.2.1 ha, h.2.2⟩
section Snd1
variable {h0 : xheap} {tyt : Lean.RArray (Nat × Nat)} {typs : Lean.RArray (Nat × aty)} {GS : gho → (Nat → Int) → cg → Prop}
theorem avR_int {τ : Nat → Int} : ∀ {a : av} {v : cv}, avR tyt τ a v → a.1 = 0 → v = (0, ev τ a.2.2) ∧ cI (ev τ a.2.2)
  | (0, _, _), _, h, _ => h
theorem avR_lng {τ : Nat → Int} : ∀ {a : av} {v : cv}, avR tyt τ a v → a.1 = 2 → v = (2, ev τ a.2.2) ∧ cL (ev τ a.2.2)
  | (2, _, _), _, h, _ => h
theorem avR_ref {τ : Nat → Int} : ∀ {a : av} {v : cv}, avR tyt τ a v → a.1 = 4 → ∃ k : Nat, v = (4, (k : Int)) ∧ ev τ a.2.2 = (k : Int) ∧ xg tyt k = some a.2.1
  | (4, _, _), _, h, _ => h
theorem avR_ext {τ : Nat → Int} : ∀ {a : av} {v : cv}, avR tyt τ a v → a.1 = 6 → v = (6, (a.2.1 : Int))
  | (6, _, _), _, h, _ => h
theorem avR_cmp {τ : Nat → Int} : ∀ {a : av} {v : cv}, avR tyt τ a v → a.1 = 9 → v = (0, csgn (ev τ a.2.2))
  | (9, _, _), _, h, _ => h
/-- tags -/
theorem avR_tag {τ : Nat → Int} : ∀ {a : av} {v : cv}, avR tyt τ a v → v.1 = a.1 ∨ (a.1 = 9 ∧ v.1 = 0)
  | (0, _, _), _, h => Or.inl (by rw [h.1])
  | (1, _, _), _, h => h.elim
  | (2, _, _), _, h => Or.inl (by rw [h.1])
  | (3, _, _), _, h => h.elim
  | (4, _, _), _, h => by obtain ⟨k, h, -⟩ := h; exact Or.inl (by rw [h])
  | (5, _, _), v, h => Or.inl (by rw [show v = (5, 0) from h])
  | (6, n, _), v, h => Or.inl (by rw [show v = (6, (n : Int)) from h])
  | (7, _, _), _, h => h.elim
  | (8, _, _), _, h => h.elim
  | (9, _, e), v, h => Or.inr ⟨rfl, by rw [show v = (0, csgn (ev τ e)) from h]⟩
  | (10, _, _), v, h => Or.inl (by rw [show v = (10, 0) from h])
  | (_ + 11, _, _), _, h => h.elim
theorem avR_kd {τ : Nat → Int} {a : av} {v : cv} (h : avR tyt τ a v) : Nat.beq (xkd v.1) 1 = Nat.beq (xkd a.1) 1 := by
  rcases avR_tag h with e | ⟨e1, e2⟩
  · rw [e]
  · rw [e1, e2]; rfl
theorem avR_kd2 {τ : Nat → Int} {a : av} {v : cv} (h : avR tyt τ a v) {k : Nat} (hk : xkd a.1 = k) (hn : k ≠ 9) : xkd v.1 = k := by
  rcases avR_tag h with e | ⟨e1, e2⟩
  · rw [e]; exact hk
  · rw [e1] at hk
    exact absurd hk.symm hn
theorem stR_cons {τ : Nat → Int} {a : av} {l : List av} {stc : List cv} (h : stR tyt τ (a :: l) stc) : ∃ v m, stc = v :: m ∧ avR tyt τ a v ∧ stR tyt τ l m := by
  cases stc with
  | nil => exact h.elim
  | cons v m => exact ⟨v, m, rfl, h.1, h.2⟩
theorem stR_nil {τ : Nat → Int} {stc : List cv} (h : stR tyt τ [] stc) : stc = [] := by
  cases stc with
  | nil => rfl
  | cons v m => exact h.elim
theorem lsR_lk {τ : Nat → Int} {i : Nat} : ∀ {ls : List (Nat × av)} {lsc : List (Nat × cv)} {a : av}, lsR tyt τ ls lsc → alk ls i = some a → ∃ v, clk lsc i = some v ∧ avR tyt τ a v
  | [], _, _, _, h => by cases h
  | _ :: _, [], _, h, _ => h.elim
  | q :: l, r :: m, a, h, hk => by
    have hk : cond (Nat.beq q.1 i) (some q.2) (alk l i) = some a := hk
    show ∃ v, cond (Nat.beq r.1 i) (some r.2) (clk m i) = some v ∧ avR tyt τ a v
    rw [h.1]
    cases hb : Nat.beq q.1 i with
    | true =>
      rw [hb] at hk
      have e : q.2 = a := Option.some.inj hk
      exact ⟨r.2, rfl, by rw [← e]; exact h.2.1⟩
    | false =>
      rw [hb] at hk
      exact lsR_lk h.2.2 hk
theorem lsR_flt {τ : Nat → Int} {f : Nat → Nat × xv → Bool} (hf : ∀ (i j t t' : Nat), Nat.beq (xkd t) 1 = Nat.beq (xkd t') 1 → f i (j, (t, 0)) = f i (j, (t', 0))) {i : Nat} : ∀ {ls : List (Nat × av)} {lsc : List (Nat × cv)}, lsR tyt τ ls lsc → lsR tyt τ (ls.filter (akp f i)) (lsc.filter (ckp f i))
  | [], [], _ => trivial
  | [], _ :: _, h => h.elim
  | _ :: _, [], h => h.elim
  | q :: l, r :: m, h => by
    have e : akp f i q = ckp f i r := by
      show f i (q.1, (q.2.1, 0)) = f i (r.1, (r.2.1, 0))
      rw [h.1]
      exact hf i q.1 q.2.1 r.2.1 (avR_kd h.2.1).symm
    rw [List.filter_cons, List.filter_cons, e]
    cases ckp f i r with
    | true => exact ⟨h.1, h.2.1, lsR_flt hf h.2.2⟩
    | false => exact lsR_flt hf h.2.2
theorem xk1_kd (i j t t' : Nat) (h : Nat.beq (xkd t) 1 = Nat.beq (xkd t') 1) : xk1 i (j, (t, 0)) = xk1 i (j, (t', 0)) := by
  show (!(Nat.beq j i) && !(Nat.beq (j + 1) i && Nat.beq (xkd t) 1)) = (!(Nat.beq j i) && !(Nat.beq (j + 1) i && Nat.beq (xkd t') 1))
  rw [h]
theorem xk2_kd (i j t t' : Nat) (h : Nat.beq (xkd t) 1 = Nat.beq (xkd t') 1) : xk2 i (j, (t, 0)) = xk2 i (j, (t', 0)) := by
  show (!(Nat.beq j i) && (!(Nat.beq j (i + 1)) && !(Nat.beq (j + 1) i && Nat.beq (xkd t) 1))) = (!(Nat.beq j i) && (!(Nat.beq j (i + 1)) && !(Nat.beq (j + 1) i && Nat.beq (xkd t') 1)))
  rw [h]
theorem stR_wds {τ : Nat → Int} : ∀ {st : List av} {stc : List cv}, stR tyt τ st stc → cwds stc = awds st
  | [], [], _ => rfl
  | [], _ :: _, h => h.elim
  | _ :: _, [], h => h.elim
  | a :: l, v :: m, h => by
    show cond (Nat.beq (xkd v.1) 1) 2 1 + cwds m = cond (Nat.beq (xkd a.1) 1) 2 1 + awds l
    rw [avR_kd h.1, stR_wds h.2]
theorem stR_arg {τ : Nat → Int} : ∀ (i : Nat) {st : List av} {stc : List cv}, stR tyt τ st stc → lsR tyt τ (aarg i st) (carg i stc)
  | _, [], [], _ => trivial
  | _, [], _ :: _, h => h.elim
  | _, _ :: _, [], h => h.elim
  | i, a :: l, v :: m, h => by
    refine ⟨rfl, h.1, ?_⟩
    show lsR tyt τ (aarg (cond (Nat.beq (xkd a.1) 1) (i + 2) (i + 1)) l) (carg (cond (Nat.beq (xkd v.1) 1) (i + 2) (i + 1)) m)
    rw [avR_kd h.1]
    exact stR_arg _ h.2
theorem cpop_R {τ : Nat → Int} : ∀ (n : Nat) {acc st : List av} {accc stc : List cv} {q : List av × List av}, stR tyt τ acc accc → stR tyt τ st stc → cpop n acc st = some q → ∃ qc, cpop n accc stc = some qc ∧ stR tyt τ q.1 qc.1 ∧ stR tyt τ q.2 qc.2
  | 0, acc, st, accc, stc, q, h1, h2, h => by
    cases h
    exact ⟨_, rfl, h1, h2⟩
  | n + 1, acc, [], accc, stc, q, h1, h2, h => by cases h
  | n + 1, acc, a :: l, accc, [], q, h1, h2, h => h2.elim
  | n + 1, acc, a :: l, accc, v :: m, q, h1, h2, h => cpop_R n (acc := a :: acc) (accc := v :: accc) ⟨h2.1, h1⟩ h2.2 h
theorem sI_ok {n : Nat} (h : n < 4294967296) : (nI n).toInt = sI n := by
  rw [nI_int, Nat.mod_eq_of_lt h]
  unfold sI
  cases hb : Nat.blt n 2147483648 with
  | true => rw [if_pos (xltb hb)]; rfl
  | false =>
    have := xnltb hb
    rw [if_neg (by omega)]
    show _ = Int.negSucc _
    rw [Int.negSucc_eq]
    omega
theorem sL_ok {n : Nat} (h : n < 18446744073709551616) : (lN n).toInt = sL n := by
  rw [lN_int, Nat.mod_eq_of_lt h]
  unfold sL
  cases hb : Nat.blt n 9223372036854775808 with
  | true => rw [if_pos (xltb hb)]; rfl
  | false =>
    have := xnltb hb
    rw [if_neg (by omega)]
    show _ = Int.negSucc _
    rw [Int.negSucc_eq]
    omega
theorem coR_env {env env' : aenv} {fx fx' : List ae} {mem : List am} {gh : List gho} {g : cg} {τ : Nat → Int} (h : coR h0 tyt GS env fx mem gh g τ) (h1 : envR env' τ) (h2 : fxR fx' τ) : coR h0 tyt GS env' fx' mem gh g τ := ⟨h1, h2, h.2.2.1, h.2.2.2⟩
theorem aar_ok {tag : Nat} {e : ae} {lo hi : Int} {env : aenv} {fx : List ae} {mem : List am} {gh : List gho} {ne : Nat} {ρ : Nat → Int} {g : cg} {k : av → aenv → Nat → Bool} {v0 : cv} {z : Int} (hC : aC ne ρ (coR h0 tyt GS env fx mem gh g)) (hz : lo ≤ z ∧ z ≤ hi) (he : aC ne ρ (fun τ => lo ≤ ev τ e → ev τ e ≤ hi → ev τ e = z)) (hv : ∀ (τ : Nat → Int) (x : ae), ev τ x = z → avR tyt τ (tag, 0, x) v0)
    (h : aar tag e lo hi env fx ne k = true) : aRes h0 tyt GS env fx mem gh ne ρ g k v0 := by
  unfold aar at h
  cases hf : efit env fx e lo hi with
  | true =>
    rw [hf] at h
    refine ⟨_, env, ne, ρ, h, Nat.le_refl _, aag.rf ne ρ, hC, fun τ hτ => ?_⟩
    obtain ⟨b1, b2⟩ := efit_ok (hC τ hτ).1 (hC τ hτ).2.1 hf
    exact hv τ e (he τ hτ b1 b2)
  | false =>
    rw [hf] at h
    simp only [cond_false] at h
    rw [afrs_eq] at h
    refine ⟨_, _, _, aup ρ ne z, h, by omega, aup_ag ρ ne z, fun τ hτ => ?_, fun τ hτ => hv τ _ (afrs_ev τ hτ)⟩
    exact coR_env (hC τ (aag.tr (by omega) (aup_ag ρ ne z) hτ)) (afrs_ok (hC.imp (fun _ x => x.1)) hz.1 hz.2 τ hτ) (hC τ (aag.tr (by omega) (aup_ag ρ ne z) hτ)).2.1
theorem aany_ok {tag : Nat} {lo hi : Int} {env : aenv} {fx : List ae} {mem : List am} {gh : List gho} {ne : Nat} {ρ : Nat → Int} {g : cg} {k : av → aenv → Nat → Bool} {v0 : cv} {z : Int} (hC : aC ne ρ (coR h0 tyt GS env fx mem gh g)) (hz : lo ≤ z ∧ z ≤ hi) (hv : ∀ (τ : Nat → Int) (x : ae), ev τ x = z → avR tyt τ (tag, 0, x) v0)
    (h : aany tag lo hi env ne k = true) : aRes h0 tyt GS env fx mem gh ne ρ g k v0 := by
  unfold aany at h
  cases hf : zeq lo hi with
  | true =>
    rw [hf] at h
    simp only [cond_true] at h
    rw [zfrc_eq] at h
    have e := zeq_iff.mp hf
    exact ⟨_, env, ne, ρ, h, Nat.le_refl _, aag.rf ne ρ, hC, fun τ hτ => hv τ _ (by show lo + 0 = z; omega)⟩
  | false =>
    rw [hf] at h
    simp only [cond_false] at h
    rw [zfrc_eq, zfrc_eq, afrs_eq] at h
    refine ⟨_, _, _, aup ρ ne z, h, by omega, aup_ag ρ ne z, fun τ hτ => ?_, fun τ hτ => hv τ _ (afrs_ev τ hτ)⟩
    exact coR_env (hC τ (aag.tr (by omega) (aup_ag ρ ne z) hτ)) (afrs_ok (hC.imp (fun _ x => x.1)) hz.1 hz.2 τ hτ) (hC τ (aag.tr (by omega) (aup_ag ρ ne z) hτ)).2.1
theorem crel_neg (o : Jvm.ClassFile.Cond) (a b : Int) : crel (aneg o) a b = !(crel o a b) := by
  cases o
  · show decide (a ≠ b) = !(decide (a = b)); by_cases h : a = b <;> simp [h]
  · show decide (a = b) = !(decide (a ≠ b)); by_cases h : a = b <;> simp [h]
  · show decide (b ≤ a) = !(decide (a < b)); by_cases h : a < b <;> simp [h] <;> omega
  · show decide (a < b) = !(decide (b ≤ a)); by_cases h : b ≤ a <;> simp [h] <;> omega
  · show decide (a ≤ b) = !(decide (b < a)); by_cases h : b < a <;> simp [h] <;> omega
  · show decide (b < a) = !(decide (a ≤ b)); by_cases h : a ≤ b <;> simp [h] <;> omega
theorem crel_sub (o : Jvm.ClassFile.Cond) (a b : Int) : crel o a b = crel o (a - b) 0 := by
  cases o <;> unfold crel <;> apply decide_eq_decide.mpr <;> omega
theorem crel_sgn (o : Jvm.ClassFile.Cond) (a : Int) : crel o (csgn a) 0 = crel o a 0 := by
  unfold csgn
  cases o <;> unfold crel <;> apply decide_eq_decide.mpr <;> (split <;> first | omega | (split <;> omega))
theorem acn2_ok {P : (Nat → Int) → Prop} (hP : ∃ ρ, P ρ) {sp : Bool} {o : Jvm.ClassFile.Cond} {env : aenv} {fx : List ae} {e : ae} {k : aenv → List ae → Bool} (h : acn2 sp o env fx e k = true) {z : Int} (hz : ∀ ρ, P ρ → ev ρ e = z) (hR : ∀ ρ, P ρ → envR env ρ ∧ fxR fx ρ) (ho : crel o z 0 = true) :
    ∃ env' fx', k env' fx' = true ∧ ∀ ρ, P ρ → envR env' ρ ∧ fxR fx' ρ := by
  have go : ∀ o2, crel o2 z 0 = true → acnd o2 env fx e k = true → ∃ env' fx', k env' fx' = true ∧ ∀ ρ, P ρ → envR env' ρ ∧ fxR fx' ρ := fun o2 h1 h2 => acnd_ok hP h2 (fun ρ p => ⟨(hR ρ p).1, (hR ρ p).2, by rw [hz ρ p]; exact h1⟩)
  unfold acn2 at h
  split at h
  · obtain ⟨h1, h2⟩ := xcnb h
    have hne : z ≠ 0 := of_decide_eq_true ho
    by_cases hl : z < 0
    · exact go .lt (decide_eq_true hl) h1
    · exact go .gt (decide_eq_true (show 0 < z by omega)) h2
  · exact go o ho h
end Snd1
end
section
/-! The step is right: instructions of a frame -/
section Snd2
variable {sv : Nat → Int32} {cd : xcd} {mi : xmi} {df : xdf} {el : Nat → Nat} {eb : Nat → List Nat} {G : xG} {h0 : xheap} {n0 : Nat} {cn0 sn0 : Nat → Nat} {Q : cg → Option cv → Prop}
variable {tyt : Lean.RArray (Nat × Nat)} {typs : Lean.RArray (Nat × aty)} {GS : gho → (Nat → Int) → cg → Prop} {FX : (Nat → Int) → Nat → cg → Prop}
variable {rec : aF} {y d dd pc nx tg r1 r2 : Nat} {ins : Instr} {ls : List (Nat × av)} {st : List av} {fr : List afr} {mem : List am} {env : aenv} {fx : List ae} {gh : List gho} {ne : Nat} {ρ : Nat → Int} {g : cg} {lsc : List (Nat × cv)} {stc : List cv} {frc : List cfr}
/-- the next state, whatever it is -/
theorem a_nx (hF : aFXm FX) (hrec : aSnd G h0 n0 cn0 sn0 Q tyt typs GS FX rec) (hI : aInv tyt typs g) (hX : FX ρ ne g) (hd : dd ≤ d) {pc' : Nat} {ls' : List (Nat × av)} {st' : List av} {mem' : List am} {env' : aenv} {fx' : List ae} {gh' : List gho} {ne' : Nat} {ρ' : Nat → Int} {lsc' : List (Nat × cv)} {stc' : List cv}
    (h : rec y dd pc' ls' st' fr mem' env' fx' gh' ne' = true) (hn : ne ≤ ne') (ha : aag ne ρ ρ') (hC : aC ne' ρ' (coR h0 tyt GS env' fx' mem' gh' g)) (hl : aC ne' ρ' (fun τ => lsR tyt τ ls' lsc')) (hs : aC ne' ρ' (fun τ => stR tyt τ st' stc')) (hf : aC ne ρ (fun τ => frR tyt τ fr frc)) : cTF G h0 n0 cn0 sn0 Q frc y d pc' lsc' stc' g :=
  hrec _ _ _ _ _ _ _ _ _ _ _ h ρ' g lsc' stc' frc d ⟨hC, fun τ hτ => ⟨hl τ hτ, hs τ hτ, hf.mono hn ha τ hτ⟩, hI, hF _ _ _ _ _ hX hn ha⟩ hd
/-- the same symbols -/
theorem a_n0 (hF : aFXm FX) (hrec : aSnd G h0 n0 cn0 sn0 Q tyt typs GS FX rec) (hγ : aGm h0 tyt typs GS FX ρ ls st fr mem env fx gh ne g lsc stc frc) (hd : dd ≤ d) {pc' : Nat} {ls' : List (Nat × av)} {st' : List av} {lsc' : List (Nat × cv)} {stc' : List cv}
    (h : rec y dd pc' ls' st' fr mem env fx gh ne = true) (hl : aC ne ρ (fun τ => lsR tyt τ ls' lsc')) (hs : aC ne ρ (fun τ => stR tyt τ st' stc')) : cTF G h0 n0 cn0 sn0 Q frc y d pc' lsc' stc' g :=
  a_nx hF hrec hγ.2.2.1 hγ.2.2.2 hd h (Nat.le_refl _) (aag.rf _ _) hγ.1 hl hs (hγ.2.1.imp (fun _ x => x.2.2))
theorem a_nr (hF : aFXm FX) (hrec : aSnd G h0 n0 cn0 sn0 Q tyt typs GS FX rec) (hγ : aGm h0 tyt typs GS FX ρ ls st fr mem env fx gh ne g lsc stc frc) (hd : dd ≤ d) {pc' : Nat} {r : List av} {rc : List cv} {v0 : cv}
    (hs : aC ne ρ (fun τ => stR tyt τ r rc)) (h : aRes h0 tyt GS env fx mem gh ne ρ g (fun v env ne => rec y dd pc' ls (v :: r) fr mem env fx gh ne) v0) : cTF G h0 n0 cn0 sn0 Q frc y d pc' lsc (v0 :: rc) g := by
  obtain ⟨v, env', ne', ρ', h1, h2, h3, h4, h5⟩ := h
  exact a_nx hF hrec hγ.2.2.1 hγ.2.2.2 hd h1 h2 h3 h4 ((hγ.2.1.imp (fun _ x => x.1)).mono h2 h3) (fun τ hτ => ⟨h5 τ hτ, hs.mono h2 h3 τ hτ⟩) (hγ.2.1.imp (fun _ x => x.2.2))
theorem aGm.gl (hγ : aGm h0 tyt typs GS FX ρ ls st fr mem env fx gh ne g lsc stc frc) : aC ne ρ (fun τ => lsR tyt τ ls lsc) := hγ.2.1.imp (fun _ x => x.1)
theorem aGm.gs (hγ : aGm h0 tyt typs GS FX ρ ls st fr mem env fx gh ne g lsc stc frc) : aC ne ρ (fun τ => stR tyt τ st stc) := hγ.2.1.imp (fun _ x => x.2.1)
/-- the stack's top -/
theorem a_top {a : av} {r : List av} (h : aC ne ρ (fun τ => stR tyt τ (a :: r) stc)) : ∃ v rc, stc = v :: rc ∧ aC ne ρ (fun τ => avR tyt τ a v) ∧ aC ne ρ (fun τ => stR tyt τ r rc) := by
  obtain ⟨v, rc, e, -, -⟩ := stR_cons h.self
  subst e
  exact ⟨v, rc, rfl, h.imp (fun _ x => x.1), h.imp (fun _ x => x.2)⟩
theorem a_int {a : av} {v : cv} (h : aC ne ρ (fun τ => avR tyt τ a v)) (ht : a.1 = 0) : ∃ z, v = (0, z) ∧ cI z ∧ aC ne ρ (fun τ => ev τ a.2.2 = z) := by
  obtain ⟨h1, h2⟩ := avR_int h.self ht
  refine ⟨_, h1, h2, fun τ hτ => ?_⟩
  have := (avR_int (h τ hτ) ht).1
  rw [h1] at this
  exact (congrArg Prod.snd this).symm
theorem a_lngv {a : av} {v : cv} (h : aC ne ρ (fun τ => avR tyt τ a v)) (ht : a.1 = 2) : ∃ z, v = (2, z) ∧ cL z ∧ aC ne ρ (fun τ => ev τ a.2.2 = z) := by
  obtain ⟨h1, h2⟩ := avR_lng h.self ht
  refine ⟨_, h1, h2, fun τ hτ => ?_⟩
  have := (avR_lng (h τ hτ) ht).1
  rw [h1] at this
  exact (congrArg Prod.snd this).symm
theorem avR_mk0 {z : Int} (hz : cI z) : ∀ (τ : Nat → Int) (x : ae), ev τ x = z → avR tyt τ (0, 0, x) (0, z) := fun τ x e => ⟨by rw [e], by rw [e]; exact hz⟩
theorem avR_mk2 {z : Int} (hz : cL z) : ∀ (τ : Nat → Int) (x : ae), ev τ x = z → avR tyt τ (2, 0, x) (2, z) := fun τ x e => ⟨by rw [e], by rw [e]; exact hz⟩
theorem evc (τ : Nat → Int) (z : Int) : ev τ ((z, []) : ae) = z := ecst_ev τ z
theorem a_psh_ok (hG : cW sv cd mi df el eb G) (hF : aFXm FX) (hrec : aSnd G h0 n0 cn0 sn0 Q tyt typs GS FX rec) (hc : cC cd y pc (ins, nx, tg, r1, r2)) (hγ : aGm h0 tyt typs GS FX ρ ls st fr mem env fx gh ne g lsc stc frc) (hd : dd ≤ d) (he : ∀ (rec : xF) (lx : List (Nat × xv)) (sx : List xv) (h : xheap), xex mi df el eb rec ins nx tg r1 r2 y d pc lx sx [] h n0 (cn0 y) (sn0 y) = rec y d nx lx ((0, r1) :: sx) [] h n0 (cn0 y) (sn0 y)) (hr : r1 < 4294967296) (h : a_psh rec nx y dd ls st fr mem env fx gh ne (sI r1) = true) : cTF G h0 n0 cn0 sn0 Q frc y d pc lsc stc g := by
  unfold a_psh at h
  rw [zfrc_eq] at h
  refine cT_push hG hc he ?_
  rw [sI_ok hr]
  refine a_n0 hF hrec hγ hd h hγ.gl (fun τ hτ => ⟨avR_mk0 ?_ τ _ (evc τ _), hγ.gs τ hτ⟩)
  rw [← sI_ok hr]
  exact cI_of _
theorem a_pshL_ok (hG : cW sv cd mi df el eb G) (hF : aFXm FX) (hrec : aSnd G h0 n0 cn0 sn0 Q tyt typs GS FX rec) (hc : cC cd y pc (ins, nx, tg, r1, r2)) (hγ : aGm h0 tyt typs GS FX ρ ls st fr mem env fx gh ne g lsc stc frc) (hd : dd ≤ d) (he : ∀ (rec : xF) (lx : List (Nat × xv)) (sx : List xv) (h : xheap), xex mi df el eb rec ins nx tg r1 r2 y d pc lx sx [] h n0 (cn0 y) (sn0 y) = rec y d nx lx ((2, r1) :: sx) [] h n0 (cn0 y) (sn0 y)) (hr : r1 < 18446744073709551616) (h : a_pshL rec nx y dd ls st fr mem env fx gh ne (sL r1) = true) : cTF G h0 n0 cn0 sn0 Q frc y d pc lsc stc g := by
  unfold a_pshL at h
  rw [zfrc_eq] at h
  refine cT_pushL hG hc he ?_
  rw [sL_ok hr]
  refine a_n0 hF hrec hγ hd h hγ.gl (fun τ hτ => ⟨avR_mk2 ?_ τ _ (evc τ _), hγ.gs τ hτ⟩)
  rw [← sL_ok hr]
  exact cL_of _
theorem a_pshV_ok (hG : cW sv cd mi df el eb G) (hF : aFXm FX) (hrec : aSnd G h0 n0 cn0 sn0 Q tyt typs GS FX rec) (hc : cC cd y pc (ins, nx, tg, r1, r2)) (hγ : aGm h0 tyt typs GS FX ρ ls st fr mem env fx gh ne g lsc stc frc) (hd : dd ≤ d) {a : av} {v : cv} (hv : ∀ τ, avR tyt τ a v) (he : ∀ (rec : xF) (lx : List (Nat × xv)) (sx : List xv) (h : xheap), xex mi df el eb rec ins nx tg r1 r2 y d pc lx sx [] h n0 (cn0 y) (sn0 y) = rec y d nx lx (cenc v :: sx) [] h n0 (cn0 y) (sn0 y)) (h : rec y dd nx ls (a :: st) fr mem env fx gh ne = true) : cTF G h0 n0 cn0 sn0 Q frc y d pc lsc stc g :=
  cT_pushV hG hc he (a_n0 hF hrec hγ hd h hγ.gl (fun τ hτ => ⟨hv τ, hγ.gs τ hτ⟩))
theorem xor9 {x k1 k2 : Nat} (h : (Nat.beq x k1 || Nat.beq x k2) = true) : x = k1 ∨ x = k2 := (xor2 h).imp xeqb xeqb
theorem a_ld_ok (hG : cW sv cd mi df el eb G) (hF : aFXm FX) (hrec : aSnd G h0 n0 cn0 sn0 Q tyt typs GS FX rec) (hc : cC cd y pc (ins, nx, tg, r1, r2)) (hγ : aGm h0 tyt typs GS FX ρ ls st fr mem env fx gh ne g lsc stc frc) (hd : dd ≤ d) {k1 k2 : Nat} (h1 : k1 ≠ 9) (h2 : k2 ≠ 9) (he : ∀ (rec : xF) (lx : List (Nat × xv)) (sx : List xv) (h : xheap), xex mi df el eb rec ins nx tg r1 r2 y d pc lx sx [] h n0 (cn0 y) (sn0 y) = x_ld rec nx r1 y d lx sx [] h n0 (cn0 y) (sn0 y) k1 k2) (h : a_ld rec nx r1 y dd ls st fr mem env fx gh ne k1 k2 = true) : cTF G h0 n0 cn0 sn0 Q frc y d pc lsc stc g := by
  unfold a_ld at h
  cases ha : alk ls r1 with
  | none => rw [ha] at h; cases h
  | some w =>
    rw [ha] at h
    obtain ⟨g1, g2⟩ := xcnb h
    obtain ⟨v, e1, e2⟩ := lsR_lk hγ.gl.self ha
    have hk : xkd v.1 = k1 ∨ xkd v.1 = k2 := (xor9 g1).imp (fun z => avR_kd2 e2 z h1) (fun z => avR_kd2 e2 z h2)
    refine cT_ld hG hc he e1 hk (a_n0 hF hrec hγ hd g2 hγ.gl (fun τ hτ => ⟨?_, hγ.gs τ hτ⟩))
    obtain ⟨v', e3, e4⟩ := lsR_lk (hγ.gl τ hτ) ha
    have : v' = v := Option.some.inj (e3.symm.trans e1)
    rw [← this]; exact e4
theorem a_st_ok (hG : cW sv cd mi df el eb G) (hF : aFXm FX) (hrec : aSnd G h0 n0 cn0 sn0 Q tyt typs GS FX rec) (hc : cC cd y pc (ins, nx, tg, r1, r2)) (hγ : aGm h0 tyt typs GS FX ρ ls st fr mem env fx gh ne g lsc stc frc) (hd : dd ≤ d) {k1 k2 : Nat} {f : Nat → Nat × xv → Bool} (h1 : k1 ≠ 9) (h2 : k2 ≠ 9) (hf : ∀ (i j : Nat) (w : xv), f i (j, w) = f i (j, (w.1, 0))) (hfk : ∀ (i j t t' : Nat), Nat.beq (xkd t) 1 = Nat.beq (xkd t') 1 → f i (j, (t, 0)) = f i (j, (t', 0))) (he : ∀ (rec : xF) (lx : List (Nat × xv)) (sx : List xv) (h : xheap), xex mi df el eb rec ins nx tg r1 r2 y d pc lx sx [] h n0 (cn0 y) (sn0 y) = x_st rec nx r1 y d lx sx [] h n0 (cn0 y) (sn0 y) k1 k2 f) (h : a_st rec nx r1 y dd ls st fr mem env fx gh ne k1 k2 f = true) : cTF G h0 n0 cn0 sn0 Q frc y d pc lsc stc g := by
  unfold a_st at h
  match st, hγ, h with
  | [], _, h => cases h
  | w :: r, hγ, h =>
    obtain ⟨g1, g2⟩ := xcnb h
    rw [aflt_eq] at g2
    obtain ⟨v, rc, rfl, hv, hr⟩ := a_top hγ.gs
    have hk : xkd v.1 = k1 ∨ xkd v.1 = k2 := (xor9 g1).imp (fun z => avR_kd2 hv.self z h1) (fun z => avR_kd2 hv.self z h2)
    exact cT_sto hG hc hf he hk (a_n0 hF hrec hγ hd g2 (fun τ hτ => ⟨rfl, hv τ hτ, lsR_flt hfk (hγ.gl τ hτ)⟩) hr)
theorem a_inc_ok (hG : cW sv cd mi df el eb G) (hF : aFXm FX) (hrec : aSnd G h0 n0 cn0 sn0 Q tyt typs GS FX rec) (hγ : aGm h0 tyt typs GS FX ρ ls st fr mem env fx gh ne g lsc stc frc) (hd : dd ≤ d) {i : Nat} {z : Int} (hc : cC cd y pc (.iinc i z, nx, tg, r1, r2)) (h : a_inc rec nx r1 r2 y dd ls st fr mem env fx gh ne = true) : cTF G h0 n0 cn0 sn0 Q frc y d pc lsc stc g := by
  unfold a_inc at h
  cases ha : alk ls r1 with
  | none => rw [ha] at h; cases h
  | some w =>
    rw [ha] at h
    obtain ⟨g1, g2⟩ := xcnb h
    obtain ⟨g3, g4⟩ := xand g1
    rw [efrc_eq] at g2
    obtain ⟨v, e1, e2⟩ := lsR_lk hγ.gl.self ha
    have hv : aC ne ρ (fun τ => avR tyt τ w v) := fun τ hτ => by
      obtain ⟨v', e3, e4⟩ := lsR_lk (hγ.gl τ hτ) ha
      have : v' = v := Option.some.inj (e3.symm.trans e1)
      rw [← this]; exact e4
    obtain ⟨x, rfl, hx, hxe⟩ := a_int hv (xeqb g3)
    refine cT_inc hG hc e1 ?_
    have hcI := cI_of (i32 x + nI r2)
    have hres := aar_ok (v0 := (0, (i32 x + nI r2).toInt)) (z := (i32 x + nI r2).toInt) hγ.1 ⟨hcI.1, by have := hcI.2; omega⟩ (fun τ hτ b1 b2 => by
      rw [eadc_ev, hxe τ hτ] at b1 b2 ⊢
      have e3 : nI r2 = i32 (sI r2) := by rw [← sI_ok (xltb g4), i32_of]
      rw [e3, i32_add, i32_int]
      unfold cI
      omega) (avR_mk0 hcI) g2
    obtain ⟨v, env', ne', ρ', q1, q2, q3, q4, q5⟩ := hres
    dsimp only at q1
    rw [aflt_eq] at q1
    exact a_nx hF hrec hγ.2.2.1 hγ.2.2.2 hd q1 q2 q3 q4 (fun τ hτ => ⟨rfl, q5 τ hτ, lsR_flt xk1_kd (hγ.gl.mono q2 q3 τ hτ)⟩) (hγ.gs.mono q2 q3) (hγ.2.1.imp (fun _ x => x.2.2))
/-- two ints; two longs -/
theorem a_two {tag : Nat} {k : av → av → List av → Bool} (h : (match st with
    | b :: a :: r => cond (Nat.beq b.1 tag && Nat.beq a.1 tag) (k b a r) false
    | _ => false) = true) (hs : aC ne ρ (fun τ => stR tyt τ st stc)) : ∃ b a r vb va rc, st = b :: a :: r ∧ stc = vb :: va :: rc ∧ b.1 = tag ∧ a.1 = tag ∧ aC ne ρ (fun τ => avR tyt τ b vb) ∧ aC ne ρ (fun τ => avR tyt τ a va) ∧ aC ne ρ (fun τ => stR tyt τ r rc) ∧ k b a r = true := by
  match st, hs, h with
  | [], _, h => cases h
  | [_], _, h => cases h
  | b :: a :: r, hs, h =>
    obtain ⟨g1, g2⟩ := xcnb h
    obtain ⟨g3, g4⟩ := xand g1
    obtain ⟨vb, rc1, rfl, hb, hs1⟩ := a_top hs
    obtain ⟨va, rc, rfl, ha, hs2⟩ := a_top hs1
    exact ⟨b, a, r, vb, va, rc, rfl, rfl, xeqb g3, xeqb g4, hb, ha, hs2, g2⟩
theorem a_addI_ok (hG : cW sv cd mi df el eb G) (hF : aFXm FX) (hrec : aSnd G h0 n0 cn0 sn0 Q tyt typs GS FX rec) (hc : cC cd y pc (ins, nx, tg, r1, r2)) (hγ : aGm h0 tyt typs GS FX ρ ls st fr mem env fx gh ne g lsc stc frc) (hd : dd ≤ d) {f : Nat → Nat → Nat} {F : Int32 → Int32 → Int32} {s : Int} (he : ∀ (rec : xF) (lx : List (Nat × xv)) (sx : List xv) (h : xheap), xex mi df el eb rec ins nx tg r1 r2 y d pc lx sx [] h n0 (cn0 y) (sn0 y) = x_bi rec nx y d lx sx [] h n0 (cn0 y) (sn0 y) f) (hFf : ∀ a b, nI (f a b) = F (nI a) (nI b)) (hFs : ∀ a b, F (i32 a) (i32 b) = i32 (a + s * b))
    (h : a_add rec nx y dd ls st fr mem env fx gh ne 0 (-2147483648) 2147483647 s = true) : cTF G h0 n0 cn0 sn0 Q frc y d pc lsc stc g := by
  obtain ⟨b, a, r, vb, va, rc, rfl, rfl, tb, ta, hb, ha, hs, k⟩ := a_two h hγ.gs
  obtain ⟨x, rfl, hx, hxe⟩ := a_int ha ta
  obtain ⟨z, rfl, hz, hze⟩ := a_int hb tb
  rw [efrc_eq] at k
  refine cT_bi hG hc he hFf ?_
  have hcI := cI_of (F (i32 x) (i32 z))
  refine a_nr hF hrec hγ hd hs (aar_ok hγ.1 ⟨hcI.1, by have := hcI.2; omega⟩ (fun τ hτ b1 b2 => ?_) (avR_mk0 hcI) k)
  rw [eadd_ev, hxe τ hτ, hze τ hτ] at b1 b2 ⊢
  rw [hFs, i32_int]
  unfold cI
  omega
theorem a_addL_ok (hG : cW sv cd mi df el eb G) (hF : aFXm FX) (hrec : aSnd G h0 n0 cn0 sn0 Q tyt typs GS FX rec) (hc : cC cd y pc (ins, nx, tg, r1, r2)) (hγ : aGm h0 tyt typs GS FX ρ ls st fr mem env fx gh ne g lsc stc frc) (hd : dd ≤ d) {f : Nat → Nat → Nat} {F : Int64 → Int64 → Int64} {s : Int} (he : ∀ (rec : xF) (lx : List (Nat × xv)) (sx : List xv) (h : xheap), xex mi df el eb rec ins nx tg r1 r2 y d pc lx sx [] h n0 (cn0 y) (sn0 y) = x_bl rec nx y d lx sx [] h n0 (cn0 y) (sn0 y) f) (hFf : ∀ a b, lN (f a b) = F (lN a) (lN b)) (hFs : ∀ a b, F (i64 a) (i64 b) = i64 (a + s * b))
    (h : a_add rec nx y dd ls st fr mem env fx gh ne 2 (-9223372036854775808) 9223372036854775807 s = true) : cTF G h0 n0 cn0 sn0 Q frc y d pc lsc stc g := by
  obtain ⟨b, a, r, vb, va, rc, rfl, rfl, tb, ta, hb, ha, hs, k⟩ := a_two h hγ.gs
  obtain ⟨x, rfl, hx, hxe⟩ := a_lngv ha ta
  obtain ⟨z, rfl, hz, hze⟩ := a_lngv hb tb
  rw [efrc_eq] at k
  refine cT_bl hG hc he hFf ?_
  have hcI := cL_of (F (i64 x) (i64 z))
  refine a_nr hF hrec hγ hd hs (aar_ok hγ.1 ⟨hcI.1, by have := hcI.2; omega⟩ (fun τ hτ b1 b2 => ?_) (avR_mk2 hcI) k)
  rw [eadd_ev, hxe τ hτ, hze τ hτ] at b1 b2 ⊢
  rw [hFs, i64_int]
  unfold cL
  omega
/-- a product: n is what the machine has, in its range -/
theorem a_mulv {tag : Nat} {lo hi : Int} {a b : av} {r : List av} {x z n : Int} {v0 : cv} (hC : aC ne ρ (coR h0 tyt GS env fx mem gh g)) (hxe : aC ne ρ (fun τ => ev τ a.2.2 = x)) (hze : aC ne ρ (fun τ => ev τ b.2.2 = z)) (hn : lo ≤ n ∧ n ≤ hi) (hnm : lo ≤ x * z → x * z ≤ hi → x * z = n) (hv : ∀ (τ : Nat → Int) (e : ae), ev τ e = n → avR tyt τ (tag, 0, e) v0)
    (k : efrc (enor env b.2.2) (fun eb => efrc (enor env a.2.2) (fun ea => match eb.2 with
      | [] => efrc (escl ea eb.1) (fun e => aar tag e lo hi env fx ne (fun v env ne => rec y dd nx ls (v :: r) fr mem env fx gh ne))
      | _ => match ea.2 with
        | [] => efrc (escl eb ea.1) (fun e => aar tag e lo hi env fx ne (fun v env ne => rec y dd nx ls (v :: r) fr mem env fx gh ne))
        | _ => match ebd env [] ea with
          | none => false
          | some ia => match ebd env [] eb with
            | none => false
            | some ib => cond (zle lo (zmul4 ia.1 ia.2 ib.1 ib.2).1 && zle (zmul4 ia.1 ia.2 ib.1 ib.2).2 hi)
                (aany tag (zmul4 ia.1 ia.2 ib.1 ib.2).1 (zmul4 ia.1 ia.2 ib.1 ib.2).2 env ne (fun v env ne => rec y dd nx ls (v :: r) fr mem env fx gh ne))
                (aany tag lo hi env ne (fun v env ne => rec y dd nx ls (v :: r) fr mem env fx gh ne)))) = true) :
    aRes h0 tyt GS env fx mem gh ne ρ g (fun v env ne => rec y dd nx ls (v :: r) fr mem env fx gh ne) v0 := by
  rw [efrc_eq, efrc_eq] at k
  have hxe' : aC ne ρ (fun τ => ev τ (enor env a.2.2) = x) := fun τ hτ => (enor_ok (hC τ hτ).1 _).trans (hxe τ hτ)
  have hze' : aC ne ρ (fun τ => ev τ (enor env b.2.2) = z) := fun τ hτ => (enor_ok (hC τ hτ).1 _).trans (hze τ hτ)
  generalize enor env b.2.2 = eb at k hze'
  generalize enor env a.2.2 = ea at k hxe'
  split at k
  · rename_i hn0
    rw [efrc_eq] at k
    have e1 : eb.1 = z := by have := hze'.self; have e2 : ev ρ eb = eb.1 := by unfold ev; rw [hn0]; show _ + 0 = _; omega
                             omega
    refine aar_ok hC hn (fun τ hτ b1 b2 => ?_) hv k
    rw [escl_ev, hxe' τ hτ, e1, Int.mul_comm] at b1 b2 ⊢
    exact hnm b1 b2
  · split at k
    · rename_i hn0
      rw [efrc_eq] at k
      have e1 : ea.1 = x := by have := hxe'.self; have e2 : ev ρ ea = ea.1 := by unfold ev; rw [hn0]; show _ + 0 = _; omega
                               omega
      refine aar_ok hC hn (fun τ hτ b1 b2 => ?_) hv k
      rw [escl_ev, hze' τ hτ, e1] at b1 b2 ⊢
      exact hnm b1 b2
    · cases h1 : ebd env [] ea with
      | none => rw [h1] at k; cases k
      | some ia =>
        rw [h1] at k
        dsimp only at k
        cases h2 : ebd env [] eb with
        | none => rw [h2] at k; cases k
        | some ib =>
          rw [h2] at k
          dsimp only at k
          cases h3 : (zle lo (zmul4 ia.1 ia.2 ib.1 ib.2).1 && zle (zmul4 ia.1 ia.2 ib.1 ib.2).2 hi) with
          | false => rw [h3] at k; exact aany_ok hC hn hv k
          | true =>
            rw [h3] at k
            obtain ⟨h4, h5⟩ := xand h3
            have h4 := zle_iff.mp h4
            have h5 := zle_iff.mp h5
            have f0 : fxR [] ρ := fun _ z => absurd z List.not_mem_nil
            have i1 := ebd_ok hC.self.1 f0 h1
            have i2 := ebd_ok hC.self.1 f0 h2
            rw [hxe'.self] at i1
            rw [hze'.self] at i2
            have i3 := zmul4_ok i1.1 i1.2 i2.1 i2.2
            have e := hnm (by omega) (by omega)
            rw [e] at i3
            exact aany_ok hC i3 hv k
theorem a_mulI_ok (hG : cW sv cd mi df el eb G) (hF : aFXm FX) (hrec : aSnd G h0 n0 cn0 sn0 Q tyt typs GS FX rec) (hγ : aGm h0 tyt typs GS FX ρ ls st fr mem env fx gh ne g lsc stc frc) (hd : dd ≤ d) (hc : cC cd y pc (.imul, nx, tg, r1, r2)) (h : a_mul rec nx y dd ls st fr mem env fx gh ne 0 (-2147483648) 2147483647 = true) : cTF G h0 n0 cn0 sn0 Q frc y d pc lsc stc g := by
  obtain ⟨b, a, r, vb, va, rc, rfl, rfl, tb, ta, hb, ha, hs, k⟩ := a_two h hγ.gs
  obtain ⟨x, rfl, hx, hxe⟩ := a_int ha ta
  obtain ⟨z, rfl, hz, hze⟩ := a_int hb tb
  refine cT_bi (F := fun x z => x * z) hG hc (fun _ _ _ _ => rfl) (fun a b => by rw [x32, pk_mul]) ?_
  have hcI := cI_of (i32 x * i32 z)
  refine a_nr hF hrec hγ hd hs (a_mulv hγ.1 hxe hze ⟨hcI.1, by have := hcI.2; omega⟩ (fun b1 b2 => ?_) (avR_mk0 hcI) k)
  rw [i32_mul, i32_int]
  unfold cI
  omega
theorem a_mulL_ok (hG : cW sv cd mi df el eb G) (hF : aFXm FX) (hrec : aSnd G h0 n0 cn0 sn0 Q tyt typs GS FX rec) (hγ : aGm h0 tyt typs GS FX ρ ls st fr mem env fx gh ne g lsc stc frc) (hd : dd ≤ d) (hc : cC cd y pc (.lmul, nx, tg, r1, r2)) (h : a_mul rec nx y dd ls st fr mem env fx gh ne 2 (-9223372036854775808) 9223372036854775807 = true) : cTF G h0 n0 cn0 sn0 Q frc y d pc lsc stc g := by
  obtain ⟨b, a, r, vb, va, rc, rfl, rfl, tb, ta, hb, ha, hs, k⟩ := a_two h hγ.gs
  obtain ⟨x, rfl, hx, hxe⟩ := a_lngv ha ta
  obtain ⟨z, rfl, hz, hze⟩ := a_lngv hb tb
  refine cT_bl (F := fun x z => x * z) hG hc (fun _ _ _ _ => rfl) (fun a b => lN_xnl _) ?_
  have hcI := cL_of (i64 x * i64 z)
  refine a_nr hF hrec hγ hd hs (a_mulv hγ.1 hxe hze ⟨hcI.1, by have := hcI.2; omega⟩ (fun b1 b2 => ?_) (avR_mk2 hcI) k)
  rw [i64_mul, i64_int]
  unfold cL
  omega
/-- a quotient -/
theorem a_divv {tag : Nat} {lo hi : Int} {a b : av} {r : List av} {x z n : Int} {v0 : cv} (hC : aC ne ρ (coR h0 tyt GS env fx mem gh g)) (hxe : aC ne ρ (fun τ => ev τ a.2.2 = x)) (hze : aC ne ρ (fun τ => ev τ b.2.2 = z)) (hn : lo ≤ n ∧ n ≤ hi) (hx : x ≤ hi) (hnm : 0 ≤ x → 0 < z → x.tdiv z = n) (hv : ∀ (τ : Nat → Int) (e : ae), ev τ e = n → avR tyt τ (tag, 0, e) v0)
    (k : (match ebd env fx a.2.2 with
      | none => false
      | some ia => match ebd env fx b.2.2 with
        | none => false
        | some ib => cond (zlt 0 ib.1 || zlt ib.2 0)
            (cond (zle 0 ia.1 && zlt 0 ib.1) (aany tag (Int.ediv ia.1 ib.2) (Int.ediv ia.2 ib.1) env ne (fun v env ne => rec y dd nx ls (v :: r) fr mem env fx gh ne))
              (aany tag lo hi env ne (fun v env ne => rec y dd nx ls (v :: r) fr mem env fx gh ne))) false) = true) :
    z ≠ 0 ∧ aRes h0 tyt GS env fx mem gh ne ρ g (fun v env ne => rec y dd nx ls (v :: r) fr mem env fx gh ne) v0 := by
  cases h1 : ebd env fx a.2.2 with
  | none => rw [h1] at k; cases k
  | some ia =>
    rw [h1] at k
    dsimp only at k
    cases h2 : ebd env fx b.2.2 with
    | none => rw [h2] at k; cases k
    | some ib =>
      rw [h2] at k
      dsimp only at k
      obtain ⟨k0, k⟩ := xcnb k
      have i1 := ebd_ok hC.self.1 hC.self.2.1 h1
      have i2 := ebd_ok hC.self.1 hC.self.2.1 h2
      rw [hxe.self] at i1
      rw [hze.self] at i2
      have hz0 : z ≠ 0 := by
        rcases xor2 k0 with q | q
        · have := zlt_iff.mp q; omega
        · have := zlt_iff.mp q; omega
      refine ⟨hz0, ?_⟩
      cases h3 : (zle 0 ia.1 && zlt 0 ib.1) with
      | false => rw [h3] at k; exact aany_ok hC hn hv k
      | true =>
        rw [h3] at k
        obtain ⟨h4, h5⟩ := xand h3
        have h4 := zle_iff.mp h4
        have h5 := zlt_iff.mp h5
        have e := hnm (by omega) (by omega)
        have i3 := tdiv_in i1.1 i1.2 i2.1 i2.2 h4 h5
        rw [e] at i3
        exact aany_ok hC i3 hv k
theorem a_divI_ok (hG : cW sv cd mi df el eb G) (hF : aFXm FX) (hrec : aSnd G h0 n0 cn0 sn0 Q tyt typs GS FX rec) (hγ : aGm h0 tyt typs GS FX ρ ls st fr mem env fx gh ne g lsc stc frc) (hd : dd ≤ d) (hc : cC cd y pc (.idiv, nx, tg, r1, r2)) (h : a_div rec nx y dd ls st fr mem env fx gh ne 0 (-2147483648) 2147483647 = true) : cTF G h0 n0 cn0 sn0 Q frc y d pc lsc stc g := by
  obtain ⟨b, a, r, vb, va, rc, rfl, rfl, tb, ta, hb, ha, hs, k⟩ := a_two h hγ.gs
  obtain ⟨x, rfl, hx, hxe⟩ := a_int ha ta
  obtain ⟨z, rfl, hz, hze⟩ := a_int hb tb
  have hcI := cI_of (i32 x / i32 z)
  obtain ⟨z0, hres⟩ := a_divv (v0 := (0, (i32 x / i32 z).toInt)) hγ.1 hxe hze ⟨hcI.1, by have := hcI.2; omega⟩ (by have := hx.2; omega) (fun b1 b2 => by
    rw [i32_div hx hz, i32_int]
    rw [Int.tdiv_eq_ediv_of_nonneg b1]
    have e1 : 0 ≤ x / z := Int.ediv_nonneg b1 (by omega)
    have e2 : x / z ≤ x := Int.ediv_le_self z b1
    unfold cI at *
    omega) (avR_mk0 hcI) k
  exact cT_dv (F := fun x z => x / z) hG hc (fun _ _ _ _ => rfl) (fun a b => nI_xnu _) hz z0 (a_nr hF hrec hγ hd hs hres)
theorem a_divL_ok (hG : cW sv cd mi df el eb G) (hF : aFXm FX) (hrec : aSnd G h0 n0 cn0 sn0 Q tyt typs GS FX rec) (hγ : aGm h0 tyt typs GS FX ρ ls st fr mem env fx gh ne g lsc stc frc) (hd : dd ≤ d) (hc : cC cd y pc (.ldiv, nx, tg, r1, r2)) (h : a_div rec nx y dd ls st fr mem env fx gh ne 2 (-9223372036854775808) 9223372036854775807 = true) : cTF G h0 n0 cn0 sn0 Q frc y d pc lsc stc g := by
  obtain ⟨b, a, r, vb, va, rc, rfl, rfl, tb, ta, hb, ha, hs, k⟩ := a_two h hγ.gs
  obtain ⟨x, rfl, hx, hxe⟩ := a_lngv ha ta
  obtain ⟨z, rfl, hz, hze⟩ := a_lngv hb tb
  have hcI := cL_of (i64 x / i64 z)
  obtain ⟨z0, hres⟩ := a_divv (v0 := (2, (i64 x / i64 z).toInt)) hγ.1 hxe hze ⟨hcI.1, by have := hcI.2; omega⟩ (by have := hx.2; omega) (fun b1 b2 => by
    rw [i64_div hx hz, i64_int]
    rw [Int.tdiv_eq_ediv_of_nonneg b1]
    have e1 : 0 ≤ x / z := Int.ediv_nonneg b1 (by omega)
    have e2 : x / z ≤ x := Int.ediv_le_self z b1
    unfold cL at *
    omega) (avR_mk2 hcI) k
  exact cT_dl (F := fun x z => x / z) hG hc (fun _ _ _ _ => rfl) (fun a b => lN_xnl _) hz z0 (a_nr hF hrec hγ hd hs hres)
end Snd2
end
section
/-! The step is right: rests, bits, stack, branches -/
section Snd3
variable {sv : Nat → Int32} {cd : xcd} {mi : xmi} {df : xdf} {el : Nat → Nat} {eb : Nat → List Nat} {G : xG} {h0 : xheap} {n0 : Nat} {cn0 sn0 : Nat → Nat} {Q : cg → Option cv → Prop}
variable {tyt : Lean.RArray (Nat × Nat)} {typs : Lean.RArray (Nat × aty)} {GS : gho → (Nat → Int) → cg → Prop} {FX : (Nat → Int) → Nat → cg → Prop}
variable {rec : aF} {y d dd pc nx tg r1 r2 : Nat} {ins : Instr} {ls : List (Nat × av)} {st : List av} {fr : List afr} {mem : List am} {env : aenv} {fx : List ae} {gh : List gho} {ne : Nat} {ρ : Nat → Int} {g : cg} {lsc : List (Nat × cv)} {stc : List cv} {frc : List cfr}
theorem aany_ok2 {tag : Nat} {lo hi : Int} {env : aenv} {fx : List ae} {mem : List am} {gh : List gho} {ne : Nat} {ρ : Nat → Int} {g : cg} {k : av → aenv → Nat → Bool} {v0 : cv} {z : Int} (hC : aC ne ρ (coR h0 tyt GS env fx mem gh g)) (hz : lo ≤ z ∧ z ≤ hi) (hv : ∀ (τ : Nat → Int) (x : ae), ev τ x = z → avR tyt τ (tag, 0, x) v0)
    (h : aany tag lo hi env ne k = true) : ∃ v env' ne' ρ', k v env' ne' = true ∧ ne ≤ ne' ∧ aag ne ρ ρ' ∧ aC ne' ρ' (coR h0 tyt GS env' fx mem gh g) ∧ aC ne' ρ' (fun τ => avR tyt τ v v0) ∧ aC ne' ρ' (fun τ => ev τ v.2.2 = z) := by
  unfold aany at h
  cases hf : zeq lo hi with
  | true =>
    rw [hf] at h
    simp only [cond_true] at h
    rw [zfrc_eq] at h
    have e := zeq_iff.mp hf
    have e2 : ∀ τ : Nat → Int, ev τ ((lo, []) : ae) = z := fun τ => by rw [show ev τ ((lo, []) : ae) = lo from ecst_ev τ lo]; omega
    exact ⟨_, env, ne, ρ, h, Nat.le_refl _, aag.rf ne ρ, hC, fun τ hτ => hv τ _ (e2 τ), fun τ hτ => e2 τ⟩
  | false =>
    rw [hf] at h
    simp only [cond_false] at h
    rw [zfrc_eq, zfrc_eq, afrs_eq] at h
    refine ⟨_, _, _, aup ρ ne z, h, by omega, aup_ag ρ ne z, fun τ hτ => ?_, fun τ hτ => hv τ _ (afrs_ev τ hτ), fun τ hτ => afrs_ev τ hτ⟩
    exact coR_env (hC τ (aag.tr (by omega) (aup_ag ρ ne z) hτ)) (afrs_ok (hC.imp (fun _ x => x.1)) hz.1 hz.2 τ hτ) (hC τ (aag.tr (by omega) (aup_ag ρ ne z) hτ)).2.1
theorem a_remz {a b : av} {z : Int} (hC : aC ne ρ (coR h0 tyt GS env fx mem gh g)) (hze : aC ne ρ (fun τ => ev τ b.2.2 = z)) {K : Int × Int → Int × Int → Bool}
    (k : (match ebd env fx a.2.2 with
      | none => false
      | some ia => match ebd env fx b.2.2 with
        | none => false
        | some ib => cond (zlt 0 ib.1 || zlt ib.2 0) (K ia ib) false) = true) : z ≠ 0 := by
  cases h1 : ebd env fx a.2.2 with
  | none => rw [h1] at k; cases k
  | some ia =>
    rw [h1] at k
    dsimp only at k
    cases h2 : ebd env fx b.2.2 with
    | none => rw [h2] at k; cases k
    | some ib =>
      rw [h2] at k
      obtain ⟨k0, k⟩ := xcnb k
      have i2 := ebd_ok hC.self.1 hC.self.2.1 h2
      rw [hze.self] at i2
      rcases xor2 k0 with q | q
      · have := zlt_iff.mp q; omega
      · have := zlt_iff.mp q; omega
/-- a rest, with what is known of it -/
theorem a_remv (hF : aFXm FX) (hrec : aSnd G h0 n0 cn0 sn0 Q tyt typs GS FX rec) (hγ : aGm h0 tyt typs GS FX ρ ls st fr mem env fx gh ne g lsc stc frc) (hd : dd ≤ d) {tag : Nat} {fa : Bool} {a b : av} {r : List av} {rc : List cv} {x z : Int} {v0 : cv} (hs : aC ne ρ (fun τ => stR tyt τ r rc)) (hxe : aC ne ρ (fun τ => ev τ a.2.2 = x)) (hze : aC ne ρ (fun τ => ev τ b.2.2 = z)) (hz0 : z ≠ 0) (hv : ∀ (τ : Nat → Int) (e : ae), ev τ e = x.tmod z → avR tyt τ (tag, 0, e) v0)
    (k : (match ebd env fx a.2.2 with
      | none => false
      | some ia => match ebd env fx b.2.2 with
        | none => false
        | some ib => cond (zlt 0 ib.1 || zlt ib.2 0)
            (zfrc (Int.add (cond (zlt 0 ib.1) ib.2 (Int.neg ib.1)) (-1)) (fun m => aany tag (cond (zle 0 ia.1) 0 (zmx (Int.neg m) ia.1)) (cond (zle ia.2 0) 0 (zmn m ia.2)) env ne (fun v env ne =>
              cond fa (efrc (eadc (eadd v.2.2 b.2.2 (cond (zlt 0 ib.1) (-1) 1)) 1) (fun f1 => efrc (eadc (eadd (escl v.2.2 (-1)) b.2.2 (cond (zlt 0 ib.1) (-1) 1)) 1) (fun f2 => rec y dd nx ls (v :: r) fr mem env (f1 :: f2 :: fx) gh ne)))
                (rec y dd nx ls (v :: r) fr mem env fx gh ne)))) false) = true) :
    cTF G h0 n0 cn0 sn0 Q frc y d nx lsc (v0 :: rc) g := by
  have hC := hγ.1
  cases h1 : ebd env fx a.2.2 with
  | none => rw [h1] at k; cases k
  | some ia =>
    rw [h1] at k
    dsimp only at k
    cases h2 : ebd env fx b.2.2 with
    | none => rw [h2] at k; cases k
    | some ib =>
      rw [h2] at k
      dsimp only at k
      obtain ⟨k0, k⟩ := xcnb k
      rw [zfrc_eq] at k
      have i1 := ebd_ok hC.self.1 hC.self.2.1 h1
      have i2 := ebd_ok hC.self.1 hC.self.2.1 h2
      rw [hxe.self] at i1
      rw [hze.self] at i2
      obtain ⟨t1, t2, t3, t4⟩ := tmod_in x hz0
      have hm : ∀ m, m = Int.add (cond (zlt 0 ib.1) ib.2 (Int.neg ib.1)) (-1) → -m ≤ x.tmod z ∧ x.tmod z ≤ m := by
        intro m em
        cases hb : zlt 0 ib.1 with
        | true =>
          have hb := zlt_iff.mp hb
          rw [zlt_iff.mpr hb] at em
          have em : m = ib.2 + -1 := em
          have := t3 (by omega)
          omega
        | false =>
          rw [hb] at em k0
          have hb2 := zlt_iff.mp (show zlt ib.2 0 = true from k0)
          have em : m = -ib.1 + -1 := em
          have := t4 (by omega)
          omega
      have hlo : (cond (zle 0 ia.1) 0 (zmx (Int.neg (Int.add (cond (zlt 0 ib.1) ib.2 (Int.neg ib.1)) (-1))) ia.1)) ≤ x.tmod z := by
        cases hq : zle 0 ia.1 with
        | true => have := zle_iff.mp hq; exact (t1 (by omega)).1
        | false =>
          refine zmx_of ?_ ?_
          · exact (hm _ rfl).1
          · by_cases hx : 0 ≤ x
            · have := zle_f hq; have := t1 hx; omega
            · have := t2 (by omega); omega
      have hhi : x.tmod z ≤ (cond (zle ia.2 0) 0 (zmn (Int.add (cond (zlt 0 ib.1) ib.2 (Int.neg ib.1)) (-1)) ia.2)) := by
        cases hq : zle ia.2 0 with
        | true => have := zle_iff.mp hq; exact (t2 (by omega)).2
        | false =>
          refine zmn_of ?_ ?_
          · exact (hm _ rfl).2
          · by_cases hx : 0 ≤ x
            · have := t1 hx; omega
            · have := zle_f hq; have := t2 (by omega); omega
      obtain ⟨v, env', ne', ρ', q1, q2, q3, q4, q5, q6⟩ := aany_ok2 hC ⟨hlo, hhi⟩ hv k
      cases fa with
      | false => exact a_nx hF hrec hγ.2.2.1 hγ.2.2.2 hd q1 q2 q3 q4 (hγ.gl.mono q2 q3) (fun τ hτ => ⟨q5 τ hτ, hs.mono q2 q3 τ hτ⟩) (hγ.2.1.imp (fun _ x => x.2.2))
      | true =>
        simp only [cond_true] at q1
        rw [efrc_eq, efrc_eq] at q1
        refine a_nx hF hrec hγ.2.2.1 hγ.2.2.2 hd q1 q2 q3 (fun τ hτ => ?_) (hγ.gl.mono q2 q3) (fun τ hτ => ⟨q5 τ hτ, hs.mono q2 q3 τ hτ⟩) (hγ.2.1.imp (fun _ x => x.2.2))
        have hq := q4 τ hτ
        have e1 := q6 τ hτ
        have e2 := hze.mono q2 q3 τ hτ
        refine ⟨hq.1, fun f hf => ?_, hq.2.2.1, hq.2.2.2⟩
        have hbd : x.tmod z + (cond (zlt 0 ib.1) (-1) 1) * z + 1 ≤ 0 ∧ -(x.tmod z) + (cond (zlt 0 ib.1) (-1) 1) * z + 1 ≤ 0 := by
          cases hb : zlt 0 ib.1 with
          | true =>
            have hb := zlt_iff.mp hb
            have := t3 (by omega)
            show x.tmod z + (-1) * z + 1 ≤ 0 ∧ -(x.tmod z) + (-1) * z + 1 ≤ 0
            omega
          | false =>
            rw [hb] at k0
            have hb2 := zlt_iff.mp (show zlt ib.2 0 = true from k0)
            have := t4 (by omega)
            show x.tmod z + 1 * z + 1 ≤ 0 ∧ -(x.tmod z) + 1 * z + 1 ≤ 0
            omega
        rcases List.mem_cons.mp hf with e | hf
        · rw [e, eadc_ev, eadd_ev, e1, e2]
          exact hbd.1
        · rcases List.mem_cons.mp hf with e | hf
          · rw [e, eadc_ev, eadd_ev, escl_ev, e1, e2]
            have := hbd.2
            omega
          · exact hq.2.1 f hf
theorem a_remI_ok (hG : cW sv cd mi df el eb G) (hF : aFXm FX) (hrec : aSnd G h0 n0 cn0 sn0 Q tyt typs GS FX rec) (hγ : aGm h0 tyt typs GS FX ρ ls st fr mem env fx gh ne g lsc stc frc) (hd : dd ≤ d) {fa : Bool} (hc : cC cd y pc (.irem, nx, tg, r1, r2)) (h : a_rem rec nx y dd ls st fr mem env fx gh ne 0 fa = true) : cTF G h0 n0 cn0 sn0 Q frc y d pc lsc stc g := by
  obtain ⟨b, a, r, vb, va, rc, rfl, rfl, tb, ta, hb, ha, hs, k⟩ := a_two h hγ.gs
  obtain ⟨x, rfl, hx, hxe⟩ := a_int ha ta
  obtain ⟨z, rfl, hz, hze⟩ := a_int hb tb
  have z0 := a_remz hγ.1 hze k
  have hin : cI (x.tmod z) := by rw [← i32_rem hx hz z0]; exact cI_of _
  refine cT_dv (F := fun x z => x - x / z * z) hG hc (fun _ _ _ _ => rfl) (fun a b => nI_xnu _) hz z0 ?_
  rw [i32_rem hx hz z0]
  exact a_remv hF hrec hγ hd hs hxe hze z0 (avR_mk0 hin) k
theorem a_remL_ok (hG : cW sv cd mi df el eb G) (hF : aFXm FX) (hrec : aSnd G h0 n0 cn0 sn0 Q tyt typs GS FX rec) (hγ : aGm h0 tyt typs GS FX ρ ls st fr mem env fx gh ne g lsc stc frc) (hd : dd ≤ d) {fa : Bool} (hc : cC cd y pc (.lrem, nx, tg, r1, r2)) (h : a_rem rec nx y dd ls st fr mem env fx gh ne 2 fa = true) : cTF G h0 n0 cn0 sn0 Q frc y d pc lsc stc g := by
  obtain ⟨b, a, r, vb, va, rc, rfl, rfl, tb, ta, hb, ha, hs, k⟩ := a_two h hγ.gs
  obtain ⟨x, rfl, hx, hxe⟩ := a_lngv ha ta
  obtain ⟨z, rfl, hz, hze⟩ := a_lngv hb tb
  have z0 := a_remz hγ.1 hze k
  have hin : cL (x.tmod z) := by rw [← i64_rem hx hz z0]; exact cL_of _
  refine cT_dl (F := fun x z => x - x / z * z) hG hc (fun _ _ _ _ => rfl) (fun a b => lN_xnl _) hz z0 ?_
  rw [i64_rem hx hz z0]
  exact a_remv hF hrec hγ hd hs hxe hze z0 (avR_mk2 hin) k
/-- bits -/
theorem a_bit_ok (hG : cW sv cd mi df el eb G) (hF : aFXm FX) (hrec : aSnd G h0 n0 cn0 sn0 Q tyt typs GS FX rec) (hc : cC cd y pc (ins, nx, tg, r1, r2)) (hγ : aGm h0 tyt typs GS FX ρ ls st fr mem env fx gh ne g lsc stc frc) (hd : dd ≤ d) {f : Nat → Nat → Nat} {F : Int32 → Int32 → Int32} {bd : Int × Int → Int × Int → Int × Int} {fa : Bool} (he : ∀ (rec : xF) (lx : List (Nat × xv)) (sx : List xv) (h : xheap), xex mi df el eb rec ins nx tg r1 r2 y d pc lx sx [] h n0 (cn0 y) (sn0 y) = x_bi rec nx y d lx sx [] h n0 (cn0 y) (sn0 y) f) (hFf : ∀ a b, nI (f a b) = F (nI a) (nI b)) (hbd : ∀ (x z : Int) (ia ib : Int × Int), cI x → cI z → ia.1 ≤ x → x ≤ ia.2 → ib.1 ≤ z → z ≤ ib.2 → (bd ia ib).1 ≤ (F (i32 x) (i32 z)).toInt ∧ (F (i32 x) (i32 z)).toInt ≤ (bd ia ib).2) (hfa : fa = true → ∀ x z : Int, cI x → cI z → 0 ≤ z → (F (i32 x) (i32 z)).toInt ≤ z)
    (h : a_bit rec nx y dd ls st fr mem env fx gh ne F bd fa = true) : cTF G h0 n0 cn0 sn0 Q frc y d pc lsc stc g := by
  obtain ⟨b, a, r, vb, va, rc, rfl, rfl, tb, ta, hb, ha, hs, k⟩ := a_two h hγ.gs
  obtain ⟨x, rfl, hx, hxe⟩ := a_int ha ta
  obtain ⟨z, rfl, hz, hze⟩ := a_int hb tb
  have hcI := cI_of (F (i32 x) (i32 z))
  refine cT_bi hG hc he hFf ?_
  split at k
  · rename_i na nb
    rw [zfrc_eq] at k
    have e1 : a.2.2.1 = x := by
      have := hxe.self
      have e2 : ev ρ a.2.2 = a.2.2.1 := by unfold ev; rw [na]; show _ + 0 = _; omega
      omega
    have e2 : b.2.2.1 = z := by
      have := hze.self
      have e2 : ev ρ b.2.2 = b.2.2.1 := by unfold ev; rw [nb]; show _ + 0 = _; omega
      omega
    rw [e1, e2] at k
    exact a_n0 hF hrec hγ hd k hγ.gl (fun τ hτ => ⟨avR_mk0 hcI τ _ (evc τ _), hs τ hτ⟩)
  · have hC := hγ.1
    cases h1 : ebd env fx a.2.2 with
    | none => rw [h1] at k; cases k
    | some ia =>
      rw [h1] at k
      dsimp only at k
      cases h2 : ebd env fx b.2.2 with
      | none => rw [h2] at k; cases k
      | some ib =>
        rw [h2] at k
        dsimp only at k
        rw [zfrc_eq, zfrc_eq] at k
        have i1 := ebd_ok hC.self.1 hC.self.2.1 h1
        have i2 := ebd_ok hC.self.1 hC.self.2.1 h2
        rw [hxe.self] at i1
        rw [hze.self] at i2
        obtain ⟨v, env', ne', ρ', q1, q2, q3, q4, q5, q6⟩ := aany_ok2 hC (hbd x z ia ib hx hz i1.1 i1.2 i2.1 i2.2) (avR_mk0 hcI) k
        cases hb : (fa && zle 0 ib.1) with
        | false =>
          rw [hb] at q1
          exact a_nx hF hrec hγ.2.2.1 hγ.2.2.2 hd q1 q2 q3 q4 (hγ.gl.mono q2 q3) (fun τ hτ => ⟨q5 τ hτ, hs.mono q2 q3 τ hτ⟩) (hγ.2.1.imp (fun _ x => x.2.2))
        | true =>
          rw [hb] at q1
          simp only [cond_true] at q1
          rw [efrc_eq] at q1
          obtain ⟨b1, b2⟩ := xand hb
          have b2 := zle_iff.mp b2
          refine a_nx hF hrec hγ.2.2.1 hγ.2.2.2 hd q1 q2 q3 (fun τ hτ => ?_) (hγ.gl.mono q2 q3) (fun τ hτ => ⟨q5 τ hτ, hs.mono q2 q3 τ hτ⟩) (hγ.2.1.imp (fun _ x => x.2.2))
          have hq := q4 τ hτ
          refine ⟨hq.1, fun f hf => ?_, hq.2.2.1, hq.2.2.2⟩
          rcases List.mem_cons.mp hf with e | hf
          · rw [e, eadd_ev, q6 τ hτ, hze.mono q2 q3 τ hτ]
            have := hfa b1 x z hx hz (by omega)
            omega
          · exact hq.2.1 f hf
theorem bdand_ok (x z : Int) (ia ib : Int × Int) (hx : cI x) (hz : cI z) (a1 : ia.1 ≤ x) (a2 : x ≤ ia.2) (b1 : ib.1 ≤ z) (b2 : z ≤ ib.2) : (bdand ia ib).1 ≤ (i32 x &&& i32 z).toInt ∧ (i32 x &&& i32 z).toInt ≤ (bdand ia ib).2 := by
  have full := cI_of (i32 x &&& i32 z)
  unfold bdand
  cases h1 : zle 0 ib.1 with
  | true =>
    have h1 := zle_iff.mp h1
    have r := iand_r (i32 x) hz (by omega)
    cases h2 : zle 0 ia.1 with
    | true =>
      have h2 := zle_iff.mp h2
      have l := iand_l (i32 z) hx (by omega)
      exact ⟨r.1, zmn_of (by omega) (by omega)⟩
    | false => exact ⟨r.1, by show _ ≤ ib.2; omega⟩
  | false =>
    cases h2 : zle 0 ia.1 with
    | true =>
      have h2 := zle_iff.mp h2
      have l := iand_l (i32 z) hx (by omega)
      exact ⟨l.1, by show _ ≤ ia.2; omega⟩
    | false =>
      refine ⟨full.1, ?_⟩
      have := full.2
      show _ ≤ (2147483647 : Int)
      omega
theorem bdor_ok (x z : Int) (ia ib : Int × Int) (hx : cI x) (hz : cI z) (a1 : ia.1 ≤ x) (a2 : x ≤ ia.2) (b1 : ib.1 ≤ z) (b2 : z ≤ ib.2) : (bdor ia ib).1 ≤ (i32 x ||| i32 z).toInt ∧ (i32 x ||| i32 z).toInt ≤ (bdor ia ib).2 := by
  have full := cI_of (i32 x ||| i32 z)
  unfold bdor
  cases h : (zle 0 ia.1 && zle 0 ib.1) with
  | false =>
    refine ⟨full.1, ?_⟩
    have := full.2
    show _ ≤ (2147483647 : Int)
    omega
  | true =>
    obtain ⟨h1, h2⟩ := xand h
    have h1 := zle_iff.mp h1
    have h2 := zle_iff.mp h2
    have m1 := zmx_l ia.2 ib.2
    have m2 := zmx_r ia.2 ib.2
    have hlt : (zmx ia.2 ib.2).toNat < 2 ^ (Nat.log2 (zmx ia.2 ib.2).toNat + 1) := Nat.lt_log2_self
    by_cases hk : Nat.log2 (zmx ia.2 ib.2).toNat + 1 ≤ 31
    · have key := ior_in hx hz (by omega) (by omega) (k := Nat.log2 (zmx ia.2 ib.2).toNat + 1) (by omega) (by omega) hk
      refine ⟨key.1, ?_⟩
      show _ ≤ ((2 ^ (Nat.log2 (zmx ia.2 ib.2).toNat + 1) - 1 : Nat) : Int)
      have e : ((2 ^ (Nat.log2 (zmx ia.2 ib.2).toNat + 1) : Nat) : Int) = (2 ^ (Nat.log2 (zmx ia.2 ib.2).toNat + 1) : Int) := by rw [Int.natCast_pow]; rfl
      have k2 := key.2
      rw [← e] at k2
      omega
    · have key := ior_in hx hz (by omega) (by omega) (k := 31) (by have := hx.2; omega) (by have := hz.2; omega) (Nat.le_refl _)
      refine ⟨key.1, ?_⟩
      show _ ≤ ((2 ^ (Nat.log2 (zmx ia.2 ib.2).toNat + 1) - 1 : Nat) : Int)
      have e : 2 ^ 31 ≤ 2 ^ (Nat.log2 (zmx ia.2 ib.2).toNat + 1) := Nat.pow_le_pow_right (by decide) (by omega)
      have := full.2
      omega
theorem bdshl_ok (x z : Int) (ia ib : Int × Int) (hx : cI x) (hz : cI z) (a1 : ia.1 ≤ x) (a2 : x ≤ ia.2) (b1 : ib.1 ≤ z) (b2 : z ≤ ib.2) : (bdshl ia ib).1 ≤ (i32 x <<< (i32 z &&& 31)).toInt ∧ (i32 x <<< (i32 z &&& 31)).toInt ≤ (bdshl ia ib).2 := by
  have full := cI_of (i32 x <<< (i32 z &&& 31))
  unfold bdshl
  cases h : (zle 0 ia.1 && (zle 0 ib.1 && (zle ib.2 30 && zle (Int.mul ia.2 ((2 ^ ib.2.toNat : Nat) : Int)) 2147483647))) with
  | false =>
    refine ⟨full.1, ?_⟩
    have := full.2
    show _ ≤ (2147483647 : Int)
    omega
  | true =>
    obtain ⟨h1, h⟩ := xand h
    obtain ⟨h2, h⟩ := xand h
    obtain ⟨h3, h4⟩ := xand h
    have h1 := zle_iff.mp h1
    have h2 := zle_iff.mp h2
    have h3 := zle_iff.mp h3
    have h4 : ia.2 * ((2 ^ ib.2.toNat : Nat) : Int) ≤ 2147483647 := zle_iff.mp h4
    have p1 : 2 ^ ib.1.toNat ≤ 2 ^ z.toNat := Nat.pow_le_pow_right (by decide) (by omega)
    have p2 : 2 ^ z.toNat ≤ 2 ^ ib.2.toNat := Nat.pow_le_pow_right (by decide) (by omega)
    have e : ((2 ^ z.toNat : Nat) : Int) = (2 ^ z.toNat : Int) := by rw [Int.natCast_pow]; rfl
    have q1 : x * ((2 ^ z.toNat : Nat) : Int) ≤ ia.2 * ((2 ^ ib.2.toNat : Nat) : Int) := Int.mul_le_mul a2 (Int.ofNat_le.mpr p2) (Int.natCast_nonneg _) (by omega)
    have q2 : ia.1 * ((2 ^ ib.1.toNat : Nat) : Int) ≤ x * ((2 ^ z.toNat : Nat) : Int) := Int.mul_le_mul a1 (Int.ofNat_le.mpr p1) (Int.natCast_nonneg _) (by omega)
    have key := ishl_in (x := x) (s := z) (by omega) (by omega) (by omega) (by rw [← e]; omega)
    rw [key, ← e]
    exact ⟨q2, q1⟩
theorem bdshr_ok (x z : Int) (ia ib : Int × Int) (hx : cI x) (_ : cI z) (a1 : ia.1 ≤ x) (a2 : x ≤ ia.2) (_ : ib.1 ≤ z) (_ : z ≤ ib.2) : (bdshr ia ib).1 ≤ (i32 x >>> (i32 z &&& 31)).toInt ∧ (i32 x >>> (i32 z &&& 31)).toInt ≤ (bdshr ia ib).2 := by
  obtain ⟨k1, k2, k3⟩ := ishr_in (i32 x) (i32 z &&& 31)
  rw [i32_int hx] at k1 k2 k3
  unfold bdshr
  cases h : zle 0 ia.1 with
  | true =>
    have h := zle_iff.mp h
    have := k1 (by omega)
    refine ⟨this.1, ?_⟩
    show _ ≤ ia.2
    omega
  | false =>
    have h := zle_f h
    have m1 := zmx_l ia.2 (-1)
    have m2 := zmx_r ia.2 (-1)
    show ia.1 ≤ _ ∧ _ ≤ zmx ia.2 (-1)
    by_cases h0 : 0 ≤ x
    · have := k1 h0; omega
    · have := k2 (by omega); have := k3 (by omega); omega
theorem bdful_ok (X : Int32) (ia ib : Int × Int) : (bdful ia ib).1 ≤ X.toInt ∧ X.toInt ≤ (bdful ia ib).2 := by
  have full := cI_of X
  refine ⟨full.1, ?_⟩
  have := full.2
  show _ ≤ (2147483647 : Int)
  omega
end Snd3
end
section
/-! The step is right: longs, stack, branches, switches -/
section Snd4
variable {sv : Nat → Int32} {cd : xcd} {mi : xmi} {df : xdf} {el : Nat → Nat} {eb : Nat → List Nat} {G : xG} {h0 : xheap} {n0 : Nat} {cn0 sn0 : Nat → Nat} {Q : cg → Option cv → Prop}
variable {tyt : Lean.RArray (Nat × Nat)} {typs : Lean.RArray (Nat × aty)} {GS : gho → (Nat → Int) → cg → Prop} {FX : (Nat → Int) → Nat → cg → Prop}
variable {rec : aF} {y d dd pc nx tg r1 r2 : Nat} {ins : Instr} {ls : List (Nat × av)} {st : List av} {fr : List afr} {mem : List am} {env : aenv} {fx : List ae} {gh : List gho} {ne : Nat} {ρ : Nat → Int} {g : cg} {lsc : List (Nat × cv)} {stc : List cv} {frc : List cfr}
/-- a long of which nothing is known -/
theorem a_lngn (hF : aFXm FX) (hrec : aSnd G h0 n0 cn0 sn0 Q tyt typs GS FX rec) (hγ : aGm h0 tyt typs GS FX ρ ls st fr mem env fx gh ne g lsc stc frc) (hd : dd ≤ d) {r : List av} {rc : List cv} (hs : aC ne ρ (fun τ => stR tyt τ r rc)) (X : Int64)
    (k : afrs (-9223372036854775808) 9223372036854775807 env ne (fun env' ne' => rec y dd nx ls ((2, 0, esym ne) :: r) fr mem env' fx gh ne') = true) : cTF G h0 n0 cn0 sn0 Q frc y d nx lsc ((2, X.toInt) :: rc) g := by
  rw [afrs_eq] at k
  have hcL := cL_of X
  refine a_nx hF hrec hγ.2.2.1 hγ.2.2.2 hd k (by omega) (aup_ag ρ ne X.toInt) (fun τ hτ => ?_) (hγ.gl.mono (by omega) (aup_ag ρ ne _)) (fun τ hτ => ⟨avR_mk2 hcL τ _ (afrs_ev τ hτ), hs.mono (by omega) (aup_ag ρ ne _) τ hτ⟩) (hγ.2.1.imp (fun _ x => x.2.2))
  have hτ2 : aag ne ρ τ := aag.tr (by omega) (aup_ag ρ ne _) hτ
  exact coR_env (hγ.1 τ hτ2) (afrs_ok (hγ.1.imp (fun _ x => x.1)) hcL.1 (by have := hcL.2; omega) τ hτ) (hγ.1 τ hτ2).2.1
theorem a_lngB_ok (hG : cW sv cd mi df el eb G) (hF : aFXm FX) (hrec : aSnd G h0 n0 cn0 sn0 Q tyt typs GS FX rec) (hc : cC cd y pc (ins, nx, tg, r1, r2)) (hγ : aGm h0 tyt typs GS FX ρ ls st fr mem env fx gh ne g lsc stc frc) (hd : dd ≤ d) {f : Nat → Nat → Nat} {F : Int64 → Int64 → Int64} (he : ∀ (rec : xF) (lx : List (Nat × xv)) (sx : List xv) (h : xheap), xex mi df el eb rec ins nx tg r1 r2 y d pc lx sx [] h n0 (cn0 y) (sn0 y) = x_bl rec nx y d lx sx [] h n0 (cn0 y) (sn0 y) f) (hFf : ∀ a b, lN (f a b) = F (lN a) (lN b)) (h : a_lng rec nx y dd ls st fr mem env fx gh ne 2 = true) : cTF G h0 n0 cn0 sn0 Q frc y d pc lsc stc g := by
  obtain ⟨b, a, r, vb, va, rc, rfl, rfl, tb, ta, hb, ha, hs, k⟩ := a_two h hγ.gs
  obtain ⟨x, rfl, hx, hxe⟩ := a_lngv ha ta
  obtain ⟨z, rfl, hz, hze⟩ := a_lngv hb tb
  exact cT_bl hG hc he hFf (a_lngn hF hrec hγ hd hs _ k)
theorem a_lngS_ok (hG : cW sv cd mi df el eb G) (hF : aFXm FX) (hrec : aSnd G h0 n0 cn0 sn0 Q tyt typs GS FX rec) (hc : cC cd y pc (ins, nx, tg, r1, r2)) (hγ : aGm h0 tyt typs GS FX ρ ls st fr mem env fx gh ne g lsc stc frc) (hd : dd ≤ d) {f : Nat → Nat → Nat} {F : Int64 → Int32 → Int64} (he : ∀ (rec : xF) (lx : List (Nat × xv)) (sx : List xv) (h : xheap), xex mi df el eb rec ins nx tg r1 r2 y d pc lx sx [] h n0 (cn0 y) (sn0 y) = x_sl rec nx y d lx sx [] h n0 (cn0 y) (sn0 y) f) (hFf : ∀ a b, lN (f a b) = F (lN a) (nI b)) (h : a_lng rec nx y dd ls st fr mem env fx gh ne 0 = true) : cTF G h0 n0 cn0 sn0 Q frc y d pc lsc stc g := by
  unfold a_lng at h
  match st, hγ, h with
  | [], _, h => cases h
  | [_], _, h => cases h
  | b :: a :: r, hγ, h =>
    obtain ⟨g1, g2⟩ := xcnb h
    obtain ⟨g3, g4⟩ := xand g1
    obtain ⟨vb, rc1, rfl, hb, hs1⟩ := a_top hγ.gs
    obtain ⟨va, rc, rfl, ha, hs2⟩ := a_top hs1
    obtain ⟨x, rfl, hx, hxe⟩ := a_lngv ha (xeqb g4)
    obtain ⟨z, rfl, hz, hze⟩ := a_int hb (xeqb g3)
    exact cT_sl hG hc he hFf (a_lngn hF hrec hγ hd hs2 _ g2)
/-- one operand -/
theorem a_one {t1 : Nat} {k : av → List av → Bool} (h : (match st with
    | a :: r => cond (Nat.beq a.1 t1) (k a r) false
    | _ => false) = true) (hs : aC ne ρ (fun τ => stR tyt τ st stc)) : ∃ a r va rc, st = a :: r ∧ stc = va :: rc ∧ a.1 = t1 ∧ aC ne ρ (fun τ => avR tyt τ a va) ∧ aC ne ρ (fun τ => stR tyt τ r rc) ∧ k a r = true := by
  match st, hs, h with
  | [], _, h => cases h
  | a :: r, hs, h =>
    obtain ⟨g1, g2⟩ := xcnb h
    obtain ⟨va, rc, rfl, ha, hs2⟩ := a_top hs
    exact ⟨a, r, va, rc, rfl, rfl, xeqb g1, ha, hs2, g2⟩
theorem a_cnvI_ok (hG : cW sv cd mi df el eb G) (hF : aFXm FX) (hrec : aSnd G h0 n0 cn0 sn0 Q tyt typs GS FX rec) (hc : cC cd y pc (ins, nx, tg, r1, r2)) (hγ : aGm h0 tyt typs GS FX ρ ls st fr mem env fx gh ne g lsc stc frc) (hd : dd ≤ d) {f : Nat → Nat} {F : Int32 → Int32} {lo hi s : Int} (he : ∀ (rec : xF) (lx : List (Nat × xv)) (sx : List xv) (h : xheap), xex mi df el eb rec ins nx tg r1 r2 y d pc lx sx [] h n0 (cn0 y) (sn0 y) = x_ui rec nx y d lx sx [] h n0 (cn0 y) (sn0 y) f) (hFf : ∀ a, nI (f a) = F (nI a)) (hin : ∀ X, lo ≤ (F X).toInt ∧ (F X).toInt ≤ hi) (hid : ∀ x, cI x → lo ≤ s * x → s * x ≤ hi → (F (i32 x)).toInt = s * x) (h : a_cnv rec nx y dd ls st fr mem env fx gh ne 0 0 lo hi s = true) : cTF G h0 n0 cn0 sn0 Q frc y d pc lsc stc g := by
  obtain ⟨a, r, va, rc, rfl, rfl, ta, ha, hs, k⟩ := a_one h hγ.gs
  obtain ⟨x, rfl, hx, hxe⟩ := a_int ha ta
  rw [efrc_eq] at k
  refine cT_ui hG hc he hFf (a_nr hF hrec hγ hd hs (aar_ok hγ.1 (hin (i32 x)) (fun τ hτ b1 b2 => ?_) (avR_mk0 (cI_of _)) k))
  rw [escl_ev, hxe τ hτ] at b1 b2 ⊢
  exact (hid x hx b1 b2).symm
theorem a_l2i_ok (hG : cW sv cd mi df el eb G) (hF : aFXm FX) (hrec : aSnd G h0 n0 cn0 sn0 Q tyt typs GS FX rec) (hγ : aGm h0 tyt typs GS FX ρ ls st fr mem env fx gh ne g lsc stc frc) (hd : dd ≤ d) (hc : cC cd y pc (.l2i, nx, tg, r1, r2)) (h : a_cnv rec nx y dd ls st fr mem env fx gh ne 2 0 (-2147483648) 2147483647 1 = true) : cTF G h0 n0 cn0 sn0 Q frc y d pc lsc stc g := by
  obtain ⟨a, r, va, rc, rfl, rfl, ta, ha, hs, k⟩ := a_one h hγ.gs
  obtain ⟨x, rfl, hx, hxe⟩ := a_lngv ha ta
  rw [efrc_eq] at k
  have hcI := cI_of (i64 x).toInt32
  refine cT_l2i hG hc (a_nr hF hrec hγ hd hs (aar_ok hγ.1 ⟨hcI.1, by have := hcI.2; omega⟩ (fun τ hτ b1 b2 => ?_) (avR_mk0 hcI) k))
  rw [escl_ev, hxe τ hτ] at b1 b2 ⊢
  rw [i64_i32 (by unfold cI; omega)]
  omega
theorem a_i2l_ok (hG : cW sv cd mi df el eb G) (hF : aFXm FX) (hrec : aSnd G h0 n0 cn0 sn0 Q tyt typs GS FX rec) (hγ : aGm h0 tyt typs GS FX ρ ls st fr mem env fx gh ne g lsc stc frc) (hd : dd ≤ d) (hc : cC cd y pc (.i2l, nx, tg, r1, r2)) (h : a_i2l rec nx y dd ls st fr mem env fx gh ne = true) : cTF G h0 n0 cn0 sn0 Q frc y d pc lsc stc g := by
  obtain ⟨a, r, va, rc, rfl, rfl, ta, ha, hs, k⟩ := a_one h hγ.gs
  obtain ⟨x, rfl, hx, hxe⟩ := a_int ha ta
  refine cT_i2l hG hc hx (a_n0 hF hrec hγ hd k hγ.gl (fun τ hτ => ⟨avR_mk2 ?_ τ _ (hxe τ hτ), hs τ hτ⟩))
  unfold cI at hx
  unfold cL
  omega
theorem a_dup_ok (hG : cW sv cd mi df el eb G) (hF : aFXm FX) (hrec : aSnd G h0 n0 cn0 sn0 Q tyt typs GS FX rec) (hγ : aGm h0 tyt typs GS FX ρ ls st fr mem env fx gh ne g lsc stc frc) (hd : dd ≤ d) (hc : cC cd y pc (.dup, nx, tg, r1, r2)) (h : a_dup rec nx y dd ls st fr mem env fx gh ne = true) : cTF G h0 n0 cn0 sn0 Q frc y d pc lsc stc g := by
  unfold a_dup at h
  match st, hγ, h with
  | [], _, h => cases h
  | a :: r, hγ, h =>
    dsimp only at h
    obtain ⟨v, rc, rfl, hv, hr⟩ := a_top hγ.gs
    cases hb : Nat.beq (xkd a.1) 1 with
    | true => rw [hb] at h; cases h
    | false =>
      rw [hb] at h
      exact cT_dup hG hc (by rw [avR_kd hv.self]; exact hb) (a_n0 hF hrec hγ hd h hγ.gl (fun τ hτ => ⟨hv τ hτ, hv τ hτ, hr τ hτ⟩))
theorem a_pop_ok (hG : cW sv cd mi df el eb G) (hF : aFXm FX) (hrec : aSnd G h0 n0 cn0 sn0 Q tyt typs GS FX rec) (hγ : aGm h0 tyt typs GS FX ρ ls st fr mem env fx gh ne g lsc stc frc) (hd : dd ≤ d) (hc : cC cd y pc (.pop, nx, tg, r1, r2)) (h : a_pop rec nx y dd ls st fr mem env fx gh ne = true) : cTF G h0 n0 cn0 sn0 Q frc y d pc lsc stc g := by
  unfold a_pop at h
  match st, hγ, h with
  | [], _, h => cases h
  | a :: r, hγ, h =>
    dsimp only at h
    obtain ⟨v, rc, rfl, hv, hr⟩ := a_top hγ.gs
    cases hb : Nat.beq (xkd a.1) 1 with
    | true => rw [hb] at h; cases h
    | false =>
      rw [hb] at h
      exact cT_pop hG hc (by rw [avR_kd hv.self]; exact hb) (a_n0 hF hrec hγ hd h hγ.gl hr)
theorem a_dup2_ok (hG : cW sv cd mi df el eb G) (hF : aFXm FX) (hrec : aSnd G h0 n0 cn0 sn0 Q tyt typs GS FX rec) (hγ : aGm h0 tyt typs GS FX ρ ls st fr mem env fx gh ne g lsc stc frc) (hd : dd ≤ d) (hc : cC cd y pc (.dup2, nx, tg, r1, r2)) (h : a_dup2 rec nx y dd ls st fr mem env fx gh ne = true) : cTF G h0 n0 cn0 sn0 Q frc y d pc lsc stc g := by
  unfold a_dup2 at h
  match st, hγ, h with
  | [], _, h => cases h
  | a :: r, hγ, h =>
    dsimp only at h
    obtain ⟨v, rc, rfl, hv, hr⟩ := a_top hγ.gs
    cases hb : Nat.beq (xkd a.1) 1 with
    | true =>
      rw [hb] at h
      exact cT_dup2L hG hc (by rw [avR_kd hv.self]; exact hb) (a_n0 hF hrec hγ hd h hγ.gl (fun τ hτ => ⟨hv τ hτ, hv τ hτ, hr τ hτ⟩))
    | false =>
      rw [hb] at h
      simp only [cond_false] at h
      match r, hr, h with
      | [], _, h => cases h
      | b :: r', hr, h =>
        dsimp only at h
        obtain ⟨w, rc', rfl, hw, hr'⟩ := a_top hr
        cases hb2 : Nat.beq (xkd b.1) 1 with
        | true => rw [hb2] at h; cases h
        | false =>
          rw [hb2] at h
          exact cT_dup2 hG hc (by rw [avR_kd hv.self]; exact hb) (by rw [avR_kd hw.self]; exact hb2) (a_n0 hF hrec hγ hd h hγ.gl (fun τ hτ => ⟨hv τ hτ, hw τ hτ, hv τ hτ, hw τ hτ, hr' τ hτ⟩))
theorem a_goto_ok (hG : cW sv cd mi df el eb G) (hF : aFXm FX) (hrec : aSnd G h0 n0 cn0 sn0 Q tyt typs GS FX rec) (hγ : aGm h0 tyt typs GS FX ρ ls st fr mem env fx gh ne g lsc stc frc) (hd : dd ≤ d) {o : Int} (hc : cC cd y pc (.goto o, nx, tg, r1, r2)) (h : rec y dd tg ls st fr mem env fx gh ne = true) : cTF G h0 n0 cn0 sn0 Q frc y d pc lsc stc g :=
  cT_goto hG hc (a_n0 hF hrec hγ hd h hγ.gl hγ.gs)
/-- a condition that holds: where it leads -/
theorem a_cg (hF : aFXm FX) (hrec : aSnd G h0 n0 cn0 sn0 Q tyt typs GS FX rec) (hγ : aGm h0 tyt typs GS FX ρ ls st fr mem env fx gh ne g lsc stc frc) (hd : dd ≤ d) {r : List av} {rc : List cv} (hs : aC ne ρ (fun τ => stR tyt τ r rc)) {sp : Bool} {o : Jvm.ClassFile.Cond} {e : ae} {z : Int} {pc' : Nat} (hz : aC ne ρ (fun τ => ev τ e = z)) (ho : crel o z 0 = true)
    (k : acn2 sp o env fx e (fun env fx => rec y dd pc' ls r fr mem env fx gh ne) = true) : cTF G h0 n0 cn0 sn0 Q frc y d pc' lsc rc g := by
  obtain ⟨env', fx', k1, k2⟩ := acn2_ok (P := aag ne ρ) ⟨ρ, aag.rf ne ρ⟩ k hz (fun τ hτ => ⟨(hγ.1 τ hτ).1, (hγ.1 τ hτ).2.1⟩) ho
  exact a_nx hF hrec hγ.2.2.1 hγ.2.2.2 hd k1 (Nat.le_refl _) (aag.rf _ _) (fun τ hτ => coR_env (hγ.1 τ hτ) (k2 τ hτ).1 (k2 τ hτ).2) hγ.gl hs (hγ.2.1.imp (fun _ x => x.2.2))
theorem a_brv (hF : aFXm FX) (hrec : aSnd G h0 n0 cn0 sn0 Q tyt typs GS FX rec) (hγ : aGm h0 tyt typs GS FX ρ ls st fr mem env fx gh ne g lsc stc frc) (hd : dd ≤ d) {r : List av} {rc : List cv} (hs : aC ne ρ (fun τ => stR tyt τ r rc)) {sp : Bool} {o : Jvm.ClassFile.Cond} {e : ae} {z : Int} (hz : aC ne ρ (fun τ => ev τ e = z))
    (k : a_br rec nx tg y dd ls fr mem env fx gh ne sp o e r = true) : cTF G h0 n0 cn0 sn0 Q frc y d (cond (crel o z 0) tg nx) lsc rc g := by
  obtain ⟨k1, k2⟩ := xcnb k
  cases hb : crel o z 0 with
  | true => exact a_cg hF hrec hγ hd hs hz hb k1
  | false => exact a_cg hF hrec hγ hd hs hz (by rw [crel_neg, hb]; rfl) k2
theorem a_icmp_ok (hG : cW sv cd mi df el eb G) (hF : aFXm FX) (hrec : aSnd G h0 n0 cn0 sn0 Q tyt typs GS FX rec) (hγ : aGm h0 tyt typs GS FX ρ ls st fr mem env fx gh ne g lsc stc frc) (hd : dd ≤ d) {sp : Bool} {o : Jvm.ClassFile.Cond} {w : Int} (hc : cC cd y pc (.if_icmp o w, nx, tg, r1, r2)) (h : a_icmp rec nx tg y dd ls st fr mem env fx gh ne sp o = true) : cTF G h0 n0 cn0 sn0 Q frc y d pc lsc stc g := by
  obtain ⟨b, a, r, vb, va, rc, rfl, rfl, tb, ta, hb, ha, hs, k⟩ := a_two h hγ.gs
  obtain ⟨x, rfl, hx, hxe⟩ := a_int ha ta
  obtain ⟨z, rfl, hz, hze⟩ := a_int hb tb
  rw [efrc_eq] at k
  refine cT_icmp hG hc hx hz ?_
  rw [crel_sub]
  exact a_brv hF hrec hγ hd hs (fun τ hτ => by show ev τ _ = _; rw [eadd_ev, hxe τ hτ, hze τ hτ]; omega) k
theorem a_if_ok (hG : cW sv cd mi df el eb G) (hF : aFXm FX) (hrec : aSnd G h0 n0 cn0 sn0 Q tyt typs GS FX rec) (hγ : aGm h0 tyt typs GS FX ρ ls st fr mem env fx gh ne g lsc stc frc) (hd : dd ≤ d) {sp : Bool} {o : Jvm.ClassFile.Cond} {w : Int} (hc : cC cd y pc (.ifCond o w, nx, tg, r1, r2)) (h : a_if rec nx tg y dd ls st fr mem env fx gh ne sp o = true) : cTF G h0 n0 cn0 sn0 Q frc y d pc lsc stc g := by
  unfold a_if at h
  match st, hγ, h with
  | [], _, h => cases h
  | a :: r, hγ, h =>
    obtain ⟨g1, g2⟩ := xcnb h
    obtain ⟨v, rc, rfl, hv, hr⟩ := a_top hγ.gs
    rcases xor2 g1 with q | q
    · obtain ⟨x, rfl, hx, hxe⟩ := a_int hv (xeqb q)
      exact cT_if hG hc hx (a_brv hF hrec hγ hd hr hxe g2)
    · have e1 := avR_cmp hv.self (xeqb q)
      subst e1
      have hI : cI (csgn (ev ρ a.2.2)) := by unfold csgn cI; split <;> first | omega | (split <;> omega)
      have hk : crel o (csgn (ev ρ a.2.2)) 0 = crel o (ev ρ a.2.2) 0 := crel_sgn o _
      refine cT_if hG hc hI ?_
      obtain ⟨k1, k2⟩ := xcnb g2
      have go : ∀ (o2 : Jvm.ClassFile.Cond) (pc' : Nat), crel o2 (csgn (ev ρ a.2.2)) 0 = true → acn2 sp o2 env fx a.2.2 (fun env fx => rec y dd pc' ls r fr mem env fx gh ne) = true → cTF G h0 n0 cn0 sn0 Q frc y d pc' lsc rc g := by
        intro o2 pc' ho hk2
        have hall : ∀ τ, aag ne ρ τ → crel o2 (ev τ a.2.2) 0 = true := fun τ hτ => by
          have e2 := avR_cmp (hv τ hτ) (xeqb q)
          have e3 : csgn (ev ρ a.2.2) = csgn (ev τ a.2.2) := congrArg Prod.snd e2
          rw [← crel_sgn, ← e3]; exact ho
        have hR : ∀ τ, aag ne ρ τ → envR env τ ∧ fxR fx τ := fun τ hτ => ⟨(hγ.1 τ hτ).1, (hγ.1 τ hτ).2.1⟩
        have fin : ∀ o3 : Jvm.ClassFile.Cond, (∀ τ, aag ne ρ τ → crel o3 (ev τ a.2.2) 0 = true) → acnd o3 env fx a.2.2 (fun env fx => rec y dd pc' ls r fr mem env fx gh ne) = true → cTF G h0 n0 cn0 sn0 Q frc y d pc' lsc rc g := by
          intro o3 h3 h4
          obtain ⟨env', fx', m1, m2⟩ := acnd_ok (P := aag ne ρ) ⟨ρ, aag.rf ne ρ⟩ h4 (fun τ hτ => ⟨(hR τ hτ).1, (hR τ hτ).2, h3 τ hτ⟩)
          exact a_nx hF hrec hγ.2.2.1 hγ.2.2.2 hd m1 (Nat.le_refl _) (aag.rf _ _) (fun τ hτ => coR_env (hγ.1 τ hτ) (m2 τ hτ).1 (m2 τ hτ).2) hγ.gl hr (hγ.2.1.imp (fun _ x => x.2.2))
        unfold acn2 at hk2
        split at hk2
        · obtain ⟨l1, l2⟩ := xcnb hk2
          have same : ∀ τ, aag ne ρ τ → csgn (ev τ a.2.2) = csgn (ev ρ a.2.2) := fun τ hτ => (congrArg Prod.snd (avR_cmp (hv τ hτ) (xeqb q))).symm
          by_cases hn : csgn (ev ρ a.2.2) < 0
          · refine fin .lt (fun τ hτ => ?_) l1
            rw [← crel_sgn, same τ hτ]
            exact decide_eq_true hn
          · refine fin .gt (fun τ hτ => ?_) l2
            rw [← crel_sgn, same τ hτ]
            have : csgn (ev ρ a.2.2) ≠ 0 := of_decide_eq_true ho
            exact decide_eq_true (show 0 < csgn (ev ρ a.2.2) by omega)
        · exact fin o2 hall hk2
      cases hb : crel o (csgn (ev ρ a.2.2)) 0 with
      | true => exact go o tg hb k1
      | false => exact go (aneg o) nx (by rw [crel_neg, hb]; rfl) k2
theorem a_nul_ok (hG : cW sv cd mi df el eb G) (hF : aFXm FX) (hrec : aSnd G h0 n0 cn0 sn0 Q tyt typs GS FX rec) (hc : cC cd y pc (ins, nx, tg, r1, r2)) (hγ : aGm h0 tyt typs GS FX ρ ls st fr mem env fx gh ne g lsc stc frc) (hd : dd ≤ d) {t : Bool} (he : ∀ (rec : xF) (lx : List (Nat × xv)) (sx : List xv) (h : xheap), xex mi df el eb rec ins nx tg r1 r2 y d pc lx sx [] h n0 (cn0 y) (sn0 y) = x_nul rec nx tg y d lx sx [] h n0 (cn0 y) (sn0 y) t) (h : a_nul rec nx tg y dd ls st fr mem env fx gh ne t = true) : cTF G h0 n0 cn0 sn0 Q frc y d pc lsc stc g := by
  unfold a_nul at h
  match st, hγ, h with
  | [], _, h => cases h
  | a :: r, hγ, h =>
    dsimp only at h
    obtain ⟨v, rc, rfl, hv, hr⟩ := a_top hγ.gs
    split at h
    · rename_i e
      exact cT_nul hG hc he (Or.inl ⟨avR_kd2 hv.self e (by decide), rfl⟩) (a_n0 hF hrec hγ hd h hγ.gl hr)
    · rename_i e
      exact cT_nul hG hc he (Or.inr ⟨avR_kd2 hv.self e (by decide), rfl⟩) (a_n0 hF hrec hγ hd h hγ.gl hr)
    · cases h
theorem a_lcmp_ok (hG : cW sv cd mi df el eb G) (hF : aFXm FX) (hrec : aSnd G h0 n0 cn0 sn0 Q tyt typs GS FX rec) (hγ : aGm h0 tyt typs GS FX ρ ls st fr mem env fx gh ne g lsc stc frc) (hd : dd ≤ d) (hc : cC cd y pc (.lcmp, nx, tg, r1, r2)) (h : a_lcmp rec nx y dd ls st fr mem env fx gh ne = true) : cTF G h0 n0 cn0 sn0 Q frc y d pc lsc stc g := by
  obtain ⟨b, a, r, vb, va, rc, rfl, rfl, tb, ta, hb, ha, hs, k⟩ := a_two h hγ.gs
  obtain ⟨x, rfl, hx, hxe⟩ := a_lngv ha ta
  obtain ⟨z, rfl, hz, hze⟩ := a_lngv hb tb
  rw [efrc_eq] at k
  refine cT_lcmp hG hc hx hz (a_n0 hF hrec hγ hd k hγ.gl (fun τ hτ => ⟨?_, hs τ hτ⟩))
  show (0, csgn (x - z)) = (0, csgn (ev τ (eadd a.2.2 b.2.2 (-1))))
  rw [eadd_ev, hxe τ hτ, hze τ hτ]
  congr 2
  omega
/-- one key that is met -/
theorem a_eqg (hF : aFXm FX) (hrec : aSnd G h0 n0 cn0 sn0 Q tyt typs GS FX rec) (hγ : aGm h0 tyt typs GS FX ρ ls st fr mem env fx gh ne g lsc stc frc) (hd : dd ≤ d) {r : List av} {rc : List cv} (hs : aC ne ρ (fun τ => stR tyt τ r rc)) {o : Jvm.ClassFile.Cond} {e : ae} {z v : Int} {pc' : Nat} (hz : aC ne ρ (fun τ => ev τ e = z)) (ho : crel o (z - v) 0 = true)
    (k : efrc (eadc e (Int.neg v)) (fun x => acnd o env fx x (fun env fx => rec y dd pc' ls r fr mem env fx gh ne)) = true) : cTF G h0 n0 cn0 sn0 Q frc y d pc' lsc rc g := by
  rw [efrc_eq] at k
  refine a_cg (sp := false) (o := o) (e := eadc e (Int.neg v)) (z := z - v) hF hrec hγ hd hs (fun τ hτ => by show ev τ _ = _; rw [eadc_ev, hz τ hτ]; show z + -v = _; omega) ho ?_
  unfold acn2
  cases o <;> exact k
theorem atab_ok (hF : aFXm FX) (hrec : aSnd G h0 n0 cn0 sn0 Q tyt typs GS FX rec) (hγ : aGm h0 tyt typs GS FX ρ ls st fr mem env fx gh ne g lsc stc frc) (hd : dd ≤ d) {r : List av} {rc : List cv} (hs : aC ne ρ (fun τ => stR tyt τ r rc)) {e : ae} {z : Int} (hz : aC ne ρ (fun τ => ev τ e = z)) : ∀ (l : List Int) (v : Int), atab rec y dd pc ls fr mem env fx gh ne e r l v = true → ∀ i : Nat, z = v + (i : Int) → i < l.length → ∃ o, l[i]? = some o ∧ 0 ≤ (pc : Int) + o ∧ cTF G h0 n0 cn0 sn0 Q frc y d ((pc : Int) + o).toNat lsc rc g
  | [], _, _, i, _, hi => absurd hi (Nat.not_lt_zero i)
  | o :: l, v, h, i, hzi, hi => by
    unfold atab at h
    obtain ⟨h1, h2⟩ := xcnb h
    obtain ⟨h3, h4⟩ := xcnb h1
    rw [zfrc_eq] at h2
    cases i with
    | zero =>
      exact ⟨o, rfl, zle_iff.mp h3, a_eqg (o := .eq) hF hrec hγ hd hs hz (decide_eq_true (by omega)) h4⟩
    | succ i =>
      obtain ⟨o2, q1, q2, q3⟩ := atab_ok hF hrec hγ hd hs hz l (Int.add v 1) h2 i (by show z = v + 1 + (i : Int); omega) (by simp at hi; omega)
      exact ⟨o2, q1, q2, q3⟩
theorem a_tab_ok (hG : cW sv cd mi df el eb G) (hF : aFXm FX) (hrec : aSnd G h0 n0 cn0 sn0 Q tyt typs GS FX rec) (hγ : aGm h0 tyt typs GS FX ρ ls st fr mem env fx gh ne g lsc stc frc) (hd : dd ≤ d) {a b e : Int} {f : Array Int} (hc : cC cd y pc (.tableswitch a b e f, nx, tg, r1, r2)) (h : a_tab rec y dd pc ls st fr mem env fx gh ne a b e f = true) : cTF G h0 n0 cn0 sn0 Q frc y d pc lsc stc g := by
  unfold a_tab at h
  match st, hγ, h with
  | [], _, h => cases h
  | w :: r, hγ, h =>
    obtain ⟨g1, g2⟩ := xcnb h
    obtain ⟨g3, g4⟩ := xand g1
    obtain ⟨g5, g6⟩ := xand g3
    obtain ⟨g7, g8⟩ := xcnb g2
    obtain ⟨g9, g10⟩ := xcnb g8
    have g4 : e + 1 + -b = (f.size : Int) := zeq_iff.mp g4
    have g6 : 0 ≤ (pc : Int) + a := zle_iff.mp g6
    obtain ⟨v, rc, rfl, hv, hr⟩ := a_top hγ.gs
    obtain ⟨z, rfl, hz, hze⟩ := a_int hv (xeqb g5)
    by_cases h1 : z < b
    · refine cT_tab (t := ((pc : Int) + a).toNat) hG hc hz (by unfold xts; rw [if_pos (Or.inl h1), if_pos g6]) ?_
      exact a_eqg (o := .lt) hF hrec hγ hd hr hze (decide_eq_true (by omega)) g7
    · by_cases h2 : e < z
      · refine cT_tab (t := ((pc : Int) + a).toNat) hG hc hz (by unfold xts; rw [if_pos (Or.inr h2), if_pos g6]) ?_
        exact a_eqg (o := .gt) hF hrec hγ hd hr hze (decide_eq_true (by omega)) g9
      · obtain ⟨o, q1, q2, q3⟩ := atab_ok hF hrec hγ hd hr hze f.toList b g10 (z - b).toNat (by omega) (by rw [Array.length_toList]; omega)
        refine cT_tab (t := ((pc : Int) + o).toNat) hG hc hz ?_ q3
        unfold xts
        rw [if_neg (by omega)]
        rw [Array.getElem?_toList] at q1
        rw [q1]
        dsimp only
        rw [if_pos q2]
theorem alkp_ok (hF : aFXm FX) (hrec : aSnd G h0 n0 cn0 sn0 Q tyt typs GS FX rec) (hd : dd ≤ d) {r : List av} {rc : List cv} {e : ae} {z dflt : Int} : ∀ (l : List (Int × Int)) (env : aenv) (fx : List ae), alkp rec y dd pc ls fr mem gh ne e r dflt l env fx = true → aGm h0 tyt typs GS FX ρ ls st fr mem env fx gh ne g lsc stc frc → aC ne ρ (fun τ => stR tyt τ r rc) → aC ne ρ (fun τ => ev τ e = z) → 0 ≤ (pc : Int) + Op.lookupswitch.offset l dflt z ∧ cTF G h0 n0 cn0 sn0 Q frc y d ((pc : Int) + Op.lookupswitch.offset l dflt z).toNat lsc rc g
  | [], env, fx, h, hγ, hs, hz => by
    obtain ⟨h1, h2⟩ := xcnb (show cond (zle 0 (Int.add (pc : Int) dflt)) (rec y dd (Int.add (pc : Int) dflt).toNat ls r fr mem env fx gh ne) false = true from h)
    exact ⟨zle_iff.mp h1, a_n0 hF hrec hγ hd h2 hγ.gl hs⟩
  | q :: l, env, fx, h, hγ, hs, hz => by
    unfold alkp at h
    rw [efrc_eq] at h
    obtain ⟨h1, h2⟩ := xcnb h
    obtain ⟨h3, h4⟩ := xcnb h1
    obtain ⟨h5, h6⟩ := xcnb h2
    obtain ⟨k, o⟩ := q
    rw [Op.lookupswitch.offset_cons]
    have hev : ∀ τ, aag ne ρ τ → ev τ (eadc e (Int.neg k)) = z - k := fun τ hτ => by rw [eadc_ev, hz τ hτ]; show z + -k = _; omega
    by_cases hk : k = z
    · rw [if_pos hk]
      exact ⟨zle_iff.mp h3, a_cg (sp := false) (o := .eq) (z := z - k) hF hrec hγ hd hs hev (decide_eq_true (by omega)) h4⟩
    · rw [if_neg hk]
      have go : ∀ o2 : Jvm.ClassFile.Cond, crel o2 (z - k) 0 = true → acnd o2 env fx (eadc e (Int.neg k)) (fun env fx => alkp rec y dd pc ls fr mem gh ne e r dflt l env fx) = true → 0 ≤ (pc : Int) + Op.lookupswitch.offset l dflt z ∧ cTF G h0 n0 cn0 sn0 Q frc y d ((pc : Int) + Op.lookupswitch.offset l dflt z).toNat lsc rc g := by
        intro o2 m1 m2
        obtain ⟨env', fx', k1, k2⟩ := acnd_ok (P := aag ne ρ) ⟨ρ, aag.rf ne ρ⟩ m2 (fun τ hτ => ⟨(hγ.1 τ hτ).1, (hγ.1 τ hτ).2.1, by rw [hev τ hτ]; exact m1⟩)
        exact alkp_ok hF hrec hd l env' fx' k1 ⟨fun τ hτ => coR_env (hγ.1 τ hτ) (k2 τ hτ).1 (k2 τ hτ).2, hγ.2.1, hγ.2.2.1, hγ.2.2.2⟩ hs hz
      by_cases hl : z < k
      · exact go .lt (decide_eq_true (by omega)) h5
      · exact go .gt (decide_eq_true (by omega)) h6
theorem a_lkp_ok (hG : cW sv cd mi df el eb G) (hF : aFXm FX) (hrec : aSnd G h0 n0 cn0 sn0 Q tyt typs GS FX rec) (hγ : aGm h0 tyt typs GS FX ρ ls st fr mem env fx gh ne g lsc stc frc) (hd : dd ≤ d) {a : Int} {f : Array (Int × Int)} (hc : cC cd y pc (.lookupswitch a f, nx, tg, r1, r2)) (h : a_lkp rec y dd pc ls st fr mem env fx gh ne a f = true) : cTF G h0 n0 cn0 sn0 Q frc y d pc lsc stc g := by
  unfold a_lkp at h
  obtain ⟨w, r, v, rc, rfl, rfl, tw, hv, hr, k⟩ := a_one h hγ.gs
  obtain ⟨z, rfl, hz, hze⟩ := a_int hv tw
  obtain ⟨k1, k2⟩ := alkp_ok hF hrec hd f.toList env fx k hγ hr hze
  exact cT_lkp hG hc hz k1 k2
end Snd4
end
section
/-! Stores are right -/
theorem cup_same {g : cg} {k j : Nat} {z : Int} (h : g k j = z) : cup g k j z = g := by
  funext k' j'
  unfold cup
  split
  · rename_i e
    rw [e.1, e.2, h]
  · rfl
theorem ahit_ok {lo hi : Int} {n : ae} {c : acol} {ρ : Nat → Int} {j : Nat} (h1 : ev ρ n = (j : Int)) (h2 : lo ≤ (j : Int)) (h3 : (j : Int) ≤ hi) (h : acv c j) : ahit lo hi n c = true := by
  obtain ⟨a1, a2, a3⟩ := h
  unfold ahit
  rw [zle_iff.mpr (show c.1 ≤ hi by omega), zle_iff.mpr (show lo ≤ c.2.1 by omega)]
  simp only [cond_true]
  cases hs : zeq c.2.2.1 1 with
  | true => rfl
  | false =>
    simp only [cond_false]
    apply zeq_iff.mpr
    apply Int.emod_eq_zero_of_dvd
    have d1 : ((Nat.gcd c.2.2.1.natAbs (zgcd n.2) : Nat) : Int) ∣ c.2.2.1 := Int.dvd_natAbs.mp (Int.natCast_dvd_natCast.mpr (Nat.gcd_dvd_left _ _))
    have d2 : ((Nat.gcd c.2.2.1.natAbs (zgcd n.2) : Nat) : Int) ∣ evl ρ n.2 := Int.dvd_trans (Int.natCast_dvd_natCast.mpr (Nat.gcd_dvd_right _ _)) (zgcd_ok ρ n.2)
    have d3 : ((Nat.gcd c.2.2.1.natAbs (zgcd n.2) : Nat) : Int) ∣ ((j : Int) - c.1) := Int.dvd_trans d1 (Int.dvd_of_emod_eq_zero a3)
    have e : Int.add n.1 (Int.neg c.1) = ((j : Int) - c.1) - evl ρ n.2 := by
      show n.1 + -c.1 = _
      have : ev ρ n = n.1 + evl ρ n.2 := rfl
      omega
    rw [e]
    exact Int.dvd_sub d3 d2
section Stor
variable {h0 : xheap} {tyt : Lean.RArray (Nat × Nat)} {typs : Lean.RArray (Nat × aty)} {GS : gho → (Nat → Int) → cg → Prop} {HS : aenv → List ae → List am → List gho → Nat → ae → ae → av → List gho} {WOK : aenv → List ae → Nat → ae → ae → Bool} {wc : Nat → Nat → Prop}
def aHS (h0 : xheap) (tyt : Lean.RArray (Nat × Nat)) (GS : gho → (Nat → Int) → cg → Prop) (HS : aenv → List ae → List am → List gho → Nat → ae → ae → av → List gho) : Prop := ∀ (env : aenv) (fx : List ae) (mem : List am) (gh : List gho) (g : cg) (ρ : Nat → Int) (t : Nat) (c i : ae) (v : av) (k j : Nat), coR h0 tyt GS env fx mem gh g ρ → ev ρ c = (k : Int) → ev ρ i = (j : Int) → xg tyt k = some t → (∃ w, cat h0 g k j w ∧ (w.1 = 0 ∨ w.1 = 2)) → ghR GS (HS env fx mem gh t c i v) ρ (cup g k j (ev ρ v.2.2))
def aWOK (tyt : Lean.RArray (Nat × Nat)) (WOK : aenv → List ae → Nat → ae → ae → Bool) (wc : Nat → Nat → Prop) : Prop := ∀ (env : aenv) (fx : List ae) (t : Nat) (c i : ae) (ρ : Nat → Int) (k j : Nat), WOK env fx t c i = true → envR env ρ → fxR fx ρ → ev ρ c = (k : Int) → ev ρ i = (j : Int) → xg tyt k = some t → wc k j
theorem cval_1 : ∀ (w : xv) (z : Int), (cval w z).1 = w.1
  | (0, _), _ => rfl
  | (1, _), _ => rfl
  | (2, _), _ => rfl
  | (_ + 3, _), _ => rfl
theorem avR_num {τ : Nat → Int} {a : av} {w : xv} {z : Int} (h : avR tyt τ a (cval w z)) (ht : a.1 = 0 ∨ a.1 = 2) : z = ev τ a.2.2 := by
  have hw : w.1 = 0 ∨ w.1 = 2 := by
    rcases ht with e | e
    · have := congrArg Prod.fst (avR_int h e).1
      rw [cval_1] at this; exact Or.inl this
    · have := congrArg Prod.fst (avR_lng h e).1
      rw [cval_1] at this; exact Or.inr this
  obtain ⟨t, n⟩ := w
  have hz : (cval (t, n) z).2 = z := by rcases hw with e | e <;> (have e : t = _ := e; subst e; rfl)
  rcases ht with e | e
  · have := congrArg Prod.snd (avR_int h e).1
    rw [hz] at this; exact this
  · have := congrArg Prod.snd (avR_lng h e).1
    rw [hz] at this; exact this
theorem acpr_ok {env : aenv} {mem : List am} {t : Nat} {c i e : ae} {cols : List (Int × Int × List acol)} {b : Int × Int × List acol} {col : acol} {ρ : Nat → Int} {g : cg} {kc j : Nat} (hE : envR env ρ) (hm : amsR h0 tyt ρ g mem) (hc : ev ρ c = (kc : Int)) (hi : ev ρ i = (j : Int)) (hI : ∀ b ∈ cols, ∀ c ∈ b.2.2, ∀ j : Nat, b.1 ≤ (j : Int) → (j : Int) ≤ b.2.1 → acv c j → c.2.2.2.1 ≤ g kc j ∧ g kc j ≤ c.2.2.2.2) (hb1 : b.1 ≤ (j : Int)) (hb2 : (j : Int) ≤ b.2.1) (ha : acv col j) (h : acpr env mem t c i e cols b col = true) : col.2.2.2.1 ≤ ev ρ e ∧ ev ρ e ≤ col.2.2.2.2 := by
  unfold acpr at h
  obtain ⟨m, hmm, h⟩ := List.any_eq_true.mp h
  obtain ⟨h1, h⟩ := xcnb h
  obtain ⟨h2, h⟩ := xcnb h
  obtain ⟨h3, h⟩ := xcnb h
  obtain ⟨h4, h⟩ := xcnb h
  rw [efrc_eq] at h
  have ht : m.2.2.2.1 = 0 ∨ m.2.2.2.1 = 2 := (xcnt h2).imp xeqb xeqb
  obtain ⟨k', j', v, a1, a2, a3, ⟨q, w, b1, b2, b3⟩, a5⟩ := hm m hmm
  have ek : k' = kc := by have := eeq_ok hE h4; omega
  subst ek
  subst b3
  have hv := avR_num a5 ht
  rw [eeqb_ok h3] at hv
  have hd := enor_ok hE (eadd m.2.2.1 i (-1))
  rw [eadd_ev, a2, hi] at hd
  generalize enor env (eadd m.2.2.1 i (-1)) = dd at h hd
  split at h
  · rename_i hn
    have hdv : dd.1 = (j' : Int) - (j : Int) := by
      have : ev ρ dd = dd.1 := by unfold ev; rw [hn]; show _ + 0 = _; omega
      omega
    unfold acol2 at h
    obtain ⟨b2', hb2', h⟩ := List.any_eq_true.mp h
    obtain ⟨l1, h⟩ := xcnb h
    obtain ⟨l2, h⟩ := xcnb h
    obtain ⟨c2, hc2, h⟩ := List.any_eq_true.mp h
    obtain ⟨l3, h⟩ := xcnb h
    obtain ⟨l4, h⟩ := xcnb h
    obtain ⟨l5, h⟩ := xcnb h
    obtain ⟨l6, l7⟩ := xcnb h
    have l1 : b2'.1 = b.1 + dd.1 := zeq_iff.mp l1
    have l2 : b2'.2.1 = b.2.1 + dd.1 := zeq_iff.mp l2
    have l3 : c2.1 = col.1 + dd.1 := zeq_iff.mp l3
    have l4 : c2.2.1 = col.2.1 + dd.1 := zeq_iff.mp l4
    have l5 : c2.2.2.1 = col.2.2.1 := zeq_iff.mp l5
    have l6 := zle_iff.mp l6
    have l7 := zle_iff.mp l7
    obtain ⟨x1, x2, x3⟩ := ha
    have := hI b2' hb2' c2 hc2 j' (by omega) (by omega) ⟨by omega, by omega, by rw [l5, l3, show (j' : Int) - (col.1 + dd.1) = (j : Int) - col.1 by omega]; exact x3⟩
    rw [hv] at this
    omega
  · cases h
theorem acok_ok {env : aenv} {fx : List ae} {mem : List am} {t : Nat} {c i e : ae} {lo hi : Int} {cols : List (Int × Int × List acol)} {ρ : Nat → Int} {g : cg} {kc j : Nat} (hE : envR env ρ) (hFx : fxR fx ρ) (hm : amsR h0 tyt ρ g mem) (hc : ev ρ c = (kc : Int)) (hi' : ev ρ i = (j : Int)) (h2 : lo ≤ (j : Int)) (h3 : (j : Int) ≤ hi) (hI : ∀ b ∈ cols, ∀ c ∈ b.2.2, ∀ j : Nat, b.1 ≤ (j : Int) → (j : Int) ≤ b.2.1 → acv c j → c.2.2.2.1 ≤ g kc j ∧ g kc j ≤ c.2.2.2.2) (h : acok env fx mem t c i lo hi e cols = true) : ∀ b ∈ cols, ∀ col ∈ b.2.2, b.1 ≤ (j : Int) → (j : Int) ≤ b.2.1 → acv col j → col.2.2.2.1 ≤ ev ρ e ∧ ev ρ e ≤ col.2.2.2.2 := by
  intro b hb col hcol b1 b2 ha
  unfold acok at h
  have h := List.all_eq_true.mp h b hb
  rw [zle_iff.mpr (show b.1 ≤ hi by omega), zle_iff.mpr (show lo ≤ b.2.1 by omega)] at h
  simp only [cond_true] at h
  have h := List.all_eq_true.mp h col hcol
  rw [ahit_ok hi' h2 h3 ha] at h
  simp only [cond_true] at h
  rcases xcnt h with h | h
  · exact efit_ok hE hFx h
  · exact acpr_ok hE hm hc hi' hI b1 b2 ha h
theorem astor_ok (hW : aWd h0 tyt typs) (hHS : aHS h0 tyt GS HS) (hWO : aWOK tyt WOK wc) {t : Nat} {c0 i0 : ae} {v : av} {mem : List am} {env : aenv} {fx : List ae} {gh : List gho} {ne : Nat} {k : List am → List gho → Bool} {ρ : Nat → Int} {g : cg} (hI : aInv tyt typs g) {kc j : Nat}
    (hC : aC ne ρ (coR h0 tyt GS env fx mem gh g)) (hp0 : aC ne ρ (fun τ => ev τ c0 = (kc : Int) ∧ ev τ i0 = (j : Int))) (ht : xg tyt kc = some t) {q : xcell} {w : xv} (hq : xg h0 kc = some q) (hj : j < q.2.1) (hw : xg q.2.2 j = some w) {v0 : cv} (hv : aC ne ρ (fun τ => avR tyt τ v v0)) (hvt : v.1 = w.1) (hwt : w.1 = 0 ∨ w.1 = 2)
    (h : astor typs HS WOK t c0 i0 v mem env fx gh ne k = true) : ∃ mem' gh', k mem' gh' = true ∧ aC ne ρ (coR h0 tyt GS env fx mem' gh' (cup g kc j v0.2)) ∧ aInv tyt typs (cup g kc j v0.2) ∧ wc kc j := by
  unfold astor at h
  rw [efrc_eq, efrc_eq] at h
  have hp : aC ne ρ (fun τ => ev τ (enor env c0) = (kc : Int) ∧ ev τ (enor env i0) = (j : Int)) := fun τ hτ => by
    have := hp0 τ hτ
    have hE := (hC τ hτ).1
    exact ⟨(enor_ok hE c0).trans this.1, (enor_ok hE i0).trans this.2⟩
  generalize enor env c0 = c at h hp
  generalize enor env i0 = i at h hp
  obtain ⟨q', T, w1, w2, w3, w4, w5, w6, w7, w8⟩ := hW kc t ht
  have eq : q' = q := Option.some.inj (w1.symm.trans hq)
  subst eq
  rw [w2] at h
  dsimp only at h
  cases hu : eu env i with
  | none => rw [hu] at h; cases h
  | some hi =>
    rw [hu] at h
    dsimp only at h
    rw [efrc_eq] at h
    cases hl : eu env (escl i (-1)) with
    | none => rw [hl] at h; cases h
    | some lo =>
      rw [hl] at h
      dsimp only at h
      rw [zfrc_eq] at h
      obtain ⟨k1, h⟩ := xcnb h
      obtain ⟨k2, h⟩ := xcnb h
      have hR := hC.self
      have hpp := hp.self
      have b1 := eu_ok hR.1 hu
      have b2 := eu_ok hR.1 hl
      rw [escl_ev] at b2
      have hwc := hWO env fx t c i ρ kc j k1 hR.1 hR.2.1 hpp.1 hpp.2 ht
      have htag : v.1 = 0 ∨ v.1 = 2 := by rw [hvt]; exact hwt
      have hz : ∀ τ, aag ne ρ τ → ev τ v.2.2 = v0.2 := fun τ hτ => by
        rcases htag with e | e
        · exact (congrArg Prod.snd (avR_int (hv τ hτ) e).1).symm
        · exact (congrArg Prod.snd (avR_lng (hv τ hτ) e).1).symm
      have hv0 : v0 = cval w v0.2 := by
        obtain ⟨wt, wn⟩ := w
        have hvt : v.1 = wt := hvt
        rcases hwt with e | e
        · have e : wt = 0 := e
          subst e
          have := (avR_int hv.self hvt).1
          rw [this]; rfl
        · have e : wt = 2 := e
          subst e
          have := (avR_lng hv.self hvt).1
          rw [this]; rfl
      have hInv : aInv tyt typs (cup g kc j v0.2) := by
        intro k' t' T' ht' hT'
        by_cases hk : k' = kc
        · subst hk
          have e1 : t' = t := Option.some.inj (ht'.symm.trans ht)
          subst e1
          have e2 : T' = T := Option.some.inj (hT'.symm.trans w2)
          subst e2
          have hold := hI k' t' T' ht' hT'
          refine ⟨fun b hb cc hcc j' b1' b2' ha => ?_, fun j' u hj' hu' => ?_⟩
          · unfold cup
            by_cases ej : j' = j
            · subst ej
              rw [if_pos ⟨rfl, rfl⟩, ← hz ρ (aag.rf ne ρ)]
              exact acok_ok hR.1 hR.2.1 hR.2.2.1 hpp.1 hpp.2 (by show -lo ≤ _; omega) (by omega) hold.1 k2 b hb cc hcc b1' b2' ha
            · rw [if_neg (fun z => ej z.2)]
              exact hold.1 b hb cc hcc j' b1' b2' ha
          · unfold cup
            by_cases ej : j' = j
            · subst ej
              rw [if_pos ⟨rfl, rfl⟩]
              obtain ⟨w', u', x1, x2, x3, x4⟩ := w8 j' hj
              have e3 : w' = w := Option.some.inj (x1.symm.trans hw)
              subst e3
              have e4 : u' = u := Option.some.inj (x2.symm.trans hu')
              subst e4
              refine ⟨fun z => ?_, fun z => ?_⟩
              · have e5 : v.1 = 0 := by rw [hvt, x3]; exact z
                rw [← hz ρ (aag.rf ne ρ)]
                exact (avR_int hv.self e5).2
              · have e5 : v.1 = 2 := by rw [hvt, x3]; exact z
                rw [← hz ρ (aag.rf ne ρ)]
                exact (avR_lng hv.self e5).2
            · rw [if_neg (fun z => ej z.2)]
              exact hold.2 j' u hj' hu'
        · have e : ∀ j' : Nat, cup g kc j v0.2 k' j' = g k' j' := fun j' => by unfold cup; rw [if_neg (fun z => hk z.1)]
          have hold := hI k' t' T' ht' hT'
          refine ⟨fun b hb cc hcc j' b1' b2' ha => ?_, fun j' u hj' hu' => ?_⟩
          · rw [e]; exact hold.1 b hb cc hcc j' b1' b2' ha
          · rw [e]; exact hold.2 j' u hj' hu'
      have hput : amk env t c i mem (fun r => k ((t, c, i, v) :: r) (HS env fx mem gh t c i v)) = true → ∃ mem' gh', k mem' gh' = true ∧ aC ne ρ (coR h0 tyt GS env fx mem' gh' (cup g kc j v0.2)) ∧ aInv tyt typs (cup g kc j v0.2) ∧ wc kc j := by
        intro hk
        obtain ⟨r, e1, e2⟩ := amk_ok env t c i mem (fun r => k ((t, c, i, v) :: r) (HS env fx mem gh t c i v))
        rw [e1] at hk
        refine ⟨_, _, hk, fun τ hτ => ?_, hInv, hwc⟩
        have hRτ := hC τ hτ
        have hpτ := hp τ hτ
        refine ⟨hRτ.1, hRτ.2.1, amsR_cons ⟨kc, j, v0, hpτ.1, hpτ.2, ht, ⟨q', w, hq, hw, ?_⟩, hv τ hτ⟩ (fun m hm => amR_keep hRτ.1 hpτ.1 hpτ.2 ht (hRτ.2.2.1 m (e2 m hm).1) (e2 m hm).2), ?_⟩
        · unfold cup
          rw [if_pos ⟨rfl, rfl⟩]
          exact hv0
        · have := hHS env fx mem gh g τ t c i v kc j hRτ hpτ.1 hpτ.2 ht ⟨cval w (g kc j), ⟨q', w, hq, hw, rfl⟩, by rw [cval_1]; exact hwt⟩
          rw [hz τ hτ] at this
          exact this
      cases hm : amg env t c i mem with
      | none => rw [hm] at h; exact hput h
      | some old =>
        rw [hm] at h
        dsimp only at h
        cases hb : (Nat.beq old.1 v.1 && eeq env old.2.2 v.2.2) with
        | false => rw [hb] at h; exact hput h
        | true =>
          rw [hb] at h
          obtain ⟨l1, l2⟩ := xand hb
          have hsame : g kc j = v0.2 := by
            obtain ⟨k', j', wv, a1, a2, a3, a4⟩ := amg_ok hR.1 hR.2.2.1 hm
            have e1 : k' = kc := by have := hpp.1; omega
            have e2 : j' = j := by have := hpp.2; omega
            subst e1; subst e2
            obtain ⟨qq, ww, c1, c2, c3⟩ := a3
            have e3 : qq = q' := Option.some.inj (c1.symm.trans hq)
            subst e3
            have e4 : ww = w := Option.some.inj (c2.symm.trans hw)
            subst e4
            subst c3
            have ht2 : old.1 = 0 ∨ old.1 = 2 := by rw [xeqb l1]; exact htag
            rw [avR_num a4 ht2, eeq_ok hR.1 l2, hz ρ (aag.rf ne ρ)]
          refine ⟨mem, gh, h, ?_, hInv, hwc⟩
          rw [cup_same hsame]
          exact hC
end Stor
end
section
/-! The step is right: cells -/
section Snd5
variable {sv : Nat → Int32} {cd : xcd} {mi : xmi} {df : xdf} {el : Nat → Nat} {eb : Nat → List Nat} {G : xG} {h0 : xheap} {n0 : Nat} {cn0 sn0 : Nat → Nat} {Q : cg → Option cv → Prop}
variable {tyt : Lean.RArray (Nat × Nat)} {typs : Lean.RArray (Nat × aty)} {GS : gho → (Nat → Int) → cg → Prop} {FX : (Nat → Int) → Nat → cg → Prop} {wc : Nat → Nat → Prop}
variable {HK : aenv → List ae → List am → List gho → Nat → ae → ae → Int × Int → Int × Int} {HS : aenv → List ae → List am → List gho → Nat → ae → ae → av → List gho} {WOK : aenv → List ae → Nat → ae → ae → Bool} {WOA : aenv → List ae → Nat → ae → Bool} {HA : aenv → List ae → List am → List gho → Nat → ae → Nat → ae → ae → ae → ae → List gho}
variable {rec : aF} {y d dd pc nx tg r1 r2 : Nat} {ins : Instr} {ls : List (Nat × av)} {st : List av} {fr : List afr} {mem : List am} {env : aenv} {fx : List ae} {gh : List gho} {ne : Nat} {ρ : Nat → Int} {g : cg} {lsc : List (Nat × cv)} {stc : List cv} {frc : List cfr}
theorem aar_ok2 {tag : Nat} {e : ae} {lo hi : Int} {env : aenv} {fx : List ae} {mem : List am} {gh : List gho} {ne : Nat} {ρ : Nat → Int} {g : cg} {k : av → aenv → Nat → Bool} {v0 : cv} {z : Int} (hC : aC ne ρ (coR h0 tyt GS env fx mem gh g)) (hz : lo ≤ z ∧ z ≤ hi) (he : aC ne ρ (fun τ => lo ≤ ev τ e → ev τ e ≤ hi → ev τ e = z)) (hv : ∀ (τ : Nat → Int) (x : ae), ev τ x = z → avR tyt τ (tag, 0, x) v0)
    (h : aar tag e lo hi env fx ne k = true) : ∃ v env' ne' ρ', k v env' ne' = true ∧ ne ≤ ne' ∧ aag ne ρ ρ' ∧ aC ne' ρ' (coR h0 tyt GS env' fx mem gh g) ∧ aC ne' ρ' (fun τ => avR tyt τ v v0) ∧ v.1 = tag := by
  unfold aar at h
  cases hf : efit env fx e lo hi with
  | true =>
    rw [hf] at h
    refine ⟨_, env, ne, ρ, h, Nat.le_refl _, aag.rf ne ρ, hC, fun τ hτ => ?_, rfl⟩
    obtain ⟨b1, b2⟩ := efit_ok (hC τ hτ).1 (hC τ hτ).2.1 hf
    exact hv τ e (he τ hτ b1 b2)
  | false =>
    rw [hf] at h
    simp only [cond_false] at h
    rw [afrs_eq] at h
    refine ⟨_, _, _, aup ρ ne z, h, by omega, aup_ag ρ ne z, fun τ hτ => ?_, fun τ hτ => hv τ _ (afrs_ev τ hτ), rfl⟩
    exact coR_env (hC τ (aag.tr (by omega) (aup_ag ρ ne z) hτ)) (afrs_ok (hC.imp (fun _ x => x.1)) hz.1 hz.2 τ hτ) (hC τ (aag.tr (by omega) (aup_ag ρ ne z) hτ)).2.1
theorem a_refv {a : av} {v : cv} (h : aC ne ρ (fun τ => avR tyt τ a v)) (ht : a.1 = 4) : ∃ k : Nat, v = (4, (k : Int)) ∧ xg tyt k = some a.2.1 ∧ aC ne ρ (fun τ => ev τ a.2.2 = (k : Int)) := by
  obtain ⟨k, h1, h2, h3⟩ := avR_ref h.self ht
  refine ⟨k, h1, h3, fun τ hτ => ?_⟩
  obtain ⟨k', g1, g2, g3⟩ := avR_ref (h τ hτ) ht
  have : (k : Int) = (k' : Int) := by
    have := h1.symm.trans g1
    exact congrArg Prod.snd this
  show ev τ a.2.2 = _
  omega
/-- a load, then the next -/
theorem a_ldn (hF : aFXm FX) (hrec : aSnd G h0 n0 cn0 sn0 Q tyt typs GS FX rec) (hW : aWd h0 tyt typs) (hHK : aHK h0 tyt GS HK) (hγ : aGm h0 tyt typs GS FX ρ ls st fr mem env fx gh ne g lsc stc frc) (hd : dd ≤ d) {t : Nat} {c0 i0 : ae} {kc j : Nat} {r : List av} {rc : List cv} (hs : aC ne ρ (fun τ => stR tyt τ r rc))
    (hp0 : aC ne ρ (fun τ => ev τ c0 = (kc : Int) ∧ ev τ i0 = (j : Int))) (ht : xg tyt kc = some t) {v0 : cv} (hcat : cat h0 g kc j v0) {q : xcell} (hq : xg h0 kc = some q) (hj : j < q.2.1)
    (h : aload h0 typs HK t c0 i0 mem env fx gh ne (fun v mem env ne => rec y dd nx ls (v :: r) fr mem env fx gh ne) = true) : cTF G h0 n0 cn0 sn0 Q frc y d nx lsc (v0 :: rc) g := by
  obtain ⟨v, mem', env', ne', ρ', h1, h2, h3, h4, h5⟩ := aload_ok hW hHK hγ.2.2.1 hγ.1 hp0 ht hcat hq hj h
  exact a_nx hF hrec hγ.2.2.1 hγ.2.2.2 hd h1 h2 h3 h4 (hγ.gl.mono h2 h3) (fun τ hτ => ⟨h5 τ hτ, hs.mono h2 h3 τ hτ⟩) (hγ.2.1.imp (fun _ x => x.2.2))
theorem a_get_ok (hG : cW sv cd mi df el eb G) (hF : aFXm FX) (hrec : aSnd G h0 n0 cn0 sn0 Q tyt typs GS FX rec) (hγ : aGm h0 tyt typs GS FX ρ ls st fr mem env fx gh ne g lsc stc frc) (hd : dd ≤ d) {i : Nat} (hW : aWd h0 tyt typs) (hHK : aHK h0 tyt GS HK) (hc : cC cd y pc (.getfield i, nx, tg, r1, r2)) (h : a_get h0 typs HK rec nx r1 r2 y dd ls st fr mem env fx gh ne = true) : cTF G h0 n0 cn0 sn0 Q frc y d pc lsc stc g := by
  unfold a_get at h
  match st, hγ, h with
  | [], _, h => cases h
  | w :: r, hγ, h =>
    dsimp only at h
    obtain ⟨v, rc, rfl, hv, hr⟩ := a_top hγ.gs
    split at h
    · rename_i hw4
      obtain ⟨k, rfl, hk1, hk2⟩ := a_refv hv hw4
      obtain ⟨q, T, w1, w2, w3, w4, w5, w6, w7, w8⟩ := hW k _ hk1
      rw [w2] at h
      obtain ⟨g1, g2⟩ := xcnb h
      obtain ⟨g3, g4⟩ := xand g1
      obtain ⟨g5, g6⟩ := xand g3
      have hj : r2 < q.2.1 := by rw [← w4]; exact xltb g4
      obtain ⟨ww, u, u1, u2, u3, u4⟩ := w8 r2 hj
      refine cT_get hG hc w1 (by rw [← w3]; exact xeqb g5) (xltb g6) u1 ?_
      exact a_ldn hF hrec hW hHK hγ hd hr (fun τ hτ => ⟨hk2 τ hτ, evc τ _⟩) hk1 ⟨q, ww, w1, u1, rfl⟩ w1 hj g2
    · rename_i hw6
      obtain ⟨g1, g2⟩ := xcnb h
      obtain ⟨g3, g4⟩ := xand g1
      have e := avR_ext hv.self hw6
      subst e
      refine cT_getE hG hc ((xor2 g3).imp xeqb xeqb) (xeqb g4) ?_
      refine a_n0 hF hrec hγ hd g2 hγ.gl (fun τ hτ => ⟨?_, hr τ hτ⟩)
      cases Nat.beq r2 0 with
      | true => exact rfl
      | false => exact avR_mk0 (by unfold cI; omega) τ _ (evc τ 0)
    · cases h
/-- a store, then the next -/
theorem a_stn (hF : aFXm FX) (hFS : ∀ (ρ : Nat → Int) (ne : Nat) (g : cg) (k j : Nat) (z : Int), FX ρ ne g → wc k j → FX ρ ne (cup g k j z)) (hrec : aSnd G h0 n0 cn0 sn0 Q tyt typs GS FX rec) (hW : aWd h0 tyt typs) (hHS : aHS h0 tyt GS HS) (hWO : aWOK tyt WOK wc) (hI : aInv tyt typs g) (hX : FX ρ ne g) (hC : aC ne ρ (coR h0 tyt GS env fx mem gh g)) (hl : aC ne ρ (fun τ => lsR tyt τ ls lsc)) (hf : aC ne ρ (fun τ => frR tyt τ fr frc)) (hd : dd ≤ d) {t : Nat} {c0 i0 : ae} {v : av} {kc j : Nat} {r : List av} {rc : List cv} (hs : aC ne ρ (fun τ => stR tyt τ r rc))
    (hp0 : aC ne ρ (fun τ => ev τ c0 = (kc : Int) ∧ ev τ i0 = (j : Int))) (ht : xg tyt kc = some t) {q : xcell} {w : xv} (hq : xg h0 kc = some q) (hj : j < q.2.1) (hw : xg q.2.2 j = some w) {v0 : cv} (hv : aC ne ρ (fun τ => avR tyt τ v v0)) (hvt : v.1 = w.1) (hwt : w.1 = 0 ∨ w.1 = 2)
    (h : astor typs HS WOK t c0 i0 v mem env fx gh ne (fun mem gh => rec y dd nx ls r fr mem env fx gh ne) = true) : cTF G h0 n0 cn0 sn0 Q frc y d nx lsc rc (cup g kc j v0.2) := by
  obtain ⟨mem', gh', h1, h2, h3, h4⟩ := astor_ok hW hHS hWO hI hC hp0 ht hq hj hw hv hvt hwt h
  exact a_nx hF hrec h3 (hFS _ _ _ _ _ _ hX h4) hd h1 (Nat.le_refl _) (aag.rf _ _) h2 hl hs hf
theorem aftf_ok {tc : Nat} {v : av} {v0 : cv} (hC : aC ne ρ (coR h0 tyt GS env fx mem gh g)) (hv : aC ne ρ (fun τ => avR tyt τ v v0)) (h : aftf env fx tc v = true) : xfit tc (cenc v0) = true ∧ (v.1 = 0 ∨ v.1 = 2) := by
  unfold aftf at h
  split at h
  · obtain ⟨z, rfl, -, -⟩ := a_int hv (xeqb h)
    exact ⟨rfl, Or.inl (xeqb h)⟩
  · obtain ⟨z, rfl, -, -⟩ := a_lngv hv (xeqb h)
    exact ⟨rfl, Or.inr (xeqb h)⟩
  · obtain ⟨h1, h2⟩ := xcnb h
    obtain ⟨z, rfl, hz, hze⟩ := a_int hv (xeqb h1)
    refine ⟨?_, Or.inl (xeqb h1)⟩
    have hb := efit_ok hC.self.1 hC.self.2.1 h2
    rw [hze.self] at hb
    show (Nat.beq 0 0 && Nat.ble (c32 z) 1) = true
    rw [c32_nat hb.1 (by omega), xle1 (by omega)]
    rfl
  · cases h
theorem a_put_ok (hG : cW sv cd mi df el eb G) (hF : aFXm FX) (hrec : aSnd G h0 n0 cn0 sn0 Q tyt typs GS FX rec) (hγ : aGm h0 tyt typs GS FX ρ ls st fr mem env fx gh ne g lsc stc frc) (hd : dd ≤ d) {i : Nat} (hFS : ∀ (ρ : Nat → Int) (ne : Nat) (g : cg) (k j : Nat) (z : Int), FX ρ ne g → wc k j → FX ρ ne (cup g k j z)) (hW : aWd h0 tyt typs) (hHS : aHS h0 tyt GS HS) (hWO : aWOK tyt WOK wc) (hc : cC cd y pc (.putfield i, nx, tg, r1, r2)) (h : a_put typs HS WOK rec nx tg r1 r2 y dd ls st fr mem env fx gh ne = true) : cTF G h0 n0 cn0 sn0 Q frc y d pc lsc stc g := by
  unfold a_put at h
  match st, hγ, h with
  | [], _, h => cases h
  | [_], _, h => cases h
  | v :: w :: r, hγ, h =>
    obtain ⟨g1, g2⟩ := xcnb h
    obtain ⟨g3, g4⟩ := xand g1
    obtain ⟨vc, rc1, rfl, hv, hs1⟩ := a_top hγ.gs
    obtain ⟨wc', rc, rfl, hw, hs⟩ := a_top hs1
    obtain ⟨k, rfl, hk1, hk2⟩ := a_refv hw (xeqb g3)
    obtain ⟨q, T, w1, w2, w3, w4, w5, w6, w7, w8⟩ := hW k _ hk1
    rw [w2] at g2
    obtain ⟨g5, g6⟩ := xcnb g2
    obtain ⟨g7, g8⟩ := xand g5
    obtain ⟨g9, g10⟩ := xand g7
    have hj : r2 < q.2.1 := by rw [← w4]; exact xltb g8
    obtain ⟨ww, u, u1, u2, u3, u4⟩ := w8 r2 hj
    have hT13 : Nat.blt T.1 13 = true := by rw [xeqb g9]; exact g10
    have hu : agt T.2.2.2.2 r2 = some u := by
      unfold apl at u2
      rw [hT13] at u2
      exact u2
    rw [hu] at g6
    obtain ⟨g11, g12⟩ := xcnb g6
    obtain ⟨f1, f2⟩ := aftf_ok hγ.1 hv g4
    have hvt : v.1 = ww.1 := by rw [u3]; exact (xeqb g11).symm
    have hwt : ww.1 = 0 ∨ ww.1 = 2 := by rw [← hvt]; exact f2
    have hvc : cenc vc = cpl ww vc.2 := by
      obtain ⟨wt, wn⟩ := ww
      have hvt : v.1 = wt := hvt
      rcases hwt with e | e
      · have e : wt = 0 := e
        subst e
        obtain ⟨z, rfl, -, -⟩ := a_int hv hvt
        rfl
      · have e : wt = 2 := e
        subst e
        obtain ⟨z, rfl, -, -⟩ := a_lngv hv hvt
        rfl
    refine cT_put hG hc w1 (by rw [← w3]; exact xeqb g9) hj u1 hvc f1 ?_
    exact a_stn hF hFS hrec hW hHS hWO hγ.2.2.1 hγ.2.2.2 hγ.1 hγ.gl (hγ.2.1.imp (fun _ x => x.2.2)) hd hs (fun τ hτ => ⟨hk2 τ hτ, evc τ _⟩) hk1 w1 hj u1 hv hvt hwt g12
theorem asl_ok : ∀ {gh : List gho} {s : Nat}, asl gh = some s → ∃ x ∈ gh, x.1 = 51 ∧ x.2.1 = s
  | [], _, h => by cases h
  | q :: l, s, h => by
    have h : cond (Nat.beq q.1 51) (some q.2.1) (asl l) = some s := h
    cases hb : Nat.beq q.1 51 with
    | true => rw [hb] at h; exact ⟨q, List.mem_cons_self, xeqb hb, Option.some.inj h⟩
    | false =>
      rw [hb] at h
      obtain ⟨x, h1, h2⟩ := asl_ok h
      exact ⟨x, List.mem_cons_of_mem _ h1, h2⟩
theorem asg_ok {env : aenv} {e : ae} : ∀ {gh : List gho} {s : Nat}, asg env e gh = some s → ∃ x ∈ gh, x.1 = 50 ∧ x.2.1 = s ∧ eeq env x.2.2.2 e = true
  | [], _, h => by cases h
  | q :: l, s, h => by
    have h : cond (Nat.beq q.1 50) (cond (eeq env q.2.2.2 e) (some q.2.1) (asg env e l)) (asg env e l) = some s := h
    have tl : asg env e l = some s → ∃ x ∈ q :: l, x.1 = 50 ∧ x.2.1 = s ∧ eeq env x.2.2.2 e = true := fun h => by
      obtain ⟨x, h1, h2⟩ := asg_ok h
      exact ⟨x, List.mem_cons_of_mem _ h1, h2⟩
    cases hb : Nat.beq q.1 50 with
    | false => rw [hb] at h; exact tl h
    | true =>
      rw [hb] at h
      cases hb2 : eeq env q.2.2.2 e with
      | false => rw [hb2] at h; exact tl h
      | true => rw [hb2] at h; exact ⟨q, List.mem_cons_self, xeqb hb, Option.some.inj h, hb2⟩
/-- what the script's ghosts say -/
def aGS0 (sv : Nat → Int32) (el : Nat → Nat) (GS : gho → (Nat → Int) → cg → Prop) : Prop := (∀ (x : gho) (ρ : Nat → Int) (g : cg), x.1 = 50 → (GS x ρ g ↔ ∃ n : Nat, ev ρ x.2.2.2 = (n : Int) ∧ (sv n).toInt = ρ x.2.1)) ∧ (∀ (x : gho) (ρ : Nat → Int) (g : cg), x.1 = 51 → (GS x ρ g ↔ ρ x.2.1 = (el 0 : Int))) ∧ el 0 < 2147483648
theorem a_len_ok (hG : cW sv cd mi df el eb G) (hF : aFXm FX) (hrec : aSnd G h0 n0 cn0 sn0 Q tyt typs GS FX rec) (hγ : aGm h0 tyt typs GS FX ρ ls st fr mem env fx gh ne g lsc stc frc) (hd : dd ≤ d) (hGS : aGS0 sv el GS) (hW : aWd h0 tyt typs) (hc : cC cd y pc (.arraylength, nx, tg, r1, r2)) (h : a_len typs el rec nx y dd ls st fr mem env fx gh ne = true) : cTF G h0 n0 cn0 sn0 Q frc y d pc lsc stc g := by
  unfold a_len at h
  match st, hγ, h with
  | [], _, h => cases h
  | w :: r, hγ, h =>
    dsimp only at h
    obtain ⟨v, rc, rfl, hv, hr⟩ := a_top hγ.gs
    split at h
    · rename_i hw4
      obtain ⟨k, rfl, hk1, hk2⟩ := a_refv hv hw4
      obtain ⟨q, T, w1, w2, w3, w4, w5, w6, w7, w8⟩ := hW k _ hk1
      rw [w2] at h
      obtain ⟨g1, g2⟩ := xcnb h
      rw [xfrc_eq] at g2
      refine cT_len hG hc w1 (by rw [← w3]; exact xleb g1) w5 ?_
      rw [← w4]
      exact a_n0 hF hrec hγ hd g2 hγ.gl (fun τ hτ => ⟨avR_mk0 (by unfold cI; omega) τ _ (evc τ _), hr τ hτ⟩)
    · rename_i hw6
      have e := avR_ext hv.self hw6
      subst e
      cases hb : Nat.beq w.2.1 0 with
      | true =>
        rw [hb] at h
        simp only [cond_true] at h
        have e0 := xeqb hb
        rw [e0]
        cases ha : asl gh with
        | none => rw [ha] at h; cases h
        | some s =>
          rw [ha] at h
          obtain ⟨x, x1, x2, x3⟩ := asl_ok ha
          refine cT_lenE hG hc (Or.inl rfl) hGS.2.2 ?_
          refine a_n0 hF hrec hγ hd h hγ.gl (fun τ hτ => ⟨avR_mk0 (by have := hGS.2.2; unfold cI; omega) τ _ ?_, hr τ hτ⟩)
          have := (hGS.2.1 x τ g x2).mp ((hγ.1 τ hτ).2.2.2 x x1)
          rw [x3] at this
          rw [esym_ev]; exact this
      | false =>
        rw [hb] at h
        simp only [cond_false] at h
        obtain ⟨g1, g2⟩ := xcnb h
        obtain ⟨g3, g4⟩ := xand g1
        rw [xfrc_eq] at g2
        have hl := xltb g4
        refine cT_lenE hG hc (Or.inr ((xor2 g3).imp xeqb xeqb)) hl ?_
        exact a_n0 hF hrec hγ hd g2 hγ.gl (fun τ hτ => ⟨avR_mk0 (by unfold cI; omega) τ _ (evc τ _), hr τ hτ⟩)
    · cases h
theorem a_ald_ok (hG : cW sv cd mi df el eb G) (hF : aFXm FX) (hrec : aSnd G h0 n0 cn0 sn0 Q tyt typs GS FX rec) (hc : cC cd y pc (ins, nx, tg, r1, r2)) (hγ : aGm h0 tyt typs GS FX ρ ls st fr mem env fx gh ne g lsc stc frc) (hd : dd ≤ d) {kd : Nat} (he : ∀ (rec : xF) (lx : List (Nat × xv)) (sx : List xv) (h : xheap), xex mi df el eb rec ins nx tg r1 r2 y d pc lx sx [] h n0 (cn0 y) (sn0 y) = x_ald el eb rec nx y d pc lx sx [] h n0 (cn0 y) (sn0 y) kd) (hi13 : kd = 13 → ins = .iaload) (hi15 : kd = 15 → ins = .baload) (hGS : aGS0 sv el GS) (hW : aWd h0 tyt typs) (hHK : aHK h0 tyt GS HK) (h : a_ald h0 typs HK el eb rec nx y dd ls st fr mem env fx gh ne kd = true) : cTF G h0 n0 cn0 sn0 Q frc y d pc lsc stc g := by
  unfold a_ald at h
  match st, hγ, h with
  | [], _, h => cases h
  | [_], _, h => cases h
  | i :: w :: r, hγ, h =>
    obtain ⟨g1, h⟩ := xcnb h
    obtain ⟨iv, rc1, rfl, hi, hs1⟩ := a_top hγ.gs
    obtain ⟨v, rc, rfl, hv, hr⟩ := a_top hs1
    obtain ⟨z, rfl, hz, hze⟩ := a_int hi (xeqb g1)
    split at h
    · rename_i hw4
      obtain ⟨k, rfl, hk1, hk2⟩ := a_refv hv hw4
      obtain ⟨q, T, w1, w2, w3, w4, w5, w6, w7, w8⟩ := hW k _ hk1
      rw [w2] at h
      obtain ⟨g2, g3⟩ := xcnb h
      obtain ⟨g4, g5⟩ := xand g2
      obtain ⟨g6, g7⟩ := xand g4
      have hb := efit_ok hγ.1.self.1 hγ.1.self.2.1 g5
      rw [hze.self] at hb
      have hb2 : z ≤ (T.2.1 : Int) + -1 := hb.2
      have ez : z = (z.toNat : Int) := by omega
      have hj : z.toNat < q.2.1 := by omega
      obtain ⟨ww, u, u1, u2, u3, u4⟩ := w8 z.toNat hj
      rw [ez]
      refine cT_ald hG hc he w1 ?_ hj (by omega) u1 ?_
      · rw [← w3]
        exact (xor2 g6).imp xeqb (fun q => ⟨xeqb (xand q).1, xleb (xand q).2⟩)
      · exact a_ldn hF hrec hW hHK hγ hd hr (fun τ hτ => ⟨hk2 τ hτ, (hze τ hτ).trans ez⟩) hk1 ⟨q, ww, w1, u1, rfl⟩ w1 hj g3
    · rename_i hw6
      have e := avR_ext hv.self hw6
      subst e
      rw [efrc_eq] at h
      have hne : aC ne ρ (fun τ => ev τ (enor env i.2.2) = z) := fun τ hτ => (enor_ok (hγ.1 τ hτ).1 _).trans (hze τ hτ)
      generalize enor env i.2.2 = n at h hne
      cases hb : Nat.beq w.2.1 0 with
      | true =>
        rw [hb] at h
        simp only [cond_true] at h
        have e0 := xeqb hb
        rw [e0]
        obtain ⟨k13, h'⟩ := xcnb h
        clear h
        have h13 := xeqb k13
        clear k13
        subst h13
        have hins := hi13 rfl
        subst hins
        cases ha : asl gh with
        | none => rw [ha] at h'; cases h'
        | some s =>
          rw [ha] at h'
          obtain ⟨g2, h⟩ := xcnb h'
          obtain ⟨g3, g4⟩ := xand g2
          obtain ⟨x, x1, x2, x3⟩ := asl_ok ha
          have hL := (hGS.2.1 x ρ g x2).mp (hγ.1.self.2.2.2 x x1)
          rw [x3] at hL
          have b1 := elef_ok hγ.1.self.1 hγ.1.self.2.1 2 _ g3
          have b2 := elef_ok hγ.1.self.1 hγ.1.self.2.1 2 _ g4
          rw [escl_ev, hne.self] at b1
          rw [eadc_ev, eadd_ev, esym_ev, hne.self, hL] at b2
          have ez : z = (z.toNat : Int) := by omega
          have hlt : z.toNat < el 0 := by omega
          have h31 := hGS.2.2
          have hcI := cI_of (sv z.toNat)
          rw [ez]
          refine cT_aldS hG hc hlt (by omega) ?_
          cases hg : asg env n gh with
          | some zs =>
            rw [hg] at h
            obtain ⟨x', y1, y2, y3, y4⟩ := asg_ok hg
            refine a_n0 hF hrec hγ hd h hγ.gl (fun τ hτ => ⟨avR_mk0 hcI τ _ ?_, hr τ hτ⟩)
            obtain ⟨m, m1, m2⟩ := (hGS.1 x' τ g y2).mp ((hγ.1 τ hτ).2.2.2 x' y1)
            have := eeq_ok (hγ.1 τ hτ).1 y4
            rw [hne τ hτ, m1] at this
            have em : z.toNat = m := by omega
            rw [esym_ev, em, m2, y3]
          | none =>
            rw [hg] at h
            rw [afrs_eq] at h
            refine a_nx hF hrec hγ.2.2.1 hγ.2.2.2 hd h (by omega) (aup_ag ρ ne (sv z.toNat).toInt) (fun τ hτ => ?_) (hγ.gl.mono (by omega) (aup_ag ρ ne _)) (fun τ hτ => ⟨avR_mk0 hcI τ _ (afrs_ev τ hτ), hr.mono (by omega) (aup_ag ρ ne _) τ hτ⟩) (hγ.2.1.imp (fun _ x => x.2.2))
            have hτ2 : aag ne ρ τ := aag.tr (by omega) (aup_ag ρ ne _) hτ
            have hco := hγ.1 τ hτ2
            refine ⟨afrs_ok (hγ.1.imp (fun _ x => x.1)) hcI.1 (by have := hcI.2; omega) τ hτ, hco.2.1, hco.2.2.1, fun x hx => ?_⟩
            rcases List.mem_cons.mp hx with ex | hx
            · rw [ex]
              refine (hGS.1 _ τ g rfl).mpr ⟨z.toNat, ?_, ?_⟩
              · show ev τ n = _
                rw [hne τ hτ2]; omega
              · show _ = τ ne
                rw [hτ ne (by omega), aup_self]
            · exact hco.2.2.2 x hx
      | false =>
        rw [hb] at h
        simp only [cond_false] at h
        split at h
        · rename_i hn
          obtain ⟨g2, h'⟩ := xcnb h
          clear h
          obtain ⟨m1, g8⟩ := xand g2
          obtain ⟨m2, g7⟩ := xand m1
          obtain ⟨m3, g6⟩ := xand m2
          obtain ⟨m4, g5⟩ := xand m3
          obtain ⟨g3, g4⟩ := xand m4
          clear m1 m2 m3 m4 g2
          rw [xfrc_eq] at h'
          have h15 := xeqb g4
          clear g4
          subst h15
          have hins := hi15 rfl
          subst hins
          have e1 : n.1 = z := by
            have := hne.self
            have e2 : ev ρ n = n.1 := by unfold ev; rw [hn]; show _ + 0 = _; omega
            omega
          rw [e1] at g5 g6 g7 g8 h'
          have g5 := zle_iff.mp g5
          have ez : z = (z.toNat : Int) := by omega
          rw [ez]
          refine cT_aldT hG hc ((xor2 g3).imp xeqb xeqb) (xltb g6) (xltb g7) ?_
          rw [nI_toInt (xltb g8)]
          have hlt := xltb g8
          exact a_n0 hF hrec hγ hd h' hγ.gl (fun τ hτ => ⟨avR_mk0 (by unfold cI; omega) τ _ (evc τ _), hr τ hτ⟩)
        · cases h
    · cases h
theorem a_ast_ok (hG : cW sv cd mi df el eb G) (hF : aFXm FX) (hrec : aSnd G h0 n0 cn0 sn0 Q tyt typs GS FX rec) (hc : cC cd y pc (ins, nx, tg, r1, r2)) (hγ : aGm h0 tyt typs GS FX ρ ls st fr mem env fx gh ne g lsc stc frc) (hd : dd ≤ d) {kd : Nat} (he : ∀ (rec : xF) (lx : List (Nat × xv)) (sx : List xv) (h : xheap), xex mi df el eb rec ins nx tg r1 r2 y d pc lx sx [] h n0 (cn0 y) (sn0 y) = x_ast rec nx y d pc lx sx [] h n0 (cn0 y) (sn0 y) kd) (hkd : kd = 13 ∨ kd = 14 ∨ kd = 15) (hFS : ∀ (ρ : Nat → Int) (ne : Nat) (g : cg) (k j : Nat) (z : Int), FX ρ ne g → wc k j → FX ρ ne (cup g k j z)) (hW : aWd h0 tyt typs) (hHS : aHS h0 tyt GS HS) (hWO : aWOK tyt WOK wc) (h : a_ast typs HS WOK rec nx y dd ls st fr mem env fx gh ne kd = true) : cTF G h0 n0 cn0 sn0 Q frc y d pc lsc stc g := by
  unfold a_ast at h
  match st, hγ, h with
  | [], _, h => cases h
  | [_], _, h => cases h
  | [_, _], _, h => cases h
  | v :: i :: w :: r, hγ, h =>
    obtain ⟨g1, h⟩ := xcnb h
    obtain ⟨g2, g3⟩ := xand g1
    obtain ⟨g4, g5⟩ := xand g2
    obtain ⟨vc, rc0, rfl, hv, hs0⟩ := a_top hγ.gs
    obtain ⟨iv, rc1, rfl, hi, hs1⟩ := a_top hs0
    obtain ⟨wv, rc, rfl, hw, hr⟩ := a_top hs1
    obtain ⟨z, rfl, hz, hze⟩ := a_int hi (xeqb g4)
    obtain ⟨k, rfl, hk1, hk2⟩ := a_refv hw (xeqb g5)
    obtain ⟨q, T, w1, w2, w3, w4, w5, w6, w7, w8⟩ := hW k _ hk1
    rw [w2] at h
    obtain ⟨g6, h⟩ := xcnb h
    obtain ⟨g7, g8⟩ := xand g6
    obtain ⟨g9, g10⟩ := xand g7
    have hb := efit_ok hγ.1.self.1 hγ.1.self.2.1 g8
    rw [hze.self] at hb
    have hb2 : z ≤ (T.2.1 : Int) + -1 := hb.2
    have ez : z = (z.toNat : Int) := by omega
    have hj : z.toNat < q.2.1 := by omega
    obtain ⟨ww, u, u1, u2, u3, u4⟩ := w8 z.toNat hj
    have hT13 : Nat.blt T.1 13 = false := by
      cases hq : Nat.blt T.1 13 with
      | false => rfl
      | true => have := xltb hq; have := xleb g10; omega
    have hu : agt T.2.2.2.2 0 = some u := by
      unfold apl at u2
      rw [hT13] at u2
      exact u2
    rw [hu] at h
    obtain ⟨g11, h⟩ := xcnb h
    have hvt : v.1 = ww.1 := by rw [u3]; exact (xeqb g11).symm
    have hkq : q.1 = kd := by rw [← w3]; exact xeqb g9
    rw [ez]
    cases hk15 : Nat.beq kd 15 with
    | false =>
      rw [hk15] at h
      have hcs : cstv kd vc = vc := by unfold cstv; rw [hk15]; rfl
      have hvw : (kd = 14 ∧ vc.1 = 2 ∧ ww.1 = 2) ∨ ((kd = 13 ∨ kd = 15) ∧ vc.1 = 0 ∧ ww.1 = 0) := by
        rcases hkd with e | e | e
        · subst e
          have e3 : v.1 = 0 := xeqb g3
          obtain ⟨x, rfl, -, -⟩ := a_int hv e3
          exact Or.inr ⟨Or.inl rfl, rfl, by rw [← hvt]; exact e3⟩
        · subst e
          have e3 : v.1 = 2 := xeqb g3
          obtain ⟨x, rfl, -, -⟩ := a_lngv hv e3
          exact Or.inl ⟨rfl, rfl, by rw [← hvt]; exact e3⟩
        · subst e; cases hk15
      refine cT_ast hG hc he w1 hkq hj (by omega) u1 hvw ?_
      rw [hcs]
      exact a_stn hF hFS hrec hW hHS hWO hγ.2.2.1 hγ.2.2.2 hγ.1 hγ.gl (hγ.2.1.imp (fun _ x => x.2.2)) hd hr (fun τ hτ => ⟨hk2 τ hτ, (hze τ hτ).trans ez⟩) hk1 w1 hj u1 hv hvt (hvw.elim (fun x => Or.inr x.2.2) (fun x => Or.inl x.2.2)) h
    | true =>
      rw [hk15] at h
      simp only [cond_true] at h
      have e15 := xeqb hk15
      have e3 : v.1 = 0 := by
        have := xeqb g3
        rw [e15] at this
        exact this
      obtain ⟨x, rfl, hx, hxe⟩ := a_int hv e3
      have hw0 : ww.1 = 0 := by rw [← hvt]; exact e3
      have hcs : cstv kd (0, x) = (0, (i32 x).toInt8.toInt32.toInt) := by unfold cstv; rw [hk15]; rfl
      refine cT_ast hG hc he w1 hkq hj (by omega) u1 (Or.inr ⟨Or.inr e15, rfl, hw0⟩) ?_
      rw [hcs]
      have hin := i2b_in (i32 x)
      obtain ⟨v', env', ne', ρ', q1, q2, q3, q4, q5, q6⟩ := aar_ok2 (v0 := (0, (i32 x).toInt8.toInt32.toInt)) hγ.1 hin (fun τ hτ b1 b2 => by
        rw [hxe τ hτ] at b1 b2 ⊢
        exact (i2b_id b1 b2).symm) (avR_mk0 (cI_of _)) h
      exact a_stn (v0 := (0, (i32 x).toInt8.toInt32.toInt)) hF hFS hrec hW hHS hWO hγ.2.2.1 (hF _ _ _ _ _ hγ.2.2.2 q2 q3) q4 (hγ.gl.mono q2 q3) ((hγ.2.1.imp (fun _ x => x.2.2)).mono q2 q3) hd (hr.mono q2 q3) (fun τ hτ => ⟨hk2.mono q2 q3 τ hτ, (hze.mono q2 q3 τ hτ).trans ez⟩) hk1 w1 hj u1 q5 (by rw [q6, hw0]) (Or.inl hw0) q1
end Snd5
end
section
/-! The step is right: copies, calls, answers -/
section Snd6
variable {sv : Nat → Int32} {cd : xcd} {mi : xmi} {df : xdf} {el : Nat → Nat} {eb : Nat → List Nat} {G : xG} {h0 : xheap} {n0 : Nat} {cn0 sn0 : Nat → Nat} {Q : cg → Option cv → Prop}
variable {tyt : Lean.RArray (Nat × Nat)} {typs : Lean.RArray (Nat × aty)} {GS : gho → (Nat → Int) → cg → Prop} {FX : (Nat → Int) → Nat → cg → Prop} {wc : Nat → Nat → Prop}
variable {HK : aenv → List ae → List am → List gho → Nat → ae → ae → Int × Int → Int × Int} {HS : aenv → List ae → List am → List gho → Nat → ae → ae → av → List gho} {WOK : aenv → List ae → Nat → ae → ae → Bool} {WOA : aenv → List ae → Nat → ae → Bool} {HA : aenv → List ae → List am → List gho → Nat → ae → Nat → ae → ae → ae → ae → List gho} {inl : Nat → Bool}
variable {SM : Nat → Nat → List av → List am → aenv → List ae → List gho → Nat → (Option av → List am → aenv → List ae → List gho → Nat → Bool) → Bool} {RT : Option av → List am → aenv → List ae → List gho → Nat → Bool}
variable {rec : aF} {y d dd pc nx tg r1 r2 : Nat} {ins : Instr} {ls : List (Nat × av)} {st : List av} {fr : List afr} {mem : List am} {env : aenv} {fx : List ae} {gh : List gho} {ne : Nat} {ρ : Nat → Int} {g : cg} {lsc : List (Nat × cv)} {stc : List cv} {frc : List cfr}
def aHA (h0 : xheap) (tyt : Lean.RArray (Nat × Nat)) (GS : gho → (Nat → Int) → cg → Prop) (HA : aenv → List ae → List am → List gho → Nat → ae → Nat → ae → ae → ae → ae → List gho) : Prop := ∀ (env : aenv) (fx : List ae) (mem : List am) (gh : List gho) (g : cg) (ρ : Nat → Int) (ta : Nat) (ca : ae) (tb : Nat) (cb sp dp m : ae) (ka kb s d n : Nat), coR h0 tyt GS env fx mem gh g ρ → ev ρ ca = (ka : Int) → ev ρ cb = (kb : Int) → xg tyt ka = some ta → xg tyt kb = some tb → ev ρ sp = (s : Int) → ev ρ dp = (d : Int) → ev ρ m = (n : Int) → ghR GS (HA env fx mem gh ta ca tb cb sp dp m) ρ (ccp g ka kb s d n)
def aWOA (tyt : Lean.RArray (Nat × Nat)) (WOA : aenv → List ae → Nat → ae → Bool) (wc : Nat → Nat → Prop) : Prop := ∀ (env : aenv) (fx : List ae) (t : Nat) (c : ae) (ρ : Nat → Int) (k : Nat), WOA env fx t c = true → envR env ρ → fxR fx ρ → ev ρ c = (k : Int) → xg tyt k = some t → ∀ j, wc k j
theorem a_cpy_ok (hG : cW sv cd mi df el eb G) (hF : aFXm FX) (hrec : aSnd G h0 n0 cn0 sn0 Q tyt typs GS FX rec) (hγ : aGm h0 tyt typs GS FX ρ ls st fr mem env fx gh ne g lsc stc frc) (hd : dd ≤ d) {i : Nat} (h00 : cH0 h0) (hFC : ∀ (ρ : Nat → Int) (ne : Nat) (g : cg) (ka kb s d n : Nat), FX ρ ne g → (∀ j, wc kb j) → FX ρ ne (ccp g ka kb s d n)) (hW : aWd h0 tyt typs) (hHA : aHA h0 tyt GS HA) (hWA : aWOA tyt WOA wc) (hc : cC cd y pc (.invokestatic i, nx, tg, r1, r2)) (h8 : r2 = 8) (h : a_cpy typs WOA HA rec nx y dd ls st fr mem env fx gh ne = true) : cTF G h0 n0 cn0 sn0 Q frc y d pc lsc stc g := by
  unfold a_cpy at h
  match st, hγ, h with
  | [], _, h => cases h
  | [_], _, h => cases h
  | [_, _], _, h => cases h
  | [_, _, _], _, h => cases h
  | [_, _, _, _], _, h => cases h
  | m :: dp :: b :: sp :: a :: r, hγ, h =>
    obtain ⟨g1, h⟩ := xcnb h
    obtain ⟨g1, t7⟩ := xand g1
    obtain ⟨g1, t6⟩ := xand g1
    obtain ⟨g1, t5⟩ := xand g1
    obtain ⟨g1, t4⟩ := xand g1
    obtain ⟨g1, t3⟩ := xand g1
    obtain ⟨t1, t2⟩ := xand g1
    obtain ⟨mv, s1, rfl, hm, hs1⟩ := a_top hγ.gs
    obtain ⟨dv, s2, rfl, hdp, hs2⟩ := a_top hs1
    obtain ⟨bv, s3, rfl, hb, hs3⟩ := a_top hs2
    obtain ⟨spv, s4, rfl, hsp, hs4⟩ := a_top hs3
    obtain ⟨av', rc, rfl, ha, hr⟩ := a_top hs4
    obtain ⟨zm, rfl, hzm, hzme⟩ := a_int hm (xeqb t1)
    obtain ⟨zd, rfl, hzd, hzde⟩ := a_int hdp (xeqb t2)
    obtain ⟨kb, rfl, hkb1, hkb2⟩ := a_refv hb (xeqb t3)
    obtain ⟨zs, rfl, hzs, hzse⟩ := a_int hsp (xeqb t4)
    obtain ⟨ka, rfl, hka1, hka2⟩ := a_refv ha (xeqb t5)
    obtain ⟨qa, Ta, a1, a2, a3, a4, a5, a6, a7, a8⟩ := hW ka _ hka1
    obtain ⟨qb, Tb, b1, b2, b3, b4, b5, b6, b7, b8⟩ := hW kb _ hkb1
    rw [a2] at h
    dsimp only at h
    rw [b2] at h
    obtain ⟨g1, h⟩ := xcnb h
    obtain ⟨g1, c9⟩ := xand g1
    obtain ⟨g1, c8⟩ := xand g1
    obtain ⟨g1, c7⟩ := xand g1
    obtain ⟨g1, c6⟩ := xand g1
    obtain ⟨g1, c5⟩ := xand g1
    obtain ⟨g1, c4⟩ := xand g1
    obtain ⟨g1, c3⟩ := xand g1
    obtain ⟨c1, c2⟩ := xand g1
    have hE := hγ.1.self.1
    have hX := hγ.1.self.2.1
    have e3 := elef_ok hE hX 2 _ c3
    have e4 := elef_ok hE hX 2 _ c4
    have e5 := elef_ok hE hX 2 _ c5
    have e6 := elef_ok hE hX 2 _ c6
    have e7 := elef_ok hE hX 2 _ c7
    rw [escl_ev, hzme.self] at e3
    rw [escl_ev, hzde.self] at e4
    rw [escl_ev, hzse.self] at e5
    rw [eadc_ev, eadd_ev, hzse.self, hzme.self] at e6
    rw [eadc_ev, eadd_ev, hzde.self, hzme.self] at e7
    have e6 : zs + 1 * zm + -(Ta.2.1 : Int) ≤ 0 := e6
    have e7 : zd + 1 * zm + -(Tb.2.1 : Int) ≤ 0 := e7
    have em : zm = (zm.toNat : Int) := by omega
    have ed : zd = (zd.toNat : Int) := by omega
    have es : zs = (zs.toNat : Int) := by omega
    have hkind : qa.1 = 13 ∨ qa.1 = 14 := by rw [← a3]; exact (xor2 c1).imp xeqb xeqb
    have hkind2 : qb.1 = qa.1 := by rw [← a3, ← b3]; exact xeqb c2
    have hwa := hWA env fx _ _ ρ kb c8 hE hX hkb2.self hkb1
    rw [em, ed, es]
    refine cT_cpy hG h00 hc h8 a1 b1 hkind hkind2 (by omega) (by omega) (by rw [stR_wds hr.self]; exact xleb t6) (by have := xleb t7; omega) ?_
    have hT13a : Nat.blt Ta.1 13 = false := by
      cases hq : Nat.blt Ta.1 13 with
      | false => rfl
      | true => have := xltb hq; rw [a3] at this; omega
    have hInv : aInv tyt typs (ccp g ka kb zs.toNat zd.toNat zm.toNat) := by
      intro k' t' T' ht' hT'
      have hold := hγ.2.2.1 k' t' T' ht' hT'
      by_cases hk : k' = kb
      · subst hk
        have x1 : t' = b.2.1 := Option.some.inj (ht'.symm.trans hkb1)
        subst x1
        have x2 : T' = Tb := Option.some.inj (hT'.symm.trans b2)
        subst x2
        have hsrc := hγ.2.2.1 ka _ Ta hka1 a2
        refine ⟨fun B hB c hc' j' q1 q2 q3 => ?_, fun j' u hj' hu' => ?_⟩
        · unfold ccp
          split
          · rename_i hin
            have c9' := List.all_eq_true.mp (List.all_eq_true.mp c9 B hB) c hc'
            obtain ⟨A, hA, c9'⟩ := List.any_eq_true.mp c9'
            obtain ⟨l1, c9'⟩ := xcnb c9'
            obtain ⟨l2, c9'⟩ := xcnb c9'
            obtain ⟨c2', hc2', c9'⟩ := List.any_eq_true.mp c9'
            obtain ⟨l3, c9'⟩ := xcnb c9'
            obtain ⟨l4, c9'⟩ := xcnb c9'
            obtain ⟨l5, c9'⟩ := xcnb c9'
            obtain ⟨l6, l7⟩ := xcnb c9'
            have l1 := zle_iff.mp l1
            have l2 : (Ta.2.1 : Int) ≤ A.2.1 + 1 := zle_iff.mp l2
            have l3 := zle_iff.mp l3
            have l4 : (Ta.2.1 : Int) ≤ c2'.2.1 + 1 := zle_iff.mp l4
            have l5 := zeq_iff.mp l5
            have l6 := zle_iff.mp l6
            have l7 := zle_iff.mp l7
            have := hsrc.1 A hA c2' hc2' (zs.toNat + (j' - zd.toNat)) (by omega) (by omega) ⟨by omega, by omega, by rw [l5]; exact Int.emod_one _⟩
            omega
          · exact hold.1 B hB c hc' j' q1 q2 q3
        · unfold ccp
          split
          · rename_i hin
            obtain ⟨w1, u1, y1, y2, y3, y4⟩ := a8 (zs.toNat + (j' - zd.toNat)) (by omega)
            obtain ⟨w2, u2, z1, z2, z3, z4⟩ := b8 j' (by omega)
            have e8 : u2 = u := Option.some.inj (z2.symm.trans hu')
            subst e8
            have hr1 := hsrc.2 (zs.toNat + (j' - zd.toNat)) u1 (by omega) y2
            obtain ⟨-, ka0⟩ := h00 ka qa a1
            obtain ⟨-, kb0⟩ := h00 k' qb b1
            obtain ⟨w3, y5, y6, y7, -⟩ := ka0 (zs.toNat + (j' - zd.toNat)) (by omega)
            obtain ⟨w4, z5, z6, z7, -⟩ := kb0 j' (by omega)
            have e9 : w3 = w1 := Option.some.inj (y5.symm.trans y1)
            have e10 : w4 = w2 := Option.some.inj (z5.symm.trans z1)
            subst e9; subst e10
            refine ⟨fun hz => hr1.1 ?_, fun hz => hr1.2 ?_⟩
            · rcases hkind with q | q
              · rw [← y3]; exact y6 (Or.inl q)
              · have := z7 (by rw [hkind2]; exact q)
                rw [z3, hz] at this; cases this
            · rcases hkind with q | q
              · have := z6 (Or.inl (by rw [hkind2]; exact q))
                rw [z3, hz] at this; cases this
              · rw [← y3]; exact y7 q
          · exact hold.2 j' u hj' hu'
      · have e : ∀ j' : Nat, ccp g ka kb zs.toNat zd.toNat zm.toNat k' j' = g k' j' := fun j' => by unfold ccp; rw [if_neg (fun z => hk z.1)]
        refine ⟨fun B hB c hc' j' q1 q2 q3 => ?_, fun j' u hj' hu' => ?_⟩
        · rw [e]; exact hold.1 B hB c hc' j' q1 q2 q3
        · rw [e]; exact hold.2 j' u hj' hu'
    refine a_nx hF hrec hInv (hFC _ _ _ _ _ _ _ _ hγ.2.2.2 hwa) hd h (Nat.le_refl _) (aag.rf _ _) (fun τ hτ => ?_) hγ.gl hr (hγ.2.1.imp (fun _ x => x.2.2))
    have hco := hγ.1 τ hτ
    refine ⟨hco.1, hco.2.1, fun x hx => ?_, hHA env fx mem gh g τ _ _ _ _ _ _ _ ka kb _ _ _ hco (hka2 τ hτ) (hkb2 τ hτ) hka1 hkb1 ((hzse τ hτ).trans es) ((hzde τ hτ).trans ed) ((hzme τ hτ).trans em)⟩
    obtain ⟨x1, x2⟩ := List.mem_filter.mp hx
    obtain ⟨k', j', v, y1, y2, y3, ⟨q, w, z1, z2, z3⟩, y5⟩ := hco.2.2.1 x x1
    have hkne : k' ≠ kb := by
      intro e
      subst e
      have e2 : x.1 = b.2.1 := Option.some.inj (y3.symm.trans hkb1)
      rw [xnb1 e2] at x2
      exact absurd (y1.trans (hkb2 τ hτ).symm) (ene_ok hco.1 x2)
    refine ⟨k', j', v, y1, y2, y3, ⟨q, w, z1, z2, ?_⟩, y5⟩
    unfold ccp
    rw [if_neg (fun z => hkne z.1)]
    exact z3
/-- what is known of a method that isn't walked into -/
def aSM (G : xG) (h0 : xheap) (n0 : Nat) (tyt : Lean.RArray (Nat × Nat)) (typs : Lean.RArray (Nat × aty)) (GS : gho → (Nat → Int) → cg → Prop) (FX : (Nat → Int) → Nat → cg → Prop) (SM : Nat → Nat → List av → List am → aenv → List ae → List gho → Nat → (Option av → List am → aenv → List ae → List gho → Nat → Bool) → Bool) : Prop :=
  ∀ (z dd : Nat) (args : List av) (mem : List am) (env : aenv) (fx : List ae) (gh : List gho) (ne : Nat) (k : Option av → List am → aenv → List ae → List gho → Nat → Bool), SM z dd args mem env fx gh ne k = true →
    ∀ (ρ : Nat → Int) (g : cg) (argc : List cv) (d : Nat), aC ne ρ (coR h0 tyt GS env fx mem gh g) → aC ne ρ (fun τ => stR tyt τ args argc) → aInv tyt typs g → FX ρ ne g → dd ≤ d →
      cT G h0 n0 z d 0 (carg 0 argc) [] g 0 0 (fun g' rv => ∃ (rva : Option av) (mem' : List am) (env' : aenv) (fx' : List ae) (gh' : List gho) (ne' : Nat) (ρ' : Nat → Int), k rva mem' env' fx' gh' ne' = true ∧ ne ≤ ne' ∧ aag ne ρ ρ' ∧ aC ne' ρ' (coR h0 tyt GS env' fx' mem' gh' g') ∧ aInv tyt typs g' ∧ FX ρ' ne' g' ∧ (match rva, rv with
        | none, none => True
        | some a, some v => aC ne' ρ' (fun τ => avR tyt τ a v)
        | _, _ => False))
theorem a_call_ok (hG : cW sv cd mi df el eb G) (hF : aFXm FX) (hrec : aSnd G h0 n0 cn0 sn0 Q tyt typs GS FX rec) (hc : cC cd y pc (ins, nx, tg, r1, r2)) (hγ : aGm h0 tyt typs GS FX ρ ls st fr mem env fx gh ne g lsc stc frc) (hd : dd ≤ d) {inst virt : Bool} (hmi : ∀ (y : Nat) (q : Nat × Nat × Nat × Nat × Nat × Nat), xg mi y = some q → cn0 y ≤ q.1 ∧ sn0 y ≤ q.2.1) (hmy : ∃ q, xg mi y = some q) (hvi : inst = true → virt = true) (he : ∀ (d : Nat) (rec : xF) (lx : List (Nat × xv)) (sx : List xv) (h : xheap), xex mi df el eb rec ins nx tg r1 r2 y d pc lx sx [] h n0 (cn0 y) (sn0 y) = x_call mi rec nx r1 y d lx sx [] h n0 (cn0 y) (sn0 y) inst virt) (hW : aWd h0 tyt typs) (hSM : aSM G h0 n0 tyt typs GS FX SM) (h : a_call typs mi inl SM rec nx r1 y dd ls st fr mem env fx gh ne inst = true) : cTF G h0 n0 cn0 sn0 Q frc y d pc lsc stc g := by
  unfold a_call at h
  cases hu : xg mi r1 with
  | none => rw [hu] at h; cases h
  | some u =>
    rw [hu] at h
    dsimp only at h
    cases hp : cpop (cond inst (u.2.2.1 + 1) u.2.2.1) [] st with
    | none => rw [hp] at h; cases h
    | some q =>
      rw [hp] at h
      dsimp only at h
      obtain ⟨qc, p1, -, -⟩ := cpop_R (tyt := tyt) (τ := ρ) _ (acc := []) (accc := []) trivial hγ.gs.self hp
      have pR : aC ne ρ (fun τ => stR tyt τ q.1 qc.1 ∧ stR tyt τ q.2 qc.2) := fun τ hτ => by
        obtain ⟨qc', p2, p3, p4⟩ := cpop_R (tyt := tyt) (τ := τ) _ (acc := []) (accc := []) trivial (hγ.gs τ hτ) hp
        have : qc' = qc := Option.some.inj (p2.symm.trans p1)
        rw [← this]
        exact ⟨p3, p4⟩
      obtain ⟨ac, rcc⟩ := qc
      obtain ⟨aa, ra⟩ := q
      have hgo : a_go mi inl SM rec nx y dd ls fr mem env fx gh ne r1 aa ra = true ∧ crcv h0 inst virt u.2.2.2.1 ac ∧ (ac = [] → inst = false) := by
        cases aa with
        | nil =>
          dsimp only at h
          have e := stR_nil (pR.self.1)
          have e : ac = [] := e
          cases hi : inst with
          | true => rw [hi] at h; cases h
          | false => rw [hi] at h; exact ⟨h, Or.inl rfl, fun _ => rfl⟩
        | cons w l =>
          dsimp only at h
          obtain ⟨h1, h2⟩ := xcnb h
          obtain ⟨v, m, e, hv, -⟩ := stR_cons pR.self.1
          have e : ac = v :: m := e
          subst e
          refine ⟨h2, ?_, fun z => by cases z⟩
          cases hi : inst with
          | false => exact Or.inl rfl
          | true =>
            rw [hi] at h1
            have h1 : arcv typs u.2.2.2.1 w = true := h1
            refine Or.inr ⟨v, m, rfl, ?_⟩
            unfold arcv at h1
            split at h1
            · rename_i hw4
              obtain ⟨k, e1, e2, e3⟩ := avR_ref hv hw4
              obtain ⟨q, T, w1, w2, w3, -⟩ := hW k _ e3
              rw [w2] at h1
              obtain ⟨l1, l2⟩ := xand h1
              exact Or.inl ⟨k, q, e1, w1, by rw [← w3]; exact xeqb l1, xltb l2⟩
            · rename_i hw6
              obtain ⟨l1, l2⟩ := xand h1
              have e1 := avR_ext hv hw6
              refine Or.inr ⟨hvi hi, ?_, xeqb l2⟩
              rcases xor2 l1 with q | q
              · left; rw [e1, xeqb q]; rfl
              · right; rw [e1, xeqb q]; rfl
            · cases h1
      obtain ⟨hgo, hrc, hie⟩ := hgo
      unfold a_go at hgo
      cases dd with
      | zero => cases hgo
      | succ d' =>
        dsimp only at hgo
        rw [hu] at hgo
        obtain ⟨k1, k2⟩ := xcnb hgo
        obtain ⟨k3, k4⟩ := xand k1
        obtain ⟨k5, k6⟩ := xand k3
        obtain ⟨k7, k8⟩ := xand k5
        obtain ⟨d2, rfl⟩ : ∃ d2, d = d2 + 1 := ⟨d - 1, by omega⟩
        obtain ⟨qy, hqy⟩ := hmy
        obtain ⟨m1, m2⟩ := hmi y qy hqy
        obtain ⟨m3, m4⟩ := hmi r1 u hu
        have z1 : cn0 r1 = 0 := by have := xeqb k6; omega
        have z2 : sn0 r1 = 0 := by have := xeqb k4; omega
        have hw8 : cwds rcc ≤ 8 := by rw [stR_wds pR.self.2]; exact xleb k7
        have hwa : cwds ac ≤ u.2.2.2.2.2 := by rw [stR_wds pR.self.1]; exact xleb k8
        have hR := pR.imp (fun _ x => x.2)
        have hA := pR.imp (fun _ x => x.1)
        have hfr := hγ.2.1.imp (fun _ x => x.2.2)
        cases hin : inl r1 with
        | true =>
          rw [hin] at k2
          refine cT_call (Q1 := cQ G h0 n0 cn0 sn0 Q ((y, nx, lsc, rcc) :: frc) d2) hG hc (he (d2 + 1)) hqy hu p1 hrc hw8 hwa (xeqb k6) (xeqb k4) m1 m2 hie ?_ (fun g1 rv h1 => h1)
          have := hrec _ _ _ _ _ _ _ _ _ _ _ k2 ρ g (carg 0 ac) [] ((y, nx, lsc, rcc) :: frc) d2 ⟨hγ.1, fun τ hτ => ⟨stR_arg 0 (hA τ hτ), trivial, rfl, rfl, hγ.gl τ hτ, hR τ hτ, hfr τ hτ⟩, hγ.2.2.1, hγ.2.2.2⟩ (by omega)
          unfold cTF at this
          rw [z1, z2] at this
          exact this
        | false =>
          rw [hin] at k2
          have hsum := hSM r1 d' aa mem env fx gh ne _ k2 ρ g ac d2 hγ.1 hA hγ.2.2.1 hγ.2.2.2 (by omega)
          refine cT_call hG hc (he (d2 + 1)) hqy hu p1 hrc hw8 hwa (xeqb k6) (xeqb k4) m1 m2 hie hsum (fun g1 rv h1 => ?_)
          obtain ⟨rva, mem', env', fx', gh', ne', ρ', q1, q2, q3, q4, q5, q6, q7⟩ := h1
          refine hrec _ _ _ _ _ _ _ _ _ _ _ q1 ρ' g1 lsc (cpsh rv rcc) frc (d2 + 1) ⟨q4, fun τ hτ => ⟨hγ.gl.mono q2 q3 τ hτ, ?_, hfr.mono q2 q3 τ hτ⟩, q5, q6⟩ (by omega)
          cases rva with
          | none =>
            cases rv with
            | none => exact hR.mono q2 q3 τ hτ
            | some v => exact q7.elim
          | some a =>
            cases rv with
            | none => exact q7.elim
            | some v => exact ⟨q7 τ hτ, hR.mono q2 q3 τ hτ⟩
/-- the end of the method that is checked -/
def aRT (h0 : xheap) (tyt : Lean.RArray (Nat × Nat)) (typs : Lean.RArray (Nat × aty)) (GS : gho → (Nat → Int) → cg → Prop) (FX : (Nat → Int) → Nat → cg → Prop) (Q : cg → Option cv → Prop) (RT : Option av → List am → aenv → List ae → List gho → Nat → Bool) : Prop :=
  ∀ (rva : Option av) (mem : List am) (env : aenv) (fx : List ae) (gh : List gho) (ne : Nat), RT rva mem env fx gh ne = true → ∀ (ρ : Nat → Int) (g : cg) (rv : Option cv), aC ne ρ (coR h0 tyt GS env fx mem gh g) → aInv tyt typs g → FX ρ ne g → (match rva, rv with
        | none, none => True
        | some a, some v => aC ne ρ (fun τ => avR tyt τ a v)
        | _, _ => False) → Q g rv
/-- an answer: to the frame below, or at the end -/
theorem a_retv (hF : aFXm FX) (hrec : aSnd G h0 n0 cn0 sn0 Q tyt typs GS FX rec) (hRT : aRT h0 tyt typs GS FX Q RT) (hγ : aGm h0 tyt typs GS FX ρ ls st fr mem env fx gh ne g lsc stc frc) (hd : dd ≤ d) {rva : Option av} {rv : Option cv} (hv : match rva, rv with
        | none, none => True
        | some a, some v => aC ne ρ (fun τ => avR tyt τ a v)
        | _, _ => False) (h : a_ret RT rec dd fr mem env fx gh ne rva = true) : cQ G h0 n0 cn0 sn0 Q frc d g rv := by
  have hfr := hγ.2.1.imp (fun _ x => x.2.2)
  unfold a_ret at h
  cases fr with
  | nil =>
    dsimp only at h
    cases frc with
    | cons _ _ => exact (hfr.self).elim
    | nil => exact hRT rva mem env fx gh ne h ρ g rv hγ.1 hγ.2.2.1 hγ.2.2.2 hv
  | cons q l =>
    dsimp only at h
    cases frc with
    | nil => exact (hfr.self).elim
    | cons qc lc =>
      obtain ⟨y', nx', ls', st'⟩ := qc
      obtain ⟨f1, f2, -, -, -⟩ := hfr.self
      have f1 : y' = q.1 := f1
      have f2 : nx' = q.2.1 := f2
      subst f1; subst f2
      refine hrec _ _ _ _ _ _ _ _ _ _ _ h ρ g ls' (cpsh rv st') lc (d + 1) ⟨hγ.1, fun τ hτ => ⟨(hfr τ hτ).2.2.1, ?_, (hfr τ hτ).2.2.2.2⟩, hγ.2.2.1, hγ.2.2.2⟩ (by omega)
      cases rva with
      | none =>
        cases rv with
        | none => exact (hfr τ hτ).2.2.2.1
        | some v => exact hv.elim
      | some a =>
        cases rv with
        | none => exact hv.elim
        | some v => exact ⟨hv τ hτ, (hfr τ hτ).2.2.2.1⟩
theorem a_vret_ok (hG : cW sv cd mi df el eb G) (hF : aFXm FX) (hrec : aSnd G h0 n0 cn0 sn0 Q tyt typs GS FX rec) (hγ : aGm h0 tyt typs GS FX ρ ls st fr mem env fx gh ne g lsc stc frc) (hd : dd ≤ d) (hRT : aRT h0 tyt typs GS FX Q RT) (hc : cC cd y pc (.return_, nx, tg, r1, r2)) (h : a_vret mi RT rec y dd st fr mem env fx gh ne = true) : cTF G h0 n0 cn0 sn0 Q frc y d pc lsc stc g := by
  unfold a_vret at h
  cases hq : xg mi y with
  | none => rw [hq] at h; cases h
  | some q =>
    rw [hq] at h
    dsimp only at h
    split at h
    · rename_i h0'
      have e := stR_nil hγ.gs.self
      subst e
      exact cT_ret hG hc hq h0' (a_retv (rva := none) (rv := none) hF hrec hRT hγ hd trivial h)
    · cases h
theorem a_iret_ok (hG : cW sv cd mi df el eb G) (hF : aFXm FX) (hrec : aSnd G h0 n0 cn0 sn0 Q tyt typs GS FX rec) (hγ : aGm h0 tyt typs GS FX ρ ls st fr mem env fx gh ne g lsc stc frc) (hd : dd ≤ d) (hRT : aRT h0 tyt typs GS FX Q RT) (hc : cC cd y pc (.ireturn, nx, tg, r1, r2)) (h : a_iret mi RT rec y dd st fr mem env fx gh ne = true) : cTF G h0 n0 cn0 sn0 Q frc y d pc lsc stc g := by
  unfold a_iret at h
  cases hq : xg mi y with
  | none => rw [hq] at h; cases h
  | some q =>
    rw [hq] at h
    dsimp only at h
    split at h
    · rename_i w
      obtain ⟨h1, h2⟩ := xcnb h
      obtain ⟨h3, h4⟩ := xand h1
      obtain ⟨v, rc, rfl, hv, hr⟩ := a_top hγ.gs
      have e := stR_nil hr.self
      subst e
      obtain ⟨z, rfl, hz, hze⟩ := a_int hv (xeqb h3)
      refine cT_iret hG hc hq ?_ (a_retv (rva := some w) (rv := some (0, z)) hF hrec hRT hγ hd hv h2)
      have rng : ∀ n : Int, n < 4294967295 → efit env fx w.2.2 0 n = true → c32 z = z.toNat ∧ z ≤ n := fun n hn hf => by
        have := efit_ok hγ.1.self.1 hγ.1.self.2.1 hf
        rw [hze.self] at this
        exact ⟨c32_nat this.1 (by omega), this.2⟩
      unfold arok at h4
      split at h4
      · rename_i e; rw [e]; rfl
      · rename_i e
        obtain ⟨r1', r2'⟩ := rng 1 (by omega) h4
        rw [e]
        show (Nat.beq 0 0 && Nat.ble (c32 z) 1) = true
        rw [r1', xle1 (by omega)]; rfl
      · rename_i e
        obtain ⟨r1', r2'⟩ := rng 65535 (by omega) h4
        rw [e]
        show (Nat.beq 0 0 && Nat.blt (c32 z) 65536) = true
        rw [r1', xlt1 (by omega)]; rfl
      · rename_i e
        obtain ⟨r1', r2'⟩ := rng 127 (by omega) h4
        rw [e]
        show (Nat.beq 0 0 && Nat.blt (c32 z) 128) = true
        rw [r1', xlt1 (by omega)]; rfl
      · cases h4
    · cases h
theorem a_lret_ok (hG : cW sv cd mi df el eb G) (hF : aFXm FX) (hrec : aSnd G h0 n0 cn0 sn0 Q tyt typs GS FX rec) (hγ : aGm h0 tyt typs GS FX ρ ls st fr mem env fx gh ne g lsc stc frc) (hd : dd ≤ d) (hRT : aRT h0 tyt typs GS FX Q RT) (hc : cC cd y pc (.lreturn, nx, tg, r1, r2)) (h : a_lret mi RT rec y dd st fr mem env fx gh ne = true) : cTF G h0 n0 cn0 sn0 Q frc y d pc lsc stc g := by
  unfold a_lret at h
  cases hq : xg mi y with
  | none => rw [hq] at h; cases h
  | some q =>
    rw [hq] at h
    dsimp only at h
    split at h
    · rename_i w
      obtain ⟨h1, h2⟩ := xcnb h
      obtain ⟨h3, h4⟩ := xand h1
      obtain ⟨v, rc, rfl, hv, hr⟩ := a_top hγ.gs
      have e := stR_nil hr.self
      subst e
      obtain ⟨z, rfl, hz, hze⟩ := a_lngv hv (xeqb h3)
      exact cT_lret hG hc hq (xeqb h4) rfl (a_retv (rva := some w) (rv := some (2, z)) hF hrec hRT hγ hd hv h2)
    · cases h
end Snd6
end
section
/-! One instruction, whichever it is; splits; runs -/
section Exe
variable (h0 : xheap) (tyt : Lean.RArray (Nat × Nat)) (typs : Lean.RArray (Nat × aty)) (HK : aenv → List ae → List am → List gho → Nat → ae → ae → Int × Int → Int × Int) (HS : aenv → List ae → List am → List gho → Nat → ae → ae → av → List gho) (WOK : aenv → List ae → Nat → ae → ae → Bool) (WOA : aenv → List ae → Nat → ae → Bool)
variable (HA : aenv → List ae → List am → List gho → Nat → ae → Nat → ae → ae → ae → ae → List gho)
variable (cd : xcd) (mi : xmi) (el : Nat → Nat) (eb : Nat → List Nat) (inl : Nat → Bool)
variable (SM : Nat → Nat → List av → List am → aenv → List ae → List gho → Nat → (Option av → List am → aenv → List ae → List gho → Nat → Bool) → Bool) (RT : Option av → List am → aenv → List ae → List gho → Nat → Bool)
variable (fl : Nat → Nat → Nat) (spl : Nat → Nat → Option (Nat × Nat × Nat × Nat × List Int)) (y0 : Nat) (ct : Nat → Bool) (CU : Nat → Nat → List (Nat × av) → List av → List am → aenv → List ae → List gho → Nat → Bool)
noncomputable def aexe (rec : aF) (ins : Instr) (nx tg r1 r2 y dd pc : Nat) (ls : List (Nat × av)) (st : List av) (fr : List afr) (mem : List am) (env : aenv) (fx : List ae) (gh : List gho) (ne : Nat) : Bool :=
  match ins with
  | .iconst _ => cond (Nat.blt r1 4294967296) (a_psh rec nx y dd ls st fr mem env fx gh ne (sI r1)) false
  | .bipush _ => cond (Nat.blt r1 4294967296) (a_psh rec nx y dd ls st fr mem env fx gh ne (sI r1)) false
  | .sipush _ => cond (Nat.blt r1 4294967296) (a_psh rec nx y dd ls st fr mem env fx gh ne (sI r1)) false
  | .ldc_w _ => cond (Nat.blt r1 4294967296) (a_psh rec nx y dd ls st fr mem env fx gh ne (sI r1)) false
  | .ldc _ => cond (Nat.beq r2 0) (cond (Nat.blt r1 4294967296) (a_psh rec nx y dd ls st fr mem env fx gh ne (sI r1)) false) (cond (Nat.beq r2 1) (rec y dd nx ls ((6, 1, (0, [])) :: st) fr mem env fx gh ne) (cond (Nat.beq r2 2) (rec y dd nx ls ((6, 3, (0, [])) :: st) fr mem env fx gh ne) false))
  | .lconst _ => cond (Nat.blt r1 18446744073709551616) (a_pshL rec nx y dd ls st fr mem env fx gh ne (sL r1)) false
  | .ldc2_w _ => cond (Nat.blt r1 18446744073709551616) (a_pshL rec nx y dd ls st fr mem env fx gh ne (sL r1)) false
  | .aconst_null => rec y dd nx ls ((5, 0, (0, [])) :: st) fr mem env fx gh ne
  | .iload _ => a_ld rec nx r1 y dd ls st fr mem env fx gh ne 0 0
  | .iload_n _ => a_ld rec nx r1 y dd ls st fr mem env fx gh ne 0 0
  | .lload _ => a_ld rec nx r1 y dd ls st fr mem env fx gh ne 1 1
  | .lload_n _ => a_ld rec nx r1 y dd ls st fr mem env fx gh ne 1 1
  | .aload _ => a_ld rec nx r1 y dd ls st fr mem env fx gh ne 2 3
  | .aload_n _ => a_ld rec nx r1 y dd ls st fr mem env fx gh ne 2 3
  | .istore _ => a_st rec nx r1 y dd ls st fr mem env fx gh ne 0 0 xk1
  | .istore_n _ => a_st rec nx r1 y dd ls st fr mem env fx gh ne 0 0 xk1
  | .lstore _ => a_st rec nx r1 y dd ls st fr mem env fx gh ne 1 1 xk2
  | .lstore_n _ => a_st rec nx r1 y dd ls st fr mem env fx gh ne 1 1 xk2
  | .astore _ => a_st rec nx r1 y dd ls st fr mem env fx gh ne 2 2 xk1
  | .astore_n _ => a_st rec nx r1 y dd ls st fr mem env fx gh ne 2 2 xk1
  | .iinc _ _ => a_inc rec nx r1 r2 y dd ls st fr mem env fx gh ne
  | .iadd => a_add rec nx y dd ls st fr mem env fx gh ne 0 (-2147483648) 2147483647 1
  | .isub => a_add rec nx y dd ls st fr mem env fx gh ne 0 (-2147483648) 2147483647 (-1)
  | .imul => a_mul rec nx y dd ls st fr mem env fx gh ne 0 (-2147483648) 2147483647
  | .idiv => a_div rec nx y dd ls st fr mem env fx gh ne 0 (-2147483648) 2147483647
  | .irem => a_rem rec nx y dd ls st fr mem env fx gh ne 0 (Nat.beq (fl y pc) 2)
  | .ineg => a_cnv rec nx y dd ls st fr mem env fx gh ne 0 0 (-2147483648) 2147483647 (-1)
  | .iand => a_bit rec nx y dd ls st fr mem env fx gh ne (fun x z => x &&& z) bdand (Nat.beq (fl y pc) 3)
  | .ior => a_bit rec nx y dd ls st fr mem env fx gh ne (fun x z => x ||| z) bdor false
  | .ishl => a_bit rec nx y dd ls st fr mem env fx gh ne (fun x z => x <<< (z &&& 31)) bdshl false
  | .ishr => a_bit rec nx y dd ls st fr mem env fx gh ne (fun x z => x >>> (z &&& 31)) bdshr false
  | .iushr => a_bit rec nx y dd ls st fr mem env fx gh ne (fun x z => (x.toUInt32 >>> (z.toUInt32 &&& Int32.toUInt32 31)).toInt32) bdful false
  | .ladd => a_add rec nx y dd ls st fr mem env fx gh ne 2 (-9223372036854775808) 9223372036854775807 1
  | .lsub => a_add rec nx y dd ls st fr mem env fx gh ne 2 (-9223372036854775808) 9223372036854775807 (-1)
  | .lmul => a_mul rec nx y dd ls st fr mem env fx gh ne 2 (-9223372036854775808) 9223372036854775807
  | .ldiv => a_div rec nx y dd ls st fr mem env fx gh ne 2 (-9223372036854775808) 9223372036854775807
  | .lrem => a_rem rec nx y dd ls st fr mem env fx gh ne 2 (Nat.beq (fl y pc) 2)
  | .land => a_lng rec nx y dd ls st fr mem env fx gh ne 2
  | .lor => a_lng rec nx y dd ls st fr mem env fx gh ne 2
  | .lshl => a_lng rec nx y dd ls st fr mem env fx gh ne 0
  | .lshr => a_lng rec nx y dd ls st fr mem env fx gh ne 0
  | .i2l => a_i2l rec nx y dd ls st fr mem env fx gh ne
  | .l2i => a_cnv rec nx y dd ls st fr mem env fx gh ne 2 0 (-2147483648) 2147483647 1
  | .i2b => a_cnv rec nx y dd ls st fr mem env fx gh ne 0 0 (-128) 127 1
  | .i2s => a_cnv rec nx y dd ls st fr mem env fx gh ne 0 0 (-32768) 32767 1
  | .i2c => a_cnv rec nx y dd ls st fr mem env fx gh ne 0 0 0 65535 1
  | .dup => a_dup rec nx y dd ls st fr mem env fx gh ne
  | .pop => a_pop rec nx y dd ls st fr mem env fx gh ne
  | .dup2 => a_dup2 rec nx y dd ls st fr mem env fx gh ne
  | .goto _ => rec y dd tg ls st fr mem env fx gh ne
  | .if_icmp o _ => a_icmp rec nx tg y dd ls st fr mem env fx gh ne (Nat.beq (fl y pc) 1) o
  | .ifCond o _ => a_if rec nx tg y dd ls st fr mem env fx gh ne (Nat.beq (fl y pc) 1) o
  | .ifnull _ => a_nul rec nx tg y dd ls st fr mem env fx gh ne true
  | .ifnonnull _ => a_nul rec nx tg y dd ls st fr mem env fx gh ne false
  | .lcmp => a_lcmp rec nx y dd ls st fr mem env fx gh ne
  | .tableswitch a b e f => a_tab rec y dd pc ls st fr mem env fx gh ne a b e f
  | .lookupswitch a b => a_lkp rec y dd pc ls st fr mem env fx gh ne a b
  | .getfield _ => a_get h0 typs HK rec nx r1 r2 y dd ls st fr mem env fx gh ne
  | .putfield _ => a_put typs HS WOK rec nx tg r1 r2 y dd ls st fr mem env fx gh ne
  | .getstatic _ => cond (Nat.beq r1 0) (rec y dd nx ls ((0, 0, (1, [])) :: st) fr mem env fx gh ne) (rec y dd nx ls ((10, 0, (0, [])) :: st) fr mem env fx gh ne)
  | .arraylength => a_len typs el rec nx y dd ls st fr mem env fx gh ne
  | .iaload => a_ald h0 typs HK el eb rec nx y dd ls st fr mem env fx gh ne 13
  | .laload => a_ald h0 typs HK el eb rec nx y dd ls st fr mem env fx gh ne 14
  | .baload => a_ald h0 typs HK el eb rec nx y dd ls st fr mem env fx gh ne 15
  | .aaload => a_ald h0 typs HK el eb rec nx y dd ls st fr mem env fx gh ne 20
  | .iastore => a_ast typs HS WOK rec nx y dd ls st fr mem env fx gh ne 13
  | .lastore => a_ast typs HS WOK rec nx y dd ls st fr mem env fx gh ne 14
  | .bastore => a_ast typs HS WOK rec nx y dd ls st fr mem env fx gh ne 15
  | .invokevirtual _ => a_call typs mi inl SM rec nx r1 y dd ls st fr mem env fx gh ne true
  | .invokestatic _ => cond (Nat.beq r2 8) (a_cpy typs WOA HA rec nx y dd ls st fr mem env fx gh ne) (a_call typs mi inl SM rec nx r1 y dd ls st fr mem env fx gh ne false)
  | .return_ => a_vret mi RT rec y dd st fr mem env fx gh ne
  | .ireturn => a_iret mi RT rec y dd st fr mem env fx gh ne
  | .lreturn => a_lret mi RT rec y dd st fr mem env fx gh ne
  | _ => false
/-- below, at, above each of the numbers -/
noncomputable def aspv (e : ae) (K : aenv → List ae → Bool) : List Int → aenv → List ae → Bool
  | [], env, fx => K env fx
  | q :: l, env, fx => efrc (eadc e (Int.neg q)) (fun x => cond (acnd .eq env fx x K) (cond (acnd .lt env fx x K) (acnd .gt env fx x (fun env fx => aspv e K l env fx)) false) false)
noncomputable def asp (y pc : Nat) (ls : List (Nat × av)) (mem : List am) (env : aenv) (fx : List ae) (gh : List gho) (ne : Nat) (K : List am → aenv → List ae → Nat → Bool) : Bool :=
  match spl y pc with
  | none => K mem env fx ne
  | some q => cond (Nat.beq q.1 0)
      (match alk ls q.2.1 with
        | none => false
        | some v => cond (Nat.beq v.1 0) (aspv v.2.2 (fun env fx => K mem env fx ne) q.2.2.2.2 env fx) false)
      (match xg tyt q.2.2.1 with
        | none => false
        | some t => match xg typs t with
          | none => false
          | some T => cond (Nat.beq t q.2.1 && Nat.blt q.2.2.2.1 T.2.1) (aload h0 typs HK t ((q.2.2.1 : Int), []) ((q.2.2.2.1 : Int), []) mem env fx gh ne (fun v mem env ne => cond (Nat.beq v.1 0) (aspv v.2.2 (fun env fx => K mem env fx ne) q.2.2.2.2 env fx) false)) false)
/-- the instruction at pc -/
noncomputable def aone (rec : aF) : aF := fun y dd pc ls st fr mem env fx gh ne =>
  match xg cd y with
  | none => false
  | some t => match xg t pc with
    | none => false
    | some e => asp h0 tyt typs HK spl y pc ls mem env fx gh ne (fun mem env fx ne => aexe h0 typs HK HS WOK WOA HA mi el eb inl SM RT fl rec e.1 e.2.1 e.2.2.1 e.2.2.2.1 e.2.2.2.2 y dd pc ls st fr mem env fx gh ne)
noncomputable def astp (rec : aF) : aF := fun y dd pc ls st fr mem env fx gh ne =>
  match fr with
  | [] => cond (cond (Nat.beq y y0) (ct pc) false) (CU dd pc ls st mem env fx gh ne) (aone h0 tyt typs HK HS WOK WOA HA cd mi el eb inl SM RT fl spl rec y dd pc ls st [] mem env fx gh ne)
  | q :: l => aone h0 tyt typs HK HS WOK WOA HA cd mi el eb inl SM RT fl spl rec y dd pc ls st (q :: l) mem env fx gh ne
noncomputable def arun (f : Nat) : aF := Nat.rec (motive := fun _ => aF) (fun _ _ _ _ _ _ _ _ _ _ _ => false) (fun _ r => astp h0 tyt typs HK HS WOK WOA HA cd mi el eb inl SM RT fl spl y0 ct CU r) f
end Exe
theorem aspv_ok {P : (Nat → Int) → Prop} (hP : ∃ ρ, P ρ) {e : ae} {K : aenv → List ae → Bool} {z : Int} (hz : ∀ ρ, P ρ → ev ρ e = z) : ∀ (l : List Int) (env : aenv) (fx : List ae), aspv e K l env fx = true → (∀ ρ, P ρ → envR env ρ ∧ fxR fx ρ) → ∃ env' fx', K env' fx' = true ∧ ∀ ρ, P ρ → envR env' ρ ∧ fxR fx' ρ
  | [], env, fx, h, hR => ⟨env, fx, h, hR⟩
  | q :: l, env, fx, h, hR => by
    unfold aspv at h
    rw [efrc_eq] at h
    obtain ⟨h1, h2⟩ := xcnb h
    obtain ⟨h3, h4⟩ := xcnb h2
    have hev : ∀ ρ, P ρ → ev ρ (eadc e (Int.neg q)) = z - q := fun ρ p => by rw [eadc_ev, hz ρ p]; show z + -q = _; omega
    have go : ∀ (o : Jvm.ClassFile.Cond) (k : aenv → List ae → Bool), crel o (z - q) 0 = true → acnd o env fx (eadc e (Int.neg q)) k = true → ∃ env' fx', k env' fx' = true ∧ ∀ ρ, P ρ → envR env' ρ ∧ fxR fx' ρ := fun o k m1 m2 => acnd_ok hP m2 (fun ρ p => ⟨(hR ρ p).1, (hR ρ p).2, by rw [hev ρ p]; exact m1⟩)
    by_cases e1 : z = q
    · exact go .eq K (decide_eq_true (by omega)) h1
    · by_cases e2 : z < q
      · exact go .lt K (decide_eq_true (by omega)) h3
      · obtain ⟨env', fx', m1, m2⟩ := go .gt _ (decide_eq_true (by omega)) h4
        exact aspv_ok hP hz l env' fx' m1 m2
end
section
/-! Every instruction is right; so are the runs -/
section Snd7
variable {sv : Nat → Int32} {cd : xcd} {mi : xmi} {df : xdf} {el : Nat → Nat} {eb : Nat → List Nat} {G : xG} {h0 : xheap} {n0 : Nat} {cn0 sn0 : Nat → Nat} {Q : cg → Option cv → Prop}
variable {tyt : Lean.RArray (Nat × Nat)} {typs : Lean.RArray (Nat × aty)} {GS : gho → (Nat → Int) → cg → Prop} {FX : (Nat → Int) → Nat → cg → Prop} {wc : Nat → Nat → Prop}
variable {HK : aenv → List ae → List am → List gho → Nat → ae → ae → Int × Int → Int × Int} {HS : aenv → List ae → List am → List gho → Nat → ae → ae → av → List gho} {WOK : aenv → List ae → Nat → ae → ae → Bool} {WOA : aenv → List ae → Nat → ae → Bool} {HA : aenv → List ae → List am → List gho → Nat → ae → Nat → ae → ae → ae → ae → List gho} {inl : Nat → Bool}
variable {SM : Nat → Nat → List av → List am → aenv → List ae → List gho → Nat → (Option av → List am → aenv → List ae → List gho → Nat → Bool) → Bool} {RT : Option av → List am → aenv → List ae → List gho → Nat → Bool}
variable {fl : Nat → Nat → Nat} {spl : Nat → Nat → Option (Nat × Nat × Nat × Nat × List Int)} {ct : Nat → Bool} {CU : Nat → Nat → List (Nat × av) → List av → List am → aenv → List ae → List gho → Nat → Bool}
variable {rec : aF} {y d dd pc nx tg r1 r2 : Nat} {ins : Instr} {ls : List (Nat × av)} {st : List av} {fr : List afr} {mem : List am} {env : aenv} {fx : List ae} {gh : List gho} {ne : Nat} {ρ : Nat → Int} {g : cg} {lsc : List (Nat × cv)} {stc : List cv} {frc : List cfr}
/-- all that is asked of the tables, the ghosts, the writes -/
def aOK (sv : Nat → Int32) (cd : xcd) (mi : xmi) (df : xdf) (el : Nat → Nat) (eb : Nat → List Nat) (G : xG) (h0 : xheap) (n0 : Nat) (cn0 sn0 : Nat → Nat) (Q : cg → Option cv → Prop) (tyt : Lean.RArray (Nat × Nat)) (typs : Lean.RArray (Nat × aty)) (GS : gho → (Nat → Int) → cg → Prop) (FX : (Nat → Int) → Nat → cg → Prop) (wc : Nat → Nat → Prop)
    (HK : aenv → List ae → List am → List gho → Nat → ae → ae → Int × Int → Int × Int) (HS : aenv → List ae → List am → List gho → Nat → ae → ae → av → List gho) (WOK : aenv → List ae → Nat → ae → ae → Bool) (WOA : aenv → List ae → Nat → ae → Bool) (HA : aenv → List ae → List am → List gho → Nat → ae → Nat → ae → ae → ae → ae → List gho)
    (SM : Nat → Nat → List av → List am → aenv → List ae → List gho → Nat → (Option av → List am → aenv → List ae → List gho → Nat → Bool) → Bool) (RT : Option av → List am → aenv → List ae → List gho → Nat → Bool) : Prop :=
  cW sv cd mi df el eb G ∧ aFXm FX ∧ (∀ (ρ : Nat → Int) (ne : Nat) (g : cg) (k j : Nat) (z : Int), FX ρ ne g → wc k j → FX ρ ne (cup g k j z)) ∧ (∀ (ρ : Nat → Int) (ne : Nat) (g : cg) (ka kb s d n : Nat), FX ρ ne g → (∀ j, wc kb j) → FX ρ ne (ccp g ka kb s d n)) ∧ cH0 h0 ∧ aWd h0 tyt typs ∧ aGS0 sv el GS ∧ aHK h0 tyt GS HK ∧ aHS h0 tyt GS HS ∧ aWOK tyt WOK wc ∧ aHA h0 tyt GS HA ∧ aWOA tyt WOA wc ∧ aSM G h0 n0 tyt typs GS FX SM ∧ aRT h0 tyt typs GS FX Q RT ∧ (∀ (y : Nat) (q : Nat × Nat × Nat × Nat × Nat × Nat), xg mi y = some q → cn0 y ≤ q.1 ∧ sn0 y ≤ q.2.1) ∧ (∀ y t, xg cd y = some t → ∃ q, xg mi y = some q)
set_option maxHeartbeats 4000000 in
theorem aexe_ok (hOK : aOK sv cd mi df el eb G h0 n0 cn0 sn0 Q tyt typs GS FX wc HK HS WOK WOA HA SM RT) (hrec : aSnd G h0 n0 cn0 sn0 Q tyt typs GS FX rec) (hc : cC cd y pc (ins, nx, tg, r1, r2)) (hγ : aGm h0 tyt typs GS FX ρ ls st fr mem env fx gh ne g lsc stc frc) (hd : dd ≤ d)
    (h : aexe h0 typs HK HS WOK WOA HA mi el eb inl SM RT fl rec ins nx tg r1 r2 y dd pc ls st fr mem env fx gh ne = true) : cTF G h0 n0 cn0 sn0 Q frc y d pc lsc stc g := by
  obtain ⟨hG, hF, hFS, hFC, h00, hW, hGS, hHK, hHS, hWO, hHA, hWA, hSM, hRT, hmi, hmy⟩ := hOK
  have hy : ∃ q, xg mi y = some q := by obtain ⟨t, t1, -⟩ := hc; exact hmy y t t1
  have psh : ∀ {i : Instr}, cC cd y pc (i, nx, tg, r1, r2) → (∀ (rec : xF) (lx : List (Nat × xv)) (sx : List xv) (h : xheap), xex mi df el eb rec i nx tg r1 r2 y d pc lx sx [] h n0 (cn0 y) (sn0 y) = rec y d nx lx ((0, r1) :: sx) [] h n0 (cn0 y) (sn0 y)) → cond (Nat.blt r1 4294967296) (a_psh rec nx y dd ls st fr mem env fx gh ne (sI r1)) false = true → cTF G h0 n0 cn0 sn0 Q frc y d pc lsc stc g := fun hc he h => by
    obtain ⟨h1, h2⟩ := xcnb h
    exact a_psh_ok hG hF hrec hc hγ hd he (xltb h1) h2
  have pshL : ∀ {i : Instr}, cC cd y pc (i, nx, tg, r1, r2) → (∀ (rec : xF) (lx : List (Nat × xv)) (sx : List xv) (h : xheap), xex mi df el eb rec i nx tg r1 r2 y d pc lx sx [] h n0 (cn0 y) (sn0 y) = rec y d nx lx ((2, r1) :: sx) [] h n0 (cn0 y) (sn0 y)) → cond (Nat.blt r1 18446744073709551616) (a_pshL rec nx y dd ls st fr mem env fx gh ne (sL r1)) false = true → cTF G h0 n0 cn0 sn0 Q frc y d pc lsc stc g := fun hc he h => by
    obtain ⟨h1, h2⟩ := xcnb h
    exact a_pshL_ok hG hF hrec hc hγ hd he (xltb h1) h2
  cases ins with
  | iconst k => exact psh hc (fun _ _ _ _ => rfl) h
  | bipush k => exact psh hc (fun _ _ _ _ => rfl) h
  | sipush k => exact psh hc (fun _ _ _ _ => rfl) h
  | ldc_w k => exact psh hc (fun _ _ _ _ => rfl) h
  | lconst k => exact pshL hc (fun _ _ _ _ => rfl) h
  | ldc2_w k => exact pshL hc (fun _ _ _ _ => rfl) h
  | ldc k =>
    have h : cond (Nat.beq r2 0) (cond (Nat.blt r1 4294967296) (a_psh rec nx y dd ls st fr mem env fx gh ne (sI r1)) false) (cond (Nat.beq r2 1) (rec y dd nx ls ((6, 1, (0, [])) :: st) fr mem env fx gh ne) (cond (Nat.beq r2 2) (rec y dd nx ls ((6, 3, (0, [])) :: st) fr mem env fx gh ne) false)) = true := h
    have hx : ∀ (rec : xF) (lx : List (Nat × xv)) (sx : List xv) (h : xheap), xex mi df el eb rec (.ldc k) nx tg r1 r2 y d pc lx sx [] h n0 (cn0 y) (sn0 y) = cond (Nat.beq r2 0) (rec y d nx lx ((0, r1) :: sx) [] h n0 (cn0 y) (sn0 y)) (cond (Nat.beq r2 1) (rec y d nx lx ((6, 1) :: sx) [] h n0 (cn0 y) (sn0 y)) (cond (Nat.beq r2 2) (rec y d nx lx ((6, 3) :: sx) [] h n0 (cn0 y) (sn0 y)) none)) := fun _ _ _ _ => rfl
    cases h0' : Nat.beq r2 0 with
    | true =>
      rw [h0'] at h
      exact psh hc (fun rec lx sx hp => by rw [hx, h0']; rfl) h
    | false =>
      rw [h0'] at h
      simp only [cond_false] at h
      cases h1' : Nat.beq r2 1 with
      | true =>
        rw [h1'] at h
        exact a_pshV_ok (a := (6, 1, (0, []))) (v := (6, 1)) hG hF hrec hc hγ hd (fun _ => rfl) (fun rec lx sx hp => by rw [hx, h0', h1']; rfl) h
      | false =>
        rw [h1'] at h
        simp only [cond_false] at h
        obtain ⟨h2', h⟩ := xcnb h
        exact a_pshV_ok (a := (6, 3, (0, []))) (v := (6, 3)) hG hF hrec hc hγ hd (fun _ => rfl) (fun rec lx sx hp => by rw [hx, h0', h1', h2']; rfl) h
  | aconst_null => exact a_pshV_ok (a := (5, 0, (0, []))) (v := (5, 0)) hG hF hrec hc hγ hd (fun _ => rfl) (fun _ _ _ _ => rfl) h
  | iload i => exact a_ld_ok hG hF hrec hc hγ hd (by decide) (by decide) (fun _ _ _ _ => rfl) h
  | iload_n i => exact a_ld_ok hG hF hrec hc hγ hd (by decide) (by decide) (fun _ _ _ _ => rfl) h
  | lload i => exact a_ld_ok hG hF hrec hc hγ hd (by decide) (by decide) (fun _ _ _ _ => rfl) h
  | lload_n i => exact a_ld_ok hG hF hrec hc hγ hd (by decide) (by decide) (fun _ _ _ _ => rfl) h
  | aload i => exact a_ld_ok hG hF hrec hc hγ hd (by decide) (by decide) (fun _ _ _ _ => rfl) h
  | aload_n i => exact a_ld_ok hG hF hrec hc hγ hd (by decide) (by decide) (fun _ _ _ _ => rfl) h
  | istore i => exact a_st_ok hG hF hrec hc hγ hd (by decide) (by decide) xk1_0 xk1_kd (fun _ _ _ _ => rfl) h
  | istore_n i => exact a_st_ok hG hF hrec hc hγ hd (by decide) (by decide) xk1_0 xk1_kd (fun _ _ _ _ => rfl) h
  | lstore i => exact a_st_ok hG hF hrec hc hγ hd (by decide) (by decide) xk2_0 xk2_kd (fun _ _ _ _ => rfl) h
  | lstore_n i => exact a_st_ok hG hF hrec hc hγ hd (by decide) (by decide) xk2_0 xk2_kd (fun _ _ _ _ => rfl) h
  | astore i => exact a_st_ok hG hF hrec hc hγ hd (by decide) (by decide) xk1_0 xk1_kd (fun _ _ _ _ => rfl) h
  | astore_n i => exact a_st_ok hG hF hrec hc hγ hd (by decide) (by decide) xk1_0 xk1_kd (fun _ _ _ _ => rfl) h
  | iinc i z => exact a_inc_ok hG hF hrec hγ hd hc h
  | iadd => exact a_addI_ok (F := fun x z => x + z) hG hF hrec hc hγ hd (fun _ _ _ _ => rfl) (fun a b => by rw [x32, nI_add]) (fun a b => by rw [i32_add, Int.one_mul]) h
  | isub => exact a_addI_ok (F := fun x z => x - z) hG hF hrec hc hγ hd (fun _ _ _ _ => rfl) (fun a b => nI_sub a b) (fun a b => by rw [i32_sub]; congr 1; omega) h
  | imul => exact a_mulI_ok hG hF hrec hγ hd hc h
  | idiv => exact a_divI_ok hG hF hrec hγ hd hc h
  | irem => exact a_remI_ok hG hF hrec hγ hd hc h
  | ineg => exact a_cnvI_ok (F := fun x => -x) hG hF hrec hc hγ hd (fun _ _ _ _ => rfl) (fun a => nI_xnu _) (fun X => by have := cI_of (-X); unfold cI at this; omega) (fun x hx b1 b2 => by rw [i32_neg, i32_int (by unfold cI; omega)]; omega) h
  | iand => exact a_bit_ok (F := fun x z => x &&& z) hG hF hrec hc hγ hd (fun _ _ _ _ => rfl) (fun a b => nI_xnu _) bdand_ok (fun _ x z hx hz z0 => (iand_r (i32 x) hz z0).2) h
  | ior => exact a_bit_ok (F := fun x z => x ||| z) hG hF hrec hc hγ hd (fun _ _ _ _ => rfl) (fun a b => nI_xnu _) bdor_ok (fun z => by cases z) h
  | ishl => exact a_bit_ok (F := fun x z => x <<< (z &&& 31)) hG hF hrec hc hγ hd (fun _ _ _ _ => rfl) (fun a b => nI_xnu _) bdshl_ok (fun z => by cases z) h
  | ishr => exact a_bit_ok (F := fun x z => x >>> (z &&& 31)) hG hF hrec hc hγ hd (fun _ _ _ _ => rfl) (fun a b => nI_xnu _) bdshr_ok (fun z => by cases z) h
  | iushr => exact a_bit_ok (F := fun x z => (x.toUInt32 >>> (z.toUInt32 &&& Int32.toUInt32 31)).toInt32) hG hF hrec hc hγ hd (fun _ _ _ _ => rfl) (fun a b => nI_xnu _) (fun x z ia ib _ _ _ _ _ _ => bdful_ok _ ia ib) (fun z => by cases z) h
  | ladd => exact a_addL_ok (F := fun x z => x + z) hG hF hrec hc hγ hd (fun _ _ _ _ => rfl) (fun a b => lN_xnl _) (fun a b => by rw [i64_add, Int.one_mul]) h
  | lsub => exact a_addL_ok (F := fun x z => x - z) hG hF hrec hc hγ hd (fun _ _ _ _ => rfl) (fun a b => lN_xnl _) (fun a b => by rw [i64_sub]; congr 1; omega) h
  | lmul => exact a_mulL_ok hG hF hrec hγ hd hc h
  | ldiv => exact a_divL_ok hG hF hrec hγ hd hc h
  | lrem => exact a_remL_ok hG hF hrec hγ hd hc h
  | land => exact a_lngB_ok (F := fun x z => x &&& z) hG hF hrec hc hγ hd (fun _ _ _ _ => rfl) (fun a b => lN_xnl _) h
  | lor => exact a_lngB_ok (F := fun x z => x ||| z) hG hF hrec hc hγ hd (fun _ _ _ _ => rfl) (fun a b => lN_xnl _) h
  | lshl => exact a_lngS_ok (F := fun x z => x <<< (z.toInt64 &&& 63)) hG hF hrec hc hγ hd (fun _ _ _ _ => rfl) (fun a b => lN_xnl _) h
  | lshr => exact a_lngS_ok (F := fun x z => x >>> (z.toInt64 &&& 63)) hG hF hrec hc hγ hd (fun _ _ _ _ => rfl) (fun a b => lN_xnl _) h
  | i2l => exact a_i2l_ok hG hF hrec hγ hd hc h
  | l2i => exact a_l2i_ok hG hF hrec hγ hd hc h
  | i2b => exact a_cnvI_ok (F := fun x => x.toInt8.toInt32) hG hF hrec hc hγ hd (fun _ _ _ _ => rfl) (fun a => nI_xnu _) i2b_in (fun x hx b1 b2 => by rw [Int.one_mul] at b1 b2 ⊢; exact i2b_id b1 b2) h
  | i2s => exact a_cnvI_ok (F := fun x => x.toInt16.toInt32) hG hF hrec hc hγ hd (fun _ _ _ _ => rfl) (fun a => nI_xnu _) i2s_in (fun x hx b1 b2 => by rw [Int.one_mul] at b1 b2 ⊢; exact i2s_id b1 b2) h
  | i2c => exact a_cnvI_ok (F := fun x => (x.toUInt32 % 65536).toInt32) hG hF hrec hc hγ hd (fun _ _ _ _ => rfl) (fun a => (nI_c65 a).symm) i2c_in (fun x hx b1 b2 => by rw [Int.one_mul] at b1 b2 ⊢; exact i2c_id b1 b2) h
  | dup => exact a_dup_ok hG hF hrec hγ hd hc h
  | pop => exact a_pop_ok hG hF hrec hγ hd hc h
  | dup2 => exact a_dup2_ok hG hF hrec hγ hd hc h
  | goto o => exact a_goto_ok hG hF hrec hγ hd hc h
  | if_icmp o w => exact a_icmp_ok hG hF hrec hγ hd hc h
  | ifCond o w => exact a_if_ok hG hF hrec hγ hd hc h
  | ifnull o => exact a_nul_ok hG hF hrec hc hγ hd (fun _ _ _ _ => rfl) h
  | ifnonnull o => exact a_nul_ok hG hF hrec hc hγ hd (fun _ _ _ _ => rfl) h
  | lcmp => exact a_lcmp_ok hG hF hrec hγ hd hc h
  | tableswitch a b e f => exact a_tab_ok hG hF hrec hγ hd hc h
  | lookupswitch a b => exact a_lkp_ok hG hF hrec hγ hd hc h
  | getfield i => exact a_get_ok hG hF hrec hγ hd hW hHK hc h
  | putfield i => exact a_put_ok hG hF hrec hγ hd hFS hW hHS hWO hc h
  | getstatic i =>
    have h : cond (Nat.beq r1 0) (rec y dd nx ls ((0, 0, (1, [])) :: st) fr mem env fx gh ne) (rec y dd nx ls ((10, 0, (0, [])) :: st) fr mem env fx gh ne) = true := h
    have hx : ∀ (rec : xF) (lx : List (Nat × xv)) (sx : List xv) (h : xheap), xex mi df el eb rec (.getstatic i) nx tg r1 r2 y d pc lx sx [] h n0 (cn0 y) (sn0 y) = cond (Nat.beq r1 0) (rec y d nx lx ((0, 1) :: sx) [] h n0 (cn0 y) (sn0 y)) (rec y d nx lx ((10, 0) :: sx) [] h n0 (cn0 y) (sn0 y)) := fun _ _ _ _ => rfl
    cases h0' : Nat.beq r1 0 with
    | true =>
      rw [h0'] at h
      exact a_pshV_ok (v := (0, 1)) hG hF hrec hc hγ hd (fun τ => avR_mk0 (by unfold cI; omega) τ _ (evc τ 1)) (fun rec lx sx hp => by rw [hx, h0']; rfl) h
    | false =>
      rw [h0'] at h
      exact a_pshV_ok (a := (10, 0, (0, []))) (v := (10, 0)) hG hF hrec hc hγ hd (fun _ => rfl) (fun rec lx sx hp => by rw [hx, h0']; rfl) h
  | arraylength => exact a_len_ok hG hF hrec hγ hd hGS hW hc h
  | iaload => exact a_ald_ok hG hF hrec hc hγ hd (fun _ _ _ _ => rfl) (fun _ => rfl) (fun z => by cases z) hGS hW hHK h
  | laload => exact a_ald_ok hG hF hrec hc hγ hd (fun _ _ _ _ => rfl) (fun z => by cases z) (fun z => by cases z) hGS hW hHK h
  | baload => exact a_ald_ok hG hF hrec hc hγ hd (fun _ _ _ _ => rfl) (fun z => by cases z) (fun _ => rfl) hGS hW hHK h
  | aaload => exact a_ald_ok hG hF hrec hc hγ hd (fun _ _ _ _ => rfl) (fun z => by cases z) (fun z => by cases z) hGS hW hHK h
  | iastore => exact a_ast_ok hG hF hrec hc hγ hd (fun _ _ _ _ => rfl) (Or.inl rfl) hFS hW hHS hWO h
  | lastore => exact a_ast_ok hG hF hrec hc hγ hd (fun _ _ _ _ => rfl) (Or.inr (Or.inl rfl)) hFS hW hHS hWO h
  | bastore => exact a_ast_ok hG hF hrec hc hγ hd (fun _ _ _ _ => rfl) (Or.inr (Or.inr rfl)) hFS hW hHS hWO h
  | invokevirtual i => exact a_call_ok (virt := true) hG hF hrec hc hγ hd hmi hy (fun _ => rfl) (fun _ _ _ _ _ => rfl) hW hSM h
  | invokestatic i =>
    have h : cond (Nat.beq r2 8) (a_cpy typs WOA HA rec nx y dd ls st fr mem env fx gh ne) (a_call typs mi inl SM rec nx r1 y dd ls st fr mem env fx gh ne false) = true := h
    have hx : ∀ (d : Nat) (rec : xF) (lx : List (Nat × xv)) (sx : List xv) (h : xheap), xex mi df el eb rec (.invokestatic i) nx tg r1 r2 y d pc lx sx [] h n0 (cn0 y) (sn0 y) = cond (Nat.beq r2 8) (x_cpy rec nx y d lx sx [] h n0 (cn0 y) (sn0 y)) (x_call mi rec nx r1 y d lx sx [] h n0 (cn0 y) (sn0 y) false false) := fun _ _ _ _ _ => rfl
    cases h8 : Nat.beq r2 8 with
    | true =>
      rw [h8] at h
      exact a_cpy_ok hG hF hrec hγ hd h00 hFC hW hHA hWA hc (xeqb h8) h
    | false =>
      rw [h8] at h
      exact a_call_ok (virt := false) hG hF hrec hc hγ hd hmi hy (fun z => by cases z) (fun d rec lx sx hp => by rw [hx, h8]; rfl) hW hSM h
  | return_ => exact a_vret_ok hG hF hrec hγ hd hRT hc h
  | ireturn => exact a_iret_ok hG hF hrec hγ hd hRT hc h
  | lreturn => exact a_lret_ok hG hF hrec hγ hd hRT hc h
  | _ => cases h
theorem asp_ok (hOK : aOK sv cd mi df el eb G h0 n0 cn0 sn0 Q tyt typs GS FX wc HK HS WOK WOA HA SM RT) (hγ : aGm h0 tyt typs GS FX ρ ls st fr mem env fx gh ne g lsc stc frc) {K : List am → aenv → List ae → Nat → Bool} (h : asp h0 tyt typs HK spl y pc ls mem env fx gh ne K = true) :
    ∃ mem' env' fx' ne' ρ', K mem' env' fx' ne' = true ∧ aGm h0 tyt typs GS FX ρ' ls st fr mem' env' fx' gh ne' g lsc stc frc := by
  obtain ⟨hG, hF, hFS, hFC, h00, hW, hGS, hHK, -⟩ := hOK
  unfold asp at h
  cases hs : spl y pc with
  | none => rw [hs] at h; exact ⟨mem, env, fx, ne, ρ, h, hγ⟩
  | some q =>
    rw [hs] at h
    dsimp only at h
    cases hq : Nat.beq q.1 0 with
    | true =>
      rw [hq] at h
      simp only [cond_true] at h
      cases ha : alk ls q.2.1 with
      | none => rw [ha] at h; cases h
      | some v =>
        rw [ha] at h
        obtain ⟨g1, g2⟩ := xcnb h
        obtain ⟨vc, e1, e2⟩ := lsR_lk hγ.gl.self ha
        have hv : aC ne ρ (fun τ => avR tyt τ v vc) := fun τ hτ => by
          obtain ⟨v', e3, e4⟩ := lsR_lk (hγ.gl τ hτ) ha
          have : v' = vc := Option.some.inj (e3.symm.trans e1)
          rw [← this]; exact e4
        obtain ⟨z, -, -, hze⟩ := a_int hv (xeqb g1)
        obtain ⟨env', fx', k1, k2⟩ := aspv_ok (P := aag ne ρ) ⟨ρ, aag.rf ne ρ⟩ hze _ _ _ g2 (fun τ hτ => ⟨(hγ.1 τ hτ).1, (hγ.1 τ hτ).2.1⟩)
        exact ⟨mem, env', fx', ne, ρ, k1, fun τ hτ => coR_env (hγ.1 τ hτ) (k2 τ hτ).1 (k2 τ hτ).2, hγ.2⟩
    | false =>
      rw [hq] at h
      simp only [cond_false] at h
      cases ht : xg tyt q.2.2.1 with
      | none => rw [ht] at h; cases h
      | some t =>
        rw [ht] at h
        dsimp only at h
        obtain ⟨qc, T, w1, w2, w3, w4, w5, w6, w7, w8⟩ := hW _ _ ht
        rw [w2] at h
        obtain ⟨g1, g2⟩ := xcnb h
        obtain ⟨g3, g4⟩ := xand g1
        have hj : q.2.2.2.1 < qc.2.1 := by rw [← w4]; exact xltb g4
        obtain ⟨ww, u, u1, u2, u3, u4⟩ := w8 _ hj
        obtain ⟨v, mem', env', ne', ρ', h1, h2, h3, h4, h5⟩ := aload_ok hW hHK hγ.2.2.1 hγ.1 (fun τ hτ => ⟨evc τ _, evc τ _⟩) ht ⟨qc, ww, w1, u1, rfl⟩ w1 hj g2
        obtain ⟨k0, k1⟩ := xcnb h1
        obtain ⟨z, -, -, hze⟩ := a_int h5 (xeqb k0)
        obtain ⟨env2, fx2, k2, k3⟩ := aspv_ok (P := aag ne' ρ') ⟨ρ', aag.rf ne' ρ'⟩ hze _ _ _ k1 (fun τ hτ => ⟨(h4 τ hτ).1, (h4 τ hτ).2.1⟩)
        exact ⟨mem', env2, fx2, ne', ρ', k2, fun τ hτ => coR_env (h4 τ hτ) (k3 τ hτ).1 (k3 τ hτ).2, hγ.2.1.mono h2 h3, hγ.2.2.1, hF _ _ _ _ _ hγ.2.2.2 h2 h3⟩
theorem aone_ok (hOK : aOK sv cd mi df el eb G h0 n0 cn0 sn0 Q tyt typs GS FX wc HK HS WOK WOA HA SM RT) (hrec : aSnd G h0 n0 cn0 sn0 Q tyt typs GS FX rec) : aSnd G h0 n0 cn0 sn0 Q tyt typs GS FX (aone h0 tyt typs HK HS WOK WOA HA cd mi el eb inl SM RT fl spl rec) := by
  intro y dd pc ls st fr mem env fx gh ne h ρ g lsc stc frc d hγ hd
  unfold aone at h
  cases ht : xg cd y with
  | none => rw [ht] at h; cases h
  | some t =>
    rw [ht] at h
    dsimp only at h
    cases he : xg t pc with
    | none => rw [he] at h; cases h
    | some e =>
      rw [he] at h
      dsimp only at h
      obtain ⟨mem', env', fx', ne', ρ', h1, h2⟩ := asp_ok hOK hγ h
      exact aexe_ok hOK hrec ⟨t, ht, he⟩ h2 hd h1
/-- where the runs are cut -/
def aCU (G : xG) (h0 : xheap) (n0 : Nat) (cn0 sn0 : Nat → Nat) (Q : cg → Option cv → Prop) (tyt : Lean.RArray (Nat × Nat)) (typs : Lean.RArray (Nat × aty)) (GS : gho → (Nat → Int) → cg → Prop) (FX : (Nat → Int) → Nat → cg → Prop) (y0 : Nat) (ct : Nat → Bool) (CU : Nat → Nat → List (Nat × av) → List av → List am → aenv → List ae → List gho → Nat → Bool) : Prop :=
  ∀ (y dd pc : Nat) (ls : List (Nat × av)) (st : List av) (mem : List am) (env : aenv) (fx : List ae) (gh : List gho) (ne : Nat), ct pc = true → CU dd pc ls st mem env fx gh ne = true → ∀ (ρ : Nat → Int) (g : cg) (lsc : List (Nat × cv)) (stc : List cv) (d : Nat), aGm h0 tyt typs GS FX ρ ls st [] mem env fx gh ne g lsc stc [] → dd ≤ d → y = y0 → cTF G h0 n0 cn0 sn0 Q [] y d pc lsc stc g
theorem astp_ok {y0 : Nat} (hOK : aOK sv cd mi df el eb G h0 n0 cn0 sn0 Q tyt typs GS FX wc HK HS WOK WOA HA SM RT) (hCU : aCU G h0 n0 cn0 sn0 Q tyt typs GS FX y0 ct CU) (hrec : aSnd G h0 n0 cn0 sn0 Q tyt typs GS FX rec) : aSnd G h0 n0 cn0 sn0 Q tyt typs GS FX (astp h0 tyt typs HK HS WOK WOA HA cd mi el eb inl SM RT fl spl y0 ct CU rec) := by
  intro y dd pc ls st fr mem env fx gh ne h ρ g lsc stc frc d hγ hd
  unfold astp at h
  cases fr with
  | cons q l => exact aone_ok hOK hrec _ _ _ _ _ _ _ _ _ _ _ h ρ g lsc stc frc d hγ hd
  | nil =>
    dsimp only at h
    cases hb : cond (Nat.beq y y0) (ct pc) false with
    | false => rw [hb] at h; exact aone_ok hOK hrec _ _ _ _ _ _ _ _ _ _ _ h ρ g lsc stc frc d hγ hd
    | true =>
      rw [hb] at h
      obtain ⟨h1, h2⟩ := xcnb hb
      cases frc with
      | cons _ _ => exact ((hγ.2.1.imp (fun _ x => x.2.2)).self).elim
      | nil => exact hCU y dd pc ls st mem env fx gh ne h2 h ρ g lsc stc d hγ hd (xeqb h1)
theorem arun_ok {y0 : Nat} (hOK : aOK sv cd mi df el eb G h0 n0 cn0 sn0 Q tyt typs GS FX wc HK HS WOK WOA HA SM RT) (hCU : aCU G h0 n0 cn0 sn0 Q tyt typs GS FX y0 ct CU) : ∀ f : Nat, aSnd G h0 n0 cn0 sn0 Q tyt typs GS FX (arun h0 tyt typs HK HS WOK WOA HA cd mi el eb inl SM RT fl spl y0 ct CU f)
  | 0 => fun _ _ _ _ _ _ _ _ _ _ _ h => by cases h
  | f + 1 => astp_ok hOK hCU (arun_ok hOK hCU f)
end Snd7
end
section
/-! Patterns of states: what holds at a cut, at a start, at an end -/
/-- locals, stack, answer, places, intervals, facts, ghosts, measure -/
abbrev apat : Type := List (Nat × av) × List av × Option av × List am × List (Int × Int) × List ae × List gho × ae
def rvR (tyt : Lean.RArray (Nat × Nat)) (τ : Nat → Int) : Option av → Option cv → Prop
  | none, none => True
  | some a, some v => avR tyt τ a v
  | _, _ => False
def aivR (l : List (Int × Int)) (ρ : Nat → Int) : Prop := ∀ (s : Nat) (i : Int × Int), agt l s = some i → i.1 ≤ ρ s ∧ ρ s ≤ i.2
def patR (h0 : xheap) (tyt : Lean.RArray (Nat × Nat)) (GS : gho → (Nat → Int) → cg → Prop) (P : apat) (ρ : Nat → Int) (g : cg) (lsc : List (Nat × cv)) (stc : List cv) (rv : Option cv) : Prop :=
  lsR tyt ρ P.1 lsc ∧ stR tyt ρ P.2.1 stc ∧ rvR tyt ρ P.2.2.1 rv ∧ amsR h0 tyt ρ g P.2.2.2.1 ∧ aivR P.2.2.2.2.1 ρ ∧ fxR P.2.2.2.2.2.1 ρ ∧ ghR GS P.2.2.2.2.2.2.1 ρ g
/-! substitution -/
def asgt (σ : List ae) (s : Nat) : ae := match agt σ s with
  | none => (0, [])
  | some e => e
def asbl (σ : List ae) : List (Nat × Int) → ae → ae
  | [], acc => acc
  | q :: l, acc => asbl σ l (eadd acc (asgt σ q.1) q.2)
def asub (σ : List ae) (e : ae) : ae := match e.2 with
  | [] => e
  | _ => asbl σ e.2 (e.1, [])
def asρ (ρ : Nat → Int) (σ : List ae) : Nat → Int := fun s => ev ρ (asgt σ s)
theorem asbl_ev (ρ : Nat → Int) (σ : List ae) : ∀ (l : List (Nat × Int)) (acc : ae), ev ρ (asbl σ l acc) = ev ρ acc + evl (asρ ρ σ) l
  | [], acc => by show ev ρ acc = ev ρ acc + 0; omega
  | q :: l, acc => by
    show ev ρ (asbl σ l (eadd acc (asgt σ q.1) q.2)) = ev ρ acc + (q.2 * asρ ρ σ q.1 + evl (asρ ρ σ) l)
    rw [asbl_ev ρ σ l, eadd_ev]
    show ev ρ acc + q.2 * asρ ρ σ q.1 + evl (asρ ρ σ) l = _
    omega
theorem asub_ev (ρ : Nat → Int) (σ : List ae) (e : ae) : ev ρ (asub σ e) = ev (asρ ρ σ) e := by
  unfold asub
  split
  · rename_i hn
    unfold ev
    rw [hn]
    rfl
  · rw [asbl_ev]
    show e.1 + 0 + evl (asρ ρ σ) e.2 = e.1 + evl (asρ ρ σ) e.2
    omega
/-- a value fits a pattern -/
noncomputable def avok (env : aenv) (σ : List ae) (p a : av) : Bool :=
  cond (Nat.beq p.1 a.1) (match p.1 with
    | 0 => eeq env (asub σ p.2.2) a.2.2
    | 2 => eeq env (asub σ p.2.2) a.2.2
    | 4 => cond (Nat.beq p.2.1 a.2.1) (eeq env (asub σ p.2.2) a.2.2) false
    | 5 => true
    | 6 => Nat.beq p.2.1 a.2.1
    | 10 => true
    | _ => false) false
theorem avok_ok {tyt : Lean.RArray (Nat × Nat)} {env : aenv} {ρ : Nat → Int} {σ : List ae} (hE : envR env ρ) : ∀ {p a : av} {v : cv}, avok env σ p a = true → avR tyt ρ a v → avR tyt (asρ ρ σ) p v := by
  intro p a v h ha
  obtain ⟨pt, pty, pe⟩ := p
  obtain ⟨at', aty', ae'⟩ := a
  obtain ⟨h1, h2⟩ := xcnb h
  have h1 : pt = at' := xeqb h1
  subst h1
  have ee : eeq env (asub σ pe) ae' = true → ev (asρ ρ σ) pe = ev ρ ae' := fun q => by rw [← asub_ev]; exact eeq_ok hE q
  match pt, h2, ha with
  | 0, h2, ha =>
    have e := ee h2
    exact ⟨by rw [e]; exact ha.1, by rw [e]; exact ha.2⟩
  | 1, h2, ha => cases h2
  | 2, h2, ha =>
    have e := ee h2
    exact ⟨by rw [e]; exact ha.1, by rw [e]; exact ha.2⟩
  | 3, h2, ha => cases h2
  | 4, h2, ha =>
    obtain ⟨h3, h4⟩ := xcnb (show cond (Nat.beq pty aty') (eeq env (asub σ pe) ae') false = true from h2)
    have h3 : pty = aty' := xeqb h3
    subst h3
    obtain ⟨k, k1, k2, k3⟩ := ha
    exact ⟨k, k1, (ee h4).trans k2, k3⟩
  | 5, h2, ha => exact ha
  | 6, h2, ha =>
    have h3 : pty = aty' := xeqb h2
    subst h3
    exact ha
  | 7, h2, ha => cases h2
  | 8, h2, ha => cases h2
  | 9, h2, ha => cases h2
  | 10, h2, ha => exact ha
  | _ + 11, h2, ha => cases h2
noncomputable def aokS (env : aenv) (σ : List ae) : List av → List av → Bool
  | [], [] => true
  | p :: l, a :: m => cond (avok env σ p a) (aokS env σ l m) false
  | _, _ => false
noncomputable def aokL (env : aenv) (σ : List ae) (ls : List (Nat × av)) : List (Nat × av) → Bool
  | [] => true
  | p :: l => match alk ls p.1 with
    | none => false
    | some a => cond (avok env σ p.2 a) (aokL env σ ls l) false
noncomputable def aokR (env : aenv) (σ : List ae) : Option av → Option av → Bool
  | none, none => true
  | some p, some a => avok env σ p a
  | _, _ => false
noncomputable def aokM (env : aenv) (σ : List ae) (mem : List am) : List am → Bool
  | [] => true
  | m :: l => match amg env m.1 (asub σ m.2.1) (asub σ m.2.2.1) mem with
    | none => false
    | some a => cond (avok env σ m.2.2.2 a) (aokM env σ mem l) false
noncomputable def aokE (env : aenv) (fx : List ae) : List ae → List (Int × Int) → Bool
  | _, [] => true
  | e :: σ, i :: l => cond (efit env fx e i.1 i.2) (aokE env fx σ l) false
  | [], _ :: _ => false
noncomputable def aokF (env : aenv) (fx : List ae) (σ : List ae) : List ae → Bool
  | [] => true
  | f :: l => cond (efrc (asub σ f) (fun x => elef env fx 2 x)) (aokF env fx σ l) false
/-- the first p symbols stand for themselves -/
def aokI : Nat → Nat → List ae → Bool
  | 0, _, _ => true
  | n + 1, s, e :: σ => cond (eeqb e (esym s)) (aokI n (s + 1) σ) false
  | _ + 1, _, [] => false
theorem aokI_ok {ρ : Nat → Int} : ∀ (n s : Nat) (σ : List ae), aokI n s σ = true → ∀ i : Nat, i < n → asρ ρ σ i = ρ (s + i)
  | 0, _, _, _, i, hi => absurd hi (Nat.not_lt_zero i)
  | n + 1, s, [], h, _, _ => by cases h
  | n + 1, s, e :: σ, h, i, hi => by
    obtain ⟨h1, h2⟩ := xcnb (show cond (eeqb e (esym s)) (aokI n (s + 1) σ) false = true from h)
    cases i with
    | zero =>
      show ev ρ e = ρ s
      rw [eeqb_ok h1, esym_ev]
    | succ i =>
      have := aokI_ok (ρ := ρ) n (s + 1) σ h2 i (by omega)
      show asρ ρ σ i = _
      rw [this]
      congr 1
      omega
theorem amg_okT {h0 : xheap} {tyt : Lean.RArray (Nat × Nat)} {env : aenv} {ρ : Nat → Int} {g : cg} (hE : envR env ρ) {t : Nat} {c i : ae} : ∀ {mem : List am} {v : av}, amsR h0 tyt ρ g mem → amg env t c i mem = some v → ∃ (k j : Nat) (w : cv), ev ρ c = (k : Int) ∧ ev ρ i = (j : Int) ∧ cat h0 g k j w ∧ avR tyt ρ v w ∧ xg tyt k = some t
  | [], _, _, h => by cases h
  | m :: l, v, hm, h => by
    have hl : amsR h0 tyt ρ g l := fun x hx => hm x (List.mem_cons_of_mem _ hx)
    have h : cond (Nat.beq m.1 t) (cond (eeq env m.2.1 c) (cond (eeq env m.2.2.1 i) (some m.2.2.2) (amg env t c i l)) (amg env t c i l)) (amg env t c i l) = some v := h
    cases h1 : Nat.beq m.1 t with
    | false => rw [h1] at h; exact amg_okT hE hl h
    | true =>
      rw [h1] at h
      cases h2 : eeq env m.2.1 c with
      | false => rw [h2] at h; exact amg_okT hE hl h
      | true =>
        rw [h2] at h
        cases h3 : eeq env m.2.2.1 i with
        | false => rw [h3] at h; exact amg_okT hE hl h
        | true =>
          rw [h3] at h
          have e : m.2.2.2 = v := Option.some.inj h
          obtain ⟨k, j, w, a1, a2, a3, a4, a5⟩ := hm m List.mem_cons_self
          exact ⟨k, j, w, by rw [← eeq_ok hE h2]; exact a1, by rw [← eeq_ok hE h3]; exact a2, a4, by rw [← e]; exact a5, by rw [← xeqb h1]; exact a3⟩
section Ent
variable {h0 : xheap} {tyt : Lean.RArray (Nat × Nat)} {env : aenv} {fx : List ae} {ρ : Nat → Int} {σ : List ae}
theorem aokS_ok (hE : envR env ρ) : ∀ {p a : List av} {stc : List cv}, aokS env σ p a = true → stR tyt ρ a stc → stR tyt (asρ ρ σ) p stc
  | [], [], [], _, _ => trivial
  | [], [], _ :: _, _, h => h.elim
  | [], _ :: _, _, h, _ => by cases h
  | _ :: _, [], _, h, _ => by cases h
  | _ :: _, _ :: _, [], _, h => h.elim
  | p :: l, a :: m, v :: n, h, k => by
    obtain ⟨h1, h2⟩ := xcnb (show cond (avok env σ p a) (aokS env σ l m) false = true from h)
    exact ⟨avok_ok hE h1 k.1, aokS_ok hE h2 k.2⟩
theorem clk_mem : ∀ {l : List (Nat × cv)} {i : Nat} {v : cv}, clk l i = some v → (i, v) ∈ l
  | [], _, _, h => by cases h
  | q :: l, i, v, h => by
    have h : cond (Nat.beq q.1 i) (some q.2) (clk l i) = some v := h
    cases hb : Nat.beq q.1 i with
    | true =>
      rw [hb] at h
      have e1 := xeqb hb
      have e2 : q.2 = v := Option.some.inj h
      have : q = (i, v) := by rw [← e1, ← e2]
      rw [this]; exact List.mem_cons_self
    | false => rw [hb] at h; exact List.mem_cons_of_mem _ (clk_mem h)
theorem aokL_ok (hE : envR env ρ) {ls : List (Nat × av)} {lsc : List (Nat × cv)} (hl : lsR tyt ρ ls lsc) : ∀ {p : List (Nat × av)}, aokL env σ ls p = true → ∃ lsc', lsR tyt (asρ ρ σ) p lsc' ∧ ∀ q ∈ lsc', q ∈ lsc
  | [], _ => ⟨[], trivial, fun _ h => absurd h List.not_mem_nil⟩
  | p :: l, h => by
    unfold aokL at h
    cases ha : alk ls p.1 with
    | none => rw [ha] at h; cases h
    | some a =>
      rw [ha] at h
      obtain ⟨h1, h2⟩ := xcnb h
      obtain ⟨lsc', k1, k2⟩ := aokL_ok hE hl h2
      obtain ⟨v, e1, e2⟩ := lsR_lk hl ha
      refine ⟨(p.1, v) :: lsc', ⟨rfl, avok_ok hE h1 e2, k1⟩, fun q hq => ?_⟩
      rcases List.mem_cons.mp hq with e | hq
      · rw [e]; exact clk_mem e1
      · exact k2 q hq
theorem aokR_ok (hE : envR env ρ) : ∀ {p a : Option av} {v : Option cv}, aokR env σ p a = true → rvR tyt ρ a v → rvR tyt (asρ ρ σ) p v
  | none, none, none, _, _ => trivial
  | none, none, some _, _, h => h.elim
  | none, some _, _, h, _ => by cases h
  | some _, none, _, h, _ => by cases h
  | some _, some _, none, _, h => h.elim
  | some p, some a, some v, h, k => avok_ok hE h k
theorem aokM_ok (hE : envR env ρ) {g : cg} {mem : List am} (hm : amsR h0 tyt ρ g mem) : ∀ {p : List am}, aokM env σ mem p = true → amsR h0 tyt (asρ ρ σ) g p
  | [], _ => fun _ h => absurd h List.not_mem_nil
  | m :: l, h => by
    unfold aokM at h
    cases ha : amg env m.1 (asub σ m.2.1) (asub σ m.2.2.1) mem with
    | none => rw [ha] at h; cases h
    | some a =>
      rw [ha] at h
      obtain ⟨h1, h2⟩ := xcnb h
      have ih := aokM_ok hE hm h2
      intro x hx
      rcases List.mem_cons.mp hx with e | hx
      · rw [e]
        obtain ⟨k, j, w, a1, a2, a3, a4, a5⟩ := amg_okT hE hm ha
        exact ⟨k, j, w, by rw [← asub_ev]; exact a1, by rw [← asub_ev]; exact a2, a5, a3, avok_ok hE h1 a4⟩
      · exact ih x hx
theorem aokE_ok (hE : envR env ρ) (hF : fxR fx ρ) : ∀ {σ : List ae} {l : List (Int × Int)}, aokE env fx σ l = true → aivR l (asρ ρ σ)
  | _, [], _ => fun s i h => by cases h
  | [], _ :: _, h => by cases h
  | e :: σ, i :: l, h => by
    obtain ⟨h1, h2⟩ := xcnb (show cond (efit env fx e i.1 i.2) (aokE env fx σ l) false = true from h)
    intro s j hs
    cases s with
    | zero =>
      have e1 : i = j := Option.some.inj hs
      subst e1
      exact efit_ok hE hF h1
    | succ s => exact aokE_ok hE hF h2 s j hs
theorem aokF_ok (hE : envR env ρ) (hF : fxR fx ρ) : ∀ {l : List ae}, aokF env fx σ l = true → fxR l (asρ ρ σ)
  | [], _ => fun _ h => absurd h List.not_mem_nil
  | f :: l, h => by
    obtain ⟨h1, h2⟩ := xcnb (show cond (efrc (asub σ f) (fun x => elef env fx 2 x)) (aokF env fx σ l) false = true from h)
    rw [efrc_eq] at h1
    intro x hx
    rcases List.mem_cons.mp hx with e | hx
    · rw [e, ← asub_ev]; exact elef_ok hE hF 2 _ h1
    · exact aokF_ok hE hF h2 x hx
end Ent
end
section
/-! Finding what a pattern's symbols stand for; checking it -/
/-- symbols below n -/
def ewf (n : Nat) : List (Nat × Int) → Bool
  | [] => true
  | q :: l => cond (Nat.blt q.1 n) (ewf n l) false
theorem ewf_evl {n : Nat} {ρ τ : Nat → Int} (ha : aag n ρ τ) : ∀ {l : List (Nat × Int)}, ewf n l = true → evl τ l = evl ρ l
  | [], _ => rfl
  | q :: l, h => by
    obtain ⟨h1, h2⟩ := xcnb (show cond (Nat.blt q.1 n) (ewf n l) false = true from h)
    show q.2 * τ q.1 + evl τ l = q.2 * ρ q.1 + evl ρ l
    rw [ha q.1 (xltb h1), ewf_evl ha h2]
theorem ewf_ev {n : Nat} {ρ τ : Nat → Int} (ha : aag n ρ τ) {e : ae} (h : ewf n e.2 = true) : ev τ e = ev ρ e := by
  unfold ev
  rw [ewf_evl ha h]
def aset : List (Option ae) → Nat → ae → List (Option ae)
  | [], _, _ => []
  | _ :: l, 0, e => some e :: l
  | q :: l, n + 1, e => q :: aset l n e
def apar (σ : List (Option ae)) : List (Nat × Int) → ae → List (Nat × Int) → ae × List (Nat × Int)
  | [], acc, u => (acc, u)
  | q :: l, acc, u => match agt σ q.1 with
    | some (some e) => apar σ l (eadd acc e q.2) u
    | _ => apar σ l acc (q :: u)
noncomputable def abd1 (σ : List (Option ae)) (p a : av) (k : List (Option ae) → Bool) : Bool :=
  match p.2.2.2 with
  | [] => k σ
  | _ => match apar σ p.2.2.2 (p.2.2.1, []) [] with
    | (r, [q]) => cond (zeq q.2 1) (efrc (eadd a.2.2 r (-1)) (fun e => k (aset σ q.1 e))) (k σ)
    | _ => k σ
noncomputable def abdL (ls : List (Nat × av)) : List (Nat × av) → List (Option ae) → (List (Option ae) → Bool) → Bool
  | [], σ, k => k σ
  | p :: l, σ, k => match alk ls p.1 with
    | none => false
    | some a => abd1 σ p.2 a (fun σ => abdL ls l σ k)
noncomputable def abdS : List av → List av → List (Option ae) → (List (Option ae) → Bool) → Bool
  | p :: l, a :: m, σ, k => abd1 σ p a (fun σ => abdS l m σ k)
  | _, _, σ, k => k σ
noncomputable def abdR : Option av → Option av → List (Option ae) → (List (Option ae) → Bool) → Bool
  | some p, some a, σ, k => abd1 σ p a k
  | _, _, σ, k => k σ
def afin : List (Option ae) → List ae
  | [] => []
  | q :: l => (match q with
    | none => (0, [])
    | some e => e) :: afin l
/-- the first p stand for themselves, n in all -/
def aidn : Nat → Nat → Nat → List (Option ae)
  | 0, _, _ => []
  | n + 1, 0, _ => none :: aidn n 0 0
  | n + 1, p + 1, s => some (esym s) :: aidn n p (s + 1)
section EntD
variable (h0 : xheap) (tyt : Lean.RArray (Nat × Nat)) (typs : Lean.RArray (Nat × aty)) (HK : aenv → List ae → List am → List gho → Nat → ae → ae → Int × Int → Int × Int) (HH : aenv → List ae → List am → List gho → gho → Bool)
/-- the pattern's places are looked at -/
noncomputable def aens (fx : List ae) (gh : List gho) : List am → List (Option ae) → List am → aenv → Nat → (List (Option ae) → List am → aenv → Nat → Bool) → Bool
  | [], σ, mem, env, ne, k => k σ mem env ne
  | m :: l, σ, mem, env, ne, k => efrc (enor env (asub (afin σ) m.2.1)) (fun c => efrc (enor env (asub (afin σ) m.2.2.1)) (fun i => match amg env m.1 c i mem with
    | some v => abd1 σ m.2.2.2 v (fun σ => aens fx gh l σ mem env ne k)
    | none => match c.2 with
      | [] => (match xg tyt c.1.toNat with
        | none => false
        | some t => match xg typs t with
          | none => false
          | some T => cond (Nat.beq t m.1 && (zle 0 c.1 && (ewf ne i.2 && efit env fx i 0 (Int.add (T.2.1 : Int) (-1))))) (aload h0 typs HK t c i mem env fx gh ne (fun v mem env ne => abd1 σ m.2.2.2 v (fun σ => aens fx gh l σ mem env ne k))) false)
      | _ => false))
noncomputable def aokG (env : aenv) (fx : List ae) (mem : List am) (gh : List gho) (σ : List ae) : List gho → Bool
  | [] => true
  | x :: l => cond (cond (cond (Nat.beq x.1 50) true (Nat.beq x.1 51)) (eeqb (asgt σ x.2.1) (esym x.2.1)) true) (cond (HH env fx mem gh (x.1, x.2.1, x.2.2.1, asub σ x.2.2.2)) (aokG env fx mem gh σ l) false) false
noncomputable def aokM0 (env : aenv) (fx : List ae) (σ : List ae) (M : Option ae) (m : ae) : Bool := match M with
  | none => true
  | some m0 => efrc (asub σ m) (fun x => cond (elef env fx 2 (escl x (-1))) (efrc (eadc (eadd x m0 (-1)) 1) (fun z => elef env fx 2 z)) false)
noncomputable def achk (p : Nat) (P : apat) (M : Option ae) (σ : List ae) (ls : List (Nat × av)) (st : List av) (rv : Option av) (mem : List am) (env : aenv) (fx : List ae) (gh : List gho) : Bool :=
  cond (aokI p 0 σ) (cond (aokL env σ ls P.1) (cond (aokS env σ P.2.1 st) (cond (aokR env σ P.2.2.1 rv) (cond (aokM env σ mem P.2.2.2.1) (cond (aokE env fx σ P.2.2.2.2.1) (cond (aokF env fx σ P.2.2.2.2.2.1) (cond (aokG HH env fx mem gh σ P.2.2.2.2.2.2.1) (aokM0 env fx σ M P.2.2.2.2.2.2.2) false) false) false) false) false) false) false) false
noncomputable def aent (p : Nat) (P : apat) (M : Option ae) (ls : List (Nat × av)) (st : List av) (rv : Option av) (mem : List am) (env : aenv) (fx : List ae) (gh : List gho) (ne : Nat) (k : List ae → List am → aenv → Nat → Bool) : Bool :=
  abdL ls P.1 (aidn P.2.2.2.2.1.length p 0) (fun σ => abdS P.2.1 st σ (fun σ => abdR P.2.2.1 rv σ (fun σ => aens h0 tyt typs HK fx gh P.2.2.2.1 σ mem env ne (fun σ mem env ne => cond (achk HH p P M (afin σ) ls st rv mem env fx gh) (k (afin σ) mem env ne) false))))
end EntD
theorem abd1_ok {σ : List (Option ae)} {p a : av} {k : List (Option ae) → Bool} (h : abd1 σ p a k = true) : ∃ σ', k σ' = true := by
  unfold abd1 at h
  split at h
  · exact ⟨_, h⟩
  · split at h
    · rename_i r q e
      cases hz : zeq q.2 1 with
      | true => rw [hz] at h; simp only [cond_true] at h; rw [efrc_eq] at h; exact ⟨_, h⟩
      | false => rw [hz] at h; exact ⟨_, h⟩
    · exact ⟨_, h⟩
theorem abdL_ok {ls : List (Nat × av)} : ∀ {p : List (Nat × av)} {σ : List (Option ae)} {k : List (Option ae) → Bool}, abdL ls p σ k = true → ∃ σ', k σ' = true
  | [], σ, k, h => ⟨σ, h⟩
  | p :: l, σ, k, h => by
    unfold abdL at h
    cases ha : alk ls p.1 with
    | none => rw [ha] at h; cases h
    | some a =>
      rw [ha] at h
      obtain ⟨σ', h1⟩ := abd1_ok h
      exact abdL_ok h1
theorem abdS_ok : ∀ {p a : List av} {σ : List (Option ae)} {k : List (Option ae) → Bool}, abdS p a σ k = true → ∃ σ', k σ' = true
  | [], _, σ, k, h => ⟨σ, h⟩
  | _ :: _, [], σ, k, h => ⟨σ, h⟩
  | p :: l, a :: m, σ, k, h => by
    obtain ⟨σ', h1⟩ := abd1_ok (show abd1 σ p a (fun σ => abdS l m σ k) = true from h)
    exact abdS_ok h1
theorem abdR_ok : ∀ {p a : Option av} {σ : List (Option ae)} {k : List (Option ae) → Bool}, abdR p a σ k = true → ∃ σ', k σ' = true
  | none, none, σ, k, h => ⟨σ, h⟩
  | none, some _, σ, k, h => ⟨σ, h⟩
  | some _, none, σ, k, h => ⟨σ, h⟩
  | some p, some a, σ, k, h => abd1_ok h
section EntS
variable {h0 : xheap} {tyt : Lean.RArray (Nat × Nat)} {typs : Lean.RArray (Nat × aty)} {HK : aenv → List ae → List am → List gho → Nat → ae → ae → Int × Int → Int × Int} {HH : aenv → List ae → List am → List gho → gho → Bool}
variable {GS : gho → (Nat → Int) → cg → Prop} {fx : List ae} {gh : List gho} {g : cg}
theorem aens_ok (hW : aWd h0 tyt typs) (hHK : aHK h0 tyt GS HK) (hI : aInv tyt typs g) : ∀ {l : List am} {σ : List (Option ae)} {mem : List am} {env : aenv} {ne : Nat} {k : List (Option ae) → List am → aenv → Nat → Bool} {ρ : Nat → Int}, aens h0 tyt typs HK fx gh l σ mem env ne k = true → aC ne ρ (coR h0 tyt GS env fx mem gh g) → ∃ σ' mem' env' ne' ρ', k σ' mem' env' ne' = true ∧ ne ≤ ne' ∧ aag ne ρ ρ' ∧ aC ne' ρ' (coR h0 tyt GS env' fx mem' gh g)
  | [], σ, mem, env, ne, k, ρ, h, hC => ⟨σ, mem, env, ne, ρ, h, Nat.le_refl _, aag.rf _ _, hC⟩
  | m :: l, σ, mem, env, ne, k, ρ, h, hC => by
    unfold aens at h
    rw [efrc_eq, efrc_eq] at h
    generalize enor env (asub (afin σ) m.2.1) = c at h
    generalize enor env (asub (afin σ) m.2.2.1) = i at h
    cases hm : amg env m.1 c i mem with
    | some v =>
      rw [hm] at h
      obtain ⟨σ', h1⟩ := abd1_ok h
      exact aens_ok hW hHK hI h1 hC
    | none =>
      rw [hm] at h
      dsimp only at h
      split at h
      · rename_i hc0
        cases ht : xg tyt c.1.toNat with
        | none => rw [ht] at h; cases h
        | some t =>
          rw [ht] at h
          dsimp only at h
          obtain ⟨q, T, w1, w2, w3, w4, w5, w6, w7, w8⟩ := hW _ _ ht
          rw [w2] at h
          obtain ⟨g1, g2⟩ := xcnb h
          obtain ⟨g3, g4⟩ := xand g1
          obtain ⟨g5, g6⟩ := xand g4
          obtain ⟨g7, g6⟩ := xand g6
          have g5 := zle_iff.mp g5
          have hc : ∀ τ : Nat → Int, ev τ c = (c.1.toNat : Int) := fun τ => by
            have : ev τ c = c.1 := by unfold ev; rw [hc0]; show _ + 0 = _; omega
            omega
          have hb := efit_ok hC.self.1 hC.self.2.1 g6
          have hb2 : ev ρ i ≤ (T.2.1 : Int) + -1 := hb.2
          obtain ⟨j, hj⟩ : ∃ j : Nat, ev ρ i = (j : Int) := ⟨(ev ρ i).toNat, by omega⟩
          have hjl : j < q.2.1 := by omega
          obtain ⟨w, u, u1, u2, u3, u4⟩ := w8 j hjl
          obtain ⟨v, mem', env', ne', ρ', h1, h2, h3, h4, h5⟩ := aload_ok hW hHK hI hC (fun τ hτ => ⟨hc τ, (ewf_ev hτ g7).trans hj⟩) ht ⟨q, w, w1, u1, rfl⟩ w1 hjl g2
          obtain ⟨σ', k1⟩ := abd1_ok h1
          obtain ⟨σ2, mem2, env2, ne2, ρ2, m1, m2, m3, m4⟩ := aens_ok hW hHK hI k1 h4
          exact ⟨σ2, mem2, env2, ne2, ρ2, m1, Nat.le_trans h2 m2, aag.tr h2 h3 m3, m4⟩
      · cases h
/-- ghosts: by a number, by the script -/
def aGSd (sv : Nat → Int32) (el : Nat → Nat) (GH : Nat → Nat → Nat → Int → cg → Prop) (x : gho) (ρ : Nat → Int) (g : cg) : Prop :=
  match x.1 with
  | 50 => ∃ n : Nat, ev ρ x.2.2.2 = (n : Int) ∧ (sv n).toInt = ρ x.2.1
  | 51 => ρ x.2.1 = (el 0 : Int)
  | k => GH k x.2.1 x.2.2.1 (ev ρ x.2.2.2) g
theorem aGSd_0 {sv : Nat → Int32} {el : Nat → Nat} {GH : Nat → Nat → Nat → Int → cg → Prop} (hl : el 0 < 2147483648) : aGS0 sv el (aGSd sv el GH) := by
  refine ⟨fun x ρ g h => ?_, fun x ρ g h => ?_, hl⟩
  · unfold aGSd; rw [h]; exact Iff.rfl
  · unfold aGSd; rw [h]; exact Iff.rfl
theorem aGSd_sub {sv : Nat → Int32} {el : Nat → Nat} {GH : Nat → Nat → Nat → Int → cg → Prop} {x : gho} {ρ ρ' : Nat → Int} {e : ae} (h1 : x.1 = 50 ∨ x.1 = 51 → ρ' x.2.1 = ρ x.2.1) (h2 : ev ρ e = ev ρ' x.2.2.2) (h : aGSd sv el GH (x.1, x.2.1, x.2.2.1, e) ρ g) : aGSd sv el GH x ρ' g := by
  obtain ⟨k, a, b, e'⟩ := x
  unfold aGSd at h ⊢
  dsimp only at h h1 h2 ⊢
  split at h
  · rename_i hk
    obtain ⟨n, n1, n2⟩ := h
    exact ⟨n, by rw [← h2]; exact n1, by rw [h1 (Or.inl rfl)]; exact n2⟩
  · show ρ' a = _
    rw [h1 (Or.inr rfl)]; exact h
  · rename_i n1 n2
    rw [h2] at h
    exact h
def aHH (h0 : xheap) (tyt : Lean.RArray (Nat × Nat)) (GS : gho → (Nat → Int) → cg → Prop) (HH : aenv → List ae → List am → List gho → gho → Bool) : Prop := ∀ (env : aenv) (fx : List ae) (mem : List am) (gh : List gho) (x : gho) (g : cg) (ρ : Nat → Int), HH env fx mem gh x = true → coR h0 tyt GS env fx mem gh g ρ → GS x ρ g
variable {sv : Nat → Int32} {el : Nat → Nat} {GH : Nat → Nat → Nat → Int → cg → Prop}
theorem aokG_ok (hHH : aHH h0 tyt (aGSd sv el GH) HH) {env : aenv} {mem : List am} {σ : List ae} {ρ : Nat → Int} (hC : coR h0 tyt (aGSd sv el GH) env fx mem gh g ρ) : ∀ {l : List gho}, aokG HH env fx mem gh σ l = true → ghR (aGSd sv el GH) l (asρ ρ σ) g
  | [], _ => fun _ h => absurd h List.not_mem_nil
  | x :: l, h => by
    unfold aokG at h
    obtain ⟨h1, h2⟩ := xcnb h
    obtain ⟨h3, h4⟩ := xcnb h2
    intro z hz
    rcases List.mem_cons.mp hz with e | hz
    · rw [e]
      refine aGSd_sub (fun hk => ?_) (asub_ev ρ σ _) (hHH env fx mem gh _ g ρ h3 hC)
      have hb : cond (Nat.beq x.1 50) true (Nat.beq x.1 51) = true := by
        rcases hk with q | q <;> rw [q] <;> rfl
      rw [hb] at h1
      show ev ρ (asgt σ x.2.1) = _
      rw [eeqb_ok h1, esym_ev]
    · exact aokG_ok hHH hC h4 z hz
theorem achk_ok (hHH : aHH h0 tyt (aGSd sv el GH) HH) {p : Nat} {P : apat} {M : Option ae} {σ : List ae} {ls : List (Nat × av)} {st : List av} {rv : Option av} {env : aenv} {mem : List am} {ρ : Nat → Int} {lsc : List (Nat × cv)} {stc : List cv} {rvc : Option cv} (hC : coR h0 tyt (aGSd sv el GH) env fx mem gh g ρ) (hl : lsR tyt ρ ls lsc) (hs : stR tyt ρ st stc) (hr : rvR tyt ρ rv rvc) (h : achk HH p P M σ ls st rv mem env fx gh = true) :
    aag p ρ (asρ ρ σ) ∧ (∃ lsc', (∀ q ∈ lsc', q ∈ lsc) ∧ patR h0 tyt (aGSd sv el GH) P (asρ ρ σ) g lsc' stc rvc) ∧ ∀ m0, M = some m0 → 0 ≤ ev (asρ ρ σ) P.2.2.2.2.2.2.2 ∧ ev (asρ ρ σ) P.2.2.2.2.2.2.2 < ev ρ m0 := by
  unfold achk at h
  obtain ⟨h1, h⟩ := xcnb h
  obtain ⟨h2, h⟩ := xcnb h
  obtain ⟨h3, h⟩ := xcnb h
  obtain ⟨h4, h⟩ := xcnb h
  obtain ⟨h5, h⟩ := xcnb h
  obtain ⟨h6, h⟩ := xcnb h
  obtain ⟨h7, h⟩ := xcnb h
  obtain ⟨h8, h9⟩ := xcnb h
  obtain ⟨hE, hF, hm, hg⟩ := id hC
  obtain ⟨lsc', l1, l2⟩ := aokL_ok hE hl h2
  refine ⟨fun s hs' => by have := aokI_ok (ρ := ρ) p 0 σ h1 s hs'; rw [this]; congr 1; omega, ⟨lsc', l2, l1, aokS_ok hE h3 hs, aokR_ok hE h4 hr, aokM_ok hE hm h5, aokE_ok hE hF h6, aokF_ok hE hF h7, aokG_ok hHH hC h8⟩, fun m0 em => ?_⟩
  subst em
  unfold aokM0 at h9
  dsimp only at h9
  rw [efrc_eq] at h9
  obtain ⟨k1, k2⟩ := xcnb h9
  rw [efrc_eq] at k2
  have k1 := elef_ok hE hF 2 _ k1
  have k2 := elef_ok hE hF 2 _ k2
  rw [escl_ev, asub_ev] at k1
  rw [eadc_ev, eadd_ev, asub_ev] at k2
  constructor <;> omega
theorem aent_ok (hW : aWd h0 tyt typs) (hHK : aHK h0 tyt (aGSd sv el GH) HK) (hHH : aHH h0 tyt (aGSd sv el GH) HH) (hI : aInv tyt typs g) {p : Nat} {P : apat} {M : Option ae} {ls : List (Nat × av)} {st : List av} {rv : Option av} {env : aenv} {mem : List am} {ne : Nat} {ρ : Nat → Int} {lsc : List (Nat × cv)} {stc : List cv} {rvc : Option cv} {k : List ae → List am → aenv → Nat → Bool} (hC : aC ne ρ (coR h0 tyt (aGSd sv el GH) env fx mem gh g)) (hl : aC ne ρ (fun τ => lsR tyt τ ls lsc)) (hs : aC ne ρ (fun τ => stR tyt τ st stc)) (hr : aC ne ρ (fun τ => rvR tyt τ rv rvc)) (h : aent h0 tyt typs HK HH p P M ls st rv mem env fx gh ne k = true) :
    ∃ σ mem' env' ne' ρ', k σ mem' env' ne' = true ∧ ne ≤ ne' ∧ aag ne ρ ρ' ∧ aC ne' ρ' (coR h0 tyt (aGSd sv el GH) env' fx mem' gh g) ∧ aag p ρ' (asρ ρ' σ) ∧ (∃ lsc', (∀ q ∈ lsc', q ∈ lsc) ∧ patR h0 tyt (aGSd sv el GH) P (asρ ρ' σ) g lsc' stc rvc) ∧ ∀ m0, M = some m0 → 0 ≤ ev (asρ ρ' σ) P.2.2.2.2.2.2.2 ∧ ev (asρ ρ' σ) P.2.2.2.2.2.2.2 < ev ρ' m0 := by
  unfold aent at h
  obtain ⟨σ1, h⟩ := abdL_ok h
  obtain ⟨σ2, h⟩ := abdS_ok h
  obtain ⟨σ3, h⟩ := abdR_ok h
  obtain ⟨σ4, mem', env', ne', ρ', h1, h2, h3, h4⟩ := aens_ok hW hHK hI h hC
  obtain ⟨h5, h6⟩ := xcnb h1
  exact ⟨afin σ4, mem', env', ne', ρ', h6, h2, h3, h4, achk_ok hHH h4.self (hl.mono h2 h3).self (hs.mono h2 h3).self (hr.mono h2 h3).self h5⟩
end EntS
end
section
/-! What is known of a method, used at a call -/
/-- type, cell if it is one, from, to (from 2^31 on: to the end) -/
abbrev awr : Type := Nat × Option Nat × Int × Int
def awc (tyt : Lean.RArray (Nat × Nat)) (wr : List awr) (k j : Nat) : Prop := ∃ w ∈ wr, xg tyt k = some w.1 ∧ (∀ c, w.2.1 = some c → k = c) ∧ w.2.2.1 ≤ (j : Int) ∧ (2147483648 ≤ w.2.2.2 ∨ (j : Int) ≤ w.2.2.2)
noncomputable def aWK (wr : List awr) (env : aenv) (fx : List ae) (t : Nat) (c i : ae) : Bool :=
  wr.any (fun w => cond (Nat.beq w.1 t) (cond (match w.2.1 with
    | none => true
    | some k => (match c.2 with
      | [] => zeq c.1 (k : Int)
      | _ => false)) (efit env fx i w.2.2.1 w.2.2.2) false) false)
noncomputable def aWA (wr : List awr) (_env : aenv) (_fx : List ae) (t : Nat) (c : ae) : Bool :=
  wr.any (fun w => cond (Nat.beq w.1 t) (cond (match w.2.1 with
    | none => true
    | some k => (match c.2 with
      | [] => zeq c.1 (k : Int)
      | _ => false)) (cond (zle w.2.2.1 0) (zle 2147483648 w.2.2.2) false) false) false)
theorem awcell {c : ae} {w : Option Nat} {ρ : Nat → Int} {k : Nat} (hc : ev ρ c = (k : Int)) (h : (match w with
    | none => true
    | some k => (match c.2 with
      | [] => zeq c.1 (k : Int)
      | _ => false)) = true) : ∀ x, w = some x → k = x := by
  intro x e
  subst e
  dsimp only at h
  split at h
  · rename_i hn
    have e1 := zeq_iff.mp h
    have : ev ρ c = c.1 := by unfold ev; rw [hn]; show _ + 0 = _; omega
    omega
  · cases h
theorem aWK_ok {tyt : Lean.RArray (Nat × Nat)} {wr : List awr} : aWOK tyt (aWK wr) (awc tyt wr) := by
  intro env fx t c i ρ k j h hE hF hc hi ht
  obtain ⟨w, hw, h⟩ := List.any_eq_true.mp h
  obtain ⟨h1, h⟩ := xcnb h
  obtain ⟨h2, h3⟩ := xcnb h
  have hb := efit_ok hE hF h3
  rw [hi] at hb
  exact ⟨w, hw, by rw [xeqb h1]; exact ht, awcell hc h2, hb.1, Or.inr hb.2⟩
theorem aWA_ok {tyt : Lean.RArray (Nat × Nat)} {wr : List awr} : aWOA tyt (aWA wr) (awc tyt wr) := by
  intro env fx t c ρ k h hE hF hc ht j
  obtain ⟨w, hw, h⟩ := List.any_eq_true.mp h
  obtain ⟨h1, h⟩ := xcnb h
  obtain ⟨h2, h3⟩ := xcnb h
  obtain ⟨h4, h5⟩ := xcnb h3
  have h4 := zle_iff.mp h4
  exact ⟨w, hw, by rw [xeqb h1]; exact ht, awcell hc h2, by omega, Or.inl (zle_iff.mp h5)⟩
/-- all of these writes are among those -/
def aws1 (w v : awr) : Bool := cond (Nat.beq v.1 w.1) (cond (match v.2.1 with
    | none => true
    | some c => (match w.2.1 with
      | none => false
      | some d => Nat.beq c d)) (cond (zle v.2.2.1 w.2.2.1) (cond (zle 2147483648 v.2.2.2) true (cond (zle 2147483648 w.2.2.2) false (zle w.2.2.2 v.2.2.2))) false) false) false
def awsb (l m : List awr) : Bool := l.all (fun w => m.any (fun v => aws1 w v))
theorem awsb_ok {tyt : Lean.RArray (Nat × Nat)} {l m : List awr} (h : awsb l m = true) {k j : Nat} (hw : awc tyt l k j) : awc tyt m k j := by
  obtain ⟨w, hw, a1, a2, a3, a4⟩ := hw
  obtain ⟨v, hv, h⟩ := List.any_eq_true.mp (List.all_eq_true.mp h w hw)
  obtain ⟨h1, h⟩ := xcnb h
  obtain ⟨h2, h⟩ := xcnb h
  obtain ⟨h3, h⟩ := xcnb h
  have h3 := zle_iff.mp h3
  refine ⟨v, hv, by rw [xeqb h1]; exact a1, fun c hc => ?_, by omega, ?_⟩
  · rw [hc] at h2
    dsimp only at h2
    split at h2
    · cases h2
    · rename_i d hd
      have : c = d := xeqb h2
      rw [this]
      exact a2 d hd
  · rcases xcnt h with q | q
    · exact Or.inl (zle_iff.mp q)
    · right
      cases hb : zle 2147483648 w.2.2.2 with
      | true => rw [hb] at q; cases q
      | false =>
        rw [hb] at q
        have q := zle_iff.mp (show zle w.2.2.2 v.2.2.2 = true from q)
        have := zle_f hb
        rcases a4 with a4 | a4
        · omega
        · omega
/-- a place that the writes don't meet -/
noncomputable def akw1 (env : aenv) (m : am) (w : awr) : Bool := cond (Nat.beq w.1 m.1) (cond (Nat.beq m.2.2.2.1 4) true (cond (match w.2.1 with
    | none => false
    | some c => ene env m.2.1 ((c : Int), [])) true (cond (match eu env m.2.2.1 with
      | none => false
      | some u => zlt u w.2.2.1) true (cond (zle 2147483648 w.2.2.2) false (efrc (escl m.2.2.1 (-1)) (fun n => match eu env n with
        | none => false
        | some u => zlt u (Int.neg w.2.2.2))))))) true
noncomputable def akwf (env : aenv) (wr : List awr) : List am → (List am → Bool) → Bool
  | [], k => k []
  | m :: l, k => cond (wr.all (fun w => akw1 env m w)) (akwf env wr l (fun r => k (m :: r))) (akwf env wr l k)
theorem akwf_ok (env : aenv) (wr : List awr) : ∀ (mem : List am) (k : List am → Bool), ∃ r, akwf env wr mem k = k r ∧ ∀ m ∈ r, m ∈ mem ∧ wr.all (fun w => akw1 env m w) = true
  | [], k => ⟨[], rfl, fun _ h => absurd h List.not_mem_nil⟩
  | m :: l, k => by
    unfold akwf
    cases hb : wr.all (fun w => akw1 env m w) with
    | true =>
      obtain ⟨r, h1, h2⟩ := akwf_ok env wr l (fun r => k (m :: r))
      refine ⟨m :: r, h1, fun x hx => ?_⟩
      rcases List.mem_cons.mp hx with e | hx
      · rw [e]; exact ⟨List.mem_cons_self, hb⟩
      · exact ⟨List.mem_cons_of_mem _ (h2 x hx).1, (h2 x hx).2⟩
    | false =>
      obtain ⟨r, h1, h2⟩ := akwf_ok env wr l k
      exact ⟨r, h1, fun x hx => ⟨List.mem_cons_of_mem _ (h2 x hx).1, (h2 x hx).2⟩⟩
theorem akw_keep {h0 : xheap} {tyt : Lean.RArray (Nat × Nat)} {env : aenv} {wr : List awr} {ρ : Nat → Int} {g g' : cg} (hE : envR env ρ) (hg : ∀ k j : Nat, ¬ awc tyt wr k j → g' k j = g k j) {m : am} (hm : amR h0 tyt ρ g m) (h : wr.all (fun w => akw1 env m w) = true) : amR h0 tyt ρ g' m := by
  obtain ⟨k, j, v, a1, a2, a3, ⟨q, w, b1, b2, b3⟩, a5⟩ := hm
  by_cases ht : m.2.2.2.1 = 4
  · have hv : v.1 = 4 := by
      obtain ⟨kk, e, -⟩ := avR_ref a5 ht
      rw [e]
    rw [b3] at hv
    refine ⟨k, j, v, a1, a2, a3, ⟨q, w, b1, b2, ?_⟩, a5⟩
    rw [b3]
    exact (cval_ref hv).symm
  · have hn : ¬ awc tyt wr k j := by
      intro ⟨u, hu, c1, c2, c3, c4⟩
      have h := List.all_eq_true.mp h u hu
      unfold akw1 at h
      have e : u.1 = m.1 := Option.some.inj (c1.symm.trans a3)
      rw [xnb1 e] at h
      simp only [cond_true] at h
      have ht' : Nat.beq m.2.2.2.1 4 = false := by
        cases hb : Nat.beq m.2.2.2.1 4 with
        | false => rfl
        | true => exact absurd (xeqb hb) ht
      rw [ht'] at h
      simp only [cond_false] at h
      rcases xcnt h with h | h
      · split at h
        · cases h
        · rename_i c hc
          have := ene_ok hE h
          rw [a1, evc] at this
          exact this (by rw [c2 c hc])
      · rcases xcnt h with h | h
        · split at h
          · cases h
          · rename_i x hx
            have := eu_ok hE hx
            have := zlt_iff.mp h
            omega
        · cases hb : zle 2147483648 u.2.2.2 with
          | true => rw [hb] at h; cases h
          | false =>
            rw [hb] at h
            simp only [cond_false] at h
            rw [efrc_eq] at h
            split at h
            · cases h
            · rename_i x hx
              have := eu_ok hE hx
              rw [escl_ev] at this
              have h : x < -u.2.2.2 := zlt_iff.mp h
              have := zle_f hb
              rcases c4 with c4 | c4 <;> omega
    refine ⟨k, j, v, a1, a2, a3, ⟨q, w, b1, b2, ?_⟩, a5⟩
    rw [hg k j hn]
    exact b3
/-! patterns speak of their own symbols alone -/
def awfv (n : Nat) (a : av) : Bool := ewf n a.2.2.2
def awfP (P : apat) : Bool :=
  cond (P.1.all (fun q => awfv P.2.2.2.2.1.length q.2)) (cond (P.2.1.all (awfv P.2.2.2.2.1.length)) (cond (match P.2.2.1 with
    | none => true
    | some a => awfv P.2.2.2.2.1.length a) (cond (P.2.2.2.1.all (fun m => cond (ewf P.2.2.2.2.1.length m.2.1.2) (cond (ewf P.2.2.2.2.1.length m.2.2.1.2) (awfv P.2.2.2.2.1.length m.2.2.2) false) false)) (cond (P.2.2.2.2.2.1.all (fun f => ewf P.2.2.2.2.1.length f.2)) (P.2.2.2.2.2.2.1.all (fun x => cond (ewf P.2.2.2.2.1.length x.2.2.2.2) (cond (cond (Nat.beq x.1 50) true (Nat.beq x.1 51)) (Nat.blt x.2.1 P.2.2.2.2.1.length) true) false)) false) false) false) false) false
section Cong
variable {h0 : xheap} {tyt : Lean.RArray (Nat × Nat)} {sv : Nat → Int32} {el : Nat → Nat} {GH : Nat → Nat → Nat → Int → cg → Prop} {n : Nat} {ρ τ : Nat → Int}
theorem avR_ag (ha : aag n ρ τ) : ∀ {a : av} {v : cv}, awfv n a = true → avR tyt ρ a v → avR tyt τ a v := by
  intro a v hw h
  have e : ev τ a.2.2 = ev ρ a.2.2 := ewf_ev ha hw
  obtain ⟨t, ty, ex⟩ := a
  have e : ev τ ex = ev ρ ex := e
  match t, h with
  | 0, h => exact ⟨by rw [e]; exact h.1, by rw [e]; exact h.2⟩
  | 1, h => exact h.elim
  | 2, h => exact ⟨by rw [e]; exact h.1, by rw [e]; exact h.2⟩
  | 3, h => exact h.elim
  | 4, h =>
    obtain ⟨k, k1, k2, k3⟩ := h
    exact ⟨k, k1, e.trans k2, k3⟩
  | 5, h => exact h
  | 6, h => exact h
  | 7, h => exact h.elim
  | 8, h => exact h.elim
  | 9, h =>
    show v = (0, csgn (ev τ ex))
    rw [e]; exact h
  | 10, h => exact h
  | _ + 11, h => exact h.elim
theorem stR_ag (ha : aag n ρ τ) : ∀ {l : List av} {m : List cv}, l.all (awfv n) = true → stR tyt ρ l m → stR tyt τ l m
  | [], [], _, _ => trivial
  | [], _ :: _, _, h => h.elim
  | _ :: _, [], _, h => h.elim
  | a :: l, v :: m, hw, h => by
    obtain ⟨w1, w2⟩ := xand (show (awfv n a && l.all (awfv n)) = true from hw)
    exact ⟨avR_ag ha w1 h.1, stR_ag ha w2 h.2⟩
theorem lsR_ag (ha : aag n ρ τ) : ∀ {l : List (Nat × av)} {m : List (Nat × cv)}, l.all (fun q => awfv n q.2) = true → lsR tyt ρ l m → lsR tyt τ l m
  | [], [], _, _ => trivial
  | [], _ :: _, _, h => h.elim
  | _ :: _, [], _, h => h.elim
  | a :: l, v :: m, hw, h => by
    obtain ⟨w1, w2⟩ := xand (show (awfv n a.2 && l.all (fun q => awfv n q.2)) = true from hw)
    exact ⟨h.1, avR_ag ha w1 h.2.1, lsR_ag ha w2 h.2.2⟩
theorem agt_lt {α : Type} : ∀ {l : List α} {i : Nat} {x : α}, agt l i = some x → i < l.length
  | [], _, _, h => by cases h
  | _ :: l, 0, _, _ => by simp
  | _ :: l, i + 1, x, h => by
    have := agt_lt (l := l) (i := i) (x := x) h
    simp; omega
theorem patR_ag {P : apat} {g : cg} {lsc : List (Nat × cv)} {stc : List cv} {rv : Option cv} (hw : awfP P = true) (ha : aag P.2.2.2.2.1.length ρ τ) (h : patR h0 tyt (aGSd sv el GH) P ρ g lsc stc rv) : patR h0 tyt (aGSd sv el GH) P τ g lsc stc rv := by
  obtain ⟨w1, hw⟩ := xcnb hw
  obtain ⟨w2, hw⟩ := xcnb hw
  obtain ⟨w3, hw⟩ := xcnb hw
  obtain ⟨w4, hw⟩ := xcnb hw
  obtain ⟨w5, w6⟩ := xcnb hw
  obtain ⟨h1, h2, h3, h4, h5, h6, h7⟩ := h
  refine ⟨lsR_ag ha w1 h1, stR_ag ha w2 h2, ?_, fun m hm => ?_, fun s i hs => ?_, fun f hf => ?_, fun x hx => ?_⟩
  · cases hp : P.2.2.1 with
    | none => rw [hp] at h3; cases rv with
      | none => trivial
      | some v => exact h3.elim
    | some a =>
      rw [hp] at h3 w3
      cases rv with
      | none => exact h3.elim
      | some v => exact avR_ag ha w3 h3
  · have w := List.all_eq_true.mp w4 m hm
    obtain ⟨x1, w⟩ := xcnb w
    obtain ⟨x2, x3⟩ := xcnb w
    obtain ⟨k, j, v, a1, a2, a3, a4, a5⟩ := h4 m hm
    exact ⟨k, j, v, (ewf_ev ha x1).trans a1, (ewf_ev ha x2).trans a2, a3, a4, avR_ag ha x3 a5⟩
  · have := agt_lt hs
    rw [ha s this]
    exact h5 s i hs
  · rw [ewf_ev ha (List.all_eq_true.mp w5 f hf)]
    exact h6 f hf
  · have w := List.all_eq_true.mp w6 x hx
    obtain ⟨x1, x2⟩ := xcnb w
    refine aGSd_sub (ρ := ρ) (e := x.2.2.2) (fun hk => ?_) (ewf_ev ha x1).symm (h7 x hx)
    have hb : cond (Nat.beq x.1 50) true (Nat.beq x.1 51) = true := by
      rcases hk with q | q <;> rw [q] <;> rfl
    rw [hb] at x2
    exact ha _ (xltb x2)
end Cong
end
section
/-! The ends of a method that was called -/
noncomputable def anew : List (Int × Int) → aenv → Nat → (List ae → aenv → Nat → Bool) → Bool
  | [], env, ne, k => k [] env ne
  | i :: l, env, ne, k => afrs i.1 i.2 env ne (fun env' ne' => anew l env' ne' (fun σ env ne2 => k (esym ne :: σ) env ne2))
def asy : Nat → Nat → List ae
  | _, 0 => []
  | s, n + 1 => esym s :: asy (s + 1) n
noncomputable def aasl : List ae → aenv → List ae → (aenv → List ae → Bool) → Bool
  | [], env, fx, k => k env fx
  | e :: l, env, fx, k => efrc e (fun e => aas env fx e (fun env fx => aasl l env fx k))
def aivl : List ae → List (Int × Int) → List ae
  | e :: σ, i :: l => eadc e (Int.neg i.2) :: eadd (i.1, []) e (-1) :: aivl σ l
  | _, _ => []
def adrp {α : Type} : Nat → List α → List α
  | 0, l => l
  | _ + 1, [] => []
  | n + 1, _ :: l => adrp n l
noncomputable def amsb (σ : List ae) : List am → (List am → Bool) → Bool
  | [], k => k []
  | m :: l, k => efrc (asub σ m.2.1) (fun c => efrc (asub σ m.2.2.1) (fun i => efrc (asub σ m.2.2.2.2.2) (fun e => amsb σ l (fun r => k ((m.1, c, i, (m.2.2.2.1, m.2.2.2.2.1, e)) :: r)))))
noncomputable def agsb (σ : List ae) : List gho → (List gho → Bool) → Bool
  | [], k => k []
  | x :: l, k => efrc (asub σ x.2.2.2) (fun e => agsb σ l (fun r => k ((x.1, x.2.1, x.2.2.1, e) :: r)))
noncomputable def apst (HW : aenv → List ae → List am → List gho → List awr → List gho) (wr : List awr) (P : apat) (σ : List ae) (mem : List am) (env : aenv) (fx : List ae) (gh : List gho) (ne : Nat) (k : Option av → List am → aenv → List ae → List gho → Nat → Bool) : Bool :=
  cond (σ.all (fun e => ewf ne e.2)) (anew (adrp σ.length P.2.2.2.2.1) env ne (fun nw env ne' =>
    aasl (aivl σ P.2.2.2.2.1 ++ P.2.2.2.2.2.1.map (asub (σ ++ nw))) env fx (fun env fx => aprp fx env (fun env => akwf env wr mem (fun r => amsb (σ ++ nw) P.2.2.2.1 (fun m => agsb (σ ++ nw) P.2.2.2.2.2.2.1 (fun gs =>
      match P.2.2.1 with
      | none => k none (m ++ r) env fx (gs ++ HW env fx mem gh wr) ne'
      | some a => efrc (asub (σ ++ nw) a.2.2) (fun e => k (some (a.1, a.2.1, e)) (m ++ r) env fx (gs ++ HW env fx mem gh wr) ne')))))))) false
theorem anew_ok : ∀ (l : List (Int × Int)) (env : aenv) (ne : Nat) (k : List ae → aenv → Nat → Bool), anew l env ne k = true → ∃ env', k (asy ne l.length) env' (ne + l.length) = true ∧ ∀ τ : Nat → Int, envR env τ → (∀ (i : Nat) (x : Int × Int), agt l i = some x → x.1 ≤ τ (ne + i) ∧ τ (ne + i) ≤ x.2) → envR env' τ
  | [], env, ne, k, h => ⟨env, h, fun _ h _ => h⟩
  | i :: l, env, ne, k, h => by
    unfold anew at h
    rw [afrs_eq] at h
    obtain ⟨env', h1, h2⟩ := anew_ok l _ _ _ h
    refine ⟨env', ?_, fun τ hE hb => ?_⟩
    · have e : ne + (i :: l).length = ne + 1 + l.length := by simp; omega
      rw [e]
      exact h1
    · refine h2 τ (envR_set hE (hb 0 i rfl).1 (hb 0 i rfl).2) (fun s x hs => ?_)
      have := hb (s + 1) x hs
      rw [show ne + 1 + s = ne + (s + 1) by omega]
      exact this
theorem asy_get : ∀ (n s i : Nat), i < n → agt (asy s n) i = some (esym (s + i))
  | 0, _, i, h => absurd h (Nat.not_lt_zero i)
  | n + 1, s, 0, _ => rfl
  | n + 1, s, i + 1, h => by
    show agt (asy (s + 1) n) i = _
    rw [asy_get n (s + 1) i (by omega), show s + 1 + i = s + (i + 1) by omega]
theorem agt_app {α : Type} : ∀ (a b : List α) (s : Nat), agt (a ++ b) s = if s < a.length then agt a s else agt b (s - a.length)
  | [], b, s => by simp
  | x :: a, b, 0 => by simp [agt]
  | x :: a, b, s + 1 => by
    show agt (a ++ b) s = _
    rw [agt_app a b s]
    simp only [List.length_cons]
    by_cases h : s < a.length
    · rw [if_pos h, if_pos (by omega)]; rfl
    · rw [if_neg h, if_neg (by omega), show s + 1 - (a.length + 1) = s - a.length by omega]
theorem agt_drp {α : Type} : ∀ (n : Nat) (l : List α) (i : Nat), agt (adrp n l) i = agt l (n + i)
  | 0, l, i => by rw [Nat.zero_add]; rfl
  | n + 1, [], i => by cases i <;> simp [adrp, agt]
  | n + 1, _ :: l, i => by
    show agt (adrp n l) i = _
    rw [agt_drp n l i, show n + 1 + i = (n + i) + 1 by omega]
    rfl
theorem adrp_len {α : Type} : ∀ (n : Nat) (l : List α), (adrp n l).length = l.length - n
  | 0, l => by simp [adrp]
  | n + 1, [] => by simp [adrp]
  | n + 1, _ :: l => by
    show (adrp n l).length = _
    rw [adrp_len n l]
    simp
theorem agt_some {α : Type} : ∀ {l : List α} {i : Nat}, i < l.length → ∃ x, agt l i = some x
  | [], i, h => absurd h (Nat.not_lt_zero i)
  | x :: _, 0, _ => ⟨x, rfl⟩
  | _ :: l, i + 1, h => agt_some (l := l) (i := i) (by simp at h; omega)
theorem agt_mem {α : Type} : ∀ {l : List α} {i : Nat} {x : α}, agt l i = some x → x ∈ l
  | [], _, _, h => by cases h
  | y :: l, 0, x, h => by
    have : y = x := Option.some.inj h
    rw [this]; exact List.mem_cons_self
  | _ :: l, i + 1, x, h => List.mem_cons_of_mem _ (agt_mem (l := l) (i := i) h)
theorem aasl_ok {P : (Nat → Int) → Prop} (hP : ∃ ρ, P ρ) : ∀ (l : List ae) (env : aenv) (fx : List ae) (k : aenv → List ae → Bool), aasl l env fx k = true → (∀ ρ, P ρ → envR env ρ ∧ fxR fx ρ ∧ ∀ e ∈ l, ev ρ e ≤ 0) → ∃ env' fx', k env' fx' = true ∧ ∀ ρ, P ρ → envR env' ρ ∧ fxR fx' ρ
  | [], env, fx, k, h, hR => ⟨env, fx, h, fun ρ p => ⟨(hR ρ p).1, (hR ρ p).2.1⟩⟩
  | e :: l, env, fx, k, h, hR => by
    unfold aasl at h
    rw [efrc_eq] at h
    obtain ⟨env1, fx1, h1, h2⟩ := aas_ok hP h (fun ρ p => ⟨(hR ρ p).1, (hR ρ p).2.1, (hR ρ p).2.2 e List.mem_cons_self⟩)
    exact aasl_ok hP l env1 fx1 k h1 (fun ρ p => ⟨(h2 ρ p).1, (h2 ρ p).2, fun x hx => (hR ρ p).2.2 x (List.mem_cons_of_mem _ hx)⟩)
theorem aivl_ok {ρ : Nat → Int} : ∀ (σ : List ae) (l : List (Int × Int)), (∀ (s : Nat) (i : Int × Int), s < σ.length → agt l s = some i → i.1 ≤ ev ρ (asgt σ s) ∧ ev ρ (asgt σ s) ≤ i.2) → ∀ e ∈ aivl σ l, ev ρ e ≤ 0
  | [], _, _, e, he => absurd he List.not_mem_nil
  | _ :: _, [], _, e, he => absurd he List.not_mem_nil
  | x :: σ, i :: l, h, e, he => by
    have h0 := h 0 i (by simp) rfl
    have h0a : i.1 ≤ ev ρ x := h0.1
    have h0b : ev ρ x ≤ i.2 := h0.2
    rcases List.mem_cons.mp he with q | he
    · rw [q, eadc_ev]
      show ev ρ x + -i.2 ≤ 0
      omega
    · rcases List.mem_cons.mp he with q | he
      · rw [q, eadd_ev]
        have : ev ρ ((i.1, []) : ae) = i.1 := ecst_ev ρ i.1
        rw [this]
        omega
      · exact aivl_ok σ l (fun s j hs hj => h (s + 1) j (by simp; omega) hj) e he
theorem amsb_eq (σ : List ae) : ∀ (l : List am) (k : List am → Bool), amsb σ l k = k (l.map (fun m => (m.1, asub σ m.2.1, asub σ m.2.2.1, (m.2.2.2.1, m.2.2.2.2.1, asub σ m.2.2.2.2.2))))
  | [], _ => rfl
  | m :: l, k => by
    unfold amsb
    rw [efrc_eq, efrc_eq, efrc_eq, amsb_eq σ l]
    rfl
theorem agsb_eq (σ : List ae) : ∀ (l : List gho) (k : List gho → Bool), agsb σ l k = k (l.map (fun x => (x.1, x.2.1, x.2.2.1, asub σ x.2.2.2)))
  | [], _ => rfl
  | x :: l, k => by
    unfold agsb
    rw [efrc_eq, agsb_eq σ l]
    rfl
theorem avR_sub {tyt : Lean.RArray (Nat × Nat)} {τ : Nat → Int} {σ : List ae} : ∀ {a : av} {v : cv}, avR tyt (asρ τ σ) a v → avR tyt τ (a.1, a.2.1, asub σ a.2.2) v := by
  intro a v h
  obtain ⟨t, ty, ex⟩ := a
  have e : ev τ (asub σ ex) = ev (asρ τ σ) ex := asub_ev τ σ ex
  match t, h with
  | 0, h => exact ⟨by show v = (0, ev τ (asub σ ex)); rw [e]; exact h.1, by show cI (ev τ (asub σ ex)); rw [e]; exact h.2⟩
  | 1, h => exact h.elim
  | 2, h => exact ⟨by show v = (2, ev τ (asub σ ex)); rw [e]; exact h.1, by show cL (ev τ (asub σ ex)); rw [e]; exact h.2⟩
  | 3, h => exact h.elim
  | 4, h =>
    obtain ⟨k, k1, k2, k3⟩ := h
    exact ⟨k, k1, e.trans k2, k3⟩
  | 5, h => exact h
  | 6, h => exact h
  | 7, h => exact h.elim
  | 8, h => exact h.elim
  | 9, h =>
    show v = (0, csgn (ev τ (asub σ ex)))
    rw [e]; exact h
  | 10, h => exact h
  | _ + 11, h => exact h.elim
section Post
variable {h0 : xheap} {tyt : Lean.RArray (Nat × Nat)} {sv : Nat → Int32} {el : Nat → Nat} {GH : Nat → Nat → Nat → Int → cg → Prop} {HW : aenv → List ae → List am → List gho → List awr → List gho}
def aHW (h0 : xheap) (tyt : Lean.RArray (Nat × Nat)) (GS : gho → (Nat → Int) → cg → Prop) (HW : aenv → List ae → List am → List gho → List awr → List gho) : Prop := ∀ (env : aenv) (fx : List ae) (mem : List am) (gh : List gho) (wr : List awr) (g g' : cg) (ρ : Nat → Int), coR h0 tyt GS env fx mem gh g ρ → (∀ k j : Nat, ¬ awc tyt wr k j → g' k j = g k j) → ghR GS (HW env fx mem gh wr) ρ g'
theorem apst_ok (hHW : aHW h0 tyt (aGSd sv el GH) HW) {wr : List awr} {P : apat} {σ : List ae} {mem : List am} {env : aenv} {fx : List ae} {gh : List gho} {ne : Nat} {k : Option av → List am → aenv → List ae → List gho → Nat → Bool} {ρ ρ' : Nat → Int} {g g' : cg} {rv : Option cv} (hw : awfP P = true) (hgs : ∀ x ∈ P.2.2.2.2.2.2.1, x.1 ≠ 50 ∧ x.1 ≠ 51) (hC : aC ne ρ (coR h0 tyt (aGSd sv el GH) env fx mem gh g)) (hp : σ.length ≤ P.2.2.2.2.1.length) (ha : aag σ.length (asρ ρ σ) ρ') (hpat : patR h0 tyt (aGSd sv el GH) P ρ' g' [] [] rv) (hg : ∀ k j : Nat, ¬ awc tyt wr k j → g' k j = g k j)
    (h : apst HW wr P σ mem env fx gh ne k = true) : ∃ (rva : Option av) (mem' : List am) (env' : aenv) (fx' : List ae) (gh' : List gho) (ne' : Nat) (ρ1 : Nat → Int), k rva mem' env' fx' gh' ne' = true ∧ ne ≤ ne' ∧ aag ne ρ ρ1 ∧ aC ne' ρ1 (coR h0 tyt (aGSd sv el GH) env' fx' mem' gh' g') ∧ aC ne' ρ1 (fun τ => rvR tyt τ rva rv) := by
  unfold apst at h
  obtain ⟨hwf, h⟩ := xcnb h
  obtain ⟨env1, h1, h2⟩ := anew_ok _ _ _ _ h
  rw [adrp_len] at h1
  generalize hn : P.2.2.2.2.1.length - σ.length = n at h1
  let ρ1 : Nat → Int := fun s => if s < ne then ρ s else ρ' (σ.length + (s - ne))
  have hag : aag ne ρ ρ1 := fun s hs => by show (if s < ne then ρ s else _) = _; rw [if_pos hs]
  have key : ∀ τ, aag (ne + n) ρ1 τ → aag P.2.2.2.2.1.length ρ' (asρ τ (σ ++ asy ne n)) := by
    intro τ hτ s hs
    show ev τ (asgt (σ ++ asy ne n) s) = ρ' s
    unfold asgt
    rw [agt_app]
    by_cases hsp : s < σ.length
    · rw [if_pos hsp]
      obtain ⟨e, he⟩ := agt_some hsp
      rw [he]
      dsimp only
      have h3 := ewf_ev (aag.tr (by omega) hag hτ) (List.all_eq_true.mp hwf e (agt_mem he))
      have h4 := ha s hsp
      unfold asρ asgt at h4
      rw [he] at h4
      dsimp only at h4
      rw [h3, h4]
    · rw [if_neg hsp, asy_get n ne (s - σ.length) (by omega)]
      dsimp only
      rw [esym_ev, hτ _ (by omega)]
      show (if ne + (s - σ.length) < ne then _ else ρ' (σ.length + (ne + (s - σ.length) - ne))) = _
      rw [if_neg (by omega)]
      congr 1
      omega
  have hpτ : ∀ τ, aag (ne + n) ρ1 τ → patR h0 tyt (aGSd sv el GH) P (asρ τ (σ ++ asy ne n)) g' [] [] rv := fun τ hτ => patR_ag hw (key τ hτ) hpat
  have hCτ : ∀ τ, aag (ne + n) ρ1 τ → coR h0 tyt (aGSd sv el GH) env fx mem gh g τ := fun τ hτ => hC τ (aag.tr (by omega) hag hτ)
  have hE1 : ∀ τ, aag (ne + n) ρ1 τ → envR env1 τ := by
    intro τ hτ
    refine h2 τ (hCτ τ hτ).1 (fun i x hx => ?_)
    rw [agt_drp] at hx
    have := hpat.2.2.2.2.1 _ x hx
    have hl := agt_lt hx
    rw [hτ _ (by omega)]
    show x.1 ≤ (if ne + i < ne then ρ (ne + i) else ρ' (σ.length + (ne + i - ne))) ∧ (if ne + i < ne then ρ (ne + i) else ρ' (σ.length + (ne + i - ne))) ≤ x.2
    rw [if_neg (by omega), show σ.length + (ne + i - ne) = σ.length + i by omega]
    exact this
  obtain ⟨env2, fx2, h3, h4⟩ := aasl_ok (P := aag (ne + n) ρ1) ⟨ρ1, aag.rf _ _⟩ _ _ _ _ h1 (fun τ hτ => ⟨hE1 τ hτ, (hCτ τ hτ).2.1, fun e he => by
    rcases List.mem_append.mp he with he | he
    · refine aivl_ok σ _ (fun s i hs hi => ?_) e he
      have h5 := (hpτ τ hτ).2.2.2.2.1 s i hi
      have h6 : asρ τ (σ ++ asy ne n) s = ev τ (asgt σ s) := by
        show ev τ (asgt (σ ++ asy ne n) s) = _
        unfold asgt
        rw [agt_app, if_pos hs]
      rw [h6] at h5
      exact h5
    · obtain ⟨f, hf, e2⟩ := List.mem_map.mp he
      rw [← e2, asub_ev]
      exact (hpτ τ hτ).2.2.2.2.2.1 f hf⟩)
  obtain ⟨env3, h5, h6⟩ := aprp_ok (P := aag (ne + n) ρ1) ⟨ρ1, aag.rf _ _⟩ _ _ _ h3 h4
  obtain ⟨r, e1, e2⟩ := akwf_ok env3 wr mem (fun r => amsb (σ ++ asy ne n) P.2.2.2.1 (fun m => agsb (σ ++ asy ne n) P.2.2.2.2.2.2.1 (fun gs =>
      match P.2.2.1 with
      | none => k none (m ++ r) env3 fx2 (gs ++ HW env3 fx2 mem gh wr) (ne + n)
      | some a => efrc (asub (σ ++ asy ne n) a.2.2) (fun e => k (some (a.1, a.2.1, e)) (m ++ r) env3 fx2 (gs ++ HW env3 fx2 mem gh wr) (ne + n)))))
  rw [e1, amsb_eq, agsb_eq] at h5
  have hco : aC (ne + n) ρ1 (coR h0 tyt (aGSd sv el GH) env3 fx2 (P.2.2.2.1.map (fun m => (m.1, asub (σ ++ asy ne n) m.2.1, asub (σ ++ asy ne n) m.2.2.1, (m.2.2.2.1, m.2.2.2.2.1, asub (σ ++ asy ne n) m.2.2.2.2.2))) ++ r) (P.2.2.2.2.2.2.1.map (fun x => (x.1, x.2.1, x.2.2.1, asub (σ ++ asy ne n) x.2.2.2)) ++ HW env3 fx2 mem gh wr) g') := by
    intro τ hτ
    have hc := hCτ τ hτ
    have hE := h6 τ hτ
    refine ⟨hE, (h4 τ hτ).2, fun m hm => ?_, fun x hx => ?_⟩
    · rcases List.mem_append.mp hm with hm | hm
      · obtain ⟨m0, q1, q2⟩ := List.mem_map.mp hm
        rw [← q2]
        obtain ⟨kk, j, v, a1, a2, a3, a4, a5⟩ := (hpτ τ hτ).2.2.2.1 m0 q1
        exact ⟨kk, j, v, (asub_ev _ _ _).trans a1, (asub_ev _ _ _).trans a2, a3, a4, avR_sub a5⟩
      · exact akw_keep hE hg (hc.2.2.1 m (e2 m hm).1) (e2 m hm).2
    · rcases List.mem_append.mp hx with hx | hx
      · obtain ⟨x0, q1, q2⟩ := List.mem_map.mp hx
        rw [← q2]
        have hx0 := hgs x0 q1
        refine aGSd_sub (x := (x0.1, x0.2.1, x0.2.2.1, asub (σ ++ asy ne n) x0.2.2.2)) (ρ := asρ τ (σ ++ asy ne n)) (e := x0.2.2.2) (fun hk => ?_) (asub_ev _ _ _).symm ((hpτ τ hτ).2.2.2.2.2.2 x0 q1)
        rcases hk with q | q
        · exact absurd q hx0.1
        · exact absurd q hx0.2
      · exact hHW env3 fx2 mem gh wr g g' τ ⟨hE, (h4 τ hτ).2, hc.2.2.1, hc.2.2.2⟩ hg x hx
  have hrv : ∀ τ, aag (ne + n) ρ1 τ → rvR tyt (asρ τ (σ ++ asy ne n)) P.2.2.1 rv := fun τ hτ => (hpτ τ hτ).2.2.1
  cases hr : P.2.2.1 with
  | none =>
    rw [hr] at h5 hrv
    refine ⟨_, _, _, _, _, _, ρ1, h5, by omega, hag, hco, fun τ hτ => ?_⟩
    have := hrv τ hτ
    cases rv with
    | none => trivial
    | some v => exact this.elim
  | some a =>
    rw [hr] at h5 hrv
    dsimp only at h5
    rw [efrc_eq] at h5
    refine ⟨_, _, _, _, _, _, ρ1, h5, by omega, hag, hco, fun τ hτ => ?_⟩
    have := hrv τ hτ
    cases rv with
    | none => exact this.elim
    | some v => exact avR_sub this
end Post
end
section
/-! A method's instances: each is checked over those before it -/
/-- method, depth, start, cuts, ends, writes -/
abbrev ains : Type := Nat × Nat × apat × List (Nat × List apat) × List apat × List awr
noncomputable def aini : List (Int × Int) → Nat → aenv → (aenv → Bool) → Bool
  | [], _, env, k => k env
  | i :: l, s, env, k => xsK env s (some i) (fun env' => xfrc (s + 1) (fun s' => aini l s' env' k))
theorem aini_ok : ∀ (l : List (Int × Int)) (s : Nat) (env : aenv) (k : aenv → Bool), ∃ env', aini l s env k = k env' ∧ ∀ (t : Nat) (v : Int × Int), xg env' t = some (some v) → xg env t = some (some v) ∨ ∃ i, t = s + i ∧ agt l i = some v
  | [], s, env, k => ⟨env, rfl, fun _ _ h => Or.inl h⟩
  | i :: l, s, env, k => by
    unfold aini
    rw [xsK_eq, xfrc_eq]
    obtain ⟨env', h1, h2⟩ := aini_ok l (s + 1) (xw env s (some i)) k
    refine ⟨env', h1, fun t v ht => ?_⟩
    rcases h2 t v ht with h | ⟨j, h3, h4⟩
    · by_cases e : t = s
      · subst e
        cases hg : xg env t with
        | none => rw [xw_none env t (some i) hg] at h; cases h
        | some w =>
          rw [xg_self env t (some i) w hg] at h
          have : i = v := Option.some.inj (Option.some.inj h)
          exact Or.inr ⟨0, rfl, by rw [← this]; rfl⟩
      · rw [xg_other env s t _ e] at h
        exact Or.inl h
    · exact Or.inr ⟨j + 1, by omega, h4⟩
theorem xmk_val {α : Type} (v : α) : ∀ (f lo n k : Nat) (w : α), xg (xmk v f lo n) k = some w → w = v
  | 0, lo, n, k, w, h => by
    have h : cond (Nat.beq lo k) (some v) none = some w := h
    obtain ⟨-, h⟩ := xcnd h
    exact (Option.some.inj h).symm
  | f + 1, lo, n, k, w, h => by
    have h : xg (cond (Nat.ble n 1) (.leaf (lo, v)) (.branch (lo + n / 2) (xmk v f lo (n / 2)) (xmk v f (lo + n / 2) (n - n / 2)))) k = some w := h
    cases hb : Nat.ble n 1 with
    | true =>
      rw [hb] at h
      have h : cond (Nat.beq lo k) (some v) none = some w := h
      obtain ⟨-, h⟩ := xcnd h
      exact (Option.some.inj h).symm
    | false =>
      rw [hb] at h
      simp only [cond_false] at h
      rw [xg_branch] at h
      cases hc : Nat.ble (lo + n / 2) k with
      | true => rw [hc] at h; exact xmk_val v f _ _ k w h
      | false => rw [hc] at h; exact xmk_val v f _ _ k w h
def acts : List (Nat × List apat) → Nat → Option (List apat)
  | [], _ => none
  | q :: l, pc => cond (Nat.beq q.1 pc) (some q.2) (acts l pc)
theorem acts_mem : ∀ {l : List (Nat × List apat)} {pc : Nat} {L : List apat}, acts l pc = some L → (pc, L) ∈ l
  | [], _, _, h => by cases h
  | q :: l, pc, L, h => by
    have h : cond (Nat.beq q.1 pc) (some q.2) (acts l pc) = some L := h
    cases hb : Nat.beq q.1 pc with
    | true =>
      rw [hb] at h
      have e1 := xeqb hb
      have e2 : q.2 = L := Option.some.inj h
      have : q = (pc, L) := by rw [← e1, ← e2]
      rw [this]; exact List.mem_cons_self
    | false => rw [hb] at h; exact List.mem_cons_of_mem _ (acts_mem h)
section Ins
variable (h0 : xheap) (tyt : Lean.RArray (Nat × Nat)) (typs : Lean.RArray (Nat × aty)) (HK : aenv → List ae → List am → List gho → Nat → ae → ae → Int × Int → Int × Int) (HS : aenv → List ae → List am → List gho → Nat → ae → ae → av → List gho)
variable (HA : aenv → List ae → List am → List gho → Nat → ae → Nat → ae → ae → ae → ae → List gho) (HH : aenv → List ae → List am → List gho → gho → Bool) (HW : aenv → List ae → List am → List gho → List awr → List gho)
variable (cd : xcd) (mi : xmi) (el : Nat → Nat) (eb : Nat → List Nat) (inl : Nat → Bool) (fl : Nat → Nat → Nat) (spl : Nat → Nat → Option (Nat × Nat × Nat × Nat × List Int)) (cand : Nat → List Nat) (INS : Lean.RArray (Nat × ains))
noncomputable def aSMi (i : Nat) (wr : List awr) (z dd : Nat) (args : List av) (mem : List am) (env : aenv) (fx : List ae) (gh : List gho) (ne : Nat) (k : Option av → List am → aenv → List ae → List gho → Nat → Bool) : Bool :=
  (cand z).any (fun c => cond (Nat.blt c i) (match xg INS c with
    | none => false
    | some J => cond (Nat.beq J.1 z && Nat.ble J.2.1 dd && awsb J.2.2.2.2.2 wr) (aent h0 tyt typs HK HH 0 J.2.2.1 none (aarg 0 args) [] none mem env fx gh ne (fun σ mem env ne => cond (Nat.beq σ.length J.2.2.1.2.2.2.2.1.length) (J.2.2.2.2.1.all (fun P => apst HW J.2.2.2.2.2 P σ mem env fx gh ne k)) false)) false) false)
noncomputable def aRTi (I : ains) (rv : Option av) (mem : List am) (env : aenv) (fx : List ae) (gh : List gho) (ne : Nat) : Bool :=
  I.2.2.2.2.1.any (fun P => aent h0 tyt typs HK HH I.2.2.1.2.2.2.2.1.length P none [] [] rv mem env fx gh ne (fun _ _ _ _ => true))
noncomputable def aCTi (I : ains) (pc : Nat) : Bool := match acts I.2.2.2.1 pc with
  | none => false
  | some _ => true
noncomputable def aCUi (I : ains) (M : Option ae) (dd pc : Nat) (ls : List (Nat × av)) (st : List av) (mem : List am) (env : aenv) (fx : List ae) (gh : List gho) (ne : Nat) : Bool :=
  cond (Nat.ble I.2.1 dd) (match acts I.2.2.2.1 pc with
    | none => false
    | some L => L.any (fun P => aent h0 tyt typs HK HH I.2.2.1.2.2.2.2.1.length P M ls st none mem env fx gh ne (fun _ _ _ _ => true))) false
noncomputable def arnI (f i : Nat) (I : ains) (P : apat) (M : Option ae) (pc : Nat) : Bool :=
  aini P.2.2.2.2.1 0 (xmk none 9 0 512) (fun env => xfrc P.2.2.2.2.1.length (fun np => aone h0 tyt typs HK HS (aWK I.2.2.2.2.2) (aWA I.2.2.2.2.2) HA cd mi el eb inl (aSMi h0 tyt typs HK HH HW cand INS i I.2.2.2.2.2) (aRTi h0 tyt typs HK HH I) fl spl
    (arun h0 tyt typs HK HS (aWK I.2.2.2.2.2) (aWA I.2.2.2.2.2) HA cd mi el eb inl (aSMi h0 tyt typs HK HH HW cand INS i I.2.2.2.2.2) (aRTi h0 tyt typs HK HH I) fl spl I.1 (aCTi I) (aCUi h0 tyt typs HK HH I M) f) I.1 I.2.1 pc P.1 P.2.1 [] P.2.2.2.1 env P.2.2.2.2.2.1 P.2.2.2.2.2.2.1 np))
/-- the forms -/
def awfI (I : ains) : Bool :=
  cond (awfP I.2.2.1) (cond (I.2.2.2.2.1.all (fun P => cond (awfP P) (cond (Nat.ble I.2.2.1.2.2.2.2.1.length P.2.2.2.2.1.length) (P.2.2.2.2.2.2.1.all (fun x => cond (Nat.beq x.1 50) false (!(Nat.beq x.1 51)))) false) false))
    (I.2.2.2.1.all (fun q => q.2.all (fun P => cond (awfP P) (cond (Nat.ble I.2.2.1.2.2.2.2.1.length P.2.2.2.2.1.length) (ewf P.2.2.2.2.1.length P.2.2.2.2.2.2.2.2) false) false))) false) false
noncomputable def achI (f i : Nat) : Bool := match xg INS i with
  | none => false
  | some I => cond (awfI I) (cond (arnI h0 tyt typs HK HS HA HH HW cd mi el eb inl fl spl cand INS f i I I.2.2.1 none 0) (I.2.2.2.1.all (fun q => q.2.all (fun P => arnI h0 tyt typs HK HS HA HH HW cd mi el eb inl fl spl cand INS f i I P (some P.2.2.2.2.2.2.2) q.1))) false) false
end Ins
section InsS
variable {sv : Nat → Int32} {cd : xcd} {mi : xmi} {df : xdf} {el : Nat → Nat} {eb : Nat → List Nat} {G : xG} {h0 : xheap} {n0 : Nat} {cn0 sn0 : Nat → Nat}
variable {tyt : Lean.RArray (Nat × Nat)} {typs : Lean.RArray (Nat × aty)} {GH : Nat → Nat → Nat → Int → cg → Prop}
variable {HK : aenv → List ae → List am → List gho → Nat → ae → ae → Int × Int → Int × Int} {HS : aenv → List ae → List am → List gho → Nat → ae → ae → av → List gho}
variable {HA : aenv → List ae → List am → List gho → Nat → ae → Nat → ae → ae → ae → ae → List gho} {HH : aenv → List ae → List am → List gho → gho → Bool} {HW : aenv → List ae → List am → List gho → List awr → List gho}
variable {inl : Nat → Bool} {fl : Nat → Nat → Nat} {spl : Nat → Nat → Option (Nat × Nat × Nat × Nat × List Int)} {cand : Nat → List Nat} {INS : Lean.RArray (Nat × ains)}
/-- what an instance says -/
def aQi (h0 : xheap) (tyt : Lean.RArray (Nat × Nat)) (typs : Lean.RArray (Nat × aty)) (GS : gho → (Nat → Int) → cg → Prop) (I : ains) (ρ : Nat → Int) (g0 g' : cg) (rv : Option cv) : Prop := aInv tyt typs g' ∧ (∀ k j : Nat, ¬ awc tyt I.2.2.2.2.2 k j → g' k j = g0 k j) ∧ ∃ P ∈ I.2.2.2.2.1, ∃ ρ' : Nat → Int, aag I.2.2.1.2.2.2.2.1.length ρ ρ' ∧ patR h0 tyt GS P ρ' g' [] [] rv
def aInsOK (G : xG) (h0 : xheap) (n0 : Nat) (cn0 sn0 : Nat → Nat) (tyt : Lean.RArray (Nat × Nat)) (typs : Lean.RArray (Nat × aty)) (GS : gho → (Nat → Int) → cg → Prop) (I : ains) : Prop :=
  ∀ (ρ : Nat → Int) (g : cg) (lsc : List (Nat × cv)) (d : Nat), patR h0 tyt GS I.2.2.1 ρ g lsc [] none → aInv tyt typs g → I.2.1 ≤ d → cT G h0 n0 I.1 d 0 lsc [] g (cn0 I.1) (sn0 I.1) (aQi h0 tyt typs GS I ρ g)
/-- what is asked of all -/
def aBase (sv : Nat → Int32) (cd : xcd) (mi : xmi) (df : xdf) (el : Nat → Nat) (eb : Nat → List Nat) (G : xG) (h0 : xheap) (cn0 sn0 : Nat → Nat) (tyt : Lean.RArray (Nat × Nat)) (typs : Lean.RArray (Nat × aty)) (GH : Nat → Nat → Nat → Int → cg → Prop) (HK : aenv → List ae → List am → List gho → Nat → ae → ae → Int × Int → Int × Int) (HS : aenv → List ae → List am → List gho → Nat → ae → ae → av → List gho) (HA : aenv → List ae → List am → List gho → Nat → ae → Nat → ae → ae → ae → ae → List gho) (HH : aenv → List ae → List am → List gho → gho → Bool) (HW : aenv → List ae → List am → List gho → List awr → List gho) : Prop :=
  cW sv cd mi df el eb G ∧ cH0 h0 ∧ aWd h0 tyt typs ∧ el 0 < 2147483648 ∧ aHK h0 tyt (aGSd sv el GH) HK ∧ aHS h0 tyt (aGSd sv el GH) HS ∧ aHA h0 tyt (aGSd sv el GH) HA ∧ aHH h0 tyt (aGSd sv el GH) HH ∧ aHW h0 tyt (aGSd sv el GH) HW ∧ (∀ (y : Nat) (q : Nat × Nat × Nat × Nat × Nat × Nat), xg mi y = some q → cn0 y ≤ q.1 ∧ sn0 y ≤ q.2.1) ∧ (∀ y t, xg cd y = some t → ∃ q, xg mi y = some q)
theorem aSMi_ok (hB : aBase sv cd mi df el eb G h0 cn0 sn0 tyt typs GH HK HS HA HH HW) {i : Nat} {wr : List awr} {p : Nat} {ρ0 : Nat → Int} {g0 : cg} (hwfI : ∀ c J, c < i → xg INS c = some J → awfI J = true) (hz : ∀ c J, c < i → xg INS c = some J → cn0 J.1 = 0 ∧ sn0 J.1 = 0) (ih : ∀ c J, c < i → xg INS c = some J → aInsOK G h0 n0 cn0 sn0 tyt typs (aGSd sv el GH) J) : aSM G h0 n0 tyt typs (aGSd sv el GH) (aFX p ρ0 g0 (awc tyt wr)) (aSMi h0 tyt typs HK HH HW cand INS i wr) := by
  obtain ⟨hG, h00, hW, hl, hHK, hHS, hHA, hHH, hHW, hmi, hmy⟩ := hB
  intro z dd args mem env fx gh ne k h ρ g argc d hC hA hI hX hd
  unfold aSMi at h
  obtain ⟨c, hc, h⟩ := List.any_eq_true.mp h
  obtain ⟨h1, h⟩ := xcnb h
  cases hJ : xg INS c with
  | none => rw [hJ] at h; cases h
  | some J =>
    rw [hJ] at h
    obtain ⟨h2, h⟩ := xcnb h
    obtain ⟨h3, h4⟩ := xand h2
    obtain ⟨h5, h6⟩ := xand h3
    obtain ⟨σ, mem', env', ne', ρ', k1, k2, k3, k4, k5, ⟨lsc', k6, k7⟩, -⟩ := aent_ok (st := []) (rv := none) (lsc := carg 0 argc) (stc := []) (rvc := none) hW hHK hHH hI hC (hA.imp (fun _ x => stR_arg 0 x)) (fun _ _ => trivial) (fun _ _ => trivial) h
    obtain ⟨k8, k9⟩ := xcnb k1
    have hwf := hwfI c J (xltb h1) hJ
    obtain ⟨-, hwf⟩ := xcnb hwf
    obtain ⟨hwf, -⟩ := xcnb hwf
    have hins := ih c J (xltb h1) hJ (asρ ρ' σ) g lsc' d k7 hI (by have := xleb h6; omega)
    obtain ⟨z1, z2⟩ := hz c J (xltb h1) hJ
    rw [z1, z2, xeqb h5] at hins
    refine cT_drop hG k6 (hins.mono (fun g' rv hq => ?_))
    obtain ⟨q1, q2, P, hP, ρ2, q3, q4⟩ := hq
    have wP := List.all_eq_true.mp hwf P hP
    obtain ⟨w1, wP⟩ := xcnb wP
    obtain ⟨w2, w3⟩ := xcnb wP
    have el' : σ.length = J.2.2.1.2.2.2.2.1.length := xeqb k8
    obtain ⟨rva, mem2, env2, fx2, gh2, ne2, ρ3, m1, m2, m3, m4, m5⟩ := apst_ok hHW w1 (fun x hx => by
      have := List.all_eq_true.mp w3 x hx
      cases hb : Nat.beq x.1 50 with
      | true => rw [hb] at this; cases this
      | false =>
        rw [hb] at this
        simp only [cond_false] at this
        refine ⟨xneb hb, fun e => ?_⟩
        rw [e] at this
        cases this) k4 (by rw [el']; exact xleb w2) (by rw [el']; exact q3) q4 q2 (List.all_eq_true.mp k9 P hP)
    refine ⟨rva, mem2, env2, fx2, gh2, ne2, ρ3, m1, Nat.le_trans k2 m2, aag.tr k2 k3 m3, m4, q1, ?_, ?_⟩
    · obtain ⟨x1, x2, x3⟩ := hX
      refine ⟨by omega, aag.tr x1 x2 (aag.tr k2 k3 m3), fun kk j hn => ?_⟩
      rw [q2 kk j (fun hw => hn (awsb_ok h4 hw))]
      exact x3 kk j hn
    · cases rva with
      | none =>
        cases rv with
        | none => trivial
        | some v => exact m5.self.elim
      | some a =>
        cases rv with
        | none => exact m5.self.elim
        | some v => exact m5
theorem arn_ok (hB : aBase sv cd mi df el eb G h0 cn0 sn0 tyt typs GH HK HS HA HH HW) {f i : Nat} {I : ains} {P : apat} {M : Option ae} {pc : Nat} {ρe ρc : Nat → Int} {g0 g : cg} {lsc : List (Nat × cv)} {stc : List cv} {d : Nat} (hwf : awfP P = true) (hpn : I.2.2.1.2.2.2.2.1.length ≤ P.2.2.2.2.1.length) (hag : aag I.2.2.1.2.2.2.2.1.length ρe ρc) (hpat : patR h0 tyt (aGSd sv el GH) P ρc g lsc stc none) (hI : aInv tyt typs g) (hfr : ∀ k j : Nat, ¬ awc tyt I.2.2.2.2.2 k j → g k j = g0 k j) (hd : I.2.1 ≤ d)
    (hSM : aSM G h0 n0 tyt typs (aGSd sv el GH) (aFX P.2.2.2.2.1.length ρc g0 (awc tyt I.2.2.2.2.2)) (aSMi h0 tyt typs HK HH HW cand INS i I.2.2.2.2.2))
    (hcut : ∀ (pc' : Nat) (L : List apat) (P' : apat), acts I.2.2.2.1 pc' = some L → P' ∈ L → ∀ (ρ2 : Nat → Int) (g' : cg) (lsc' : List (Nat × cv)) (stc' : List cv) (d' : Nat), aag I.2.2.1.2.2.2.2.1.length ρe ρ2 → patR h0 tyt (aGSd sv el GH) P' ρ2 g' lsc' stc' none → aInv tyt typs g' → (∀ k j : Nat, ¬ awc tyt I.2.2.2.2.2 k j → g' k j = g0 k j) → I.2.1 ≤ d' → (∀ m0, M = some m0 → ∀ τ, aag P.2.2.2.2.1.length ρc τ → 0 ≤ ev ρ2 P'.2.2.2.2.2.2.2 ∧ (ev ρ2 P'.2.2.2.2.2.2.2 < ev τ m0 ∨ False)) → cT G h0 n0 I.1 d' pc' lsc' stc' g' (cn0 I.1) (sn0 I.1) (aQi h0 tyt typs (aGSd sv el GH) I ρe g0))
    (hM : ∀ m0, M = some m0 → ewf P.2.2.2.2.1.length m0.2 = true)
    (h : arnI h0 tyt typs HK HS HA HH HW cd mi el eb inl fl spl cand INS f i I P M pc = true) : cT G h0 n0 I.1 d pc lsc stc g (cn0 I.1) (sn0 I.1) (aQi h0 tyt typs (aGSd sv el GH) I ρe g0) := by
  obtain ⟨hG, h00, hW, hl, hHK, hHS, hHA, hHH, hHW, hmi, hmy⟩ := hB
  unfold arnI at h
  obtain ⟨env, e1, e2⟩ := aini_ok P.2.2.2.2.1 0 (xmk none 9 0 512) _
  rw [e1] at h
  rw [xfrc_eq] at h
  have hγ : aGm h0 tyt typs (aGSd sv el GH) (aFX P.2.2.2.2.1.length ρc g0 (awc tyt I.2.2.2.2.2)) ρc P.1 P.2.1 [] P.2.2.2.1 env P.2.2.2.2.2.1 P.2.2.2.2.2.2.1 P.2.2.2.2.1.length g lsc stc [] := by
    refine ⟨fun τ hτ => ?_, fun τ hτ => ?_, hI, Nat.le_refl _, aag.rf _ _, hfr⟩
    · have hp := patR_ag hwf hτ hpat
      refine ⟨fun s v hs => ?_, hp.2.2.2.2.2.1, hp.2.2.2.1, hp.2.2.2.2.2.2⟩
      rcases e2 s v hs with q | ⟨j, q1, q2⟩
      · have := xmk_val none 9 0 512 s (some v) q
        cases this
      · have e : s = j := by omega
        rw [e]
        exact hp.2.2.2.2.1 j v q2
    · have hp := patR_ag hwf hτ hpat
      exact ⟨hp.1, hp.2.1, trivial⟩
  have hOK : aOK sv cd mi df el eb G h0 n0 cn0 sn0 (aQi h0 tyt typs (aGSd sv el GH) I ρe g0) tyt typs (aGSd sv el GH) (aFX P.2.2.2.2.1.length ρc g0 (awc tyt I.2.2.2.2.2)) (awc tyt I.2.2.2.2.2) HK HS (aWK I.2.2.2.2.2) (aWA I.2.2.2.2.2) HA (aSMi h0 tyt typs HK HH HW cand INS i I.2.2.2.2.2) (aRTi h0 tyt typs HK HH I) := by
    refine ⟨hG, aFX_m, fun ρ ne g k j z hx hw => ⟨hx.1, hx.2.1, fun k' j' hn => ?_⟩, fun ρ ne g ka kb s d n hx hw => ⟨hx.1, hx.2.1, fun k' j' hn => ?_⟩, h00, hW, aGSd_0 hl, hHK, hHS, aWK_ok, hHA, aWA_ok, hSM, ?_, hmi, hmy⟩
    · unfold cup
      rw [if_neg (fun e => hn (by rw [e.1, e.2]; exact hw))]
      exact hx.2.2 k' j' hn
    · unfold ccp
      rw [if_neg (fun e => hn (by rw [e.1]; exact hw j'))]
      exact hx.2.2 k' j' hn
    · intro rva mem env fx gh ne hr ρ g' rv hC hI' hX hv
      obtain ⟨P', hP', hr⟩ := List.any_eq_true.mp hr
      obtain ⟨σ, mem', env', ne', ρ', k1, k2, k3, k4, k5, ⟨lsc', k6, k7⟩, -⟩ := aent_ok (ls := []) (st := []) (rv := rva) (lsc := []) (stc := []) (rvc := rv) hW hHK hHH hI' hC (fun _ _ => trivial) (fun _ _ => trivial) (fun τ hτ => by
        cases rva with
        | none => cases rv with
          | none => trivial
          | some v => exact hv.elim
        | some a => cases rv with
          | none => exact hv.elim
          | some v => exact hv τ hτ) hr
      have el0 : lsc' = [] := by
        cases lsc' with
        | nil => rfl
        | cons q l => exact absurd (k6 q List.mem_cons_self) List.not_mem_nil
      subst el0
      refine ⟨hI', hX.2.2, P', hP', asρ ρ' σ, ?_, k7⟩
      exact aag.tr (Nat.le_refl _) hag (aag.tr (Nat.le_refl _) (fun s hs => (aag.tr hX.1 hX.2.1 k3) s (by omega)) k5)
  have hCU : aCU G h0 n0 cn0 sn0 (aQi h0 tyt typs (aGSd sv el GH) I ρe g0) tyt typs (aGSd sv el GH) (aFX P.2.2.2.2.1.length ρc g0 (awc tyt I.2.2.2.2.2)) I.1 (aCTi I) (aCUi h0 tyt typs HK HH I M) := by
    intro y dd pc' ls st mem env fx gh ne hct hcu ρ g' lsc2 stc2 d2 hγ2 hd2 hy
    subst hy
    obtain ⟨hdd, hcu⟩ := xcnb hcu
    cases hL : acts I.2.2.2.1 pc' with
    | none => rw [hL] at hcu; cases hcu
    | some L =>
      rw [hL] at hcu
      obtain ⟨P', hP', hr⟩ := List.any_eq_true.mp hcu
      obtain ⟨σ, mem', env', ne', ρ', k1, k2, k3, k4, k5, ⟨lsc', k6, k7⟩, k8⟩ := aent_ok (rv := none) (lsc := lsc2) (stc := stc2) (rvc := none) hW hHK hHH hγ2.2.2.1 hγ2.1 hγ2.gl hγ2.gs (fun _ _ => trivial) hr
      obtain ⟨x1, x2, x3⟩ := hγ2.2.2.2
      have hρ' : aag P.2.2.2.2.1.length ρc ρ' := aag.tr x1 x2 k3
      refine cT_drop hG k6 (hcut pc' L P' hL hP' (asρ ρ' σ) g' lsc' stc2 d2 ?_ k7 hγ2.2.2.1 x3 (by have := xleb hdd; omega) (fun m0 em τ hτ => ?_))
      · exact aag.tr (Nat.le_refl _) hag (aag.tr (Nat.le_refl _) (fun s hs => hρ' s (by omega)) k5)
      · obtain ⟨l1, l2⟩ := k8 m0 em
        refine ⟨l1, Or.inl ?_⟩
        rw [ewf_ev hτ (hM m0 em), ← ewf_ev hρ' (hM m0 em)]
        exact l2
  exact aone_ok hOK (arun_ok hOK hCU f) _ _ _ _ _ _ _ _ _ _ _ h ρc g lsc stc [] d hγ hd
theorem ains_ok (hB : aBase sv cd mi df el eb G h0 cn0 sn0 tyt typs GH HK HS HA HH HW) {f i : Nat} {I : ains} (hI : xg INS i = some I) (hc : achI h0 tyt typs HK HS HA HH HW cd mi el eb inl fl spl cand INS f i = true) (hwfI : ∀ c J, c < i → xg INS c = some J → awfI J = true) (hz : ∀ c J, c < i → xg INS c = some J → cn0 J.1 = 0 ∧ sn0 J.1 = 0) (ih : ∀ c J, c < i → xg INS c = some J → aInsOK G h0 n0 cn0 sn0 tyt typs (aGSd sv el GH) J) : aInsOK G h0 n0 cn0 sn0 tyt typs (aGSd sv el GH) I := by
  unfold achI at hc
  rw [hI] at hc
  obtain ⟨c1, hc⟩ := xcnb hc
  obtain ⟨c2, c3⟩ := xcnb hc
  obtain ⟨w1, w⟩ := xcnb c1
  obtain ⟨w2, w3⟩ := xcnb w
  intro ρe g0 lsc d hpat hInv hd
  have cuts : ∀ (n : Nat) (pc : Nat) (L : List apat) (P : apat), acts I.2.2.2.1 pc = some L → P ∈ L → ∀ (ρc : Nat → Int) (g : cg) (lsc : List (Nat × cv)) (stc : List cv) (d : Nat), aag I.2.2.1.2.2.2.2.1.length ρe ρc → patR h0 tyt (aGSd sv el GH) P ρc g lsc stc none → aInv tyt typs g → (∀ k j : Nat, ¬ awc tyt I.2.2.2.2.2 k j → g k j = g0 k j) → I.2.1 ≤ d → ev ρc P.2.2.2.2.2.2.2 < (n : Int) → cT G h0 n0 I.1 d pc lsc stc g (cn0 I.1) (sn0 I.1) (aQi h0 tyt typs (aGSd sv el GH) I ρe g0) := by
    intro n
    induction n with
    | zero =>
      intro pc L P hL hP ρc g lsc stc d hag hp hI' hfr hd' hm
      have wP := List.all_eq_true.mp (List.all_eq_true.mp w3 (pc, L) (acts_mem hL)) P hP
      obtain ⟨v1, wP⟩ := xcnb wP
      obtain ⟨v2, v3⟩ := xcnb wP
      have hrun := List.all_eq_true.mp (List.all_eq_true.mp c3 (pc, L) (acts_mem hL)) P hP
      refine arn_ok hB v1 (xleb v2) hag hp hI' hfr hd' (aSMi_ok hB hwfI hz ih) (fun pc' L' P' hL' hP' ρ2 g' lsc' stc' d' a1 a2 a3 a4 a5 a6 => ?_) (fun m0 em => by have : P.2.2.2.2.2.2.2 = m0 := Option.some.inj em; rw [← this]; exact v3) hrun
      obtain ⟨b1, b2⟩ := a6 _ rfl ρc (aag.rf _ _)
      rcases b2 with b2 | b2
      · omega
      · exact b2.elim
    | succ n ihn =>
      intro pc L P hL hP ρc g lsc stc d hag hp hI' hfr hd' hm
      have wP := List.all_eq_true.mp (List.all_eq_true.mp w3 (pc, L) (acts_mem hL)) P hP
      obtain ⟨v1, wP⟩ := xcnb wP
      obtain ⟨v2, v3⟩ := xcnb wP
      have hrun := List.all_eq_true.mp (List.all_eq_true.mp c3 (pc, L) (acts_mem hL)) P hP
      refine arn_ok hB v1 (xleb v2) hag hp hI' hfr hd' (aSMi_ok hB hwfI hz ih) (fun pc' L' P' hL' hP' ρ2 g' lsc' stc' d' a1 a2 a3 a4 a5 a6 => ?_) (fun m0 em => by have : P.2.2.2.2.2.2.2 = m0 := Option.some.inj em; rw [← this]; exact v3) hrun
      obtain ⟨b1, b2⟩ := a6 _ rfl ρc (aag.rf _ _)
      rcases b2 with b2 | b2
      · exact ihn pc' L' P' hL' hP' ρ2 g' lsc' stc' d' a1 a2 a3 a4 a5 (by omega)
      · exact b2.elim
  refine arn_ok (ρe := ρe) hB w1 (Nat.le_refl _) (aag.rf _ _) hpat hInv (fun _ _ _ => rfl) hd (aSMi_ok hB hwfI hz ih) (fun pc' L' P' hL' hP' ρ2 g' lsc' stc' d' a1 a2 a3 a4 a5 a6 => ?_) (fun m0 em => by cases em) c2
  exact cuts ((ev ρ2 P'.2.2.2.2.2.2.2).toNat + 1) pc' L' P' hL' hP' ρ2 g' lsc' stc' d' a1 a2 a3 a4 a5 (by omega)
/-- all instances, one behind another -/
theorem ains_all (hB : aBase sv cd mi df el eb G h0 cn0 sn0 tyt typs GH HK HS HA HH HW) {f N : Nat} (hc : ∀ i, i < N → achI h0 tyt typs HK HS HA HH HW cd mi el eb inl fl spl cand INS f i = true) (hz : ∀ c J, c + 1 < N → xg INS c = some J → cn0 J.1 = 0 ∧ sn0 J.1 = 0) : ∀ i, i < N → ∀ I, xg INS i = some I → aInsOK G h0 n0 cn0 sn0 tyt typs (aGSd sv el GH) I := by
  intro i
  induction i using Nat.strongRecOn with
  | _ i ih =>
    intro hi I hI
    refine ains_ok hB hI (hc i hi) (fun c J hci hJ => ?_) (fun c J hci hJ => hz c J (by omega) hJ) (fun c J hci hJ => ih c hci (by omega) J hJ)
    have := hc c (by omega)
    unfold achI at this
    rw [hJ] at this
    exact (xcnb this).1
end InsS
end
