section
-- ===== PART A: goes FIRST, ahead of the names: the tables' words, and 'selects' of the private methods out of them =====
/-- a private method of a class that the tables say can be made, by its rows of tables_1 -/
def lw_okq (q : MethodName × Nat) : Prop := (q.1.cls ≠ "java/lang/invoke/MethodHandle" ∧ q.1.cls ≠ "java/lang/invoke/VarHandle") ∧ Cond.instantiable q.1.cls q.2 ∈ tables_1 ∧ Cond.privateMethod q.1 ∈ tables_1 ∧ Cond.instanceMethod q.1 ∈ tables_1
theorem lw_p0 : lw_okq (⟨"java/lang/Throwable", "fillInStackTrace", "(I)Ljava/lang/Throwable;"⟩, 6) := ⟨⟨by decide +kernel, by decide +kernel⟩, List.mem_of_getElem? (i := 421) (by decide +kernel), List.mem_of_getElem? (i := 419) (by decide +kernel), List.mem_of_getElem? (i := 420) (by decide +kernel)⟩
theorem lw_p1 : lw_okq (⟨"WharfQuery", "findTable", "(I)LWharfQuery$Table;"⟩, 8) := ⟨⟨by decide +kernel, by decide +kernel⟩, List.mem_of_getElem? (i := 19) (by decide +kernel), List.mem_of_getElem? (i := 475) (by decide +kernel), List.mem_of_getElem? (i := 476) (by decide +kernel)⟩
theorem lw_p2 : lw_okq (⟨"WharfQuery", "findColumn", "(II)LWharfQuery$Column;"⟩, 8) := ⟨⟨by decide +kernel, by decide +kernel⟩, List.mem_of_getElem? (i := 19) (by decide +kernel), List.mem_of_getElem? (i := 523) (by decide +kernel), List.mem_of_getElem? (i := 524) (by decide +kernel)⟩
theorem lw_p3 : lw_okq (⟨"WharfQuery$Table", "tellColumn", "(III)V"⟩, 9) := ⟨⟨by decide +kernel, by decide +kernel⟩, List.mem_of_getElem? (i := 61) (by decide +kernel), List.mem_of_getElem? (i := 564) (by decide +kernel), List.mem_of_getElem? (i := 565) (by decide +kernel)⟩
theorem lw_p4 : lw_okq (⟨"WharfQuery$Table", "isNewInSample", "(II)Z"⟩, 9) := ⟨⟨by decide +kernel, by decide +kernel⟩, List.mem_of_getElem? (i := 61) (by decide +kernel), List.mem_of_getElem? (i := 568) (by decide +kernel), List.mem_of_getElem? (i := 569) (by decide +kernel)⟩
theorem lw_p5 : lw_okq (⟨"WharfQuery", "findReport", "(I)LWharfQuery$Report;"⟩, 8) := ⟨⟨by decide +kernel, by decide +kernel⟩, List.mem_of_getElem? (i := 19) (by decide +kernel), List.mem_of_getElem? (i := 633) (by decide +kernel), List.mem_of_getElem? (i := 634) (by decide +kernel)⟩
theorem lw_p6 : lw_okq (⟨"WharfQuery", "checkSourceColumn", "(LWharfQuery$Report;II)V"⟩, 8) := ⟨⟨by decide +kernel, by decide +kernel⟩, List.mem_of_getElem? (i := 19) (by decide +kernel), List.mem_of_getElem? (i := 646) (by decide +kernel), List.mem_of_getElem? (i := 647) (by decide +kernel)⟩
theorem lw_p7 : lw_okq (⟨"WharfQuery$Planner", "takeCheapestWay", "(LWharfQuery$Report;IJ)J"⟩, 3) := ⟨⟨by decide +kernel, by decide +kernel⟩, List.mem_of_getElem? (i := 245) (by decide +kernel), List.mem_of_getElem? (i := 734) (by decide +kernel), List.mem_of_getElem? (i := 735) (by decide +kernel)⟩
theorem lw_p8 : lw_okq (⟨"WharfQuery$Planner", "choicesBehind", "(LWharfQuery$Report;IJ)J"⟩, 3) := ⟨⟨by decide +kernel, by decide +kernel⟩, List.mem_of_getElem? (i := 245) (by decide +kernel), List.mem_of_getElem? (i := 753) (by decide +kernel), List.mem_of_getElem? (i := 754) (by decide +kernel)⟩
theorem lw_p9 : lw_okq (⟨"WharfQuery$Planner", "narrow", "(LWharfQuery$Report;LWharfQuery$Condition;J)J"⟩, 3) := ⟨⟨by decide +kernel, by decide +kernel⟩, List.mem_of_getElem? (i := 245) (by decide +kernel), List.mem_of_getElem? (i := 758) (by decide +kernel), List.mem_of_getElem? (i := 759) (by decide +kernel)⟩
theorem lw_p10 : lw_okq (⟨"WharfQuery", "runChosenPlan", "(LWharfQuery$Report;)V"⟩, 8) := ⟨⟨by decide +kernel, by decide +kernel⟩, List.mem_of_getElem? (i := 19) (by decide +kernel), List.mem_of_getElem? (i := 792) (by decide +kernel), List.mem_of_getElem? (i := 793) (by decide +kernel)⟩
theorem lw_p11 : lw_okq (⟨"WharfQuery$Run", "countChoice", "(LWharfQuery$Report;)V"⟩, 5) := ⟨⟨by decide +kernel, by decide +kernel⟩, List.mem_of_getElem? (i := 263) (by decide +kernel), List.mem_of_getElem? (i := 803) (by decide +kernel), List.mem_of_getElem? (i := 804) (by decide +kernel)⟩
theorem lw_p12 : lw_okq (⟨"WharfQuery$Run", "chosenValue", "(LWharfQuery$Report;II)I"⟩, 5) := ⟨⟨by decide +kernel, by decide +kernel⟩, List.mem_of_getElem? (i := 263) (by decide +kernel), List.mem_of_getElem? (i := 807) (by decide +kernel), List.mem_of_getElem? (i := 808) (by decide +kernel)⟩
theorem lw_p13 : lw_okq (⟨"WharfQuery$Run", "valueLookedFor", "(LWharfQuery$Report;LWharfQuery$Plan;I)I"⟩, 5) := ⟨⟨by decide +kernel, by decide +kernel⟩, List.mem_of_getElem? (i := 263) (by decide +kernel), List.mem_of_getElem? (i := 811) (by decide +kernel), List.mem_of_getElem? (i := 812) (by decide +kernel)⟩
theorem lw_p14 : lw_okq (⟨"WharfQuery$Run", "conditionsHold", "(LWharfQuery$Report;LWharfQuery$Plan;I)Z"⟩, 5) := ⟨⟨by decide +kernel, by decide +kernel⟩, List.mem_of_getElem? (i := 263) (by decide +kernel), List.mem_of_getElem? (i := 816) (by decide +kernel), List.mem_of_getElem? (i := 817) (by decide +kernel)⟩
theorem lw_p15 : lw_okq (⟨"WharfQuery$Run", "holds", "(LWharfQuery$Report;LWharfQuery$Condition;)Z"⟩, 5) := ⟨⟨by decide +kernel, by decide +kernel⟩, List.mem_of_getElem? (i := 263) (by decide +kernel), List.mem_of_getElem? (i := 821) (by decide +kernel), List.mem_of_getElem? (i := 822) (by decide +kernel)⟩
def lw_privs_1 : List (MethodName × Nat) := [(⟨"java/lang/Throwable", "fillInStackTrace", "(I)Ljava/lang/Throwable;"⟩, 6), (⟨"WharfQuery", "findTable", "(I)LWharfQuery$Table;"⟩, 8), (⟨"WharfQuery", "findColumn", "(II)LWharfQuery$Column;"⟩, 8), (⟨"WharfQuery$Table", "tellColumn", "(III)V"⟩, 9), (⟨"WharfQuery$Table", "isNewInSample", "(II)Z"⟩, 9), (⟨"WharfQuery", "findReport", "(I)LWharfQuery$Report;"⟩, 8), (⟨"WharfQuery", "checkSourceColumn", "(LWharfQuery$Report;II)V"⟩, 8), (⟨"WharfQuery$Planner", "takeCheapestWay", "(LWharfQuery$Report;IJ)J"⟩, 3), (⟨"WharfQuery$Planner", "choicesBehind", "(LWharfQuery$Report;IJ)J"⟩, 3), (⟨"WharfQuery$Planner", "narrow", "(LWharfQuery$Report;LWharfQuery$Condition;J)J"⟩, 3), (⟨"WharfQuery", "runChosenPlan", "(LWharfQuery$Report;)V"⟩, 8), (⟨"WharfQuery$Run", "countChoice", "(LWharfQuery$Report;)V"⟩, 5), (⟨"WharfQuery$Run", "chosenValue", "(LWharfQuery$Report;II)I"⟩, 5), (⟨"WharfQuery$Run", "valueLookedFor", "(LWharfQuery$Report;LWharfQuery$Plan;I)I"⟩, 5), (⟨"WharfQuery$Run", "conditionsHold", "(LWharfQuery$Report;LWharfQuery$Plan;I)Z"⟩, 5), (⟨"WharfQuery$Run", "holds", "(LWharfQuery$Report;LWharfQuery$Condition;)Z"⟩, 5)]
theorem lw_r1 : ∀ q ∈ lw_privs_1, lw_okq q := List.forall_mem_cons.mpr ⟨lw_p0, List.forall_mem_cons.mpr ⟨lw_p1, List.forall_mem_cons.mpr ⟨lw_p2, List.forall_mem_cons.mpr ⟨lw_p3, List.forall_mem_cons.mpr ⟨lw_p4, List.forall_mem_cons.mpr ⟨lw_p5, List.forall_mem_cons.mpr ⟨lw_p6, List.forall_mem_cons.mpr ⟨lw_p7, List.forall_mem_cons.mpr ⟨lw_p8, List.forall_mem_cons.mpr ⟨lw_p9, List.forall_mem_cons.mpr ⟨lw_p10, List.forall_mem_cons.mpr ⟨lw_p11, List.forall_mem_cons.mpr ⟨lw_p12, List.forall_mem_cons.mpr ⟨lw_p13, List.forall_mem_cons.mpr ⟨lw_p14, List.forall_mem_cons.mpr ⟨lw_p15, fun _ h => absurd h List.not_mem_nil⟩⟩⟩⟩⟩⟩⟩⟩⟩⟩⟩⟩⟩⟩⟩⟩
theorem lw_p16 : lw_okq (⟨"WharfQuery", "runPlainPlan", "(LWharfQuery$Report;)V"⟩, 8) := ⟨⟨by decide +kernel, by decide +kernel⟩, List.mem_of_getElem? (i := 19) (by decide +kernel), List.mem_of_getElem? (i := 846) (by decide +kernel), List.mem_of_getElem? (i := 847) (by decide +kernel)⟩
theorem lw_p17 : lw_okq (⟨"WharfQuery$Crew", "lineUpDueReports", "()I"⟩, 10) := ⟨⟨by decide +kernel, by decide +kernel⟩, List.mem_of_getElem? (i := 291) (by decide +kernel), List.mem_of_getElem? (i := 887) (by decide +kernel), List.mem_of_getElem? (i := 888) (by decide +kernel)⟩
theorem lw_p18 : lw_okq (⟨"WharfQuery$Crew", "keep", "(LWharfQuery$Report;I)V"⟩, 10) := ⟨⟨by decide +kernel, by decide +kernel⟩, List.mem_of_getElem? (i := 291) (by decide +kernel), List.mem_of_getElem? (i := 892) (by decide +kernel), List.mem_of_getElem? (i := 893) (by decide +kernel)⟩
theorem lw_p19 : lw_okq (⟨"WharfQuery$Crew", "markTables", "(LWharfQuery$Report;)V"⟩, 10) := ⟨⟨by decide +kernel, by decide +kernel⟩, List.mem_of_getElem? (i := 291) (by decide +kernel), List.mem_of_getElem? (i := 896) (by decide +kernel), List.mem_of_getElem? (i := 897) (by decide +kernel)⟩
theorem lw_p20 : lw_okq (⟨"WharfQueryModel", "asked", "(ZZ)Z"⟩, 43) := ⟨⟨by decide +kernel, by decide +kernel⟩, List.mem_of_getElem? (i := 921) (by decide +kernel), List.mem_of_getElem? (i := 1068) (by decide +kernel), List.mem_of_getElem? (i := 1069) (by decide +kernel)⟩
theorem lw_p21 : lw_okq (⟨"WharfQueryModel", "isTable", "(I)Z"⟩, 43) := ⟨⟨by decide +kernel, by decide +kernel⟩, List.mem_of_getElem? (i := 921) (by decide +kernel), List.mem_of_getElem? (i := 1076) (by decide +kernel), List.mem_of_getElem? (i := 1077) (by decide +kernel)⟩
theorem lw_p22 : lw_okq (⟨"WharfQueryModel", "asked", "(ZZZ)Z"⟩, 43) := ⟨⟨by decide +kernel, by decide +kernel⟩, List.mem_of_getElem? (i := 921) (by decide +kernel), List.mem_of_getElem? (i := 1080) (by decide +kernel), List.mem_of_getElem? (i := 1081) (by decide +kernel)⟩
theorem lw_p23 : lw_okq (⟨"WharfQueryModel", "isRow", "(II)Z"⟩, 43) := ⟨⟨by decide +kernel, by decide +kernel⟩, List.mem_of_getElem? (i := 921) (by decide +kernel), List.mem_of_getElem? (i := 1088) (by decide +kernel), List.mem_of_getElem? (i := 1089) (by decide +kernel)⟩
theorem lw_p24 : lw_okq (⟨"WharfQueryModel", "asked", "(Z)Z"⟩, 43) := ⟨⟨by decide +kernel, by decide +kernel⟩, List.mem_of_getElem? (i := 921) (by decide +kernel), List.mem_of_getElem? (i := 1092) (by decide +kernel), List.mem_of_getElem? (i := 1093) (by decide +kernel)⟩
theorem lw_p25 : lw_okq (⟨"WharfQueryModel", "rowsOf", "(I)I"⟩, 43) := ⟨⟨by decide +kernel, by decide +kernel⟩, List.mem_of_getElem? (i := 921) (by decide +kernel), List.mem_of_getElem? (i := 1096) (by decide +kernel), List.mem_of_getElem? (i := 1097) (by decide +kernel)⟩
theorem lw_p26 : lw_okq (⟨"WharfQueryModel", "isColumn", "(II)Z"⟩, 43) := ⟨⟨by decide +kernel, by decide +kernel⟩, List.mem_of_getElem? (i := 921) (by decide +kernel), List.mem_of_getElem? (i := 1104) (by decide +kernel), List.mem_of_getElem? (i := 1105) (by decide +kernel)⟩
theorem lw_p27 : lw_okq (⟨"WharfQueryModel", "valueAt", "(III)I"⟩, 43) := ⟨⟨by decide +kernel, by decide +kernel⟩, List.mem_of_getElem? (i := 921) (by decide +kernel), List.mem_of_getElem? (i := 1116) (by decide +kernel), List.mem_of_getElem? (i := 1117) (by decide +kernel)⟩
theorem lw_p28 : lw_okq (⟨"WharfQueryModel", "renews", "(II)V"⟩, 43) := ⟨⟨by decide +kernel, by decide +kernel⟩, List.mem_of_getElem? (i := 921) (by decide +kernel), List.mem_of_getElem? (i := 1124) (by decide +kernel), List.mem_of_getElem? (i := 1125) (by decide +kernel)⟩
theorem lw_p29 : lw_okq (⟨"WharfQueryModel", "isSampled", "(III)Z"⟩, 43) := ⟨⟨by decide +kernel, by decide +kernel⟩, List.mem_of_getElem? (i := 921) (by decide +kernel), List.mem_of_getElem? (i := 1128) (by decide +kernel), List.mem_of_getElem? (i := 1129) (by decide +kernel)⟩
theorem lw_p30 : lw_okq (⟨"WharfQueryModel", "sample", "(II)I"⟩, 43) := ⟨⟨by decide +kernel, by decide +kernel⟩, List.mem_of_getElem? (i := 921) (by decide +kernel), List.mem_of_getElem? (i := 1132) (by decide +kernel), List.mem_of_getElem? (i := 1133) (by decide +kernel)⟩
theorem lw_p31 : lw_okq (⟨"WharfQueryModel", "isReport", "(I)Z"⟩, 43) := ⟨⟨by decide +kernel, by decide +kernel⟩, List.mem_of_getElem? (i := 921) (by decide +kernel), List.mem_of_getElem? (i := 1168) (by decide +kernel), List.mem_of_getElem? (i := 1169) (by decide +kernel)⟩
def lw_privs_2 : List (MethodName × Nat) := [(⟨"WharfQuery", "runPlainPlan", "(LWharfQuery$Report;)V"⟩, 8), (⟨"WharfQuery$Crew", "lineUpDueReports", "()I"⟩, 10), (⟨"WharfQuery$Crew", "keep", "(LWharfQuery$Report;I)V"⟩, 10), (⟨"WharfQuery$Crew", "markTables", "(LWharfQuery$Report;)V"⟩, 10), (⟨"WharfQueryModel", "asked", "(ZZ)Z"⟩, 43), (⟨"WharfQueryModel", "isTable", "(I)Z"⟩, 43), (⟨"WharfQueryModel", "asked", "(ZZZ)Z"⟩, 43), (⟨"WharfQueryModel", "isRow", "(II)Z"⟩, 43), (⟨"WharfQueryModel", "asked", "(Z)Z"⟩, 43), (⟨"WharfQueryModel", "rowsOf", "(I)I"⟩, 43), (⟨"WharfQueryModel", "isColumn", "(II)Z"⟩, 43), (⟨"WharfQueryModel", "valueAt", "(III)I"⟩, 43), (⟨"WharfQueryModel", "renews", "(II)V"⟩, 43), (⟨"WharfQueryModel", "isSampled", "(III)Z"⟩, 43), (⟨"WharfQueryModel", "sample", "(II)I"⟩, 43), (⟨"WharfQueryModel", "isReport", "(I)Z"⟩, 43)]
theorem lw_r2 : ∀ q ∈ lw_privs_2, lw_okq q := List.forall_mem_cons.mpr ⟨lw_p16, List.forall_mem_cons.mpr ⟨lw_p17, List.forall_mem_cons.mpr ⟨lw_p18, List.forall_mem_cons.mpr ⟨lw_p19, List.forall_mem_cons.mpr ⟨lw_p20, List.forall_mem_cons.mpr ⟨lw_p21, List.forall_mem_cons.mpr ⟨lw_p22, List.forall_mem_cons.mpr ⟨lw_p23, List.forall_mem_cons.mpr ⟨lw_p24, List.forall_mem_cons.mpr ⟨lw_p25, List.forall_mem_cons.mpr ⟨lw_p26, List.forall_mem_cons.mpr ⟨lw_p27, List.forall_mem_cons.mpr ⟨lw_p28, List.forall_mem_cons.mpr ⟨lw_p29, List.forall_mem_cons.mpr ⟨lw_p30, List.forall_mem_cons.mpr ⟨lw_p31, fun _ h => absurd h List.not_mem_nil⟩⟩⟩⟩⟩⟩⟩⟩⟩⟩⟩⟩⟩⟩⟩⟩
theorem lw_p32 : lw_okq (⟨"WharfQueryModel", "isColumnOf", "(III)Z"⟩, 43) := ⟨⟨by decide +kernel, by decide +kernel⟩, List.mem_of_getElem? (i := 921) (by decide +kernel), List.mem_of_getElem? (i := 1176) (by decide +kernel), List.mem_of_getElem? (i := 1177) (by decide +kernel)⟩
theorem lw_p33 : lw_okq (⟨"WharfQueryModel", "isSource", "(II)Z"⟩, 43) := ⟨⟨by decide +kernel, by decide +kernel⟩, List.mem_of_getElem? (i := 921) (by decide +kernel), List.mem_of_getElem? (i := 1180) (by decide +kernel), List.mem_of_getElem? (i := 1181) (by decide +kernel)⟩
theorem lw_p34 : lw_okq (⟨"WharfQueryModel", "adds", "(IIII)I"⟩, 43) := ⟨⟨by decide +kernel, by decide +kernel⟩, List.mem_of_getElem? (i := 921) (by decide +kernel), List.mem_of_getElem? (i := 1184) (by decide +kernel), List.mem_of_getElem? (i := 1185) (by decide +kernel)⟩
theorem lw_p35 : lw_okq (⟨"WharfQueryModel", "plans", "(I)V"⟩, 43) := ⟨⟨by decide +kernel, by decide +kernel⟩, List.mem_of_getElem? (i := 921) (by decide +kernel), List.mem_of_getElem? (i := 1212) (by decide +kernel), List.mem_of_getElem? (i := 1213) (by decide +kernel)⟩
theorem lw_p36 : lw_okq (⟨"WharfQueryModel", "triesWays", "(I)V"⟩, 43) := ⟨⟨by decide +kernel, by decide +kernel⟩, List.mem_of_getElem? (i := 921) (by decide +kernel), List.mem_of_getElem? (i := 1217) (by decide +kernel), List.mem_of_getElem? (i := 1218) (by decide +kernel)⟩
theorem lw_p37 : lw_okq (⟨"WharfQueryModel", "cost", "(I)J"⟩, 43) := ⟨⟨by decide +kernel, by decide +kernel⟩, List.mem_of_getElem? (i := 921) (by decide +kernel), List.mem_of_getElem? (i := 1221) (by decide +kernel), List.mem_of_getElem? (i := 1222) (by decide +kernel)⟩
theorem lw_p38 : lw_okq (⟨"WharfQueryModel", "useOf", "(III)I"⟩, 43) := ⟨⟨by decide +kernel, by decide +kernel⟩, List.mem_of_getElem? (i := 921) (by decide +kernel), List.mem_of_getElem? (i := 1226) (by decide +kernel), List.mem_of_getElem? (i := 1227) (by decide +kernel)⟩
theorem lw_p39 : lw_okq (⟨"WharfQueryModel", "stepOfCondition", "(I)I"⟩, 43) := ⟨⟨by decide +kernel, by decide +kernel⟩, List.mem_of_getElem? (i := 921) (by decide +kernel), List.mem_of_getElem? (i := 1230) (by decide +kernel), List.mem_of_getElem? (i := 1231) (by decide +kernel)⟩
theorem lw_p40 : lw_okq (⟨"WharfQueryModel", "stepOf", "(I)I"⟩, 43) := ⟨⟨by decide +kernel, by decide +kernel⟩, List.mem_of_getElem? (i := 921) (by decide +kernel), List.mem_of_getElem? (i := 1234) (by decide +kernel), List.mem_of_getElem? (i := 1235) (by decide +kernel)⟩
theorem lw_p41 : lw_okq (⟨"WharfQueryModel", "columnAt", "(II)I"⟩, 43) := ⟨⟨by decide +kernel, by decide +kernel⟩, List.mem_of_getElem? (i := 921) (by decide +kernel), List.mem_of_getElem? (i := 1238) (by decide +kernel), List.mem_of_getElem? (i := 1239) (by decide +kernel)⟩
theorem lw_p42 : lw_okq (⟨"WharfQueryModel", "changed", "(IIJ)J"⟩, 43) := ⟨⟨by decide +kernel, by decide +kernel⟩, List.mem_of_getElem? (i := 921) (by decide +kernel), List.mem_of_getElem? (i := 1242) (by decide +kernel), List.mem_of_getElem? (i := 1243) (by decide +kernel)⟩
theorem lw_p43 : lw_okq (⟨"WharfQueryModel", "cellAt", "(III)I"⟩, 43) := ⟨⟨by decide +kernel, by decide +kernel⟩, List.mem_of_getElem? (i := 921) (by decide +kernel), List.mem_of_getElem? (i := 1246) (by decide +kernel), List.mem_of_getElem? (i := 1247) (by decide +kernel)⟩
theorem lw_p44 : lw_okq (⟨"WharfQueryModel", "foretells", "(I)I"⟩, 43) := ⟨⟨by decide +kernel, by decide +kernel⟩, List.mem_of_getElem? (i := 921) (by decide +kernel), List.mem_of_getElem? (i := 1258) (by decide +kernel), List.mem_of_getElem? (i := 1259) (by decide +kernel)⟩
theorem lw_p45 : lw_okq (⟨"WharfQueryModel", "isRun", "(I)Z"⟩, 43) := ⟨⟨by decide +kernel, by decide +kernel⟩, List.mem_of_getElem? (i := 921) (by decide +kernel), List.mem_of_getElem? (i := 1267) (by decide +kernel), List.mem_of_getElem? (i := 1268) (by decide +kernel)⟩
theorem lw_p46 : lw_okq (⟨"WharfQueryModel", "runs", "(I)V"⟩, 43) := ⟨⟨by decide +kernel, by decide +kernel⟩, List.mem_of_getElem? (i := 921) (by decide +kernel), List.mem_of_getElem? (i := 1271) (by decide +kernel), List.mem_of_getElem? (i := 1272) (by decide +kernel)⟩
theorem lw_p47 : lw_okq (⟨"WharfQueryModel", "minutesAt", "(II)I"⟩, 43) := ⟨⟨by decide +kernel, by decide +kernel⟩, List.mem_of_getElem? (i := 921) (by decide +kernel), List.mem_of_getElem? (i := 1275) (by decide +kernel), List.mem_of_getElem? (i := 1276) (by decide +kernel)⟩
def lw_privs_3 : List (MethodName × Nat) := [(⟨"WharfQueryModel", "isColumnOf", "(III)Z"⟩, 43), (⟨"WharfQueryModel", "isSource", "(II)Z"⟩, 43), (⟨"WharfQueryModel", "adds", "(IIII)I"⟩, 43), (⟨"WharfQueryModel", "plans", "(I)V"⟩, 43), (⟨"WharfQueryModel", "triesWays", "(I)V"⟩, 43), (⟨"WharfQueryModel", "cost", "(I)J"⟩, 43), (⟨"WharfQueryModel", "useOf", "(III)I"⟩, 43), (⟨"WharfQueryModel", "stepOfCondition", "(I)I"⟩, 43), (⟨"WharfQueryModel", "stepOf", "(I)I"⟩, 43), (⟨"WharfQueryModel", "columnAt", "(II)I"⟩, 43), (⟨"WharfQueryModel", "changed", "(IIJ)J"⟩, 43), (⟨"WharfQueryModel", "cellAt", "(III)I"⟩, 43), (⟨"WharfQueryModel", "foretells", "(I)I"⟩, 43), (⟨"WharfQueryModel", "isRun", "(I)Z"⟩, 43), (⟨"WharfQueryModel", "runs", "(I)V"⟩, 43), (⟨"WharfQueryModel", "minutesAt", "(II)I"⟩, 43)]
theorem lw_r3 : ∀ q ∈ lw_privs_3, lw_okq q := List.forall_mem_cons.mpr ⟨lw_p32, List.forall_mem_cons.mpr ⟨lw_p33, List.forall_mem_cons.mpr ⟨lw_p34, List.forall_mem_cons.mpr ⟨lw_p35, List.forall_mem_cons.mpr ⟨lw_p36, List.forall_mem_cons.mpr ⟨lw_p37, List.forall_mem_cons.mpr ⟨lw_p38, List.forall_mem_cons.mpr ⟨lw_p39, List.forall_mem_cons.mpr ⟨lw_p40, List.forall_mem_cons.mpr ⟨lw_p41, List.forall_mem_cons.mpr ⟨lw_p42, List.forall_mem_cons.mpr ⟨lw_p43, List.forall_mem_cons.mpr ⟨lw_p44, List.forall_mem_cons.mpr ⟨lw_p45, List.forall_mem_cons.mpr ⟨lw_p46, List.forall_mem_cons.mpr ⟨lw_p47, fun _ h => absurd h List.not_mem_nil⟩⟩⟩⟩⟩⟩⟩⟩⟩⟩⟩⟩⟩⟩⟩⟩
theorem lw_p48 : lw_okq (⟨"WharfQueryModel", "pickedAt", "(III)I"⟩, 43) := ⟨⟨by decide +kernel, by decide +kernel⟩, List.mem_of_getElem? (i := 921) (by decide +kernel), List.mem_of_getElem? (i := 1279) (by decide +kernel), List.mem_of_getElem? (i := 1280) (by decide +kernel)⟩
theorem lw_p49 : lw_okq (⟨"WharfQueryModel", "holdsAt", "(II)Z"⟩, 43) := ⟨⟨by decide +kernel, by decide +kernel⟩, List.mem_of_getElem? (i := 921) (by decide +kernel), List.mem_of_getElem? (i := 1283) (by decide +kernel), List.mem_of_getElem? (i := 1284) (by decide +kernel)⟩
theorem lw_p50 : lw_okq (⟨"WharfQueryModel", "holds", "(II)Z"⟩, 43) := ⟨⟨by decide +kernel, by decide +kernel⟩, List.mem_of_getElem? (i := 921) (by decide +kernel), List.mem_of_getElem? (i := 1287) (by decide +kernel), List.mem_of_getElem? (i := 1288) (by decide +kernel)⟩
theorem lw_p51 : lw_okq (⟨"WharfQueryModel", "dusk", "()I"⟩, 43) := ⟨⟨by decide +kernel, by decide +kernel⟩, List.mem_of_getElem? (i := 921) (by decide +kernel), List.mem_of_getElem? (i := 1313) (by decide +kernel), List.mem_of_getElem? (i := 1314) (by decide +kernel)⟩
theorem lw_p52 : lw_okq (⟨"WharfQueryModel", "dueBehind", "(I)I"⟩, 43) := ⟨⟨by decide +kernel, by decide +kernel⟩, List.mem_of_getElem? (i := 921) (by decide +kernel), List.mem_of_getElem? (i := 1317) (by decide +kernel), List.mem_of_getElem? (i := 1318) (by decide +kernel)⟩
theorem lw_p53 : lw_okq (⟨"WharfQueryModel", "marks", "(I)V"⟩, 43) := ⟨⟨by decide +kernel, by decide +kernel⟩, List.mem_of_getElem? (i := 921) (by decide +kernel), List.mem_of_getElem? (i := 1321) (by decide +kernel), List.mem_of_getElem? (i := 1322) (by decide +kernel)⟩
theorem lw_p54 : lw_okq (⟨"WharfQueryModel", "told", "(I)I"⟩, 43) := ⟨⟨by decide +kernel, by decide +kernel⟩, List.mem_of_getElem? (i := 921) (by decide +kernel), List.mem_of_getElem? (i := 1329) (by decide +kernel), List.mem_of_getElem? (i := 1330) (by decide +kernel)⟩
def lw_privs_4 : List (MethodName × Nat) := [(⟨"WharfQueryModel", "pickedAt", "(III)I"⟩, 43), (⟨"WharfQueryModel", "holdsAt", "(II)Z"⟩, 43), (⟨"WharfQueryModel", "holds", "(II)Z"⟩, 43), (⟨"WharfQueryModel", "dusk", "()I"⟩, 43), (⟨"WharfQueryModel", "dueBehind", "(I)I"⟩, 43), (⟨"WharfQueryModel", "marks", "(I)V"⟩, 43), (⟨"WharfQueryModel", "told", "(I)I"⟩, 43)]
theorem lw_r4 : ∀ q ∈ lw_privs_4, lw_okq q := List.forall_mem_cons.mpr ⟨lw_p48, List.forall_mem_cons.mpr ⟨lw_p49, List.forall_mem_cons.mpr ⟨lw_p50, List.forall_mem_cons.mpr ⟨lw_p51, List.forall_mem_cons.mpr ⟨lw_p52, List.forall_mem_cons.mpr ⟨lw_p53, List.forall_mem_cons.mpr ⟨lw_p54, fun _ h => absurd h List.not_mem_nil⟩⟩⟩⟩⟩⟩⟩
def lw_privs : List (MethodName × Nat) := lw_privs_1 ++ (lw_privs_2 ++ (lw_privs_3 ++ (lw_privs_4)))
def lw_tbl : List Cond := k2_sels lw_privs ++ tables_1
theorem lw_privs_ok : ∀ q ∈ lw_privs, lw_okq q := by
  show ∀ q ∈ lw_privs_1 ++ (lw_privs_2 ++ (lw_privs_3 ++ (lw_privs_4))), lw_okq q
  exact List.forall_mem_append.mpr ⟨lw_r1, List.forall_mem_append.mpr ⟨lw_r2, List.forall_mem_append.mpr ⟨lw_r3, lw_r4⟩⟩⟩

/-! ===== BEGIN words of one list among another's, by their places ===== -/
theorem goodIn_r {big : List Cond} (ws : List Cond) (ps : List Nat) (hp : ws = ps.filterMap (fun i => big[i]?)) (h : ws.all goodWord = true) : GoodIn big ws := by
  intro w hw
  have h1 := List.all_eq_true.mp h w hw
  rw [hp] at hw
  obtain ⟨i, -, hi⟩ := List.mem_filterMap.mp hw
  have hm : w ∈ big := by first | exact List.mem_of_getElem? hi | exact List.getElem?_mem hi
  exact ⟨hm, good_of_word h1⟩
theorem goodIn_app {big a b : List Cond} (ha : GoodIn big a) (hb : GoodIn big b) : GoodIn big (a ++ b) := fun w h => (List.mem_append.mp h).elim (ha w) (hb w)
theorem goodIn_ca {big a b : List Cond} {c : Cond} (ha : GoodIn big (c :: a)) (hb : GoodIn big b) : GoodIn big (c :: (a ++ b)) := fun w h => (List.mem_cons.mp h).elim (fun e => ha w (List.mem_cons.mpr (Or.inl e))) (fun h => (List.mem_append.mp h).elim (fun h => ha w (List.mem_cons.mpr (Or.inr h))) (hb w))
theorem goodIn_sub {big ws : List Cond} (hm : ∀ w ∈ ws, w ∈ big) (h : ws.all goodWord = true) : GoodIn big ws := fun w hw => ⟨hm w hw, good_of_word (List.all_eq_true.mp h w hw)⟩
/-! ===== END ===== -/

/-! ===== BEGIN exceptions that leave a method, and their catching by the caller (launches without stack traces) ===== -/
section VXA
/-! The laws vx_back, vx_callV, vx_callS, vx_callSW, vx_throw0, vx_throwS follow proofs of the library, with one case more: JvmDerived/Free/Laws.lean (Back.of_free), Shelf42/LK1.lean (callV, callS), Shelf/KitTraced.lean (throwNew0V, throwNewS). -/
/-- where a method has thrown q: the class by its name, the cell, what was written, the world -/
def vx_T (XC : String → State → State → Prop) (st : State) (q : Addr) (t : State) (mc ms : Nat) (free : Addr → Prop) : Prop :=
  ∃ (E : String) (ce : Cell) (L : List Loc), XC E st t ∧ t.heap[q]? = some ce ∧ ce.vm = .none ∧ st.vm.findClass E = some ce.cls ∧ st.WarmedH t.vm ∧ st.sameButNew ({ t with vm := st.vm } : State) L mc ms ∧ ∀ z ∈ L, free z.base
def vx_Q (Qc : Array Value → State → Outcome → State → Prop) (XC : String → State → State → Prop) (mc ms : Nat) (free : Addr → Prop) : Array Value → State → Outcome → State → Prop := fun a st o t =>
  (Qc a st o t ∧ ∃ L, FrameEnd st o t L mc ms ∧ ∀ q ∈ L, free q.base) ∨ ∃ q, o = .threw q ∧ vx_T XC st q t mc ms free
/-- a callee that returns or throws -/
def vx_Met (l : Launch) (y : MethodName) (ws : List Cond) (rm : Room) (Pc : Array Value → State → Prop) (Qc : Array Value → State → Outcome → State → Prop) (XC : String → State → State → Prop) (mc ms : Nat) (free : Addr → Prop) : Prop :=
  MetFree l y (headSpec ws rm) Pc (fun _ _ _ _ _ => True) (vx_Q Qc XC mc ms free)
def vx_Post (XC : String → State → State → Prop) (mc ms : Nat) (free : Addr → Prop) : Pt → Array Value → Addr → Pt → Prop := fun A a q B =>
  ∃ (g : JFrame) (mk : MethodId) (t : State) (L : List Loc) (E : String) (ce : Cell), B.U.heap = t.heap ∧ B.U.vm = t.vm ∧ XC E (A.U.calling g mk a) t ∧ t.heap[q]? = some ce ∧ ce.vm = .none ∧ A.U.vm.findClass E = some ce.cls ∧ B.locs = A.locs ++ L ∧ (∀ z ∈ L, free z.base) ∧ B.cells = A.cells + mc ∧ B.slots = A.slots + ms
def vx_Back (l : Launch) (R : Room) (p : Program) (e : Env) (below : List Frame) (s : State) (sargs : Array Value) (y : MethodName) (len W9 : Nat)
    (Pre : Pt → Array Value → Prop) (Post : Pt → Array Value → Option Value → Pt → Prop) (PostX : Pt → Array Value → Addr → Pt → Prop) : Prop :=
  ∀ (m : MethodId) (meth : Method) (c : Code) (A : Pt) (g : JFrame) (ig : Instr) (mk : MethodId) (a : Array Value),
    Stand p l e R s m sargs below meth c A.U A.locs A.cells A.slots → g.method = m → g.locals.size = c.maxLocals → decode c.code g.pc = .ok (ig, len) →
    2 * g.monitorRoom + (g.stack.map fun v => v.category).sum ≤ W9 → A.U.methodNamed? y = some mk → Pre A a →
    (∃ (v : Option Value) (B : Pt), Stand p l e R s m sargs below meth c B.U B.locs B.cells B.slots ∧ Post A a v B ∧
      Steps p.tables e below (doInvoke e (A.U.setTop g) [] mk a).1 (B.U.setTop { g with pc := g.pc + len, stack := v.toList ++ g.stack })) ∨
    (∃ (q : Addr) (B : Pt), Stand p l e R s m sargs below meth c B.U B.locs B.cells B.slots ∧ PostX A a q B ∧
      Steps p.tables e below (doInvoke e (A.U.setTop g) [] mk a).1 ((B.U.setTop g).pushFrame (.throwing q)))
section Payer
variable {l : Launch} {R : Room} {p : Program} {e : Env} {below : List Frame} {s : State} {sargs : Array Value} {y : MethodName} {len W9 : Nat}
theorem vx_back {ws : List Cond} {rm : Room} {Pc : Array Value → State → Prop} {Qc : Array Value → State → Outcome → State → Prop} {XC : String → State → State → Prop} {mc ms : Nat} {free : Addr → Prop} {bytes : ByteArray} {maxL : Nat} {ret : Option FieldType}
    (hM : vx_Met l y ws rm Pc Qc XC mc ms free) (hblind : FrameBlind Pc) (hrc : rm.cells = mc) (hrs : rm.slots = ms)
    (hframes : rm.frames + 1 ≤ R.frames) (hlocals : W9 + (maxL + 11) + rm.locals ≤ R.locals)
    (hws : ∀ w ∈ ws, ∀ a' U, s.WarmedH U.vm → w.before a' U = true) (hcode : Cond.code y bytes maxL ret ∈ ws) (hinit : ∀ a' U, s.WarmedH U.vm → (Cond.initialized y.cls).before a' U = true) :
    vx_Back l R p e below s sargs y len W9 (PreOf R mc ms Pc) (PostOf Qc mc ms free) (vx_Post XC mc ms free) := by
  intro m meth c A g ig mk a X hg hsize hdg hW hn hp
  have h1 : (headSpec ws rm).pre.before a A.U = true := atoms_intro fun w hw => hws w hw _ _ X.warmed
  have h2 : (Cond.code y bytes maxL ret).before a A.U = true := hws _ hcode _ _ X.warmed
  have h3 : (Cond.initialized y.cls).before a A.U = true := hinit _ _ X.warmed
  have h4 : A.cells + (headSpec ws rm).room.cells ≤ R.cells := by rw [show (headSpec ws rm).room.cells = mc from hrc]; exact hp.1
  have h5 : A.slots + (headSpec ws rm).room.slots ≤ R.slots := by rw [show (headSpec ws rm).room.slots = ms from hrs]; exact hp.2.1
  have hPc : Pc a (A.U.calling g mk a) := hblind _ _ _ _ hp.2.2
  obtain ⟨U, Ls, c0, s0⟩ := A
  dsimp only [Pt.U, Pt.locs, Pt.cells, Pt.slots] at h1 h2 h3 h4 h5 X hn hPc ⊢
  obtain ⟨methY, cY, hmY, hcY, -, hlY, -, -, -, -⟩ := Cond.code_spec hn h2
  obtain ⟨kY, hkY, -⟩ := className_of_methodNamed hn
  have hinitY : kY.init = .initialized := Cond.initialized_spec (findClass_of_methodNamed hn) hkY h3
  have h : At U g.method c below := by rw [hg]; exact X.here
  have hlocals9 : W9 + (maxL + 11) + (headSpec ws rm).room.locals ≤ R.locals := hlocals
  have happ : (headSpec ws rm).appliesLoose y e.platform (U.calling g mk a) = true :=
    Spec.appliesLoose_calling (g := g) h hdg hn hkY hinitY
      (X.room_calling (g := g) (R' := (headSpec ws rm).room) hsize hmY hcY hframes (by rw [hlY]; omega) h4 h5) h1
  obtain ⟨mid, hmid⟩ := h.above
  have hfr : (U.setTop g).frames = (.java g :: mid) ++ below := by rw [State.frames_setTop' g h.top, hmid]; rfl
  obtain ⟨o, s₂, hsteps, -, hend, hq⟩ := Steps.callFree hM p X.admits X.cas X.clock (acts := []) hfr happ hPc trivial
  have hq' : vx_Q Qc XC mc ms free a (U.calling g mk a) o s₂ := hq
  rw [State.frames_setTop' g h.top] at hend
  obtain ⟨g₀, hg0⟩ := Option.isSome_iff_exists.mp h.top
  obtain ⟨r, hr⟩ := State.topJava?_eq_some.mp hg0
  have hr' : (({ U with heap := s₂.heap, slotsUsed := s₂.slotsUsed } : State).setVm s₂.vm).frames = .java g₀ :: r := hr
  rcases hq' with ⟨hqc, L, hfe, hL⟩ | ⟨q, rfl, E, ce, L, hx, hce, hcv, hcl, hW₂, hsm, hL⟩
  · obtain ⟨⟨v, rfl⟩, hW₂, e2, q2, q3, q4, q5, q6⟩ := id hfe
    have e3 : s₂ = ({ (U.calling g mk a).setFrames s₂.frames with heap := s₂.heap, slotsUsed := s₂.slotsUsed } : State).setVm s₂.vm := by
      have : s₂ = ({ s₂ with vm := (U.calling g mk a).vm } : State).setVm s₂.vm := rfl
      rw [e2] at this
      exact this
    obtain ⟨c₂, i₂, len₂, hc₂, hd₂, hf₂⟩ := hend
    have hW' : U.WarmedH s₂.vm := hW₂
    have hcc : c₂ = c := by
      have h1 : s₂.code? g.method = U.code? g.method := by
        rw [State.code?_eq, State.code?_eq, hW'.alike.method?]
      exact Option.some.inj (hc₂.symm.trans (h1.trans h.code))
    subst hcc
    have hlen : len₂ = len := by rw [hdg] at hd₂; cases hd₂; rfl
    subst hlen
    have hs₂ : s₂ = (({ U with heap := s₂.heap, slotsUsed := s₂.slotsUsed } : State).setVm s₂.vm).setTop { g with pc := g.pc + len₂, stack := v.toList ++ g.stack } := by
      refine e3.trans ?_
      rw [hf₂, State.calling_eq h.top, State.setFrames_setFrames, State.setTop_of_frames _ hr', hr]
      rfl
    have hsame : U.sameButNew ({ U with heap := s₂.heap, slotsUsed := s₂.slotsUsed } : State) L mc ms := by
      refine ⟨?_, q2, q3, q4, q5, q6⟩
      obtain ⟨t, ht, -⟩ := State.frames_cons hr
      show ({ U with heap := s₂.heap, slotsUsed := s₂.slotsUsed } : State) = { U.setFrames U.frames with heap := s₂.heap, slotsUsed := s₂.slotsUsed }
      rw [State.setFrames_self ht]
    subst hg
    refine Or.inl ⟨v, ⟨(({ U with heap := s₂.heap, slotsUsed := s₂.slotsUsed } : State).setVm s₂.vm), Ls ++ L, c0 + mc, s0 + ms⟩,
      ⟨X.admits, X.cas, X.clock, X.frames, X.room, X.hears, X.method, X.code, (X.here.setHeapUsed s₂.heap s₂.slotsUsed).setVm hW'.alike, X.tail, State.WarmedH.trans X.warmed hW', X.limits, X.bytes, X.same.trans (hsame.setVm s.vm)⟩,
      ⟨g, mk, s₂, L, rfl, rfl, hqc, rfl, hL, rfl, rfl⟩, ?_⟩
    show Steps p.tables e below _ ((({ U with heap := s₂.heap, slotsUsed := s₂.slotsUsed } : State).setVm s₂.vm).setTop { g with pc := g.pc + len₂, stack := v.toList ++ g.stack })
    rw [← hs₂]
    exact hsteps
  · obtain ⟨e2, q2, q3, q4, q5, q6⟩ := id hsm
    have e3 : s₂ = ({ (U.calling g mk a).setFrames s₂.frames with heap := s₂.heap, slotsUsed := s₂.slotsUsed } : State).setVm s₂.vm := by
      have : s₂ = ({ s₂ with vm := (U.calling g mk a).vm } : State).setVm s₂.vm := rfl
      rw [e2] at this
      exact this
    have hf₂ : s₂.frames = .throwing q :: .java g :: U.frames.tail := hend
    have hW' : U.WarmedH s₂.vm := hW₂
    have hs₂ : s₂ = ((({ U with heap := s₂.heap, slotsUsed := s₂.slotsUsed } : State).setVm s₂.vm).setTop g).pushFrame (.throwing q) := by
      refine e3.trans ?_
      rw [hf₂, State.calling_eq h.top, State.setFrames_setFrames, State.pushFrame, State.frames_setTop _ hr', State.setTop_of_frames _ hr', State.setFrames_setFrames, hr]
      rfl
    have hsame : U.sameButNew ({ U with heap := s₂.heap, slotsUsed := s₂.slotsUsed } : State) L mc ms := by
      refine ⟨?_, q2, q3, q4, q5, q6⟩
      obtain ⟨t, ht, -⟩ := State.frames_cons hr
      show ({ U with heap := s₂.heap, slotsUsed := s₂.slotsUsed } : State) = { U.setFrames U.frames with heap := s₂.heap, slotsUsed := s₂.slotsUsed }
      rw [State.setFrames_self ht]
    subst hg
    refine Or.inr ⟨q, ⟨(({ U with heap := s₂.heap, slotsUsed := s₂.slotsUsed } : State).setVm s₂.vm), Ls ++ L, c0 + mc, s0 + ms⟩,
      ⟨X.admits, X.cas, X.clock, X.frames, X.room, X.hears, X.method, X.code, (X.here.setHeapUsed s₂.heap s₂.slotsUsed).setVm hW'.alike, X.tail, State.WarmedH.trans X.warmed hW', X.limits, X.bytes, X.same.trans (hsame.setVm s.vm)⟩,
      ⟨g, mk, s₂, L, E, ce, rfl, rfl, hx, hce, hcv, hcl, rfl, hL, rfl, rfl⟩, ?_⟩
    show Steps p.tables e below _ (((({ U with heap := s₂.heap, slotsUsed := s₂.slotsUsed } : State).setVm s₂.vm).setTop g).pushFrame (.throwing q))
    rw [← hs₂]
    exact hsteps
end Payer
section Calls
variable {p : Program} {l : Launch} {e : Env} {R : Room} {s : State} {m : MethodId} {args : Array Value} {below : List Frame} {meth : Method} {c : Code} {T : State} {locs : List Loc} {cells slots : Nat}
theorem vx_callV (X : Stand p l e R s m args below meth c T locs cells slots) (hexec : p.tables.exec = Jvm.exec) {own C : String} {index : Nat} {y : MethodName} {bytes : ByteArray} {maxL : Nat} {ret : Option FieldType}
    (hown : s.vm.findClass own = some m.cls) (hlink : (Cond.methodLink own index y).before args s = true) (hinst : (Cond.instanceMethod y).before args s = true) (hsel : (Cond.selects C y y).before args s = true)
    (hcode : (Cond.code y bytes maxL ret).before args s = true) (hy : y.cls ≠ "java/lang/invoke/MethodHandle" ∧ y.cls ≠ "java/lang/invoke/VarHandle")
    {W9 : Nat} {Pre : Pt → Array Value → Prop} {Post : Pt → Array Value → Option Value → Pt → Prop} {PostX : Pt → Array Value → Addr → Pt → Prop} (hK : vx_Back l R p e below s args y 3 W9 Pre Post PostX)
    {b : Addr} {cellB : Cell} (hcell : T.heap[b]? = some cellB) (hobj : cellB.vm.isStatics = false) (hcls : s.vm.findClass C = some cellB.cls)
    {g : JFrame} (hg : g.method = m) (hsize : g.locals.size = c.maxLocals) {argsL rest : List Value} (hlen : ∀ sig, parseMethodDescriptor y.desc = some sig → argsL.length = sig.parameters.length)
    (hstack : g.stack = argsL.reverse ++ .ref b :: rest) (hW : 2 * g.monitorRoom + (rest.map fun v => v.category).sum ≤ W9) (hdg : decode c.code g.pc = .ok (.invokevirtual index, 3))
    (hpre : ∀ vm₁, s.WarmedH vm₁ → Pre ⟨T.setVm vm₁, locs, cells, slots⟩ (Value.ref b :: argsL).toArray) :
    (∃ (v : Option Value) (vm₁ : Vm) (B : Pt), s.WarmedH vm₁ ∧ Stand p l e R s m args below meth c B.U B.locs B.cells B.slots ∧ Post ⟨T.setVm vm₁, locs, cells, slots⟩ (Value.ref b :: argsL).toArray v B ∧
      ∀ target, Steps p.tables e below (B.U.setTop { g with pc := g.pc + 3, stack := v.toList ++ rest }) target → Steps p.tables e below (T.setTop g) target) ∨
    (∃ (q : Addr) (vm₁ : Vm) (B : Pt), s.WarmedH vm₁ ∧ Stand p l e R s m args below meth c B.U B.locs B.cells B.slots ∧ PostX ⟨T.setVm vm₁, locs, cells, slots⟩ (Value.ref b :: argsL).toArray q B ∧
      Steps p.tables e below (T.setTop g) ((B.U.setTop { g with stack := rest }).pushFrame (.throwing q))) := by
  obtain ⟨mk, methM, hnamed, hmethM, hstM, habM⟩ := Cond.instanceMethod_spec hinst
  obtain ⟨methM', cM, hmethM', -, -, -, -, -, -, hsigM⟩ := Cond.code_spec hnamed hcode
  cases hmethM.symm.trans hmethM'
  obtain ⟨c2, r2, m2, q1, q2, q3, q4, kP, hkP, hkPi⟩ := Cond.selects_spec hsel
  cases hcls.symm.trans q1
  cases (State.methodFound?_of_named hnamed hy).symm.trans q2
  cases hnamed.symm.trans q3
  have hselP : selectMethod e.platform s.vm cellB.cls mk = .method mk := by rw [Launch.admits_selectMethod X.admits]; exact q4
  obtain ⟨vm₁, X₁, hstep₁⟩ := X.invokevirtual hexec hown hlink hnamed hmethM hstM hkP hkPi hy (a := b) (cell := cellB) hcell
    (fun z h => by rw [h] at hobj; cases hobj) hselP hmethM habM hkP hkPi (g := g) hg (argsL := argsL) (rest := rest) (hlen _ hsigM) hstack hdg
  rcases hK m meth c ⟨T.setVm vm₁, locs, cells, slots⟩ { g with stack := rest } (.invokevirtual index) mk (Value.ref b :: argsL).toArray X₁ hg hsize hdg hW (X₁.named hnamed) (hpre vm₁ X₁.warmed) with ⟨v, B, X', hpost, hsteps⟩ | ⟨q, B, X', hpost, hsteps⟩
  · exact Or.inl ⟨v, vm₁, B, X₁.warmed, X', hpost, fun target h => hstep₁ _ fun acts => by rw [doInvoke_state]; exact hsteps.trans h⟩
  · exact Or.inr ⟨q, vm₁, B, X₁.warmed, X', hpost, hstep₁ _ fun acts => by rw [doInvoke_state]; exact hsteps⟩
theorem vx_callS (X : Stand p l e R s m args below meth c T locs cells slots) (hexec : p.tables.exec = Jvm.exec) {own : String} {index : Nat} {y : MethodName} {bytes : ByteArray} {maxL : Nat} {ret : Option FieldType}
    (hown : s.vm.findClass own = some m.cls) (hlink : (Cond.methodLink own index y).before args s = true) (hstat : (Cond.static y).before args s = true) (hinit : (Cond.initialized y.cls).before args s = true)
    (hcode : (Cond.code y bytes maxL ret).before args s = true) (hy : y.cls ≠ "java/lang/invoke/MethodHandle" ∧ y.cls ≠ "java/lang/invoke/VarHandle")
    {W9 : Nat} {Pre : Pt → Array Value → Prop} {Post : Pt → Array Value → Option Value → Pt → Prop} {PostX : Pt → Array Value → Addr → Pt → Prop} (hK : vx_Back l R p e below s args y 3 W9 Pre Post PostX)
    {g : JFrame} (hg : g.method = m) (hsize : g.locals.size = c.maxLocals) {argsL rest : List Value} (hlen : ∀ sig, parseMethodDescriptor y.desc = some sig → argsL.length = sig.parameters.length)
    (hstack : g.stack = argsL.reverse ++ rest) (hW : 2 * g.monitorRoom + (rest.map fun v => v.category).sum ≤ W9) (hdg : decode c.code g.pc = .ok (.invokestatic index, 3))
    (hpre : ∀ vm₁, s.WarmedH vm₁ → Pre ⟨T.setVm vm₁, locs, cells, slots⟩ argsL.toArray) :
    (∃ (v : Option Value) (vm₁ : Vm) (B : Pt), s.WarmedH vm₁ ∧ Stand p l e R s m args below meth c B.U B.locs B.cells B.slots ∧ Post ⟨T.setVm vm₁, locs, cells, slots⟩ argsL.toArray v B ∧
      ∀ target, Steps p.tables e below (B.U.setTop { g with pc := g.pc + 3, stack := v.toList ++ rest }) target → Steps p.tables e below (T.setTop g) target) ∨
    (∃ (q : Addr) (vm₁ : Vm) (B : Pt), s.WarmedH vm₁ ∧ Stand p l e R s m args below meth c B.U B.locs B.cells B.slots ∧ PostX ⟨T.setVm vm₁, locs, cells, slots⟩ argsL.toArray q B ∧
      Steps p.tables e below (T.setTop g) ((B.U.setTop { g with stack := rest }).pushFrame (.throwing q))) := by
  obtain ⟨mk, hnamed⟩ := Cond.code_named hcode
  obtain ⟨methM, cM, hmethM, -, -, -, -, -, -, hsigM⟩ := Cond.code_spec hnamed hcode
  have hstatic : methM.isStatic = true := Cond.static_spec hnamed hmethM hstat
  obtain ⟨kP, hkP, -⟩ := className_of_methodNamed hnamed
  have hinitP : kP.init = .initialized := Cond.initialized_spec (findClass_of_methodNamed hnamed) hkP hinit
  obtain ⟨vm₁, X₁, hstep₁⟩ := X.invokestatic hexec hown hlink hnamed hmethM hstatic hkP hinitP hy (g := g) hg (argsL := argsL) (rest := rest) (hlen _ hsigM) hstack hdg
  rcases hK m meth c ⟨T.setVm vm₁, locs, cells, slots⟩ { g with stack := rest } (.invokestatic index) mk argsL.toArray X₁ hg hsize hdg hW (X₁.named hnamed) (hpre vm₁ X₁.warmed) with ⟨v, B, X', hpost, hsteps⟩ | ⟨q, B, X', hpost, hsteps⟩
  · exact Or.inl ⟨v, vm₁, B, X₁.warmed, X', hpost, fun target h => hstep₁ _ fun acts => by rw [doInvoke_state]; exact hsteps.trans h⟩
  · exact Or.inr ⟨q, vm₁, B, X₁.warmed, X', hpost, hstep₁ _ fun acts => by rw [doInvoke_state]; exact hsteps⟩
end Calls
theorem vx_cls {s : State} {T : State} {vm₁ : Vm} {E : String} {k : ClassId} (hW : s.WarmedH vm₁) (h : (T.setVm vm₁).vm.findClass E = some k) : s.vm.findClass E = some k := by
  have h1 : vm₁.findClass E = some k := h
  rw [hW.alike.findClass] at h1
  exact h1
/-- the method's frame g, with q thrown over it -/
def vx_W (p : Program) (l : Launch) (e : Env) (R : Room) (s : State) (m : MethodId) (args : Array Value) (below : List Frame) (meth : Method) (c : Code) (H : Heap) (locs : List Loc) (cells slots : Nat) (Q : State → Prop) (g : JFrame) (q : Addr) : Prop :=
  ∀ T : State, T.heap = H → Stand p l e R s m args below meth c T locs cells slots → ∃ t, Steps p.tables e below ((T.setTop g).pushFrame (.throwing q)) t ∧ Q t
def vx_Run (p : Program) (l : Launch) (e : Env) (R : Room) (s : State) (m : MethodId) (args : Array Value) (below : List Frame) (meth : Method) (c : Code) (H : Heap) (locs : List Loc) (cells slots mc ms : Nat) (g : JFrame) (rest : List Value) (Qa : State → Outcome → State → Prop) (XC : String → State → State → Prop) (free : Addr → Prop) : Prop :=
  ∀ T : State, T.heap = H → Stand p l e R s m args below meth c T locs cells slots →
    (∃ (v : Option Value) (st₀ t T' : State) (L : List Loc), st₀.heap = H ∧ Stand p l e R s m args below meth c T' (locs ++ L) (cells + mc) (slots + ms) ∧ (∀ q ∈ L, free q.base) ∧ T'.heap = t.heap ∧ T'.vm = t.vm ∧ Qa st₀ (.returned v) t ∧
      Goes p e below T g T' { g with pc := g.pc + 3, stack := v.toList ++ rest }) ∨
    (∃ (q : Addr) (st₀ t T' : State) (L : List Loc) (E : String) (ce : Cell), st₀.heap = H ∧ Stand p l e R s m args below meth c T' (locs ++ L) (cells + mc) (slots + ms) ∧ (∀ z ∈ L, free z.base) ∧ T'.heap = t.heap ∧ T'.vm = t.vm ∧ XC E st₀ t ∧ t.heap[q]? = some ce ∧ ce.vm = .none ∧ s.vm.findClass E = some ce.cls ∧
      Steps p.tables e below (T.setTop g) ((T'.setTop { g with stack := rest }).pushFrame (.throwing q)))
def vx_X {S : Type} (px : S → Prop) (B : String → S → State → Prop) (A : Nat → Prop) : String → State → State → Prop := fun E st t => ∃ u : S, px u ∧ B E u t ∧ va_F A st t
section Runs
variable {p : Program} {l : Launch} {e : Env} {R : Room} {s : State} {m : MethodId} {args : Array Value} {below : List Frame} {meth : Method} {c : Code} {H : Heap} {locs : List Loc} {cells slots : Nat}
variable {y : MethodName} {bytes cc : ByteArray} {maxL nL mc ms n index : Nat} {ret : Option FieldType} {ws : List Cond} {rm : Room} {Pc : Array Value → State → Prop} {Qc : Array Value → State → Outcome → State → Prop} {XC : String → State → State → Prop} {free : Addr → Prop} {Ts : List Cond} {own C : String} {b : Addr} {As rest : List Value} {g : JFrame}
theorem vx_callBack (cb : CallB R s args own index y bytes maxL ret ws rm mc ms n) (hM : vx_Met l y ws rm Pc Qc XC mc ms free) (hbl : FrameBlind Pc) : vx_Back l R p e below s args y 3 8 (PreOf R mc ms Pc) (PostOf Qc mc ms free) (vx_Post XC mc ms free) := by
  obtain ⟨hrc, hrs, hfr, hlo, hws, hcw, -, hini, -⟩ := cb
  exact vx_back (bytes := bytes) (maxL := maxL) (ret := ret) hM hbl hrc hrs hfr hlo hws hcw (fun a' U hW => word_at hW (Or.inl (by first | rfl | simp [Cond.onTables, Cond.keeps, Cond.steady])) hini)
theorem vx_runV (S : CallFix p m c cc nL s args Ts own) (hM : vx_Met l y ws rm Pc Qc XC mc ms free) (cw : CallW R s args own C index y bytes maxL ret ws rm mc ms n) (hp : PreV s H C b Pc As)
    (hg : g.method = m) (hn : As.length = n) (hsize : g.locals.size = nL) (hstack : g.stack = As.reverse ++ .ref b :: rest) (hW : 2 * g.monitorRoom + (rest.map fun v => v.category).sum ≤ 8) (hdg : decode cc g.pc = .ok (.invokevirtual index, 3)) (hf : cells + mc ≤ R.cells ∧ slots + ms ≤ R.slots) :
    vx_Run p l e R s m args below meth c H locs cells slots mc ms g rest (Qc (Value.ref b :: As).toArray) XC free := by
  have hK : vx_Back l R p e below s args y 3 8 (PreOf R mc ms Pc) (PostOf Qc mc ms free) (vx_Post XC mc ms free) := vx_callBack cw.1 hM hp.1
  obtain ⟨⟨-, -, -, -, -, -, hcode, -, hy, hlen, hl⟩, hin, hse⟩ := cw
  obtain ⟨hx, hb, hml, ho, -⟩ := S
  obtain ⟨-, ⟨cellB, hcB, hoB, hclB⟩, hPc⟩ := hp
  intro T hT X
  rcases vx_callV X hx (C := C) (bytes := bytes) (maxL := maxL) (ret := ret) ho hl hin hse hcode hy hK (by rw [hT]; exact hcB) hoB hclB hg (hsize.trans hml.symm) (argsL := As) (rest := rest) (fun sig h => hn.trans (hlen sig h)) hstack hW (by rw [hb]; exact hdg)
    (fun vm₁ hW₁ => ⟨hf.1, hf.2, hPc (T.setVm vm₁) hT hW₁⟩) with ⟨v, vm₁, ⟨U', l2, c2, s2⟩, hW₁, X', ⟨g', mk, t, L, e1, e2, hq, h1, hL, h2, h3⟩, st⟩ | ⟨q, vm₁, ⟨U', l2, c2, s2⟩, hW₁, X', ⟨g', mk, t, L, E, ce, e1, e2, hq, hce, hcv, hcl, h1, hL, h2, h3⟩, st⟩
  · dsimp only [Pt.U, Pt.locs, Pt.cells, Pt.slots] at X' e1 e2 h1 h2 h3 st
    subst h1; subst h2; subst h3
    exact Or.inl ⟨v, (T.setVm vm₁).calling g' mk (Value.ref b :: As).toArray, t, U', L, hT, X', hL, e1, e2, hq, st⟩
  · dsimp only [Pt.U, Pt.locs, Pt.cells, Pt.slots] at X' e1 e2 h1 h2 h3 st hcl
    subst h1; subst h2; subst h3
    exact Or.inr ⟨q, (T.setVm vm₁).calling g' mk (Value.ref b :: As).toArray, t, U', L, E, ce, hT, X', hL, e1, e2, hq, hce, hcv, vx_cls hW₁ hcl, st⟩
theorem vx_runS (S : CallFix p m c cc nL s args Ts own) (hM : vx_Met l y ws rm Pc Qc XC mc ms free) (cw : CallB R s args own index y bytes maxL ret ws rm mc ms n ∧ (Cond.static y).before args s = true) (hp : PreS s H Pc As)
    (hg : g.method = m) (hn : As.length = n) (hsize : g.locals.size = nL) (hstack : g.stack = As.reverse ++ rest) (hW : 2 * g.monitorRoom + (rest.map fun v => v.category).sum ≤ 8) (hdg : decode cc g.pc = .ok (.invokestatic index, 3)) (hf : cells + mc ≤ R.cells ∧ slots + ms ≤ R.slots) :
    vx_Run p l e R s m args below meth c H locs cells slots mc ms g rest (Qc As.toArray) XC free := by
  have hK : vx_Back l R p e below s args y 3 8 (PreOf R mc ms Pc) (PostOf Qc mc ms free) (vx_Post XC mc ms free) := vx_callBack cw.1 hM hp.1
  obtain ⟨⟨-, -, -, -, -, -, hcode, hini, hy, hlen, hl⟩, hstt⟩ := cw
  obtain ⟨hx, hb, hml, ho, -⟩ := S
  intro T hT X
  rcases vx_callS X hx (bytes := bytes) (maxL := maxL) (ret := ret) ho hl hstt hini hcode hy hK hg (hsize.trans hml.symm) (argsL := As) (rest := rest) (fun sig h => hn.trans (hlen sig h)) hstack hW (by rw [hb]; exact hdg)
    (fun vm₁ hW₁ => ⟨hf.1, hf.2, hp.2 (T.setVm vm₁) hT hW₁⟩) with ⟨v, vm₁, ⟨U', l2, c2, s2⟩, hW₁, X', ⟨g', mk, t, L, e1, e2, hq, h1, hL, h2, h3⟩, st⟩ | ⟨q, vm₁, ⟨U', l2, c2, s2⟩, hW₁, X', ⟨g', mk, t, L, E, ce, e1, e2, hq, hce, hcv, hcl, h1, hL, h2, h3⟩, st⟩
  · dsimp only [Pt.U, Pt.locs, Pt.cells, Pt.slots] at X' e1 e2 h1 h2 h3 st
    subst h1; subst h2; subst h3
    exact Or.inl ⟨v, (T.setVm vm₁).calling g' mk As.toArray, t, U', L, hT, X', hL, e1, e2, hq, st⟩
  · dsimp only [Pt.U, Pt.locs, Pt.cells, Pt.slots] at X' e1 e2 h1 h2 h3 st hcl
    subst h1; subst h2; subst h3
    exact Or.inr ⟨q, (T.setVm vm₁).calling g' mk As.toArray, t, U', L, E, ce, hT, X', hL, e1, e2, hq, hce, hcv, vx_cls hW₁ hcl, st⟩
end Runs
section Rows
variable {p : Program} {l : Launch} {e : Env} {R : Room} {s : State} {m : MethodId} {args : Array Value} {below : List Frame} {meth : Method} {c : Code} {H : Heap} {locs : List Loc} {cells slots : Nat} {Q : State → Prop}
variable {mc ms : Nat} {free : Addr → Prop} {A0 A1 : Nat → Prop} {H0 : Heap} {a : Array Value} {pc : Nat} {ls : Array Slot} {st0 rest : List Value}
theorem vx_keep {st₀ t T' : State} {L : List Loc} (h0 : st₀.heap = H) (e1 : T'.heap = t.heap) (hS : va_S A0 H0 H locs) (hA : ∀ q, q < H.size → A1 q → A0 q) (hf : ∀ q, free q → A0 q) (hL : ∀ q ∈ L, free q.base) (hF : va_F A1 st₀ t) :
    H.size ≤ T'.heap.size ∧ (∀ q : Nat, q < H.size → ¬ A1 q → T'.heap[q]? = H[q]?) ∧ va_S A0 H0 T'.heap (locs ++ L) := by
  obtain ⟨hz, hk⟩ := hF
  rw [h0] at hz hk
  exact ⟨by rw [e1]; exact hz, fun q h1 h2 => by rw [e1]; exact hk q h1 h2,
    ⟨Nat.le_trans hS.1 (by rw [e1]; exact hz), fun q h1 h2 => by rw [e1, hk q (Nat.lt_of_lt_of_le h1 hS.1) (fun z => h2 (hA q (Nat.lt_of_lt_of_le h1 hS.1) z))]; exact hS.2.1 q h1 h2, fun q hq => by
      rcases List.mem_append.mp hq with h | h
      · exact hS.2.2 q h
      · exact hf _ (hL q h)⟩⟩
theorem vx_calli {S SX : Type} {post : Int32 → S → Prop} {px : SX → Prop} {B : S → State → Prop} {BX : String → SX → State → Prop} {AX : Nat → Prop} (hr : vx_Run p l e R s m args below meth c H locs cells slots mc ms (F0 m pc ls st0) rest (va_Qi post B A1 a) (vx_X px BX AX) free) (hS : va_S A0 H0 H locs) (hA : ∀ q, q < H.size → A1 q → A0 q) (hf : ∀ q, free q → A0 q) (hAX : ∀ q, q < H.size → AX q → A0 q)
    (kx : ∀ (E : String) (ce : Cell) (q9 : Addr) (u : SX) (t : State) (H1 : Heap) (locs1 : List Loc), t.heap = H1 → s.vm.Alike t.vm → px u → BX E u t → H.size ≤ H1.size → (∀ q : Nat, q < H.size → ¬ AX q → H1[q]? = H[q]?) → va_S A0 H0 H1 locs1 → H1[q9]? = some ce → ce.vm = .none → s.vm.findClass E = some ce.cls → vx_W p l e R s m args below meth c H1 locs1 (cells + mc) (slots + ms) Q (F0 m pc ls rest) q9)
    (kk : ∀ (r : Int32) (u : S) (t : State) (H1 : Heap) (locs1 : List Loc), t.heap = H1 → s.vm.Alike t.vm → post r u → B u t → H.size ≤ H1.size → (∀ q : Nat, q < H.size → ¬ A1 q → H1[q]? = H[q]?) → va_S A0 H0 H1 locs1 → W p l e R s m args below meth c H1 locs1 (cells + mc) (slots + ms) Q (F0 m (pc + 3) ls (.int r :: rest))) : W p l e R s m args below meth c H locs cells slots Q (F0 m pc ls st0) := by
  intro T hT X
  rcases hr T hT X with ⟨v, st₀, t, T', L, h0, X', hL, e1, e2, ⟨⟨r, u, hv, hp, hb⟩, hF⟩, st⟩ | ⟨q, st₀, t, T', L, E, ce, h0, X', hL, e1, e2, ⟨u, hp, hb, hF⟩, hce, hcv, hcl, st⟩
  · cases hv
    obtain ⟨k1, k2, k3⟩ := vx_keep h0 e1 hS hA hf hL hF
    obtain ⟨t2, a1, b1⟩ := kk r u t T'.heap (locs ++ L) e1.symm (by rw [← e2]; exact X'.warmed.alike) hp hb k1 k2 k3 T' rfl X'
    exact ⟨t2, st t2 a1, b1⟩
  · obtain ⟨k1, k2, k3⟩ := vx_keep h0 e1 hS hAX hf hL hF
    obtain ⟨t2, a1, b1⟩ := kx E ce q u t T'.heap (locs ++ L) e1.symm (by rw [← e2]; exact X'.warmed.alike) hp hb k1 k2 k3 (by rw [e1]; exact hce) hcv hcl T' rfl X'
    exact ⟨t2, st.trans a1, b1⟩
theorem vx_calll {S SX : Type} {post : Int64 → S → Prop} {px : SX → Prop} {B : S → State → Prop} {BX : String → SX → State → Prop} {AX : Nat → Prop} (hr : vx_Run p l e R s m args below meth c H locs cells slots mc ms (F0 m pc ls st0) rest (va_Ql post B A1 a) (vx_X px BX AX) free) (hS : va_S A0 H0 H locs) (hA : ∀ q, q < H.size → A1 q → A0 q) (hf : ∀ q, free q → A0 q) (hAX : ∀ q, q < H.size → AX q → A0 q)
    (kx : ∀ (E : String) (ce : Cell) (q9 : Addr) (u : SX) (t : State) (H1 : Heap) (locs1 : List Loc), t.heap = H1 → s.vm.Alike t.vm → px u → BX E u t → H.size ≤ H1.size → (∀ q : Nat, q < H.size → ¬ AX q → H1[q]? = H[q]?) → va_S A0 H0 H1 locs1 → H1[q9]? = some ce → ce.vm = .none → s.vm.findClass E = some ce.cls → vx_W p l e R s m args below meth c H1 locs1 (cells + mc) (slots + ms) Q (F0 m pc ls rest) q9)
    (kk : ∀ (r : Int64) (u : S) (t : State) (H1 : Heap) (locs1 : List Loc), t.heap = H1 → s.vm.Alike t.vm → post r u → B u t → H.size ≤ H1.size → (∀ q : Nat, q < H.size → ¬ A1 q → H1[q]? = H[q]?) → va_S A0 H0 H1 locs1 → W p l e R s m args below meth c H1 locs1 (cells + mc) (slots + ms) Q (F0 m (pc + 3) ls (.long r :: rest))) : W p l e R s m args below meth c H locs cells slots Q (F0 m pc ls st0) := by
  intro T hT X
  rcases hr T hT X with ⟨v, st₀, t, T', L, h0, X', hL, e1, e2, ⟨⟨r, u, hv, hp, hb⟩, hF⟩, st⟩ | ⟨q, st₀, t, T', L, E, ce, h0, X', hL, e1, e2, ⟨u, hp, hb, hF⟩, hce, hcv, hcl, st⟩
  · cases hv
    obtain ⟨k1, k2, k3⟩ := vx_keep h0 e1 hS hA hf hL hF
    obtain ⟨t2, a1, b1⟩ := kk r u t T'.heap (locs ++ L) e1.symm (by rw [← e2]; exact X'.warmed.alike) hp hb k1 k2 k3 T' rfl X'
    exact ⟨t2, st t2 a1, b1⟩
  · obtain ⟨k1, k2, k3⟩ := vx_keep h0 e1 hS hAX hf hL hF
    obtain ⟨t2, a1, b1⟩ := kx E ce q u t T'.heap (locs ++ L) e1.symm (by rw [← e2]; exact X'.warmed.alike) hp hb k1 k2 k3 (by rw [e1]; exact hce) hcv hcl T' rfl X'
    exact ⟨t2, st.trans a1, b1⟩
theorem vx_callf {S SX : Type} {post : UInt32 → S → Prop} {px : SX → Prop} {B : S → State → Prop} {BX : String → SX → State → Prop} {AX : Nat → Prop} (hr : vx_Run p l e R s m args below meth c H locs cells slots mc ms (F0 m pc ls st0) rest (va_Qf post B A1 a) (vx_X px BX AX) free) (hS : va_S A0 H0 H locs) (hA : ∀ q, q < H.size → A1 q → A0 q) (hf : ∀ q, free q → A0 q) (hAX : ∀ q, q < H.size → AX q → A0 q)
    (kx : ∀ (E : String) (ce : Cell) (q9 : Addr) (u : SX) (t : State) (H1 : Heap) (locs1 : List Loc), t.heap = H1 → s.vm.Alike t.vm → px u → BX E u t → H.size ≤ H1.size → (∀ q : Nat, q < H.size → ¬ AX q → H1[q]? = H[q]?) → va_S A0 H0 H1 locs1 → H1[q9]? = some ce → ce.vm = .none → s.vm.findClass E = some ce.cls → vx_W p l e R s m args below meth c H1 locs1 (cells + mc) (slots + ms) Q (F0 m pc ls rest) q9)
    (kk : ∀ (r : UInt32) (u : S) (t : State) (H1 : Heap) (locs1 : List Loc), t.heap = H1 → s.vm.Alike t.vm → post r u → B u t → H.size ≤ H1.size → (∀ q : Nat, q < H.size → ¬ A1 q → H1[q]? = H[q]?) → va_S A0 H0 H1 locs1 → W p l e R s m args below meth c H1 locs1 (cells + mc) (slots + ms) Q (F0 m (pc + 3) ls (.float r :: rest))) : W p l e R s m args below meth c H locs cells slots Q (F0 m pc ls st0) := by
  intro T hT X
  rcases hr T hT X with ⟨v, st₀, t, T', L, h0, X', hL, e1, e2, ⟨⟨r, u, hv, hp, hb⟩, hF⟩, st⟩ | ⟨q, st₀, t, T', L, E, ce, h0, X', hL, e1, e2, ⟨u, hp, hb, hF⟩, hce, hcv, hcl, st⟩
  · cases hv
    obtain ⟨k1, k2, k3⟩ := vx_keep h0 e1 hS hA hf hL hF
    obtain ⟨t2, a1, b1⟩ := kk r u t T'.heap (locs ++ L) e1.symm (by rw [← e2]; exact X'.warmed.alike) hp hb k1 k2 k3 T' rfl X'
    exact ⟨t2, st t2 a1, b1⟩
  · obtain ⟨k1, k2, k3⟩ := vx_keep h0 e1 hS hAX hf hL hF
    obtain ⟨t2, a1, b1⟩ := kx E ce q u t T'.heap (locs ++ L) e1.symm (by rw [← e2]; exact X'.warmed.alike) hp hb k1 k2 k3 (by rw [e1]; exact hce) hcv hcl T' rfl X'
    exact ⟨t2, st.trans a1, b1⟩
theorem vx_calld {S SX : Type} {post : UInt64 → S → Prop} {px : SX → Prop} {B : S → State → Prop} {BX : String → SX → State → Prop} {AX : Nat → Prop} (hr : vx_Run p l e R s m args below meth c H locs cells slots mc ms (F0 m pc ls st0) rest (va_Qd post B A1 a) (vx_X px BX AX) free) (hS : va_S A0 H0 H locs) (hA : ∀ q, q < H.size → A1 q → A0 q) (hf : ∀ q, free q → A0 q) (hAX : ∀ q, q < H.size → AX q → A0 q)
    (kx : ∀ (E : String) (ce : Cell) (q9 : Addr) (u : SX) (t : State) (H1 : Heap) (locs1 : List Loc), t.heap = H1 → s.vm.Alike t.vm → px u → BX E u t → H.size ≤ H1.size → (∀ q : Nat, q < H.size → ¬ AX q → H1[q]? = H[q]?) → va_S A0 H0 H1 locs1 → H1[q9]? = some ce → ce.vm = .none → s.vm.findClass E = some ce.cls → vx_W p l e R s m args below meth c H1 locs1 (cells + mc) (slots + ms) Q (F0 m pc ls rest) q9)
    (kk : ∀ (r : UInt64) (u : S) (t : State) (H1 : Heap) (locs1 : List Loc), t.heap = H1 → s.vm.Alike t.vm → post r u → B u t → H.size ≤ H1.size → (∀ q : Nat, q < H.size → ¬ A1 q → H1[q]? = H[q]?) → va_S A0 H0 H1 locs1 → W p l e R s m args below meth c H1 locs1 (cells + mc) (slots + ms) Q (F0 m (pc + 3) ls (.double r :: rest))) : W p l e R s m args below meth c H locs cells slots Q (F0 m pc ls st0) := by
  intro T hT X
  rcases hr T hT X with ⟨v, st₀, t, T', L, h0, X', hL, e1, e2, ⟨⟨r, u, hv, hp, hb⟩, hF⟩, st⟩ | ⟨q, st₀, t, T', L, E, ce, h0, X', hL, e1, e2, ⟨u, hp, hb, hF⟩, hce, hcv, hcl, st⟩
  · cases hv
    obtain ⟨k1, k2, k3⟩ := vx_keep h0 e1 hS hA hf hL hF
    obtain ⟨t2, a1, b1⟩ := kk r u t T'.heap (locs ++ L) e1.symm (by rw [← e2]; exact X'.warmed.alike) hp hb k1 k2 k3 T' rfl X'
    exact ⟨t2, st t2 a1, b1⟩
  · obtain ⟨k1, k2, k3⟩ := vx_keep h0 e1 hS hAX hf hL hF
    obtain ⟨t2, a1, b1⟩ := kx E ce q u t T'.heap (locs ++ L) e1.symm (by rw [← e2]; exact X'.warmed.alike) hp hb k1 k2 k3 (by rw [e1]; exact hce) hcv hcl T' rfl X'
    exact ⟨t2, st.trans a1, b1⟩
theorem vx_callv {S SX : Type} {post : S → Prop} {px : SX → Prop} {B : S → State → Prop} {BX : String → SX → State → Prop} {AX : Nat → Prop} (hr : vx_Run p l e R s m args below meth c H locs cells slots mc ms (F0 m pc ls st0) rest (va_Qv post B A1 a) (vx_X px BX AX) free) (hS : va_S A0 H0 H locs) (hA : ∀ q, q < H.size → A1 q → A0 q) (hf : ∀ q, free q → A0 q) (hAX : ∀ q, q < H.size → AX q → A0 q)
    (kx : ∀ (E : String) (ce : Cell) (q9 : Addr) (u : SX) (t : State) (H1 : Heap) (locs1 : List Loc), t.heap = H1 → s.vm.Alike t.vm → px u → BX E u t → H.size ≤ H1.size → (∀ q : Nat, q < H.size → ¬ AX q → H1[q]? = H[q]?) → va_S A0 H0 H1 locs1 → H1[q9]? = some ce → ce.vm = .none → s.vm.findClass E = some ce.cls → vx_W p l e R s m args below meth c H1 locs1 (cells + mc) (slots + ms) Q (F0 m pc ls rest) q9)
    (kk : ∀ (u : S) (t : State) (H1 : Heap) (locs1 : List Loc), t.heap = H1 → s.vm.Alike t.vm → post u → B u t → H.size ≤ H1.size → (∀ q : Nat, q < H.size → ¬ A1 q → H1[q]? = H[q]?) → va_S A0 H0 H1 locs1 → W p l e R s m args below meth c H1 locs1 (cells + mc) (slots + ms) Q (F0 m (pc + 3) ls (rest))) : W p l e R s m args below meth c H locs cells slots Q (F0 m pc ls st0) := by
  intro T hT X
  rcases hr T hT X with ⟨v, st₀, t, T', L, h0, X', hL, e1, e2, ⟨⟨u, hv, hp, hb⟩, hF⟩, st⟩ | ⟨q, st₀, t, T', L, E, ce, h0, X', hL, e1, e2, ⟨u, hp, hb, hF⟩, hce, hcv, hcl, st⟩
  · cases hv
    obtain ⟨k1, k2, k3⟩ := vx_keep h0 e1 hS hA hf hL hF
    obtain ⟨t2, a1, b1⟩ := kk u t T'.heap (locs ++ L) e1.symm (by rw [← e2]; exact X'.warmed.alike) hp hb k1 k2 k3 T' rfl X'
    exact ⟨t2, st t2 a1, b1⟩
  · obtain ⟨k1, k2, k3⟩ := vx_keep h0 e1 hS hAX hf hL hF
    obtain ⟨t2, a1, b1⟩ := kx E ce q u t T'.heap (locs ++ L) e1.symm (by rw [← e2]; exact X'.warmed.alike) hp hb k1 k2 k3 (by rw [e1]; exact hce) hcv hcl T' rfl X'
    exact ⟨t2, st.trans a1, b1⟩
/-- caught by the row x of this method's table; the rows ahead don't take it -/
theorem vx_catch {own name : String} {E : String} {ce : Cell} {q : Addr} (hown : s.vm.findClass own = some m.cls) (pre : List ExceptionTableEntry) (x : ExceptionTableEntry) (suf : List ExceptionTableEntry) (hsplit : c.exceptionTable.toList = pre ++ x :: suf)
    (hpass : ∀ z ∈ pre, covers z pc = false ∨ (z.catchType ≠ 0 ∧ ∃ nm : String, (Cond.classLink own z.catchType nm).before args s = true ∧ va_Nc E nm s)) (hx : covers x pc = true) (h0 : x.catchType ≠ 0)
    (hlink : (Cond.classLink own x.catchType name).before args s = true) (hcast : (Cond.castable E name).before args s = true) (hcell : H[q]? = some ce) (hv : ce.vm = .none) (hcl : s.vm.findClass E = some ce.cls)
    (kk : W p l e R s m args below meth c H locs cells slots Q (F0 m x.handlerPc ls [.ref q])) : vx_W p l e R s m args below meth c H locs cells slots Q (F0 m pc ls rest) q := by
  intro T hT X
  have hpl : e.platform.magicAccessors = ({} : Platform).magicAccessors := by rw [X.admits.platform]
  obtain ⟨c3, c4, hc3, hc4, hasg⟩ := Cond.castable_spec hcast
  cases Option.some.inj (hc3.symm.trans hcl)
  obtain ⟨c5, hc5, hcl5⟩ := Cond.classLink_spec hown hlink e.platform hpl
  cases Option.some.inj (hc4.symm.trans hc5)
  obtain ⟨vm', X', st⟩ := X.thenCaughtThrough q (g := F0 m pc ls rest) rfl (Steps.refl _) (by rw [hT]; exact hcell) (by rw [hv]; rfl) (by obtain ⟨k9, h9, -⟩ := Vm.findClass_spec hcl; exact ⟨k9, h9⟩) pre x suf hsplit
    (fun z hz => by
      rcases hpass z hz with h | ⟨hz0, nm, hl1, hn1⟩
      · exact Or.inl h
      · obtain ⟨c6, hc6, hcl6⟩ := Cond.classLink_spec hown hl1 e.platform hpl
        obtain ⟨a8, b8, h1, h2, h3⟩ := hn1
        cases Option.some.inj (h1.symm.trans hcl)
        cases Option.some.inj (h2.symm.trans hc6)
        exact Or.inr ⟨hz0, _, hcl6, h3⟩) hx (Or.inr ⟨h0, c4, hcl5, hasg⟩)
  obtain ⟨t, a1, b1⟩ := kk (T.setVm vm') hT X'
  exact ⟨t, st.trans a1, b1⟩
end Rows
section Ends
variable {p : Program} {l : Launch} {e : Env} {R : Room} {s : State} {m : MethodId} {args : Array Value} {below : List Frame} {meth : Method} {c : Code} {H : Heap} {locs : List Loc} {cells slots : Nat} {Q : State → Prop}
variable {mc ms : Nat} {free : Addr → Prop} {A0 A1 : Nat → Prop} {H0 : Heap} {a : Array Value} {ls : Array Slot} {st0 rest : List Value}
variable {Qc : Array Value → State → Outcome → State → Prop} {XC : String → State → State → Prop}
/-- what a body that may throw owes at its end -/
def vx_MQ (below : List Frame) (Qc : Array Value → State → Outcome → State → Prop) (XC : String → State → State → Prop) (a : Array Value) (s : State) (mc ms : Nat) (free : Addr → Prop) : State → Prop := fun t =>
  ∃ o, t.status = .running ∧ Ended t below o ∧ vx_Q Qc XC mc ms free a s o t
theorem vx_ret {g : JFrame} {mc ms : Nat} (k : W p l e R s m args below meth c H locs cells slots (MQ below Qc args s mc ms free) g) : W p l e R s m args below meth c H locs cells slots (vx_MQ below Qc XC args s mc ms free) g := by
  intro T hT X
  obtain ⟨t, a1, o, b1, b2, b3, b4⟩ := k T hT X
  exact ⟨t, a1, o, b1, b2, Or.inl ⟨b3, b4⟩⟩
/-- not caught here: it goes on to the caller -/
theorem vx_widen {g : JFrame} {q : Addr} {k n : Nat} (h1 : cells ≤ k) (h2 : slots ≤ n) (kk : vx_W p l e R s m args below meth c H locs k n Q g q) : vx_W p l e R s m args below meth c H locs cells slots Q g q := fun T hT X => kk T hT (stand_widen X h1 h2)
theorem vx_out {pc : Nat} {E : String} {ce : Cell} {q : Addr} {mc ms : Nat} (hout : ∀ x ∈ c.exceptionTable.toList, covers x pc = false) (hlocks : meth.locks = false) (hcell : H[q]? = some ce) (hv : ce.vm = .none) (hcl : s.vm.findClass E = some ce.cls)
    (hx : ∀ t : State, t.heap = H → s.vm.Alike t.vm → XC E s t) (hf : ∀ z ∈ locs, free z.base) (hc : cells ≤ mc) (hs : slots ≤ ms) :
    vx_W p l e R s m args below meth c H locs cells slots (vx_MQ below Qc XC args s mc ms free) (F0 m pc ls rest) q := by
  intro T hT X
  obtain ⟨st1, hrun, hend, hW, hsm⟩ := X.leaveThrown q (g := F0 m pc ls rest) rfl rfl rfl hout hlocks
  have hcell9 : (T.setFrames (.throwing q :: below)).heap[q]? = some ce := by
    show T.heap[q]? = some ce
    rw [hT]; exact hcell
  exact ⟨_, st1, .threw q, hrun, hend, Or.inr ⟨q, rfl, E, ce, locs, hx _ hT hW.alike, hcell9, hv, hcl, hW, hsm.mono hc hs, hf⟩⟩
theorem vx_frame {U : State} {k n : Nat} (h : s.sameButNew ({ U with vm := s.vm } : State) locs k n) : s.heap.size ≤ U.heap.size ∧ ∀ q : Nat, q < s.heap.size → (∀ z ∈ locs, z.base ≠ q) → U.heap[q]? = s.heap[q]? := by
  obtain ⟨-, h2, -, -, -, h6⟩ := h
  refine ⟨h2, fun q hq hz => ?_⟩
  obtain ⟨c9, e1, e2, e3, e4⟩ := h6 q _ (Array.getElem?_eq_getElem hq)
  have hs : c9.slots = (s.heap[q]).slots := Array.ext_getElem? fun i => e4 i fun hm => hz _ hm rfl
  have h9 : c9 = s.heap[q] := by
    rw [hs] at e2
    exact e2
  have e5 : U.heap[q]? = some c9 := e1
  rw [e5, h9, Array.getElem?_eq_getElem hq]
/-- the words of a throw but the four that speak of the heap -/
def vx_no (w : Cond) : Bool := decide (w ≠ .isRef (.static Bundle.tN "UNASSIGNED_STACK" Bundle.steD)) && decide (w ≠ .isRef (.static Bundle.tN "SUPPRESSED_SENTINEL" Bundle.listD)) && decide (w ≠ .laysStatic Bundle.tN "UNASSIGNED_STACK" Bundle.steD) && decide (w ≠ .laysStatic Bundle.tN "SUPPRESSED_SENTINEL" Bundle.listD)
def vx_at0 (own : String) (ic : Nat) (X : String) (names : List String) : List Cond := (Bundle.ownAtoms0 own ic X names).filter vx_no
def vx_atS (own : String) (ic : Nat) (X : String) (names : List String) : List Cond := (Bundle.ownAtoms own ic X names).filter vx_no
/-- a word that the tables alone decide, or a good one -/
def vx_ot (w : Cond) : Bool := w.onTables || goodWord w
theorem vx_ot_at {args a' : Array Value} {s U : State} {w : Cond} (hW : s.WarmedH U.vm) (hvm : s.vm = U.vm) (hg : vx_ot w = true) (h : w.before args s = true) : w.before a' U = true := by
  simp only [vx_ot, Bool.or_eq_true] at hg
  rcases hg with hg | hg
  · exact va_tabs hg hvm h
  · exact word_at hW (good_of_word hg) h
/-- a list's words: the good ones out of the method's own list, the others by premises of their own -/
theorem vx_hat {args : Array Value} {s : State} {L B : List Cond} (h1 : ∀ w ∈ L.filter goodWord, w.before args s = true) (h2 : ∀ w ∈ L.filter (fun w => !goodWord w), w ∈ B) (h3 : ∀ w ∈ B, w.before args s = true) : ∀ w ∈ L, w.before args s = true := by
  intro w hw
  by_cases g : goodWord w = true
  · exact h1 w (List.mem_filter.mpr ⟨hw, g⟩)
  · refine h3 w (h2 w (List.mem_filter.mpr ⟨hw, ?_⟩))
    show (!goodWord w) = true
    cases hgw : goodWord w
    · rfl
    · exact absurd hgw g
theorem vx_c {args : Array Value} {s : State} {w : Cond} {B : List Cond} (h : w.before args s = true) (t : ∀ w ∈ B, w.before args s = true) : ∀ w' ∈ w :: B, w'.before args s = true := fun w' h' => (List.mem_cons.mp h').elim (fun e => by rw [e]; exact h) (t w')
theorem vx_n {args : Array Value} {s : State} : ∀ w ∈ ([] : List Cond), w.before args s = true := fun _ h => nomatch h
theorem vx_own {args : Array Value} {s : State} {L : List Cond} (h1 : ∀ w ∈ L.filter vx_no, w.before args s = true)
    (hU : (Cond.isRef (.static Bundle.tN "UNASSIGNED_STACK" Bundle.steD)).before args s = true) (hN : (Cond.isRef (.static Bundle.tN "SUPPRESSED_SENTINEL" Bundle.listD)).before args s = true)
    (lU : (Cond.laysStatic Bundle.tN "UNASSIGNED_STACK" Bundle.steD).before args s = true) (lN : (Cond.laysStatic Bundle.tN "SUPPRESSED_SENTINEL" Bundle.listD).before args s = true) : ∀ w ∈ L, w.before args s = true := by
  intro w hw
  by_cases e1 : w = .isRef (.static Bundle.tN "UNASSIGNED_STACK" Bundle.steD)
  · rw [e1]; exact hU
  · by_cases e2 : w = .isRef (.static Bundle.tN "SUPPRESSED_SENTINEL" Bundle.listD)
    · rw [e2]; exact hN
    · by_cases e3 : w = .laysStatic Bundle.tN "UNASSIGNED_STACK" Bundle.steD
      · rw [e3]; exact lU
      · by_cases e4 : w = .laysStatic Bundle.tN "SUPPRESSED_SENTINEL" Bundle.listD
        · rw [e4]; exact lN
        · exact h1 w (List.mem_filter.mpr ⟨hw, by unfold vx_no; rw [decide_eq_true e1, decide_eq_true e2, decide_eq_true e3, decide_eq_true e4]; rfl⟩)
/-- where a static field lies, its class's statics cell in H -/
def vx_L (C n d : String) (A : Nat → Prop) (U : State) (H : Heap) : Prop := ∃ (c : ClassId) (k : Class) (i : Nat) (f : Field) (a : Nat) (cell : Cell), U.vm.findClass C = some c ∧ U.fieldFound? C n d = some (c, k, i, f) ∧ f.isStatic = true ∧ k.statics = some a ∧ H[a]? = some cell ∧ cell.vm.isStatics = true ∧ cell.cls = c ∧ f.slot < cell.slots.size ∧ k.staticTypes[f.slot]? = some f.type ∧ ¬ A a
theorem vx_L.moved {C n d : String} {A : Nat → Prop} {u U : State} {H : Heap} (hvm : u.vm.Alike U.vm) (h : vx_L C n d A u H) : vx_L C n d A U H := by
  obtain ⟨c, k, i, f, a, cell, h1, h2, h3, h4, h5, h6, h7, h8, h9, h10⟩ := h
  obtain ⟨k', hi', he⟩ := State.fieldFound?_setVm hvm h2
  exact ⟨c, k', i, f, a, cell, by rw [hvm.findClass]; exact h1, hi', h3, by rw [he]; exact h4, h5, h6, h7, h8, by rw [he]; exact h9, h10⟩
theorem vx_L.kept {C n d : String} {A : Nat → Prop} {U : State} {H H1 : Heap} (h : vx_L C n d A U H) (hq : ∀ a : Nat, a < H.size → ¬ A a → H1[a]? = H[a]?) : vx_L C n d A U H1 := by
  obtain ⟨c, k, i, f, a, cell, h1, h2, h3, h4, h5, h6, h7, h8, h9, h10⟩ := h
  exact ⟨c, k, i, f, a, cell, h1, h2, h3, h4, by rw [hq a (Array.getElem?_eq_some_iff.mp h5).1 h10]; exact h5, h6, h7, h8, h9, h10⟩
theorem vx_L.narrow {C n d : String} {A B : Nat → Prop} {U : State} {H : Heap} (h : vx_L C n d A U H) (hAB : ∀ q, B q → A q) : vx_L C n d B U H := by
  obtain ⟨c, k, i, f, a, cell, h1, h2, h3, h4, h5, h6, h7, h8, h9, h10⟩ := h
  exact ⟨c, k, i, f, a, cell, h1, h2, h3, h4, h5, h6, h7, h8, h9, fun z => h10 (hAB _ z)⟩
theorem vx_L.word {C n d : String} {A : Nat → Prop} {s : State} {args : Array Value} (h : vx_L C n d A s s.heap) : (Cond.laysStatic C n d).before args s = true := by
  obtain ⟨c, k, i, f, a, cell, h1, h2, h3, h4, h5, h6, h7, h8, h9, -⟩ := h
  show (Cond.laysStatic C n d).holds args s none s [] = true
  exact Cond.laysStatic_of h1 h2 h3 h4 h5 h6 h7 h8 h9
/-- .. and what it holds: null or some reference -/
def vx_Zq (C n d : String) (A : Nat → Prop) (U : State) (H : Heap) : Prop := va_Zq C n d A U H ∧ vx_L C n d A U H
theorem vx_Zq.moved {C n d : String} {A : Nat → Prop} {u U : State} {H : Heap} (hvm : u.vm.Alike U.vm) (h : vx_Zq C n d A u H) : vx_Zq C n d A U H := ⟨va_Zq.moved hvm h.1, vx_L.moved hvm h.2⟩
theorem vx_Zq.kept {C n d : String} {A : Nat → Prop} {U : State} {H H1 : Heap} (h : vx_Zq C n d A U H) (hq : ∀ a : Nat, a < H.size → ¬ A a → H1[a]? = H[a]?) : vx_Zq C n d A U H1 := ⟨va_Zq.kept h.1 hq, vx_L.kept h.2 hq⟩
theorem vx_Zq.narrow {C n d : String} {A B : Nat → Prop} {U : State} {H : Heap} (h : vx_Zq C n d A U H) (hAB : ∀ q, B q → A q) : vx_Zq C n d B U H := ⟨va_Zq.narrow h.1 hAB, vx_L.narrow h.2 hAB⟩
theorem vx_Zqof {args : Array Value} {s : State} {C n d : String} {A : Nat → Prop} (hl : (Cond.laysStatic C n d).before args s = true) (hini : (Cond.initialized C).before args s = true) (h : (Cond.isRef (.static C n d)).before args s = true) (hA : ∀ a : Nat, a < s.heap.size → ¬ A a) : vx_Zq C n d A s s.heap := by
  refine ⟨va_Zqof hl hini h hA, ?_⟩
  obtain ⟨c, k, i, f, a, cell, h1, h2, h3, h4, h5, h6, h7, h8, h9⟩ := Cond.laysStatic_spec hl
  exact ⟨c, k, i, f, a, cell, h1, h2, h3, h4, h5, h6, h7, h8, h9, hA a (Array.getElem?_eq_some_iff.mp h5).1⟩
theorem vx_isRef {C n d : String} {v : Value} {A : Nat → Prop} {s : State} {args : Array Value} (h : va_Z C n d v A s s.heap) (hv : v.isRef = true) : (Cond.isRef (.static C n d)).before args s = true := by
  obtain ⟨cf, kf, fi, f, a, cell, h1, h2, h3, h4, h5, h6, h7, -⟩ := h
  have he : (Term.static C n d).eval args s none [] s = some v := by
    simp [Term.eval, State.fieldNamed?, h1, h2, h4, h5, h6, h7]
  simp only [Cond.before, Cond.holds, Cond.value, he]
  cases v <;> simp_all [Value.isRef]
theorem vx_isRefq {C n d : String} {A : Nat → Prop} {s : State} {args : Array Value} (h : va_Zq C n d A s s.heap) : (Cond.isRef (.static C n d)).before args s = true := by
  rcases h with h | ⟨t, h⟩
  · exact vx_isRef h rfl
  · exact vx_isRef h rfl
/-- the same frame, seen from here: as if the method were called anew in this heap -/
theorem vx_rebase {T : State} (X : Stand p l e R s m args below meth c T locs cells slots) {R' : Room} (hf : R'.frames ≤ R.frames) (hl : R'.locals ≤ R.locals) (hc : cells + R'.cells ≤ R.cells) (hs : slots + R'.slots ≤ R.slots) :
    Stand p l e R' ((T.setVm s.vm).setFrames (.invoking m args :: below)) m args below meth c T [] 0 0 := by
  have htop : (T.setVm s.vm).topJava?.isSome := X.here.top
  have hF : ((T.setVm s.vm).setFrames (.invoking m args :: below)).frames = .invoking m args :: below := State.frames_setFrames _ (State.cur_lt_of_top htop)
  obtain ⟨g₀, hg0⟩ := Option.isSome_iff_exists.mp htop
  obtain ⟨r, hr⟩ := State.topJava?_eq_some.mp hg0
  have hl9 : e.platform.stackLimits (T.setVm s.vm).me = e.platform.stackLimits s.me := X.limits
  have hb9 : (T.setVm s.vm).me.stackBytes = s.me.stackBytes := X.bytes
  refine ⟨X.admits, X.cas, X.clock, hF, ?_, X.hears, X.method, X.code, X.here, X.tail, X.warmed, ?_, ?_, ?_⟩
  · have h := X.room
    have hU : ((T.setVm s.vm).setFrames (.invoking m args :: below)).localsInUse = s.localsInUse := by
      rw [State.localsInUse_invoking hF (meth := meth) (c := c) X.method X.code, State.localsInUse_invoking X.frames X.method X.code]
    simp only [State.hasRoom, Bool.and_eq_true, decide_eq_true_eq] at h ⊢
    obtain ⟨⟨⟨⟨h1, h2, h3, h4, h5, h6⟩, h7⟩, h8⟩, h9⟩ := h
    rw [X.frames, List.length_cons] at h2 h3
    have q1 := X.heapSize
    have q2 := X.used
    simp only [hF, hU, List.length_cons, State.stackLimits_setFrames, State.stackBytes_setFrames, hl9, hb9]
    refine ⟨⟨⟨⟨by omega, by omega, by omega, by omega, by omega, h6⟩, ?_⟩, ?_⟩, X.book⟩
    · show T.heap.size + R'.cells ≤ e.platform.maxCells
      omega
    · show T.slotsUsed + R'.slots ≤ e.platform.maxSlots
      omega
  · rw [State.stackLimits_setFrames]; rfl
  · rw [State.stackBytes_setFrames]; rfl
  · refine ⟨?_, Nat.le_refl _, Nat.le_refl _, ?_, ?_, fun a c9 h9 => ⟨c9, h9, rfl, rfl, fun _ _ => rfl⟩⟩
    · obtain ⟨t, ht, -⟩ := State.frames_cons hr
      show T.setVm s.vm = { ((T.setVm s.vm).setFrames (.invoking m args :: below)).setFrames (T.setVm s.vm).frames with heap := T.heap, slotsUsed := T.slotsUsed }
      rw [State.setFrames_setFrames, State.setFrames_self ht]
      rfl
    · show T.slotsUsed = T.slotsUsed + ((T.heap.toList.drop T.heap.size).map (·.slots.size)).sum
      rw [List.drop_eq_nil_of_le (Nat.le_of_eq Array.length_toList)]
      rfl
    · show ((T.heap.toList.drop T.heap.size).map (·.slots.size)).sum ≤ 0
      rw [List.drop_eq_nil_of_le (Nat.le_of_eq Array.length_toList)]
      exact Nat.le_refl _
/-- 'throw new E()': new; dup; invokespecial; athrow -/
theorem vx_throw0 {cc : ByteArray} {pc : Nat} (hexec : p.tables.exec = Jvm.exec) (hb : c.code = cc) (hl : l.stackTraces = false) {own cls : String} {names : List String} {ik ic mc ms : Nat} {A : Nat → Prop}
    (hown : s.vm.findClass own = some m.cls) (hcls : Bundle.fit cls = true) (hnames : ∀ n ∈ names, Bundle.fit n = true)
    (hk : (Cond.classLink own ik cls).before args s = true) (hini : (Cond.initialized cls).before args s = true) (hat : ∀ w ∈ vx_at0 own ic cls names, w.before args s = true)
    (hgood : ∀ w ∈ Cond.classLink own ik cls :: Cond.initialized cls :: vx_at0 own ic cls names, vx_ot w = true)
    (hU : vx_Zq Bundle.tN "UNASSIGNED_STACK" Bundle.steD A s s.heap) (hN : vx_Zq Bundle.tN "SUPPRESSED_SENTINEL" Bundle.listD A s s.heap) (hS : va_S A s.heap H locs) (hsize : ls.size = c.maxLocals)
    (d0 : decode cc pc = .ok (.new ik, 3)) (d3 : decode cc (pc + 3) = .ok (.dup, 1)) (d4 : decode cc (pc + 4) = .ok (.invokespecial ic, 3)) (d7 : decode cc (pc + 7) = .ok (.athrow, 1))
    (hout : ∀ x ∈ c.exceptionTable.toList, covers x (pc + 7) = false)
    (hRframes : names.length + 3 < R.frames) (hRlocals : (rest.map fun v => v.category).sum + (13 * (names.length + 1) + 42) ≤ R.locals) (hRcells : cells + 1 ≤ R.cells) (hRslots : slots + 6 ≤ R.slots) (hlocks : meth.locks = false)
    (hx : ∀ t : State, s.vm.Alike t.vm → H.size ≤ t.heap.size → (∀ q : Nat, q < H.size → t.heap[q]? = H[q]?) → XC cls s t)
    (hf : ∀ z ∈ locs, free z.base) (hc : cells + 1 ≤ mc) (hs : slots + 6 ≤ ms) :
    W p l e R s m args below meth c H locs cells slots (vx_MQ below Qc XC args s mc ms free) (F0 m pc ls rest) := by
  intro T hT X
  have htr : e.platform.stackTraces = false := (show e.platform.stackTraces = l.stackTraces by rw [X.admits.platform]).trans hl
  have Y := vx_rebase X (R' := { frames := R.frames, locals := R.locals, cells := 1, slots := 6 }) (Nat.le_refl _) (Nat.le_refl _) hRcells hRslots
  obtain ⟨s', hA⟩ : ∃ z, z = (T.setVm s.vm).setFrames (.invoking m args :: below) := ⟨_, rfl⟩
  rw [← hA] at Y
  have hvm : s'.vm = s.vm := by rw [hA]; rfl
  have hhp : s'.heap = H := by rw [hA]; exact hT
  have hW0 : s.WarmedH s'.vm := by rw [hvm]; exact State.WarmedH.refl s
  have hat' : ∀ w ∈ vx_at0 own ic cls names, w.before args s' = true := fun w hw => vx_ot_at hW0 hvm.symm (hgood w (List.mem_cons_of_mem _ (List.mem_cons_of_mem _ hw))) (hat w hw)
  have hk' : (Cond.classLink own ik cls).before args s' = true := vx_ot_at hW0 hvm.symm (hgood _ List.mem_cons_self) hk
  have hini' : (Cond.initialized cls).before args s' = true := vx_ot_at hW0 hvm.symm (hgood _ (List.mem_cons_of_mem _ List.mem_cons_self)) hini
  have hU' : vx_Zq Bundle.tN "UNASSIGNED_STACK" Bundle.steD A s' s'.heap := by rw [hhp]; exact vx_Zq.moved hW0.alike (hU.kept hS.2.1)
  have hN' : vx_Zq Bundle.tN "SUPPRESSED_SENTINEL" Bundle.listD A s' s'.heap := by rw [hhp]; exact vx_Zq.moved hW0.alike (hN.kept hS.2.1)
  have h : ∀ w ∈ Bundle.ownAtoms0 own ic cls names, w.before args s' = true := vx_own hat' (vx_isRefq hU'.1) (vx_isRefq hN'.1) hU'.2.word hN'.2.word
  have hown' : s'.vm.findClass own = some m.cls := by rw [hvm]; exact hown
  have hins : (Cond.instantiable cls 6).before args s' = true := h _ (by simp [Bundle.ownAtoms0])
  obtain ⟨vm₁, cX, kX, hfX, hkX, -, -, X₁, st1⟩ := Y.newCold hexec (own := own) (C := cls) (index := ik) (n := 6) hown' hk' hins hini'
    (g := F0 m pc ls rest) rfl (by rw [hb]; exact d0) (Nat.le_refl _) (Nat.le_refl _)
  generalize hT1 : (T.setVm vm₁).pushCell { cls := cX, slots := kX.instanceTypes.map defaultValue, vm := .none } = T1 at X₁ st1
  have hcat : (Value.ref T.heap.size).category = 1 := rfl
  have hcellA : T1.heap[T.heap.size]? = some (freshCell cX kX) := by rw [← hT1]; exact State.heap_pushCell_size _ _
  have d3' : decode c.code (pc + 3) = .ok (.dup, 1) := by rw [hb]; exact d3
  obtain ⟨U, hsteps, hrun, hend, hW, hsame, ce, hce, hO⟩ := X₁.ctorThrow0 hexec htr (own := own) (cls := cls) (names := names) (ic := ic) hown' hcls hnames h (fun x hx => nomatch hx) hfX hkX hcellA (by rw [hhp, hT]; exact Nat.le_refl _)
    (g := { method := m, pc := pc + 4, locals := ls, stack := .ref T.heap.size :: .ref T.heap.size :: rest, locked := none }) rfl hsize rfl rfl (rest := rest) rfl
    (by rw [hb]; exact d4) (by rw [hb]; exact d7) hout hRframes (by simp only [List.map_cons, List.sum_cons, hcat]; omega) hlocks
  obtain ⟨f1, f2⟩ := vx_frame hsame
  rw [hhp] at f1 f2
  have hWs : s.WarmedH U.vm := State.WarmedH.trans hW0 hW
  have hcl : s.vm.findClass cls = some ce.cls := by
    have h9 := hO.cls
    rw [hvm] at h9
    exact h9
  have hall : s.sameButNew ({ U with vm := s.vm } : State) locs mc ms := by
    subst hA
    obtain ⟨e1, e2⟩ := hsame
    rw [State.setFrames_setFrames] at e1
    have h2 : (T.setVm s.vm).sameButNew ({ U with vm := s.vm } : State) [] (0 + 1) (0 + 6) := ⟨e1, e2⟩
    have h3 := X.same.trans h2
    rw [List.append_nil] at h3
    exact h3.mono hc hs
  refine ⟨U, ?_, .threw T.heap.size, hrun, hend, Or.inr ⟨T.heap.size, rfl, cls, ce, locs, hx U hWs.alike f1 (fun q hq => f2 q hq (fun z hz => nomatch hz)), hce, hO.vm, hcl, hWs, hall, hf⟩⟩
  refine st1 _ ?_
  show Steps p.tables e below (T1.setTop { method := m, pc := pc + 3, locals := ls, stack := .ref T.heap.size :: rest, locked := none }) _
  jvm_step X₁.here [X₁.here.top, hexec, d3', Value.category]
  exact hsteps
/-- 'throw new E("text")': new; dup; ldc; invokespecial; athrow -/
theorem vx_throwS {cc : ByteArray} {pc : Nat} (hexec : p.tables.exec = Jvm.exec) (hb : c.code = cc) (hl : l.stackTraces = false) {own cls text : String} {names : List String} {ik is ic mc ms sa : Nat} {A : Nat → Prop}
    (hown : s.vm.findClass own = some m.cls) (hcls : Bundle.fit cls = true) (hnames : ∀ n ∈ names, Bundle.fit n = true)
    (hk : (Cond.classLink own ik cls).before args s = true) (hini : (Cond.initialized cls).before args s = true) (hstr : vk_R own is text sa s) (hat : ∀ w ∈ vx_atS own ic cls names, w.before args s = true)
    (hgood : ∀ w ∈ Cond.classLink own ik cls :: Cond.initialized cls :: vx_atS own ic cls names, vx_ot w = true)
    (hU : vx_Zq Bundle.tN "UNASSIGNED_STACK" Bundle.steD A s s.heap) (hN : vx_Zq Bundle.tN "SUPPRESSED_SENTINEL" Bundle.listD A s s.heap) (hS : va_S A s.heap H locs) (hsize : ls.size = c.maxLocals)
    (d0 : decode cc pc = .ok (.new ik, 3)) (d3 : decode cc (pc + 3) = .ok (.dup, 1)) (d4 : decode cc (pc + 4) = .ok (.ldc is, 2)) (d6 : decode cc (pc + 6) = .ok (.invokespecial ic, 3)) (d9 : decode cc (pc + 9) = .ok (.athrow, 1))
    (hout : ∀ x ∈ c.exceptionTable.toList, covers x (pc + 9) = false)
    (hRframes : names.length + 3 < R.frames) (hRlocals : (rest.map fun v => v.category).sum + (13 * (names.length + 1) + 43) ≤ R.locals) (hRcells : cells + 1 ≤ R.cells) (hRslots : slots + 6 ≤ R.slots) (hlocks : meth.locks = false)
    (hx : ∀ t : State, s.vm.Alike t.vm → H.size ≤ t.heap.size → (∀ q : Nat, q < H.size → t.heap[q]? = H[q]?) → XC cls s t)
    (hf : ∀ z ∈ locs, free z.base) (hc : cells + 1 ≤ mc) (hs : slots + 6 ≤ ms) :
    W p l e R s m args below meth c H locs cells slots (vx_MQ below Qc XC args s mc ms free) (F0 m pc ls rest) := by
  intro T hT X
  have htr : e.platform.stackTraces = false := (show e.platform.stackTraces = l.stackTraces by rw [X.admits.platform]).trans hl
  have Y := vx_rebase X (R' := { frames := R.frames, locals := R.locals, cells := 1, slots := 6 }) (Nat.le_refl _) (Nat.le_refl _) hRcells hRslots
  obtain ⟨s', hA⟩ : ∃ z, z = (T.setVm s.vm).setFrames (.invoking m args :: below) := ⟨_, rfl⟩
  rw [← hA] at Y
  have hvm : s'.vm = s.vm := by rw [hA]; rfl
  have hhp : s'.heap = H := by rw [hA]; exact hT
  have hW0 : s.WarmedH s'.vm := by rw [hvm]; exact State.WarmedH.refl s
  have hat' : ∀ w ∈ vx_atS own ic cls names, w.before args s' = true := fun w hw => vx_ot_at hW0 hvm.symm (hgood w (List.mem_cons_of_mem _ (List.mem_cons_of_mem _ hw))) (hat w hw)
  have hk' : (Cond.classLink own ik cls).before args s' = true := vx_ot_at hW0 hvm.symm (hgood _ List.mem_cons_self) hk
  have hini' : (Cond.initialized cls).before args s' = true := vx_ot_at hW0 hvm.symm (hgood _ (List.mem_cons_of_mem _ List.mem_cons_self)) hini
  have hU' : vx_Zq Bundle.tN "UNASSIGNED_STACK" Bundle.steD A s' s'.heap := by rw [hhp]; exact vx_Zq.moved hW0.alike (hU.kept hS.2.1)
  have hN' : vx_Zq Bundle.tN "SUPPRESSED_SENTINEL" Bundle.listD A s' s'.heap := by rw [hhp]; exact vx_Zq.moved hW0.alike (hN.kept hS.2.1)
  have h : ∀ w ∈ Bundle.ownAtoms own ic cls names, w.before args s' = true := vx_own hat' (vx_isRefq hU'.1) (vx_isRefq hN'.1) hU'.2.word hN'.2.word
  have hown' : s'.vm.findClass own = some m.cls := by rw [hvm]; exact hown
  have hins : (Cond.instantiable cls 6).before args s' = true := h _ (by simp [Bundle.ownAtoms])
  obtain ⟨vm₁, cX, kX, hfX, hkX, -, -, X₁, st1⟩ := Y.newCold hexec (own := own) (C := cls) (index := ik) (n := 6) hown' hk' hins hini'
    (g := F0 m pc ls rest) rfl (by rw [hb]; exact d0) (Nat.le_refl _) (Nat.le_refl _)
  generalize hT1 : (T.setVm vm₁).pushCell { cls := cX, slots := kX.instanceTypes.map defaultValue, vm := .none } = T1 at X₁ st1
  have hcat : (Value.ref T.heap.size).category = 1 := rfl
  have hcellA : T1.heap[T.heap.size]? = some (freshCell cX kX) := by rw [← hT1]; exact State.heap_pushCell_size _ _
  have d3' : decode c.code (pc + 3) = .ok (.dup, 1) := by rw [hb]; exact d3
  have d4' : decode c.code (pc + 4) = .ok (.ldc is, 2) := by rw [hb]; exact d4
  have hstr' : vk_R own is text sa s' := vk_R.warm hW0 hstr
  obtain ⟨U, hsteps, hrun, hend, hW, hsame, ce, hce, hO⟩ := X₁.ctorThrowS hexec htr (own := own) (cls := cls) (names := names) (ic := ic) hown' hcls hnames h (fun x hx => nomatch hx) hfX hkX hcellA (by rw [hhp, hT]; exact Nat.le_refl _) (msg := .ref sa) rfl
    (g := { method := m, pc := pc + 6, locals := ls, stack := .ref sa :: .ref T.heap.size :: .ref T.heap.size :: rest, locked := none }) rfl hsize rfl rfl (rest := rest) rfl
    (by rw [hb]; exact d6) (by rw [hb]; exact d9) hout hRframes (by simp only [List.map_cons, List.sum_cons, hcat]; omega) hlocks
  obtain ⟨f1, f2⟩ := vx_frame hsame
  rw [hhp] at f1 f2
  have hWs : s.WarmedH U.vm := State.WarmedH.trans hW0 hW
  have hcl : s.vm.findClass cls = some ce.cls := by
    have h9 := hO.cls
    rw [hvm] at h9
    exact h9
  have hall : s.sameButNew ({ U with vm := s.vm } : State) locs mc ms := by
    subst hA
    obtain ⟨e1, e2⟩ := hsame
    rw [State.setFrames_setFrames] at e1
    have h2 : (T.setVm s.vm).sameButNew ({ U with vm := s.vm } : State) [] (0 + 1) (0 + 6) := ⟨e1, e2⟩
    have h3 := X.same.trans h2
    rw [List.append_nil] at h3
    exact h3.mono hc hs
  refine ⟨U, ?_, .threw T.heap.size, hrun, hend, Or.inr ⟨T.heap.size, rfl, cls, ce, locs, hx U hWs.alike f1 (fun q hq => f2 q hq (fun z hz => nomatch hz)), hce, hO.vm, hcl, hWs, hall, hf⟩⟩
  refine st1 _ ?_
  show Steps p.tables e below (T1.setTop { method := m, pc := pc + 3, locals := ls, stack := .ref T.heap.size :: rest, locked := none }) _
  jvm_step X₁.here [X₁.here.top, hexec, d3', Value.category]
  exact X₁.ldcString hexec (own := own) (text := text) (index := is) (a := sa) hown' hstr'.1 hstr'.2
    (g := { method := m, pc := pc + 4, locals := ls, stack := .ref T.heap.size :: .ref T.heap.size :: rest, locked := none }) rfl d4' _ hsteps
/-- 'throw new E("text")', the text by a wide index -/
theorem vx_throwSW {cc : ByteArray} {pc : Nat} (hexec : p.tables.exec = Jvm.exec) (hb : c.code = cc) (hl : l.stackTraces = false) {own cls text : String} {names : List String} {ik is ic mc ms sa : Nat} {A : Nat → Prop}
    (hown : s.vm.findClass own = some m.cls) (hcls : Bundle.fit cls = true) (hnames : ∀ n ∈ names, Bundle.fit n = true)
    (hk : (Cond.classLink own ik cls).before args s = true) (hini : (Cond.initialized cls).before args s = true) (hstr : vk_R own is text sa s) (hat : ∀ w ∈ vx_atS own ic cls names, w.before args s = true)
    (hgood : ∀ w ∈ Cond.classLink own ik cls :: Cond.initialized cls :: vx_atS own ic cls names, vx_ot w = true)
    (hU : vx_Zq Bundle.tN "UNASSIGNED_STACK" Bundle.steD A s s.heap) (hN : vx_Zq Bundle.tN "SUPPRESSED_SENTINEL" Bundle.listD A s s.heap) (hS : va_S A s.heap H locs) (hsize : ls.size = c.maxLocals)
    (d0 : decode cc pc = .ok (.new ik, 3)) (d3 : decode cc (pc + 3) = .ok (.dup, 1)) (d4 : decode cc (pc + 4) = .ok (.ldc_w is, 3)) (d7 : decode cc (pc + 7) = .ok (.invokespecial ic, 3)) (d10 : decode cc (pc + 10) = .ok (.athrow, 1))
    (hout : ∀ x ∈ c.exceptionTable.toList, covers x (pc + 10) = false)
    (hRframes : names.length + 3 < R.frames) (hRlocals : (rest.map fun v => v.category).sum + (13 * (names.length + 1) + 43) ≤ R.locals) (hRcells : cells + 1 ≤ R.cells) (hRslots : slots + 6 ≤ R.slots) (hlocks : meth.locks = false)
    (hx : ∀ t : State, s.vm.Alike t.vm → H.size ≤ t.heap.size → (∀ q : Nat, q < H.size → t.heap[q]? = H[q]?) → XC cls s t)
    (hf : ∀ z ∈ locs, free z.base) (hc : cells + 1 ≤ mc) (hs : slots + 6 ≤ ms) :
    W p l e R s m args below meth c H locs cells slots (vx_MQ below Qc XC args s mc ms free) (F0 m pc ls rest) := by
  intro T hT X
  have htr : e.platform.stackTraces = false := (show e.platform.stackTraces = l.stackTraces by rw [X.admits.platform]).trans hl
  have Y := vx_rebase X (R' := { frames := R.frames, locals := R.locals, cells := 1, slots := 6 }) (Nat.le_refl _) (Nat.le_refl _) hRcells hRslots
  obtain ⟨s', hA⟩ : ∃ z, z = (T.setVm s.vm).setFrames (.invoking m args :: below) := ⟨_, rfl⟩
  rw [← hA] at Y
  have hvm : s'.vm = s.vm := by rw [hA]; rfl
  have hhp : s'.heap = H := by rw [hA]; exact hT
  have hW0 : s.WarmedH s'.vm := by rw [hvm]; exact State.WarmedH.refl s
  have hat' : ∀ w ∈ vx_atS own ic cls names, w.before args s' = true := fun w hw => vx_ot_at hW0 hvm.symm (hgood w (List.mem_cons_of_mem _ (List.mem_cons_of_mem _ hw))) (hat w hw)
  have hk' : (Cond.classLink own ik cls).before args s' = true := vx_ot_at hW0 hvm.symm (hgood _ List.mem_cons_self) hk
  have hini' : (Cond.initialized cls).before args s' = true := vx_ot_at hW0 hvm.symm (hgood _ (List.mem_cons_of_mem _ List.mem_cons_self)) hini
  have hU' : vx_Zq Bundle.tN "UNASSIGNED_STACK" Bundle.steD A s' s'.heap := by rw [hhp]; exact vx_Zq.moved hW0.alike (hU.kept hS.2.1)
  have hN' : vx_Zq Bundle.tN "SUPPRESSED_SENTINEL" Bundle.listD A s' s'.heap := by rw [hhp]; exact vx_Zq.moved hW0.alike (hN.kept hS.2.1)
  have h : ∀ w ∈ Bundle.ownAtoms own ic cls names, w.before args s' = true := vx_own hat' (vx_isRefq hU'.1) (vx_isRefq hN'.1) hU'.2.word hN'.2.word
  have hown' : s'.vm.findClass own = some m.cls := by rw [hvm]; exact hown
  have hins : (Cond.instantiable cls 6).before args s' = true := h _ (by simp [Bundle.ownAtoms])
  obtain ⟨vm₁, cX, kX, hfX, hkX, -, -, X₁, st1⟩ := Y.newCold hexec (own := own) (C := cls) (index := ik) (n := 6) hown' hk' hins hini'
    (g := F0 m pc ls rest) rfl (by rw [hb]; exact d0) (Nat.le_refl _) (Nat.le_refl _)
  generalize hT1 : (T.setVm vm₁).pushCell { cls := cX, slots := kX.instanceTypes.map defaultValue, vm := .none } = T1 at X₁ st1
  have hcat : (Value.ref T.heap.size).category = 1 := rfl
  have hcellA : T1.heap[T.heap.size]? = some (freshCell cX kX) := by rw [← hT1]; exact State.heap_pushCell_size _ _
  have d3' : decode c.code (pc + 3) = .ok (.dup, 1) := by rw [hb]; exact d3
  have d4' : decode c.code (pc + 4) = .ok (.ldc_w is, 3) := by rw [hb]; exact d4
  have hstr' : vk_R own is text sa s' := vk_R.warm hW0 hstr
  obtain ⟨U, hsteps, hrun, hend, hW, hsame, ce, hce, hO⟩ := X₁.ctorThrowS hexec htr (own := own) (cls := cls) (names := names) (ic := ic) hown' hcls hnames h (fun x hx => nomatch hx) hfX hkX hcellA (by rw [hhp, hT]; exact Nat.le_refl _) (msg := .ref sa) rfl
    (g := { method := m, pc := pc + 7, locals := ls, stack := .ref sa :: .ref T.heap.size :: .ref T.heap.size :: rest, locked := none }) rfl hsize rfl rfl (rest := rest) rfl
    (by rw [hb]; exact d7) (by rw [hb]; exact d10) hout hRframes (by simp only [List.map_cons, List.sum_cons, hcat]; omega) hlocks
  obtain ⟨f1, f2⟩ := vx_frame hsame
  rw [hhp] at f1 f2
  have hWs : s.WarmedH U.vm := State.WarmedH.trans hW0 hW
  have hcl : s.vm.findClass cls = some ce.cls := by
    have h9 := hO.cls
    rw [hvm] at h9
    exact h9
  have hall : s.sameButNew ({ U with vm := s.vm } : State) locs mc ms := by
    subst hA
    obtain ⟨e1, e2⟩ := hsame
    rw [State.setFrames_setFrames] at e1
    have h2 : (T.setVm s.vm).sameButNew ({ U with vm := s.vm } : State) [] (0 + 1) (0 + 6) := ⟨e1, e2⟩
    have h3 := X.same.trans h2
    rw [List.append_nil] at h3
    exact h3.mono hc hs
  refine ⟨U, ?_, .threw T.heap.size, hrun, hend, Or.inr ⟨T.heap.size, rfl, cls, ce, locs, hx U hWs.alike f1 (fun q hq => f2 q hq (fun z hz => nomatch hz)), hce, hO.vm, hcl, hWs, hall, hf⟩⟩
  refine st1 _ ?_
  show Steps p.tables e below (T1.setTop { method := m, pc := pc + 3, locals := ls, stack := .ref T.heap.size :: rest, locked := none }) _
  jvm_step X₁.here [X₁.here.top, hexec, d3', Value.category]
  exact X₁.ldcStringW hexec (own := own) (text := text) (index := is) (a := sa) hown' hstr'.1 hstr'.2
    (g := { method := m, pc := pc + 4, locals := ls, stack := .ref T.heap.size :: .ref T.heap.size :: rest, locked := none }) rfl d4' _ hsteps
end Ends
section Bodies
variable {l : Launch}
theorem vx_ofW {y : MethodName} {ws ws' : List Cond} {rm : Room} {Pc : Array Value → State → Prop} {Qc : Array Value → State → Outcome → State → Prop} {XC : String → State → State → Prop} {mc ms : Nat} {free : Addr → Prop} {cc : ByteArray} {maxL : Nat} {ret : Option FieldType}
    (hy : plainName y.cls = true) (hw : ws = Cond.code y cc maxL ret :: ws')
    (body : ∀ p e s m args below meth c s₁, BodyLoose p l y (headSpec ws rm) cc maxL ret e s m args below meth c s₁ → c.maxLocals = maxL → (∀ x ∈ c.exceptionTable.toList, False) → Pc args s →
      W p l e (headSpec ws rm).room s m args below meth c s.heap [] 0 0 (vx_MQ below Qc XC args s mc ms free) (entryFrame m args maxL)) : vx_Met l y ws rm Pc Qc XC mc ms free := by
  refine MetFree.of_bodyS (code := cc) (maxLocals := maxL) (ret := ret) hy ?_ ?_
  · intro args s m h hn
    obtain ⟨meth, c, h1, h2, h3, h4, h5, h6, -, -⟩ := Cond.code_spec hn (atoms_spec (ws := ws) h _ (by rw [hw]; exact List.mem_cons_self))
    exact ⟨meth, c, h1, h2, h3, h4, h5, h6⟩
  · intro p e s m args below meth c s₁ B hml hP _
    have hh0 : s₁.heap = s.heap := by rw [B.state]; rfl
    have ht : ∀ x ∈ c.exceptionTable.toList, False := by
      obtain ⟨meth9, c9, h1, h2, -, -, -, -, h7, -⟩ := Cond.code_spec B.named (atoms_spec (ws := ws) B.pre _ (by rw [hw]; exact List.mem_cons_self))
      cases Option.some.inj (h1.symm.trans B.method)
      cases Option.some.inj (h2.symm.trans (Stand.of_body B).code)
      intro x hx
      rw [Array.isEmpty_iff.mp h7] at hx
      cases hx
    obtain ⟨t, a1, o, b1, b2, b3⟩ := body p e s m args below meth c s₁ B hml ht hP s₁ hh0 (Stand.of_body B)
    exact ⟨t, o, a1, b1, b2, b3⟩
/-- the table of a body with handlers -/
theorem vx_table {p : Program} {x y : MethodName} {S : Spec} {cc bytes : ByteArray} {maxL maxL' : Nat} {ret ret' : Option FieldType} {e : Env} {s s₁ : State} {m : MethodId} {args : Array Value} {below : List Frame} {meth : Method} {c : Code} {hh : List (Nat × Nat × Nat × Nat)}
    (B : BodyLoose p l y S cc maxL ret e s m args below meth c s₁) (h : (Cond.codeWith y bytes maxL' ret' hh).before args s = true) : c.exceptionTable.toList = tableOf hh := by
  obtain ⟨m9, meth9, c9, hn9, h1, h2, -, -, h6, -⟩ := Cond.codeWith_spec h
  cases Option.some.inj (hn9.symm.trans B.named)
  cases Option.some.inj (h1.symm.trans B.method)
  cases Option.some.inj (h2.symm.trans (Stand.of_body B).code)
  rw [← h6, table_eq]
end Bodies
end VXA
/-! ===== END ===== -/
/-! ===== BEGIN a static call of a method with an exception table ===== -/
section VXS
variable {p : Program} {l : Launch} {e : Env} {R : Room} {s : State} {m : MethodId} {args : Array Value} {below : List Frame} {meth : Method} {c : Code} {T : State} {H : Heap} {locs : List Loc} {cells slots : Nat}
abbrev vx_CSW (R : Room) (s : State) (args : Array Value) (own : String) (index : Nat) (y : MethodName) (bytes : ByteArray) (maxL : Nat) (ret : Option FieldType) (hh : List (Nat × Nat × Nat × Nat)) (ws : List Cond) (rm : Room) (mc ms n : Nat) : Prop :=
  (rm.cells = mc ∧ rm.slots = ms ∧ rm.frames + 1 ≤ R.frames ∧ 8 + (maxL + 11) + rm.locals ≤ R.locals ∧ (∀ w ∈ ws, ∀ (a' : Array Value) (U : State), s.WarmedH U.vm → w.before a' U = true) ∧ Cond.codeWith y bytes maxL ret hh ∈ ws) ∧
  (Cond.codeWith y bytes maxL ret hh).before args s = true ∧ (Cond.initialized y.cls).before args s = true ∧ (y.cls ≠ "java/lang/invoke/MethodHandle" ∧ y.cls ≠ "java/lang/invoke/VarHandle") ∧
  (∀ sig, parseMethodDescriptor y.desc = some sig → n = sig.parameters.length) ∧ (Cond.methodLink own index y).before args s = true ∧ (Cond.static y).before args s = true
theorem vx_cwSW {own : String} {index maxL mc ms : Nat} {y : MethodName} {bytes : ByteArray} {ret : Option FieldType} {hh : List (Nat × Nat × Nat × Nat)} {Ts ws ws' : List Cond} {rm : Room} (n : Nat) (ht : ∀ w ∈ Ts, w.before args s = true) (hT : GoodIn Ts (va_wsS own index y ws)) (hw : ws = Cond.codeWith y bytes maxL ret hh :: ws') (hrc : rm.cells = mc) (hrs : rm.slots = ms)
    (hd : y.cls ≠ "java/lang/invoke/MethodHandle" ∧ y.cls ≠ "java/lang/invoke/VarHandle" ∧ (parseMethodDescriptor y.desc).map (fun d => d.parameters.length) = some n) (hR : rm.frames + 1 ≤ R.frames ∧ 8 + (maxL + 11) + rm.locals ≤ R.locals) :
    vx_CSW R s args own index y bytes maxL ret hh ws rm mc ms n := by
  have ok : ∀ w ∈ va_wsS own index y ws, w.before args s = true := fun w h => ht w (hT w h).1
  have hG : GoodIn Ts ws := fun w h => hT w (by unfold va_wsS; exact List.mem_append_right _ h)
  have hc : Cond.codeWith y bytes maxL ret hh ∈ ws := by rw [hw]; exact List.mem_cons_self
  refine ⟨⟨hrc, hrs, hR.1, hR.2, pay_in ht hG, hc⟩, ht _ (hG _ hc).1, ok _ (by simp [va_wsS]), ⟨hd.1, hd.2.1⟩, fun sig h => ?_, ok _ (by simp [va_wsS]), ok _ (by simp [va_wsS])⟩
  have h2 := hd.2.2
  rw [h] at h2
  exact (Option.some.inj h2).symm
theorem vx_callSW (X : Stand p l e R s m args below meth c T locs cells slots) (hexec : p.tables.exec = Jvm.exec) {own : String} {index : Nat} {y : MethodName} {bytes : ByteArray} {maxL : Nat} {ret : Option FieldType} {hh : List (Nat × Nat × Nat × Nat)}
    (hown : s.vm.findClass own = some m.cls) (hlink : (Cond.methodLink own index y).before args s = true) (hstat : (Cond.static y).before args s = true) (hinit : (Cond.initialized y.cls).before args s = true)
    (hcode : (Cond.codeWith y bytes maxL ret hh).before args s = true) (hy : y.cls ≠ "java/lang/invoke/MethodHandle" ∧ y.cls ≠ "java/lang/invoke/VarHandle")
    {W9 : Nat} {Pre : Pt → Array Value → Prop} {Post : Pt → Array Value → Option Value → Pt → Prop} (hK : Back l R p e below s args y 3 W9 Pre Post)
    {g : JFrame} (hg : g.method = m) (hsize : g.locals.size = c.maxLocals) {argsL rest : List Value} (hlen : ∀ sig, parseMethodDescriptor y.desc = some sig → argsL.length = sig.parameters.length)
    (hstack : g.stack = argsL.reverse ++ rest) (hW : 2 * g.monitorRoom + (rest.map fun v => v.category).sum ≤ W9) (hdg : decode c.code g.pc = .ok (.invokestatic index, 3))
    (hpre : ∀ vm₁, s.WarmedH vm₁ → Pre ⟨T.setVm vm₁, locs, cells, slots⟩ argsL.toArray) :
    ∃ (v : Option Value) (vm₁ : Vm) (B : Pt), s.WarmedH vm₁ ∧ Stand p l e R s m args below meth c B.U B.locs B.cells B.slots ∧ Post ⟨T.setVm vm₁, locs, cells, slots⟩ argsL.toArray v B ∧
      ∀ target, Steps p.tables e below (B.U.setTop { g with pc := g.pc + 3, stack := v.toList ++ rest }) target → Steps p.tables e below (T.setTop g) target := by
  obtain ⟨mk, methM, cM, hnamed, hmethM, -, -, -, -, -, -, hsigM⟩ := Cond.codeWith_spec hcode
  have hstatic : methM.isStatic = true := Cond.static_spec hnamed hmethM hstat
  obtain ⟨kP, hkP, -⟩ := className_of_methodNamed hnamed
  have hinitP : kP.init = .initialized := Cond.initialized_spec (findClass_of_methodNamed hnamed) hkP hinit
  obtain ⟨vm₁, X₁, hstep₁⟩ := X.invokestatic hexec hown hlink hnamed hmethM hstatic hkP hinitP hy (g := g) hg (argsL := argsL) (rest := rest) (hlen _ hsigM) hstack hdg
  obtain ⟨v, B, X', hpost, hsteps⟩ := hK m meth c ⟨T.setVm vm₁, locs, cells, slots⟩ { g with stack := rest } (.invokestatic index) mk argsL.toArray X₁ hg hsize hdg hW (X₁.named hnamed) (hpre vm₁ X₁.warmed)
  exact ⟨v, vm₁, B, X₁.warmed, X', hpost, fun target h => hstep₁ _ fun acts => by rw [doInvoke_state]; exact hsteps.trans h⟩
theorem vx_runSW {y : MethodName} {bytes cc : ByteArray} {maxL nL mc ms n index : Nat} {ret : Option FieldType} {hh : List (Nat × Nat × Nat × Nat)} {ws : List Cond} {rm : Room} {Pc : Array Value → State → Prop} {Qc : Array Value → State → Outcome → State → Prop} {free : Addr → Prop} {Ts : List Cond} {own : String} {As rest : List Value} {g : JFrame}
    (S : CallFix p m c cc nL s args Ts own) (hM : Met l y ws rm Pc Qc mc ms free) (cw : vx_CSW R s args own index y bytes maxL ret hh ws rm mc ms n) (hp : PreS s H Pc As)
    (hg : g.method = m) (hn : As.length = n) (hsize : g.locals.size = nL) (hstack : g.stack = As.reverse ++ rest) (hW : 2 * g.monitorRoom + (rest.map fun v => v.category).sum ≤ 8) (hdg : decode cc g.pc = .ok (.invokestatic index, 3)) (hf : cells + mc ≤ R.cells ∧ slots + ms ≤ R.slots) :
    va_Run p l e R s m args below meth c H locs cells slots mc ms g rest (Qc As.toArray) (free) := by
  obtain ⟨⟨hrc, hrs, hfr, hlo, hws, hcw⟩, hcode, hini, hy, hlen, hl, hstt⟩ := cw
  have hK : Back l R p e below s args y 3 8 (PreOf R mc ms Pc) (PostOf Qc mc ms free) := va_backW (hh := hh) (bytes := bytes) (maxL := maxL) (ret := ret) hM hp.1 hrc hrs hfr hlo hws hcw (fun a' U hW => word_at hW (Or.inl (by first | rfl | simp [Cond.onTables, Cond.keeps, Cond.steady])) hini)
  obtain ⟨hx, hb, hml, ho, -⟩ := S
  intro T hT X
  obtain ⟨v, vm₁, ⟨U', l2, c2, s2⟩, hW₁, X', ⟨g', mk, t, L, e1, e2, hq, h1, hL, h2, h3⟩, st⟩ := vx_callSW X hx (hh := hh) (bytes := bytes) (maxL := maxL) (ret := ret) ho hl hstt hini hcode hy hK hg (hsize.trans hml.symm) (argsL := As) (rest := rest) (fun sig h => hn.trans (hlen sig h)) hstack hW (by rw [hb]; exact hdg)
    (fun vm₁ hW₁ => ⟨hf.1, hf.2, hp.2 (T.setVm vm₁) hT hW₁⟩)
  dsimp only [Pt.U, Pt.locs, Pt.cells, Pt.slots] at X' e1 e2 h1 h2 h3 st
  subst h1; subst h2; subst h3
  exact ⟨v, (T.setVm vm₁).calling g' mk As.toArray, t, U', L, hT, X', hL, e1, e2, hq, st⟩
/-- not caught here, past rows that name other classes: it goes on to the caller -/
theorem vx_outP {p : Program} {l : Launch} {e : Env} {R : Room} {s : State} {m : MethodId} {args : Array Value} {below : List Frame} {meth : Method} {c : Code} {H : Heap} {locs : List Loc} {cells slots : Nat} {free : Addr → Prop} {ls : Array Slot} {rest : List Value} {Qc : Array Value → State → Outcome → State → Prop} {XC : String → State → State → Prop}
    {pc : Nat} {own E : String} {ce : Cell} {q : Addr} {mc ms : Nat} (hown : s.vm.findClass own = some m.cls) (hlocks : meth.locks = false)
    (hpass : ∀ z ∈ c.exceptionTable.toList, covers z pc = false ∨ (z.catchType ≠ 0 ∧ ∃ nm : String, (Cond.classLink own z.catchType nm).before args s = true ∧ va_Nc E nm s)) (hcell : H[q]? = some ce) (hv : ce.vm = .none) (hcl : s.vm.findClass E = some ce.cls)
    (hx : ∀ t : State, t.heap = H → s.vm.Alike t.vm → XC E s t) (hf : ∀ z ∈ locs, free z.base) (hc : cells ≤ mc) (hs : slots ≤ ms) :
    vx_W p l e R s m args below meth c H locs cells slots (vx_MQ below Qc XC args s mc ms free) (F0 m pc ls rest) q := by
  intro T hT X
  have hpl : e.platform.magicAccessors = ({} : Platform).magicAccessors := by rw [X.admits.platform]
  obtain ⟨vm', hW', X', st⟩ := X.outThrough hlocks q (g := F0 m pc ls rest) rfl rfl rfl (cell := ce) (by rw [hT]; exact hcell) (by rw [hv]; rfl)
    (by obtain ⟨k9, h9, -⟩ := Vm.findClass_spec hcl; exact ⟨k9, h9⟩) (fun z hz => by
      rcases hpass z hz with h | ⟨hz0, nm, hl1, hn1⟩
      · exact Or.inl h
      · obtain ⟨c6, hc6, hcl6⟩ := Cond.classLink_spec hown hl1 e.platform hpl
        obtain ⟨a8, b8, h1, h2, h3⟩ := hn1
        cases Option.some.inj (h1.symm.trans hcl)
        cases Option.some.inj (h2.symm.trans hc6)
        exact Or.inr ⟨hz0, _, hcl6, h3⟩)
  obtain ⟨g₀, hfr⟩ := X'.frames_eq
  have hcell9 : ((T.setVm vm').setFrames (.throwing q :: below)).heap[q]? = some ce := by
    show T.heap[q]? = some ce
    rw [hT]; exact hcell
  have hend : Ended ((T.setVm vm').setFrames (.throwing q :: below)) below (.threw q) := State.frames_setFrames _ (State.cur_lt_of_frames hfr)
  refine ⟨(T.setVm vm').setFrames (.throwing q :: below), ?_, .threw q, X'.here.running, hend, Or.inr ⟨q, rfl, E, ce, locs, hx _ hT (X'.ends _).1.alike, hcell9, hv, hcl, (X'.ends _).1, (X'.ends _).2.mono hc hs, hf⟩⟩
  rw [X.pushThrowing_eq]
  exact st
/-- a thing of a world lies in the heap -/
theorem vx_lt {D : va_G} {cl : List vw_C} {ws : va_W} {H1 : Heap} (h : va_P D cl ws H1) {k : Nat} {q : Nat × va_E} (hk : ws[k]? = some q) : q.1 < H1.size := (h k q hk).lt
end VXS
/-! ===== END ===== -/
/-! ===== BEGIN methods with a table of their own: called by a name, returning or throwing ===== -/
section VXH
/-! vx_backW, vx_callVX, vx_callSX, vx_callVW, vx_runVW, vx_runVX, vx_runSX, vx_ofWH follow the same proofs as their sisters above (Free/Laws.lean, Shelf42/LK1.lean); vx_outP calls Shelf42/NT130.lean (outThrough). -/
section
variable {l : Launch} {R : Room} {p : Program} {e : Env} {below : List Frame} {s : State} {sargs : Array Value} {y : MethodName} {len W9 : Nat}
theorem vx_backW {ws : List Cond} {rm : Room} {Pc : Array Value → State → Prop} {Qc : Array Value → State → Outcome → State → Prop} {XC : String → State → State → Prop} {mc ms : Nat} {free : Addr → Prop} {bytes : ByteArray} {maxL : Nat} {ret : Option FieldType} {hh : List (Nat × Nat × Nat × Nat)}
    (hM : vx_Met l y ws rm Pc Qc XC mc ms free) (hblind : FrameBlind Pc) (hrc : rm.cells = mc) (hrs : rm.slots = ms)
    (hframes : rm.frames + 1 ≤ R.frames) (hlocals : W9 + (maxL + 11) + rm.locals ≤ R.locals)
    (hws : ∀ w ∈ ws, ∀ a' U, s.WarmedH U.vm → w.before a' U = true) (hcode : Cond.codeWith y bytes maxL ret hh ∈ ws) (hinit : ∀ a' U, s.WarmedH U.vm → (Cond.initialized y.cls).before a' U = true) :
    vx_Back l R p e below s sargs y len W9 (PreOf R mc ms Pc) (PostOf Qc mc ms free) (vx_Post XC mc ms free) := by
  intro m meth c A g ig mk a X hg hsize hdg hW hn hp
  have h1 : (headSpec ws rm).pre.before a A.U = true := atoms_intro fun w hw => hws w hw _ _ X.warmed
  have h2 : (Cond.codeWith y bytes maxL ret hh).before a A.U = true := hws _ hcode _ _ X.warmed
  have h3 : (Cond.initialized y.cls).before a A.U = true := hinit _ _ X.warmed
  have h4 : A.cells + (headSpec ws rm).room.cells ≤ R.cells := by rw [show (headSpec ws rm).room.cells = mc from hrc]; exact hp.1
  have h5 : A.slots + (headSpec ws rm).room.slots ≤ R.slots := by rw [show (headSpec ws rm).room.slots = ms from hrs]; exact hp.2.1
  have hPc : Pc a (A.U.calling g mk a) := hblind _ _ _ _ hp.2.2
  obtain ⟨U, Ls, c0, s0⟩ := A
  dsimp only [Pt.U, Pt.locs, Pt.cells, Pt.slots] at h1 h2 h3 h4 h5 X hn hPc ⊢
  obtain ⟨m9, methY, cY, hn9, hmY, hcY, -, hlY, -⟩ := Cond.codeWith_spec h2
  cases Option.some.inj (hn9.symm.trans hn)
  obtain ⟨kY, hkY, -⟩ := className_of_methodNamed hn
  have hinitY : kY.init = .initialized := Cond.initialized_spec (findClass_of_methodNamed hn) hkY h3
  have h : At U g.method c below := by rw [hg]; exact X.here
  have hlocals9 : W9 + (maxL + 11) + (headSpec ws rm).room.locals ≤ R.locals := hlocals
  have happ : (headSpec ws rm).appliesLoose y e.platform (U.calling g mk a) = true :=
    Spec.appliesLoose_calling (g := g) h hdg hn hkY hinitY
      (X.room_calling (g := g) (R' := (headSpec ws rm).room) hsize hmY hcY hframes (by rw [hlY]; omega) h4 h5) h1
  obtain ⟨mid, hmid⟩ := h.above
  have hfr : (U.setTop g).frames = (.java g :: mid) ++ below := by rw [State.frames_setTop' g h.top, hmid]; rfl
  obtain ⟨o, s₂, hsteps, -, hend, hq⟩ := Steps.callFree hM p X.admits X.cas X.clock (acts := []) hfr happ hPc trivial
  have hq' : vx_Q Qc XC mc ms free a (U.calling g mk a) o s₂ := hq
  rw [State.frames_setTop' g h.top] at hend
  obtain ⟨g₀, hg0⟩ := Option.isSome_iff_exists.mp h.top
  obtain ⟨r, hr⟩ := State.topJava?_eq_some.mp hg0
  have hr' : (({ U with heap := s₂.heap, slotsUsed := s₂.slotsUsed } : State).setVm s₂.vm).frames = .java g₀ :: r := hr
  rcases hq' with ⟨hqc, L, hfe, hL⟩ | ⟨q, rfl, E, ce, L, hx, hce, hcv, hcl, hW₂, hsm, hL⟩
  · obtain ⟨⟨v, rfl⟩, hW₂, e2, q2, q3, q4, q5, q6⟩ := id hfe
    have e3 : s₂ = ({ (U.calling g mk a).setFrames s₂.frames with heap := s₂.heap, slotsUsed := s₂.slotsUsed } : State).setVm s₂.vm := by
      have : s₂ = ({ s₂ with vm := (U.calling g mk a).vm } : State).setVm s₂.vm := rfl
      rw [e2] at this
      exact this
    obtain ⟨c₂, i₂, len₂, hc₂, hd₂, hf₂⟩ := hend
    have hW' : U.WarmedH s₂.vm := hW₂
    have hcc : c₂ = c := by
      have h1 : s₂.code? g.method = U.code? g.method := by
        rw [State.code?_eq, State.code?_eq, hW'.alike.method?]
      exact Option.some.inj (hc₂.symm.trans (h1.trans h.code))
    subst hcc
    have hlen : len₂ = len := by rw [hdg] at hd₂; cases hd₂; rfl
    subst hlen
    have hs₂ : s₂ = (({ U with heap := s₂.heap, slotsUsed := s₂.slotsUsed } : State).setVm s₂.vm).setTop { g with pc := g.pc + len₂, stack := v.toList ++ g.stack } := by
      refine e3.trans ?_
      rw [hf₂, State.calling_eq h.top, State.setFrames_setFrames, State.setTop_of_frames _ hr', hr]
      rfl
    have hsame : U.sameButNew ({ U with heap := s₂.heap, slotsUsed := s₂.slotsUsed } : State) L mc ms := by
      refine ⟨?_, q2, q3, q4, q5, q6⟩
      obtain ⟨t, ht, -⟩ := State.frames_cons hr
      show ({ U with heap := s₂.heap, slotsUsed := s₂.slotsUsed } : State) = { U.setFrames U.frames with heap := s₂.heap, slotsUsed := s₂.slotsUsed }
      rw [State.setFrames_self ht]
    subst hg
    refine Or.inl ⟨v, ⟨(({ U with heap := s₂.heap, slotsUsed := s₂.slotsUsed } : State).setVm s₂.vm), Ls ++ L, c0 + mc, s0 + ms⟩,
      ⟨X.admits, X.cas, X.clock, X.frames, X.room, X.hears, X.method, X.code, (X.here.setHeapUsed s₂.heap s₂.slotsUsed).setVm hW'.alike, X.tail, State.WarmedH.trans X.warmed hW', X.limits, X.bytes, X.same.trans (hsame.setVm s.vm)⟩,
      ⟨g, mk, s₂, L, rfl, rfl, hqc, rfl, hL, rfl, rfl⟩, ?_⟩
    show Steps p.tables e below _ ((({ U with heap := s₂.heap, slotsUsed := s₂.slotsUsed } : State).setVm s₂.vm).setTop { g with pc := g.pc + len₂, stack := v.toList ++ g.stack })
    rw [← hs₂]
    exact hsteps
  · obtain ⟨e2, q2, q3, q4, q5, q6⟩ := id hsm
    have e3 : s₂ = ({ (U.calling g mk a).setFrames s₂.frames with heap := s₂.heap, slotsUsed := s₂.slotsUsed } : State).setVm s₂.vm := by
      have : s₂ = ({ s₂ with vm := (U.calling g mk a).vm } : State).setVm s₂.vm := rfl
      rw [e2] at this
      exact this
    have hf₂ : s₂.frames = .throwing q :: .java g :: U.frames.tail := hend
    have hW' : U.WarmedH s₂.vm := hW₂
    have hs₂ : s₂ = ((({ U with heap := s₂.heap, slotsUsed := s₂.slotsUsed } : State).setVm s₂.vm).setTop g).pushFrame (.throwing q) := by
      refine e3.trans ?_
      rw [hf₂, State.calling_eq h.top, State.setFrames_setFrames, State.pushFrame, State.frames_setTop _ hr', State.setTop_of_frames _ hr', State.setFrames_setFrames, hr]
      rfl
    have hsame : U.sameButNew ({ U with heap := s₂.heap, slotsUsed := s₂.slotsUsed } : State) L mc ms := by
      refine ⟨?_, q2, q3, q4, q5, q6⟩
      obtain ⟨t, ht, -⟩ := State.frames_cons hr
      show ({ U with heap := s₂.heap, slotsUsed := s₂.slotsUsed } : State) = { U.setFrames U.frames with heap := s₂.heap, slotsUsed := s₂.slotsUsed }
      rw [State.setFrames_self ht]
    subst hg
    refine Or.inr ⟨q, ⟨(({ U with heap := s₂.heap, slotsUsed := s₂.slotsUsed } : State).setVm s₂.vm), Ls ++ L, c0 + mc, s0 + ms⟩,
      ⟨X.admits, X.cas, X.clock, X.frames, X.room, X.hears, X.method, X.code, (X.here.setHeapUsed s₂.heap s₂.slotsUsed).setVm hW'.alike, X.tail, State.WarmedH.trans X.warmed hW', X.limits, X.bytes, X.same.trans (hsame.setVm s.vm)⟩,
      ⟨g, mk, s₂, L, E, ce, rfl, rfl, hx, hce, hcv, hcl, rfl, hL, rfl, rfl⟩, ?_⟩
    show Steps p.tables e below _ (((({ U with heap := s₂.heap, slotsUsed := s₂.slotsUsed } : State).setVm s₂.vm).setTop g).pushFrame (.throwing q))
    rw [← hs₂]
    exact hsteps
end
variable {p : Program} {l : Launch} {e : Env} {R : Room} {s : State} {m : MethodId} {args : Array Value} {below : List Frame} {meth : Method} {c : Code} {T : State} {H : Heap} {locs : List Loc} {cells slots : Nat}
theorem vx_callVX (X : Stand p l e R s m args below meth c T locs cells slots) (hexec : p.tables.exec = Jvm.exec) {own C : String} {index : Nat} {y : MethodName} {bytes : ByteArray} {maxL : Nat} {ret : Option FieldType} {hh : List (Nat × Nat × Nat × Nat)}
    (hown : s.vm.findClass own = some m.cls) (hlink : (Cond.methodLink own index y).before args s = true) (hinst : (Cond.instanceMethod y).before args s = true) (hsel : (Cond.selects C y y).before args s = true)
    (hcode : (Cond.codeWith y bytes maxL ret hh).before args s = true) (hy : y.cls ≠ "java/lang/invoke/MethodHandle" ∧ y.cls ≠ "java/lang/invoke/VarHandle")
    {W9 : Nat} {Pre : Pt → Array Value → Prop} {Post : Pt → Array Value → Option Value → Pt → Prop} {PostX : Pt → Array Value → Addr → Pt → Prop} (hK : vx_Back l R p e below s args y 3 W9 Pre Post PostX)
    {b : Addr} {cellB : Cell} (hcell : T.heap[b]? = some cellB) (hobj : cellB.vm.isStatics = false) (hcls : s.vm.findClass C = some cellB.cls)
    {g : JFrame} (hg : g.method = m) (hsize : g.locals.size = c.maxLocals) {argsL rest : List Value} (hlen : ∀ sig, parseMethodDescriptor y.desc = some sig → argsL.length = sig.parameters.length)
    (hstack : g.stack = argsL.reverse ++ .ref b :: rest) (hW : 2 * g.monitorRoom + (rest.map fun v => v.category).sum ≤ W9) (hdg : decode c.code g.pc = .ok (.invokevirtual index, 3))
    (hpre : ∀ vm₁, s.WarmedH vm₁ → Pre ⟨T.setVm vm₁, locs, cells, slots⟩ (Value.ref b :: argsL).toArray) :
    (∃ (v : Option Value) (vm₁ : Vm) (B : Pt), s.WarmedH vm₁ ∧ Stand p l e R s m args below meth c B.U B.locs B.cells B.slots ∧ Post ⟨T.setVm vm₁, locs, cells, slots⟩ (Value.ref b :: argsL).toArray v B ∧
      ∀ target, Steps p.tables e below (B.U.setTop { g with pc := g.pc + 3, stack := v.toList ++ rest }) target → Steps p.tables e below (T.setTop g) target) ∨
    (∃ (q : Addr) (vm₁ : Vm) (B : Pt), s.WarmedH vm₁ ∧ Stand p l e R s m args below meth c B.U B.locs B.cells B.slots ∧ PostX ⟨T.setVm vm₁, locs, cells, slots⟩ (Value.ref b :: argsL).toArray q B ∧
      Steps p.tables e below (T.setTop g) ((B.U.setTop { g with stack := rest }).pushFrame (.throwing q))) := by
  obtain ⟨mk, methM, hnamed, hmethM, hstM, habM⟩ := Cond.instanceMethod_spec hinst
  obtain ⟨m8, methM', cM, hn8, hmethM', -, -, -, -, -, -, hsigM⟩ := Cond.codeWith_spec hcode
  cases Option.some.inj (hn8.symm.trans hnamed)
  cases hmethM.symm.trans hmethM'
  obtain ⟨c2, r2, m2, q1, q2, q3, q4, kP, hkP, hkPi⟩ := Cond.selects_spec hsel
  cases hcls.symm.trans q1
  cases (State.methodFound?_of_named hnamed hy).symm.trans q2
  cases hnamed.symm.trans q3
  have hselP : selectMethod e.platform s.vm cellB.cls mk = .method mk := by rw [Launch.admits_selectMethod X.admits]; exact q4
  obtain ⟨vm₁, X₁, hstep₁⟩ := X.invokevirtual hexec hown hlink hnamed hmethM hstM hkP hkPi hy (a := b) (cell := cellB) hcell
    (fun z h => by rw [h] at hobj; cases hobj) hselP hmethM habM hkP hkPi (g := g) hg (argsL := argsL) (rest := rest) (hlen _ hsigM) hstack hdg
  rcases hK m meth c ⟨T.setVm vm₁, locs, cells, slots⟩ { g with stack := rest } (.invokevirtual index) mk (Value.ref b :: argsL).toArray X₁ hg hsize hdg hW (X₁.named hnamed) (hpre vm₁ X₁.warmed) with ⟨v, B, X', hpost, hsteps⟩ | ⟨q, B, X', hpost, hsteps⟩
  · exact Or.inl ⟨v, vm₁, B, X₁.warmed, X', hpost, fun target h => hstep₁ _ fun acts => by rw [doInvoke_state]; exact hsteps.trans h⟩
  · exact Or.inr ⟨q, vm₁, B, X₁.warmed, X', hpost, hstep₁ _ fun acts => by rw [doInvoke_state]; exact hsteps⟩
theorem vx_callSX (X : Stand p l e R s m args below meth c T locs cells slots) (hexec : p.tables.exec = Jvm.exec) {own : String} {index : Nat} {y : MethodName} {bytes : ByteArray} {maxL : Nat} {ret : Option FieldType} {hh : List (Nat × Nat × Nat × Nat)}
    (hown : s.vm.findClass own = some m.cls) (hlink : (Cond.methodLink own index y).before args s = true) (hstat : (Cond.static y).before args s = true) (hinit : (Cond.initialized y.cls).before args s = true)
    (hcode : (Cond.codeWith y bytes maxL ret hh).before args s = true) (hy : y.cls ≠ "java/lang/invoke/MethodHandle" ∧ y.cls ≠ "java/lang/invoke/VarHandle")
    {W9 : Nat} {Pre : Pt → Array Value → Prop} {Post : Pt → Array Value → Option Value → Pt → Prop} {PostX : Pt → Array Value → Addr → Pt → Prop} (hK : vx_Back l R p e below s args y 3 W9 Pre Post PostX)
    {g : JFrame} (hg : g.method = m) (hsize : g.locals.size = c.maxLocals) {argsL rest : List Value} (hlen : ∀ sig, parseMethodDescriptor y.desc = some sig → argsL.length = sig.parameters.length)
    (hstack : g.stack = argsL.reverse ++ rest) (hW : 2 * g.monitorRoom + (rest.map fun v => v.category).sum ≤ W9) (hdg : decode c.code g.pc = .ok (.invokestatic index, 3))
    (hpre : ∀ vm₁, s.WarmedH vm₁ → Pre ⟨T.setVm vm₁, locs, cells, slots⟩ argsL.toArray) :
    (∃ (v : Option Value) (vm₁ : Vm) (B : Pt), s.WarmedH vm₁ ∧ Stand p l e R s m args below meth c B.U B.locs B.cells B.slots ∧ Post ⟨T.setVm vm₁, locs, cells, slots⟩ argsL.toArray v B ∧
      ∀ target, Steps p.tables e below (B.U.setTop { g with pc := g.pc + 3, stack := v.toList ++ rest }) target → Steps p.tables e below (T.setTop g) target) ∨
    (∃ (q : Addr) (vm₁ : Vm) (B : Pt), s.WarmedH vm₁ ∧ Stand p l e R s m args below meth c B.U B.locs B.cells B.slots ∧ PostX ⟨T.setVm vm₁, locs, cells, slots⟩ argsL.toArray q B ∧
      Steps p.tables e below (T.setTop g) ((B.U.setTop { g with stack := rest }).pushFrame (.throwing q))) := by
  obtain ⟨mk, methM, cM, hnamed, hmethM, -, -, -, -, -, -, hsigM⟩ := Cond.codeWith_spec hcode
  have hstatic : methM.isStatic = true := Cond.static_spec hnamed hmethM hstat
  obtain ⟨kP, hkP, -⟩ := className_of_methodNamed hnamed
  have hinitP : kP.init = .initialized := Cond.initialized_spec (findClass_of_methodNamed hnamed) hkP hinit
  obtain ⟨vm₁, X₁, hstep₁⟩ := X.invokestatic hexec hown hlink hnamed hmethM hstatic hkP hinitP hy (g := g) hg (argsL := argsL) (rest := rest) (hlen _ hsigM) hstack hdg
  rcases hK m meth c ⟨T.setVm vm₁, locs, cells, slots⟩ { g with stack := rest } (.invokestatic index) mk argsL.toArray X₁ hg hsize hdg hW (X₁.named hnamed) (hpre vm₁ X₁.warmed) with ⟨v, B, X', hpost, hsteps⟩ | ⟨q, B, X', hpost, hsteps⟩
  · exact Or.inl ⟨v, vm₁, B, X₁.warmed, X', hpost, fun target h => hstep₁ _ fun acts => by rw [doInvoke_state]; exact hsteps.trans h⟩
  · exact Or.inr ⟨q, vm₁, B, X₁.warmed, X', hpost, hstep₁ _ fun acts => by rw [doInvoke_state]; exact hsteps⟩
theorem vx_callVW (X : Stand p l e R s m args below meth c T locs cells slots) (hexec : p.tables.exec = Jvm.exec) {own C : String} {index : Nat} {y : MethodName} {bytes : ByteArray} {maxL : Nat} {ret : Option FieldType} {hh : List (Nat × Nat × Nat × Nat)}
    (hown : s.vm.findClass own = some m.cls) (hlink : (Cond.methodLink own index y).before args s = true) (hinst : (Cond.instanceMethod y).before args s = true) (hsel : (Cond.selects C y y).before args s = true)
    (hcode : (Cond.codeWith y bytes maxL ret hh).before args s = true) (hy : y.cls ≠ "java/lang/invoke/MethodHandle" ∧ y.cls ≠ "java/lang/invoke/VarHandle")
    {W9 : Nat} {Pre : Pt → Array Value → Prop} {Post : Pt → Array Value → Option Value → Pt → Prop} (hK : Back l R p e below s args y 3 W9 Pre Post)
    {b : Addr} {cellB : Cell} (hcell : T.heap[b]? = some cellB) (hobj : cellB.vm.isStatics = false) (hcls : s.vm.findClass C = some cellB.cls)
    {g : JFrame} (hg : g.method = m) (hsize : g.locals.size = c.maxLocals) {argsL rest : List Value} (hlen : ∀ sig, parseMethodDescriptor y.desc = some sig → argsL.length = sig.parameters.length)
    (hstack : g.stack = argsL.reverse ++ .ref b :: rest) (hW : 2 * g.monitorRoom + (rest.map fun v => v.category).sum ≤ W9) (hdg : decode c.code g.pc = .ok (.invokevirtual index, 3))
    (hpre : ∀ vm₁, s.WarmedH vm₁ → Pre ⟨T.setVm vm₁, locs, cells, slots⟩ (Value.ref b :: argsL).toArray) :
    ∃ (v : Option Value) (vm₁ : Vm) (B : Pt), s.WarmedH vm₁ ∧ Stand p l e R s m args below meth c B.U B.locs B.cells B.slots ∧ Post ⟨T.setVm vm₁, locs, cells, slots⟩ (Value.ref b :: argsL).toArray v B ∧
      ∀ target, Steps p.tables e below (B.U.setTop { g with pc := g.pc + 3, stack := v.toList ++ rest }) target → Steps p.tables e below (T.setTop g) target := by
  obtain ⟨mk, methM, hnamed, hmethM, hstM, habM⟩ := Cond.instanceMethod_spec hinst
  obtain ⟨m8, methM', cM, hn8, hmethM', -, -, -, -, -, -, hsigM⟩ := Cond.codeWith_spec hcode
  cases Option.some.inj (hn8.symm.trans hnamed)
  cases hmethM.symm.trans hmethM'
  obtain ⟨c2, r2, m2, q1, q2, q3, q4, kP, hkP, hkPi⟩ := Cond.selects_spec hsel
  cases hcls.symm.trans q1
  cases (State.methodFound?_of_named hnamed hy).symm.trans q2
  cases hnamed.symm.trans q3
  have hselP : selectMethod e.platform s.vm cellB.cls mk = .method mk := by rw [Launch.admits_selectMethod X.admits]; exact q4
  obtain ⟨vm₁, X₁, hstep₁⟩ := X.invokevirtual hexec hown hlink hnamed hmethM hstM hkP hkPi hy (a := b) (cell := cellB) hcell
    (fun z h => by rw [h] at hobj; cases hobj) hselP hmethM habM hkP hkPi (g := g) hg (argsL := argsL) (rest := rest) (hlen _ hsigM) hstack hdg
  obtain ⟨v, B, X', hpost, hsteps⟩ := hK m meth c ⟨T.setVm vm₁, locs, cells, slots⟩ { g with stack := rest } (.invokevirtual index) mk (Value.ref b :: argsL).toArray X₁ hg hsize hdg hW (X₁.named hnamed) (hpre vm₁ X₁.warmed)
  exact ⟨v, vm₁, B, X₁.warmed, X', hpost, fun target h => hstep₁ _ fun acts => by rw [doInvoke_state]; exact hsteps.trans h⟩
abbrev vx_CVW (R : Room) (s : State) (args : Array Value) (own C : String) (index : Nat) (y : MethodName) (bytes : ByteArray) (maxL : Nat) (ret : Option FieldType) (hh : List (Nat × Nat × Nat × Nat)) (ws : List Cond) (rm : Room) (mc ms n : Nat) : Prop :=
  (rm.cells = mc ∧ rm.slots = ms ∧ rm.frames + 1 ≤ R.frames ∧ 8 + (maxL + 11) + rm.locals ≤ R.locals ∧ (∀ w ∈ ws, ∀ (a' : Array Value) (U : State), s.WarmedH U.vm → w.before a' U = true) ∧ Cond.codeWith y bytes maxL ret hh ∈ ws) ∧
  (Cond.codeWith y bytes maxL ret hh).before args s = true ∧ (Cond.initialized y.cls).before args s = true ∧ (y.cls ≠ "java/lang/invoke/MethodHandle" ∧ y.cls ≠ "java/lang/invoke/VarHandle") ∧
  (∀ sig, parseMethodDescriptor y.desc = some sig → n = sig.parameters.length) ∧ (Cond.methodLink own index y).before args s = true ∧ (Cond.instanceMethod y).before args s = true ∧ (Cond.selects C y y).before args s = true
theorem vx_cwVW {own C : String} {index maxL mc ms : Nat} {y : MethodName} {bytes : ByteArray} {ret : Option FieldType} {hh : List (Nat × Nat × Nat × Nat)} {Ts ws ws' : List Cond} {rm : Room} (n : Nat) (ht : ∀ w ∈ Ts, w.before args s = true) (hT : GoodIn Ts (wsV own index C y ws)) (hw : ws = Cond.codeWith y bytes maxL ret hh :: ws') (hrc : rm.cells = mc) (hrs : rm.slots = ms)
    (hd : y.cls = C ∧ y.cls ≠ "java/lang/invoke/MethodHandle" ∧ y.cls ≠ "java/lang/invoke/VarHandle" ∧ (parseMethodDescriptor y.desc).map (fun d => d.parameters.length) = some n) (hR : rm.frames + 1 ≤ R.frames ∧ 8 + (maxL + 11) + rm.locals ≤ R.locals) :
    vx_CVW R s args own C index y bytes maxL ret hh ws rm mc ms n := by
  obtain ⟨hC, hd⟩ := hd
  subst hC
  have ok : ∀ w ∈ wsV own index y.cls y ws, w.before args s = true := fun w h => ht w (hT w h).1
  have hG : GoodIn Ts ws := fun w h => hT w (by unfold wsV; exact List.mem_append_right _ h)
  have hc : Cond.codeWith y bytes maxL ret hh ∈ ws := by rw [hw]; exact List.mem_cons_self
  refine ⟨⟨hrc, hrs, hR.1, hR.2, pay_in ht hG, hc⟩, ht _ (hG _ hc).1, ok _ (by simp [wsV]), ⟨hd.1, hd.2.1⟩, fun sig h => ?_, ok _ (by simp [wsV]), ok _ (by simp [wsV]), ok _ (by simp [wsV])⟩
  have h2 := hd.2.2
  rw [h] at h2
  exact (Option.some.inj h2).symm
theorem vx_runVW {y : MethodName} {bytes cc : ByteArray} {maxL nL mc ms n index : Nat} {ret : Option FieldType} {hh : List (Nat × Nat × Nat × Nat)} {ws : List Cond} {rm : Room} {Pc : Array Value → State → Prop} {Qc : Array Value → State → Outcome → State → Prop} {free : Addr → Prop} {Ts : List Cond} {own C : String} {b : Addr} {As rest : List Value} {g : JFrame}
    (S : CallFix p m c cc nL s args Ts own) (hM : Met l y ws rm Pc Qc mc ms free) (cw : vx_CVW R s args own C index y bytes maxL ret hh ws rm mc ms n) (hp : PreV s H C b Pc As)
    (hg : g.method = m) (hn : As.length = n) (hsize : g.locals.size = nL) (hstack : g.stack = As.reverse ++ .ref b :: rest) (hW : 2 * g.monitorRoom + (rest.map fun v => v.category).sum ≤ 8) (hdg : decode cc g.pc = .ok (.invokevirtual index, 3)) (hf : cells + mc ≤ R.cells ∧ slots + ms ≤ R.slots) :
    va_Run p l e R s m args below meth c H locs cells slots mc ms g rest (Qc (Value.ref b :: As).toArray) free := by
  obtain ⟨⟨hrc, hrs, hfr, hlo, hws, hcw⟩, hcode, hini, hy, hlen, hl, hin, hse⟩ := cw
  have hK : Back l R p e below s args y 3 8 (PreOf R mc ms Pc) (PostOf Qc mc ms free) := va_backW (hh := hh) (bytes := bytes) (maxL := maxL) (ret := ret) hM hp.1 hrc hrs hfr hlo hws hcw (fun a' U hW => word_at hW (Or.inl (by first | rfl | simp [Cond.onTables, Cond.keeps, Cond.steady])) hini)
  obtain ⟨hx, hb, hml, ho, -⟩ := S
  obtain ⟨-, ⟨cellB, hcB, hoB, hclB⟩, hPc⟩ := hp
  intro T hT X
  obtain ⟨v, vm₁, ⟨U', l2, c2, s2⟩, hW₁, X', ⟨g', mk, t, L, e1, e2, hq, h1, hL, h2, h3⟩, st⟩ := vx_callVW X hx (C := C) (hh := hh) (bytes := bytes) (maxL := maxL) (ret := ret) ho hl hin hse hcode hy hK (by rw [hT]; exact hcB) hoB hclB hg (hsize.trans hml.symm) (argsL := As) (rest := rest) (fun sig h => hn.trans (hlen sig h)) hstack hW (by rw [hb]; exact hdg)
    (fun vm₁ hW₁ => ⟨hf.1, hf.2, hPc (T.setVm vm₁) hT hW₁⟩)
  dsimp only [Pt.U, Pt.locs, Pt.cells, Pt.slots] at X' e1 e2 h1 h2 h3 st
  subst h1; subst h2; subst h3
  exact ⟨v, (T.setVm vm₁).calling g' mk (Value.ref b :: As).toArray, t, U', L, hT, X', hL, e1, e2, hq, st⟩
section
variable {y : MethodName} {bytes cc : ByteArray} {maxL nL mc ms n index : Nat} {ret : Option FieldType} {ws : List Cond} {rm : Room} {Pc : Array Value → State → Prop} {Qc : Array Value → State → Outcome → State → Prop} {XC : String → State → State → Prop} {free : Addr → Prop} {Ts : List Cond} {own C : String} {b : Addr} {As rest : List Value} {g : JFrame}
theorem vx_runVX {hh : List (Nat × Nat × Nat × Nat)} (S : CallFix p m c cc nL s args Ts own) (hM : vx_Met l y ws rm Pc Qc XC mc ms free) (cw : vx_CVW R s args own C index y bytes maxL ret hh ws rm mc ms n) (hp : PreV s H C b Pc As)
    (hg : g.method = m) (hn : As.length = n) (hsize : g.locals.size = nL) (hstack : g.stack = As.reverse ++ .ref b :: rest) (hW : 2 * g.monitorRoom + (rest.map fun v => v.category).sum ≤ 8) (hdg : decode cc g.pc = .ok (.invokevirtual index, 3)) (hf : cells + mc ≤ R.cells ∧ slots + ms ≤ R.slots) :
    vx_Run p l e R s m args below meth c H locs cells slots mc ms g rest (Qc (Value.ref b :: As).toArray) XC free := by
  obtain ⟨⟨hrc, hrs, hfr, hlo, hws, hcw⟩, hcode, hini, hy, hlen, hl, hin, hse⟩ := cw
  have hK : vx_Back l R p e below s args y 3 8 (PreOf R mc ms Pc) (PostOf Qc mc ms free) (vx_Post XC mc ms free) := vx_backW (hh := hh) (bytes := bytes) (maxL := maxL) (ret := ret) hM hp.1 hrc hrs hfr hlo hws hcw (fun a' U hW => word_at hW (Or.inl (by first | rfl | simp [Cond.onTables, Cond.keeps, Cond.steady])) hini)
  obtain ⟨hx, hb, hml, ho, -⟩ := S
  obtain ⟨-, ⟨cellB, hcB, hoB, hclB⟩, hPc⟩ := hp
  intro T hT X
  rcases vx_callVX X hx (C := C) (hh := hh) (bytes := bytes) (maxL := maxL) (ret := ret) ho hl hin hse hcode hy hK (by rw [hT]; exact hcB) hoB hclB hg (hsize.trans hml.symm) (argsL := As) (rest := rest) (fun sig h => hn.trans (hlen sig h)) hstack hW (by rw [hb]; exact hdg)
    (fun vm₁ hW₁ => ⟨hf.1, hf.2, hPc (T.setVm vm₁) hT hW₁⟩) with ⟨v, vm₁, ⟨U', l2, c2, s2⟩, hW₁, X', ⟨g', mk, t, L, e1, e2, hq, h1, hL, h2, h3⟩, st⟩ | ⟨q, vm₁, ⟨U', l2, c2, s2⟩, hW₁, X', ⟨g', mk, t, L, E, ce, e1, e2, hq, hce, hcv, hcl, h1, hL, h2, h3⟩, st⟩
  · dsimp only [Pt.U, Pt.locs, Pt.cells, Pt.slots] at X' e1 e2 h1 h2 h3 st
    subst h1; subst h2; subst h3
    exact Or.inl ⟨v, (T.setVm vm₁).calling g' mk (Value.ref b :: As).toArray, t, U', L, hT, X', hL, e1, e2, hq, st⟩
  · dsimp only [Pt.U, Pt.locs, Pt.cells, Pt.slots] at X' e1 e2 h1 h2 h3 st hcl
    subst h1; subst h2; subst h3
    exact Or.inr ⟨q, (T.setVm vm₁).calling g' mk (Value.ref b :: As).toArray, t, U', L, E, ce, hT, X', hL, e1, e2, hq, hce, hcv, vx_cls hW₁ hcl, st⟩
theorem vx_runSX {hh : List (Nat × Nat × Nat × Nat)} (S : CallFix p m c cc nL s args Ts own) (hM : vx_Met l y ws rm Pc Qc XC mc ms free) (cw : vx_CSW R s args own index y bytes maxL ret hh ws rm mc ms n) (hp : PreS s H Pc As)
    (hg : g.method = m) (hn : As.length = n) (hsize : g.locals.size = nL) (hstack : g.stack = As.reverse ++ rest) (hW : 2 * g.monitorRoom + (rest.map fun v => v.category).sum ≤ 8) (hdg : decode cc g.pc = .ok (.invokestatic index, 3)) (hf : cells + mc ≤ R.cells ∧ slots + ms ≤ R.slots) :
    vx_Run p l e R s m args below meth c H locs cells slots mc ms g rest (Qc As.toArray) XC free := by
  obtain ⟨⟨hrc, hrs, hfr, hlo, hws, hcw⟩, hcode, hini, hy, hlen, hl, hstt⟩ := cw
  have hK : vx_Back l R p e below s args y 3 8 (PreOf R mc ms Pc) (PostOf Qc mc ms free) (vx_Post XC mc ms free) := vx_backW (hh := hh) (bytes := bytes) (maxL := maxL) (ret := ret) hM hp.1 hrc hrs hfr hlo hws hcw (fun a' U hW => word_at hW (Or.inl (by first | rfl | simp [Cond.onTables, Cond.keeps, Cond.steady])) hini)
  obtain ⟨hx, hb, hml, ho, -⟩ := S
  intro T hT X
  rcases vx_callSX X hx (hh := hh) (bytes := bytes) (maxL := maxL) (ret := ret) ho hl hstt hini hcode hy hK hg (hsize.trans hml.symm) (argsL := As) (rest := rest) (fun sig h => hn.trans (hlen sig h)) hstack hW (by rw [hb]; exact hdg)
    (fun vm₁ hW₁ => ⟨hf.1, hf.2, hp.2 (T.setVm vm₁) hT hW₁⟩) with ⟨v, vm₁, ⟨U', l2, c2, s2⟩, hW₁, X', ⟨g', mk, t, L, e1, e2, hq, h1, hL, h2, h3⟩, st⟩ | ⟨q, vm₁, ⟨U', l2, c2, s2⟩, hW₁, X', ⟨g', mk, t, L, E, ce, e1, e2, hq, hce, hcv, hcl, h1, hL, h2, h3⟩, st⟩
  · dsimp only [Pt.U, Pt.locs, Pt.cells, Pt.slots] at X' e1 e2 h1 h2 h3 st
    subst h1; subst h2; subst h3
    exact Or.inl ⟨v, (T.setVm vm₁).calling g' mk As.toArray, t, U', L, hT, X', hL, e1, e2, hq, st⟩
  · dsimp only [Pt.U, Pt.locs, Pt.cells, Pt.slots] at X' e1 e2 h1 h2 h3 st hcl
    subst h1; subst h2; subst h3
    exact Or.inr ⟨q, (T.setVm vm₁).calling g' mk As.toArray, t, U', L, E, ce, hT, X', hL, e1, e2, hq, hce, hcv, vx_cls hW₁ hcl, st⟩
end
end VXH
theorem vx_ofWH {l : Launch} {y : MethodName} {ws ws' : List Cond} {rm : Room} {Pc : Array Value → State → Prop} {Qc : Array Value → State → Outcome → State → Prop} {XC : String → State → State → Prop} {mc ms : Nat} {free : Addr → Prop} {cc : ByteArray} {maxL : Nat} {ret : Option FieldType} {hh : List (Nat × Nat × Nat × Nat)}
    (hy : plainName y.cls = true) (hw : ws = Cond.codeWith y cc maxL ret hh :: ws')
    (body : ∀ p e s m args below meth c s₁, BodyLoose p l y (headSpec ws rm) cc maxL ret e s m args below meth c s₁ → c.maxLocals = maxL → Pc args s →
      W p l e (headSpec ws rm).room s m args below meth c s.heap [] 0 0 (vx_MQ below Qc XC args s mc ms free) (entryFrame m args maxL)) : vx_Met l y ws rm Pc Qc XC mc ms free := by
  refine MetFree.of_bodyS (code := cc) (maxLocals := maxL) (ret := ret) hy ?_ ?_
  · intro args s m h hn
    obtain ⟨m9, meth, c, hn9, h1, h2, h3, h4, -, h5, h6, -⟩ := Cond.codeWith_spec (atoms_spec (ws := ws) h _ (by rw [hw]; exact List.mem_cons_self))
    cases hn.symm.trans hn9
    exact ⟨meth, c, h1, h2, h3, h4, h5, h6⟩
  · intro p e s m args below meth c s₁ B hml hP _
    have hh0 : s₁.heap = s.heap := by rw [B.state]; rfl
    obtain ⟨t, a1, o, b1, b2, b3⟩ := body p e s m args below meth c s₁ B hml hP s₁ hh0 (Stand.of_body B)
    exact ⟨t, o, a1, b1, b2, b3⟩
/-! ===== END ===== -/
end
section
def RX0 : String := "WharfQuery$Column"
def TX0 : u_T := fun k => match k with
  | 0 => ("WharfQuery$Column", "hasIndex", "Z", false)
  | 1 => ("WharfQuery$Column", "toldUnlike", "I", false)
  | 2 => ("WharfQuery$Column", "toldLeast", "I", false)
  | _ => ("WharfQuery$Column", "toldGreatest", "I", false)
def tyX0 : Nat → FieldType := fun k => match k with
  | 0 => .boolean
  | 1 => .int
  | 2 => .int
  | _ => .int
abbrev wsX00 : List Cond := u_ws RX0 TX0 4
theorem nmX0 : ∀ a, a < 4 → ∀ b, b < 4 → a ≠ b → (TX0 a).2.1 ≠ (TX0 b).2.1 := by decide +kernel
theorem tyX0_ok : ∀ k, k < 4 → parseFieldDescriptor (TX0 k).2.2.1 = some (tyX0 k) := by decide +kernel
abbrev cX0_init : ByteArray := prog_2_method_1_code
def yX0_init : MethodName := ⟨RX0, "<init>", "()V"⟩
def RX1 : String := "WharfQuery$Condition"
def TX1 : u_T := fun k => match k with
  | 0 => ("WharfQuery$Condition", "kind", "I", false)
  | 1 => ("WharfQuery$Condition", "source", "I", false)
  | 2 => ("WharfQuery$Condition", "column", "I", false)
  | 3 => ("WharfQuery$Condition", "number", "I", false)
  | 4 => ("WharfQuery$Condition", "other", "I", false)
  | _ => ("WharfQuery$Condition", "otherColumn", "I", false)
def tyX1 : Nat → FieldType := fun k => match k with
  | 0 => .int
  | 1 => .int
  | 2 => .int
  | 3 => .int
  | 4 => .int
  | _ => .int
abbrev wsX10 : List Cond := u_ws RX1 TX1 6
theorem nmX1 : ∀ a, a < 6 → ∀ b, b < 6 → a ≠ b → (TX1 a).2.1 ≠ (TX1 b).2.1 := by decide +kernel
theorem tyX1_ok : ∀ k, k < 6 → parseFieldDescriptor (TX1 k).2.2.1 = some (tyX1 k) := by decide +kernel
abbrev cX1_init : ByteArray := prog_3_method_1_code
def yX1_init : MethodName := ⟨RX1, "<init>", "()V"⟩
abbrev cX1_compare : ByteArray := prog_3_method_2_code
def yX1_compare : MethodName := ⟨RX1, "compare", "(IIII)V"⟩
abbrev cX1_join : ByteArray := prog_3_method_3_code
def yX1_join : MethodName := ⟨RX1, "join", "(IIII)V"⟩
abbrev cX1_stepIn : ByteArray := prog_3_method_4_code
def yX1_stepIn : MethodName := ⟨RX1, "stepIn", "(LWharfQuery$Plan;)I"⟩
abbrev cX1_asksForOneValueOf : ByteArray := prog_3_method_5_code
def yX1_asksForOneValueOf : MethodName := ⟨RX1, "asksForOneValueOf", "(II)Z"⟩
def RX2 : String := "WharfQuery$Crew"
def TX2 : u_T := fun k => match k with
  | 0 => ("WharfQuery$Crew", "tables", "[LWharfQuery$Table;", true)
  | 1 => ("WharfQuery$Crew", "reports", "[LWharfQuery$Report;", true)
  | 2 => ("WharfQuery$Crew", "planner", "LWharfQuery$Planner;", true)
  | 3 => ("WharfQuery$Crew", "run", "LWharfQuery$Run;", true)
  | 4 => ("WharfQuery$Crew", "line", "[I", true)
  | 5 => ("WharfQuery$Crew", "sampleStep", "I", false)
  | 6 => ("WharfQuery$Crew", "nightsPassed", "I", false)
  | 7 => ("WharfQuery$Crew", "allPay", "I", false)
  | 8 => ("WharfQuery$Crew", "minutesLeft", "I", false)
  | _ => ("WharfQuery$Crew", "allPenalties", "I", false)
def tyX2 : Nat → FieldType := fun k => match k with
  | 0 => .array (.object "WharfQuery$Table")
  | 1 => .array (.object "WharfQuery$Report")
  | 2 => .object "WharfQuery$Planner"
  | 3 => .object "WharfQuery$Run"
  | 4 => .array .int
  | 5 => .int
  | 6 => .int
  | 7 => .int
  | 8 => .int
  | _ => .int
abbrev wsX20 : List Cond := u_ws RX2 TX2 10
theorem nmX2 : ∀ a, a < 10 → ∀ b, b < 10 → a ≠ b → (TX2 a).2.1 ≠ (TX2 b).2.1 := by decide +kernel
theorem tyX2_ok : ∀ k, k < 10 → parseFieldDescriptor (TX2 k).2.2.1 = some (tyX2 k) := by decide +kernel
abbrev cX2_init : ByteArray := prog_4_method_1_code
def yX2_init : MethodName := ⟨RX2, "<init>", "([LWharfQuery$Table;[LWharfQuery$Report;LWharfQuery$Planner;LWharfQuery$Run;)V"⟩
abbrev cX2_takePay : ByteArray := prog_4_method_2_code
def yX2_takePay : MethodName := ⟨RX2, "takePay", "(I)V"⟩
abbrev cX2_renewMarkedTables : ByteArray := prog_4_method_3_code
def yX2_renewMarkedTables : MethodName := ⟨RX2, "renewMarkedTables", "()V"⟩
abbrev cX2_runDueReports : ByteArray := prog_4_method_4_code
def yX2_runDueReports : MethodName := ⟨RX2, "runDueReports", "()I"⟩
abbrev cX2_lineUpDueReports : ByteArray := prog_4_method_5_code
def yX2_lineUpDueReports : MethodName := ⟨RX2, "lineUpDueReports", "()I"⟩
abbrev cX2_keep : ByteArray := prog_4_method_6_code
def yX2_keep : MethodName := ⟨RX2, "keep", "(LWharfQuery$Report;I)V"⟩
abbrev cX2_markTables : ByteArray := prog_4_method_7_code
def yX2_markTables : MethodName := ⟨RX2, "markTables", "(LWharfQuery$Report;)V"⟩
def RX3 : String := "WharfQuery$Plan"
def TX3 : u_T := fun k => match k with
  | 0 => ("WharfQuery$Plan", "order", "[I", true)
  | 1 => ("WharfQuery$Plan", "ways", "[I", true)
  | 2 => ("WharfQuery$Plan", "stepOf", "[I", true)
  | _ => ("WharfQuery$Plan", "thousandths", "J", false)
def tyX3 : Nat → FieldType := fun k => match k with
  | 0 => .array .int
  | 1 => .array .int
  | 2 => .array .int
  | _ => .long
abbrev wsX30 : List Cond := u_ws RX3 TX3 4
theorem nmX3 : ∀ a, a < 4 → ∀ b, b < 4 → a ≠ b → (TX3 a).2.1 ≠ (TX3 b).2.1 := by decide +kernel
theorem tyX3_ok : ∀ k, k < 4 → parseFieldDescriptor (TX3 k).2.2.1 = some (tyX3 k) := by decide +kernel
abbrev cX3_init : ByteArray := prog_5_method_1_code
def yX3_init : MethodName := ⟨RX3, "<init>", "()V"⟩
abbrev cX3_clear : ByteArray := prog_5_method_2_code
def yX3_clear : MethodName := ⟨RX3, "clear", "()V"⟩
abbrev cX3_place : ByteArray := prog_5_method_3_code
def yX3_place : MethodName := ⟨RX3, "place", "(II)V"⟩
abbrev cX3_becomePlain : ByteArray := prog_5_method_4_code
def yX3_becomePlain : MethodName := ⟨RX3, "becomePlain", "(I)V"⟩
abbrev cX3_copyFrom : ByteArray := prog_5_method_5_code
def yX3_copyFrom : MethodName := ⟨RX3, "copyFrom", "(LWharfQuery$Plan;J)V"⟩
abbrev cX3_foretoldMinutes : ByteArray := prog_5_method_6_code
def yX3_foretoldMinutes : MethodName := ⟨RX3, "foretoldMinutes", "()I"⟩
def RX4 : String := "WharfQuery$Planner"
def TX4 : u_T := fun k => match k with
  | 0 => ("WharfQuery$Planner", "tables", "[LWharfQuery$Table;", true)
  | 1 => ("WharfQuery$Planner", "draft", "LWharfQuery$Plan;", true)
  | _ => ("WharfQuery$Planner", "best", "LWharfQuery$Plan;", true)
def tyX4 : Nat → FieldType := fun k => match k with
  | 0 => .array (.object "WharfQuery$Table")
  | 1 => .object "WharfQuery$Plan"
  | _ => .object "WharfQuery$Plan"
abbrev wsX40 : List Cond := u_ws RX4 TX4 3
theorem nmX4 : ∀ a, a < 3 → ∀ b, b < 3 → a ≠ b → (TX4 a).2.1 ≠ (TX4 b).2.1 := by decide +kernel
theorem tyX4_ok : ∀ k, k < 3 → parseFieldDescriptor (TX4 k).2.2.1 = some (tyX4 k) := by decide +kernel
abbrev cX4_init : ByteArray := prog_6_method_1_code
def yX4_init : MethodName := ⟨RX4, "<init>", "([LWharfQuery$Table;)V"⟩
abbrev cX4_choose : ByteArray := prog_6_method_2_code
def yX4_choose : MethodName := ⟨RX4, "choose", "(LWharfQuery$Report;)LWharfQuery$Plan;"⟩
abbrev cX4_extend : ByteArray := prog_6_method_3_code
def yX4_extend : MethodName := ⟨RX4, "extend", "(LWharfQuery$Planner;LWharfQuery$Report;IJJ)V"⟩
abbrev cX4_takeCheapestWay : ByteArray := prog_6_method_4_code
def yX4_takeCheapestWay : MethodName := ⟨RX4, "takeCheapestWay", "(LWharfQuery$Report;IJ)J"⟩
abbrev cX4_choicesBehind : ByteArray := prog_6_method_5_code
def yX4_choicesBehind : MethodName := ⟨RX4, "choicesBehind", "(LWharfQuery$Report;IJ)J"⟩
abbrev cX4_narrow : ByteArray := prog_6_method_6_code
def yX4_narrow : MethodName := ⟨RX4, "narrow", "(LWharfQuery$Report;LWharfQuery$Condition;J)J"⟩
abbrev cX4_share : ByteArray := prog_6_method_7_code
def yX4_share : MethodName := ⟨RX4, "share", "(JILWharfQuery$Column;)J"⟩
def RX5 : String := "WharfQuery$Report"
def TX5 : u_T := fun k => match k with
  | 0 => ("WharfQuery$Report", "sources", "[I", true)
  | 1 => ("WharfQuery$Report", "conditions", "[LWharfQuery$Condition;", true)
  | 2 => ("WharfQuery$Report", "penalty", "I", false)
  | 3 => ("WharfQuery$Report", "sourceCount", "I", false)
  | 4 => ("WharfQuery$Report", "conditionCount", "I", false)
  | 5 => ("WharfQuery$Report", "sumSource", "I", false)
  | 6 => ("WharfQuery$Report", "sumColumn", "I", false)
  | 7 => ("WharfQuery$Report", "due", "Z", false)
  | 8 => ("WharfQuery$Report", "keptChoices", "I", false)
  | 9 => ("WharfQuery$Report", "keptTotal", "I", false)
  | _ => ("WharfQuery$Report", "keptNight", "I", false)
def tyX5 : Nat → FieldType := fun k => match k with
  | 0 => .array .int
  | 1 => .array (.object "WharfQuery$Condition")
  | 2 => .int
  | 3 => .int
  | 4 => .int
  | 5 => .int
  | 6 => .int
  | 7 => .boolean
  | 8 => .int
  | 9 => .int
  | _ => .int
abbrev wsX50 : List Cond := u_ws RX5 TX5 11
theorem nmX5 : ∀ a, a < 11 → ∀ b, b < 11 → a ≠ b → (TX5 a).2.1 ≠ (TX5 b).2.1 := by decide +kernel
theorem tyX5_ok : ∀ k, k < 11 → parseFieldDescriptor (TX5 k).2.2.1 = some (tyX5 k) := by decide +kernel
abbrev cX5_init : ByteArray := prog_7_method_1_code
def yX5_init : MethodName := ⟨RX5, "<init>", "()V"⟩
abbrev cX5_conditionForIndex : ByteArray := prog_7_method_2_code
def yX5_conditionForIndex : MethodName := ⟨RX5, "conditionForIndex", "(LWharfQuery$Plan;II)I"⟩
def RX6 : String := "WharfQuery$Run"
def TX6 : u_T := fun k => match k with
  | 0 => ("WharfQuery$Run", "tables", "[LWharfQuery$Table;", true)
  | 1 => ("WharfQuery$Run", "chosenRows", "[I", true)
  | 2 => ("WharfQuery$Run", "minutesTaken", "I", false)
  | 3 => ("WharfQuery$Run", "choices", "I", false)
  | _ => ("WharfQuery$Run", "total", "I", false)
def tyX6 : Nat → FieldType := fun k => match k with
  | 0 => .array (.object "WharfQuery$Table")
  | 1 => .array .int
  | 2 => .int
  | 3 => .int
  | _ => .int
abbrev wsX60 : List Cond := u_ws RX6 TX6 5
theorem nmX6 : ∀ a, a < 5 → ∀ b, b < 5 → a ≠ b → (TX6 a).2.1 ≠ (TX6 b).2.1 := by decide +kernel
theorem tyX6_ok : ∀ k, k < 5 → parseFieldDescriptor (TX6 k).2.2.1 = some (tyX6 k) := by decide +kernel
abbrev cX6_init : ByteArray := prog_8_method_1_code
def yX6_init : MethodName := ⟨RX6, "<init>", "([LWharfQuery$Table;)V"⟩
abbrev cX6_goThrough : ByteArray := prog_8_method_2_code
def yX6_goThrough : MethodName := ⟨RX6, "goThrough", "(LWharfQuery$Report;LWharfQuery$Plan;)V"⟩
abbrev cX6_takeStep : ByteArray := prog_8_method_3_code
def yX6_takeStep : MethodName := ⟨RX6, "takeStep", "(LWharfQuery$Run;LWharfQuery$Report;LWharfQuery$Plan;I)V"⟩
abbrev cX6_countChoice : ByteArray := prog_8_method_4_code
def yX6_countChoice : MethodName := ⟨RX6, "countChoice", "(LWharfQuery$Report;)V"⟩
abbrev cX6_valueLookedFor : ByteArray := prog_8_method_5_code
def yX6_valueLookedFor : MethodName := ⟨RX6, "valueLookedFor", "(LWharfQuery$Report;LWharfQuery$Plan;I)I"⟩
abbrev cX6_conditionsHold : ByteArray := prog_8_method_6_code
def yX6_conditionsHold : MethodName := ⟨RX6, "conditionsHold", "(LWharfQuery$Report;LWharfQuery$Plan;I)Z"⟩
abbrev cX6_holds : ByteArray := prog_8_method_7_code
def yX6_holds : MethodName := ⟨RX6, "holds", "(LWharfQuery$Report;LWharfQuery$Condition;)Z"⟩
abbrev cX6_chosenValue : ByteArray := prog_8_method_8_code
def yX6_chosenValue : MethodName := ⟨RX6, "chosenValue", "(LWharfQuery$Report;II)I"⟩
def RX7 : String := "WharfQuery$Table"
def TX7 : u_T := fun k => match k with
  | 0 => ("WharfQuery$Table", "columns", "[LWharfQuery$Column;", true)
  | 1 => ("WharfQuery$Table", "values", "[[I", true)
  | 2 => ("WharfQuery$Table", "isThere", "[Z", true)
  | 3 => ("WharfQuery$Table", "sample", "[I", true)
  | 4 => ("WharfQuery$Table", "width", "I", false)
  | 5 => ("WharfQuery$Table", "inserted", "I", false)
  | 6 => ("WharfQuery$Table", "present", "I", false)
  | 7 => ("WharfQuery$Table", "toldPresent", "I", false)
  | _ => ("WharfQuery$Table", "marked", "Z", false)
def tyX7 : Nat → FieldType := fun k => match k with
  | 0 => .array (.object "WharfQuery$Column")
  | 1 => .array (.array .int)
  | 2 => .array .boolean
  | 3 => .array .int
  | 4 => .int
  | 5 => .int
  | 6 => .int
  | 7 => .int
  | _ => .boolean
abbrev wsX70 : List Cond := u_ws RX7 TX7 9
theorem nmX7 : ∀ a, a < 9 → ∀ b, b < 9 → a ≠ b → (TX7 a).2.1 ≠ (TX7 b).2.1 := by decide +kernel
theorem tyX7_ok : ∀ k, k < 9 → parseFieldDescriptor (TX7 k).2.2.1 = some (tyX7 k) := by decide +kernel
abbrev cX7_init : ByteArray := prog_9_method_1_code
def yX7_init : MethodName := ⟨RX7, "<init>", "()V"⟩
abbrev cX7_fits : ByteArray := prog_9_method_2_code
def yX7_fits : MethodName := ⟨RX7, "fits", "(II)Z"⟩
abbrev cX7_put : ByteArray := prog_9_method_3_code
def yX7_put : MethodName := ⟨RX7, "put", "(III)I"⟩
abbrev cX7_takeSample : ByteArray := prog_9_method_4_code
def yX7_takeSample : MethodName := ⟨RX7, "takeSample", "(I)I"⟩
abbrev cX7_renewCounts : ByteArray := prog_9_method_5_code
def yX7_renewCounts : MethodName := ⟨RX7, "renewCounts", "(I)I"⟩
abbrev cX7_tellColumn : ByteArray := prog_9_method_6_code
def yX7_tellColumn : MethodName := ⟨RX7, "tellColumn", "(III)V"⟩
abbrev cX7_isNewInSample : ByteArray := prog_9_method_7_code
def yX7_isNewInSample : MethodName := ⟨RX7, "isNewInSample", "(II)Z"⟩
def RX8 : String := "WharfQuery"
def TX8 : u_T := fun k => match k with
  | 0 => ("WharfQuery", "tables", "[LWharfQuery$Table;", true)
  | 1 => ("WharfQuery", "reports", "[LWharfQuery$Report;", true)
  | 2 => ("WharfQuery", "plainPlan", "LWharfQuery$Plan;", true)
  | 3 => ("WharfQuery", "planner", "LWharfQuery$Planner;", true)
  | 4 => ("WharfQuery", "run", "LWharfQuery$Run;", true)
  | 5 => ("WharfQuery", "crew", "LWharfQuery$Crew;", true)
  | 6 => ("WharfQuery", "tableCount", "I", false)
  | _ => ("WharfQuery", "reportCount", "I", false)
def tyX8 : Nat → FieldType := fun k => match k with
  | 0 => .array (.object "WharfQuery$Table")
  | 1 => .array (.object "WharfQuery$Report")
  | 2 => .object "WharfQuery$Plan"
  | 3 => .object "WharfQuery$Planner"
  | 4 => .object "WharfQuery$Run"
  | 5 => .object "WharfQuery$Crew"
  | 6 => .int
  | _ => .int
abbrev wsX80 : List Cond := u_ws RX8 TX8 8
theorem nmX8 : ∀ a, a < 8 → ∀ b, b < 8 → a ≠ b → (TX8 a).2.1 ≠ (TX8 b).2.1 := by decide +kernel
theorem tyX8_ok : ∀ k, k < 8 → parseFieldDescriptor (TX8 k).2.2.1 = some (tyX8 k) := by decide +kernel
abbrev cX8_init : ByteArray := prog_1_method_1_code
def yX8_init : MethodName := ⟨RX8, "<init>", "()V"⟩
abbrev cX8_makeTables : ByteArray := prog_1_method_2_code
def yX8_makeTables : MethodName := ⟨RX8, "makeTables", "()[LWharfQuery$Table;"⟩
abbrev cX8_makeReports : ByteArray := prog_1_method_3_code
def yX8_makeReports : MethodName := ⟨RX8, "makeReports", "()[LWharfQuery$Report;"⟩
abbrev cX8_addTable : ByteArray := prog_1_method_4_code
def yX8_addTable : MethodName := ⟨RX8, "addTable", "(I)I"⟩
abbrev cX8_insert : ByteArray := prog_1_method_5_code
def yX8_insert : MethodName := ⟨RX8, "insert", "(IIII)I"⟩
abbrev cX8_delete : ByteArray := prog_1_method_6_code
def yX8_delete : MethodName := ⟨RX8, "delete", "(II)I"⟩
abbrev cX8_setIndex : ByteArray := prog_1_method_7_code
def yX8_setIndex : MethodName := ⟨RX8, "setIndex", "(IIZ)Z"⟩
abbrev cX8_rows : ByteArray := prog_1_method_8_code
def yX8_rows : MethodName := ⟨RX8, "rows", "(I)I"⟩
abbrev cX8_value : ByteArray := prog_1_method_9_code
def yX8_value : MethodName := ⟨RX8, "value", "(III)I"⟩
abbrev cX8_renew : ByteArray := prog_1_method_10_code
def yX8_renew : MethodName := ⟨RX8, "renew", "(II)I"⟩
abbrev cX8_setStep : ByteArray := prog_1_method_11_code
def yX8_setStep : MethodName := ⟨RX8, "setStep", "(I)I"⟩
abbrev cX8_toldRows : ByteArray := prog_1_method_12_code
def yX8_toldRows : MethodName := ⟨RX8, "toldRows", "(I)I"⟩
abbrev cX8_unlike : ByteArray := prog_1_method_13_code
def yX8_unlike : MethodName := ⟨RX8, "unlike", "(II)I"⟩
abbrev cX8_least : ByteArray := prog_1_method_14_code
def yX8_least : MethodName := ⟨RX8, "least", "(II)I"⟩
abbrev cX8_greatest : ByteArray := prog_1_method_15_code
def yX8_greatest : MethodName := ⟨RX8, "greatest", "(II)I"⟩
abbrev cX8_isMarked : ByteArray := prog_1_method_16_code
def yX8_isMarked : MethodName := ⟨RX8, "isMarked", "(I)Z"⟩
abbrev cX8_addReport : ByteArray := prog_1_method_17_code
def yX8_addReport : MethodName := ⟨RX8, "addReport", "(I)I"⟩
abbrev cX8_addSource : ByteArray := prog_1_method_18_code
def yX8_addSource : MethodName := ⟨RX8, "addSource", "(II)I"⟩
abbrev cX8_addCondition : ByteArray := prog_1_method_19_code
def yX8_addCondition : MethodName := ⟨RX8, "addCondition", "(IIIII)I"⟩
abbrev cX8_addJoin : ByteArray := prog_1_method_20_code
def yX8_addJoin : MethodName := ⟨RX8, "addJoin", "(IIIII)I"⟩
abbrev cX8_dropCondition : ByteArray := prog_1_method_21_code
def yX8_dropCondition : MethodName := ⟨RX8, "dropCondition", "(I)I"⟩
abbrev cX8_setSum : ByteArray := prog_1_method_22_code
def yX8_setSum : MethodName := ⟨RX8, "setSum", "(III)V"⟩
abbrev cX8_setDue : ByteArray := prog_1_method_23_code
def yX8_setDue : MethodName := ⟨RX8, "setDue", "(IZ)Z"⟩
abbrev cX8_isDue : ByteArray := prog_1_method_24_code
def yX8_isDue : MethodName := ⟨RX8, "isDue", "(I)Z"⟩
abbrev cX8_planSource : ByteArray := prog_1_method_25_code
def yX8_planSource : MethodName := ⟨RX8, "planSource", "(II)I"⟩
abbrev cX8_planWay : ByteArray := prog_1_method_26_code
def yX8_planWay : MethodName := ⟨RX8, "planWay", "(II)I"⟩
abbrev cX8_foretold : ByteArray := prog_1_method_27_code
def yX8_foretold : MethodName := ⟨RX8, "foretold", "(I)I"⟩
abbrev cX8_minutes : ByteArray := prog_1_method_28_code
def yX8_minutes : MethodName := ⟨RX8, "minutes", "(I)I"⟩
abbrev cX8_answer : ByteArray := prog_1_method_29_code
def yX8_answer : MethodName := ⟨RX8, "answer", "(I)I"⟩
abbrev cX8_sum : ByteArray := prog_1_method_30_code
def yX8_sum : MethodName := ⟨RX8, "sum", "(I)I"⟩
abbrev cX8_plainAnswer : ByteArray := prog_1_method_31_code
def yX8_plainAnswer : MethodName := ⟨RX8, "plainAnswer", "(I)I"⟩
abbrev cX8_plainSum : ByteArray := prog_1_method_32_code
def yX8_plainSum : MethodName := ⟨RX8, "plainSum", "(I)I"⟩
abbrev cX8_night : ByteArray := prog_1_method_33_code
def yX8_night : MethodName := ⟨RX8, "night", "(I)I"⟩
abbrev cX8_nights : ByteArray := prog_1_method_34_code
def yX8_nights : MethodName := ⟨RX8, "nights", "()I"⟩
abbrev cX8_paid : ByteArray := prog_1_method_35_code
def yX8_paid : MethodName := ⟨RX8, "paid", "()I"⟩
abbrev cX8_left : ByteArray := prog_1_method_36_code
def yX8_left : MethodName := ⟨RX8, "left", "()I"⟩
abbrev cX8_owed : ByteArray := prog_1_method_37_code
def yX8_owed : MethodName := ⟨RX8, "owed", "()I"⟩
abbrev cX8_kept : ByteArray := prog_1_method_38_code
def yX8_kept : MethodName := ⟨RX8, "kept", "(I)I"⟩
abbrev cX8_keptSum : ByteArray := prog_1_method_39_code
def yX8_keptSum : MethodName := ⟨RX8, "keptSum", "(I)I"⟩
abbrev cX8_keptIn : ByteArray := prog_1_method_40_code
def yX8_keptIn : MethodName := ⟨RX8, "keptIn", "(I)I"⟩
abbrev cX8_findTable : ByteArray := prog_1_method_41_code
def yX8_findTable : MethodName := ⟨RX8, "findTable", "(I)LWharfQuery$Table;"⟩
abbrev cX8_findColumn : ByteArray := prog_1_method_42_code
def yX8_findColumn : MethodName := ⟨RX8, "findColumn", "(II)LWharfQuery$Column;"⟩
abbrev cX8_findReport : ByteArray := prog_1_method_43_code
def yX8_findReport : MethodName := ⟨RX8, "findReport", "(I)LWharfQuery$Report;"⟩
abbrev cX8_checkColumn : ByteArray := prog_1_method_44_code
def yX8_checkColumn : MethodName := ⟨RX8, "checkColumn", "(LWharfQuery$Table;I)V"⟩
abbrev cX8_checkRow : ByteArray := prog_1_method_45_code
def yX8_checkRow : MethodName := ⟨RX8, "checkRow", "(LWharfQuery$Table;I)V"⟩
abbrev cX8_checkSourceColumn : ByteArray := prog_1_method_46_code
def yX8_checkSourceColumn : MethodName := ⟨RX8, "checkSourceColumn", "(LWharfQuery$Report;II)V"⟩
abbrev cX8_checkPlanStep : ByteArray := prog_1_method_47_code
def yX8_checkPlanStep : MethodName := ⟨RX8, "checkPlanStep", "(LWharfQuery$Report;I)V"⟩
abbrev cX8_checkConditionRoom : ByteArray := prog_1_method_48_code
def yX8_checkConditionRoom : MethodName := ⟨RX8, "checkConditionRoom", "(LWharfQuery$Report;)V"⟩
abbrev cX8_checkSampleStep : ByteArray := prog_1_method_49_code
def yX8_checkSampleStep : MethodName := ⟨RX8, "checkSampleStep", "(I)V"⟩
abbrev cX8_runChosenPlan : ByteArray := prog_1_method_50_code
def yX8_runChosenPlan : MethodName := ⟨RX8, "runChosenPlan", "(LWharfQuery$Report;)V"⟩
abbrev cX8_runPlainPlan : ByteArray := prog_1_method_51_code
def yX8_runPlainPlan : MethodName := ⟨RX8, "runPlainPlan", "(LWharfQuery$Report;)V"⟩
def RX9 : String := "WharfQueryModel"
def TX9 : u_T := fun k => match k with
  | 0 => ("WharfQueryModel", "columns", "[I", true)
  | 1 => ("WharfQueryModel", "inserted", "[I", true)
  | 2 => ("WharfQueryModel", "there", "[Z", true)
  | 3 => ("WharfQueryModel", "value", "[I", true)
  | 4 => ("WharfQueryModel", "index", "[Z", true)
  | 5 => ("WharfQueryModel", "tables", "I", false)
  | 6 => ("WharfQueryModel", "toldRows", "[I", true)
  | 7 => ("WharfQueryModel", "unlike", "[I", true)
  | 8 => ("WharfQueryModel", "least", "[I", true)
  | 9 => ("WharfQueryModel", "greatest", "[I", true)
  | 10 => ("WharfQueryModel", "marked", "[Z", true)
  | 11 => ("WharfQueryModel", "step", "I", false)
  | 12 => ("WharfQueryModel", "penalty", "[I", true)
  | 13 => ("WharfQueryModel", "due", "[Z", true)
  | 14 => ("WharfQueryModel", "sources", "[I", true)
  | 15 => ("WharfQueryModel", "tableOf", "[I", true)
  | 16 => ("WharfQueryModel", "conditions", "[I", true)
  | 17 => ("WharfQueryModel", "kind", "[I", true)
  | 18 => ("WharfQueryModel", "source", "[I", true)
  | 19 => ("WharfQueryModel", "column", "[I", true)
  | 20 => ("WharfQueryModel", "number", "[I", true)
  | 21 => ("WharfQueryModel", "other", "[I", true)
  | 22 => ("WharfQueryModel", "otherColumn", "[I", true)
  | 23 => ("WharfQueryModel", "sumSource", "[I", true)
  | 24 => ("WharfQueryModel", "sumColumn", "[I", true)
  | 25 => ("WharfQueryModel", "kept", "[I", true)
  | 26 => ("WharfQueryModel", "keptSum", "[I", true)
  | 27 => ("WharfQueryModel", "keptIn", "[I", true)
  | 28 => ("WharfQueryModel", "reports", "I", false)
  | 29 => ("WharfQueryModel", "nights", "I", false)
  | 30 => ("WharfQueryModel", "paid", "I", false)
  | 31 => ("WharfQueryModel", "left", "I", false)
  | 32 => ("WharfQueryModel", "owed", "I", false)
  | 33 => ("WharfQueryModel", "order", "[I", true)
  | 34 => ("WharfQueryModel", "way", "[I", true)
  | 35 => ("WharfQueryModel", "bestOrder", "[I", true)
  | 36 => ("WharfQueryModel", "bestWay", "[I", true)
  | 37 => ("WharfQueryModel", "thousandths", "J", false)
  | 38 => ("WharfQueryModel", "pick", "[I", true)
  | 39 => ("WharfQueryModel", "took", "I", false)
  | 40 => ("WharfQueryModel", "found", "I", false)
  | 41 => ("WharfQueryModel", "summed", "I", false)
  | _ => ("WharfQueryModel", "thrown", "I", false)
def tyX9 : Nat → FieldType := fun k => match k with
  | 0 => .array .int
  | 1 => .array .int
  | 2 => .array .boolean
  | 3 => .array .int
  | 4 => .array .boolean
  | 5 => .int
  | 6 => .array .int
  | 7 => .array .int
  | 8 => .array .int
  | 9 => .array .int
  | 10 => .array .boolean
  | 11 => .int
  | 12 => .array .int
  | 13 => .array .boolean
  | 14 => .array .int
  | 15 => .array .int
  | 16 => .array .int
  | 17 => .array .int
  | 18 => .array .int
  | 19 => .array .int
  | 20 => .array .int
  | 21 => .array .int
  | 22 => .array .int
  | 23 => .array .int
  | 24 => .array .int
  | 25 => .array .int
  | 26 => .array .int
  | 27 => .array .int
  | 28 => .int
  | 29 => .int
  | 30 => .int
  | 31 => .int
  | 32 => .int
  | 33 => .array .int
  | 34 => .array .int
  | 35 => .array .int
  | 36 => .array .int
  | 37 => .long
  | 38 => .array .int
  | 39 => .int
  | 40 => .int
  | 41 => .int
  | _ => .int
abbrev wsX90 : List Cond := u_ws RX9 TX9 43
theorem nmX9 : ∀ a, a < 43 → ∀ b, b < 43 → a ≠ b → (TX9 a).2.1 ≠ (TX9 b).2.1 := by decide +kernel
theorem tyX9_ok : ∀ k, k < 43 → parseFieldDescriptor (TX9 k).2.2.1 = some (tyX9 k) := by decide +kernel
abbrev cX9_init : ByteArray := prog_11_method_1_code
def yX9_init : MethodName := ⟨RX9, "<init>", "()V"⟩
abbrev cX9_thrown : ByteArray := prog_11_method_2_code
def yX9_thrown : MethodName := ⟨RX9, "thrown", "()I"⟩
abbrev cX9_in : ByteArray := prog_11_method_3_code
def yX9_in : MethodName := ⟨RX9, "in", "(III)Z"⟩
abbrev cX9_asked : ByteArray := prog_11_method_4_code
def yX9_asked : MethodName := ⟨RX9, "asked", "(Z)Z"⟩
abbrev cX9_asked_ : ByteArray := prog_11_method_5_code
def yX9_asked_ : MethodName := ⟨RX9, "asked", "(ZZ)Z"⟩
abbrev cX9_asked__ : ByteArray := prog_11_method_6_code
def yX9_asked__ : MethodName := ⟨RX9, "asked", "(ZZZ)Z"⟩
abbrev cX9_told : ByteArray := prog_11_method_7_code
def yX9_told : MethodName := ⟨RX9, "told", "(I)I"⟩
abbrev cX9_isTable : ByteArray := prog_11_method_8_code
def yX9_isTable : MethodName := ⟨RX9, "isTable", "(I)Z"⟩
abbrev cX9_isColumn : ByteArray := prog_11_method_9_code
def yX9_isColumn : MethodName := ⟨RX9, "isColumn", "(II)Z"⟩
abbrev cX9_isRow : ByteArray := prog_11_method_10_code
def yX9_isRow : MethodName := ⟨RX9, "isRow", "(II)Z"⟩
abbrev cX9_isReport : ByteArray := prog_11_method_11_code
def yX9_isReport : MethodName := ⟨RX9, "isReport", "(I)Z"⟩
abbrev cX9_isSource : ByteArray := prog_11_method_12_code
def yX9_isSource : MethodName := ⟨RX9, "isSource", "(II)Z"⟩
abbrev cX9_isColumnOf : ByteArray := prog_11_method_13_code
def yX9_isColumnOf : MethodName := ⟨RX9, "isColumnOf", "(III)Z"⟩
abbrev cX9_addTable : ByteArray := prog_11_method_14_code
def yX9_addTable : MethodName := ⟨RX9, "addTable", "(I)I"⟩
abbrev cX9_insert : ByteArray := prog_11_method_15_code
def yX9_insert : MethodName := ⟨RX9, "insert", "(IIII)I"⟩
abbrev cX9_rowsOf : ByteArray := prog_11_method_16_code
def yX9_rowsOf : MethodName := ⟨RX9, "rowsOf", "(I)I"⟩
abbrev cX9_delete : ByteArray := prog_11_method_17_code
def yX9_delete : MethodName := ⟨RX9, "delete", "(II)I"⟩
abbrev cX9_setIndex : ByteArray := prog_11_method_18_code
def yX9_setIndex : MethodName := ⟨RX9, "setIndex", "(IIZ)Z"⟩
abbrev cX9_rows : ByteArray := prog_11_method_19_code
def yX9_rows : MethodName := ⟨RX9, "rows", "(I)I"⟩
abbrev cX9_valueAt : ByteArray := prog_11_method_20_code
def yX9_valueAt : MethodName := ⟨RX9, "valueAt", "(III)I"⟩
abbrev cX9_value : ByteArray := prog_11_method_21_code
def yX9_value : MethodName := ⟨RX9, "value", "(III)I"⟩
abbrev cX9_sample : ByteArray := prog_11_method_22_code
def yX9_sample : MethodName := ⟨RX9, "sample", "(II)I"⟩
abbrev cX9_isSampled : ByteArray := prog_11_method_23_code
def yX9_isSampled : MethodName := ⟨RX9, "isSampled", "(III)Z"⟩
abbrev cX9_renews : ByteArray := prog_11_method_24_code
def yX9_renews : MethodName := ⟨RX9, "renews", "(II)V"⟩
abbrev cX9_renew : ByteArray := prog_11_method_25_code
def yX9_renew : MethodName := ⟨RX9, "renew", "(II)I"⟩
abbrev cX9_setStep : ByteArray := prog_11_method_26_code
def yX9_setStep : MethodName := ⟨RX9, "setStep", "(I)I"⟩
abbrev cX9_toldRows : ByteArray := prog_11_method_27_code
def yX9_toldRows : MethodName := ⟨RX9, "toldRows", "(I)I"⟩
abbrev cX9_unlike : ByteArray := prog_11_method_28_code
def yX9_unlike : MethodName := ⟨RX9, "unlike", "(II)I"⟩
abbrev cX9_least : ByteArray := prog_11_method_29_code
def yX9_least : MethodName := ⟨RX9, "least", "(II)I"⟩
abbrev cX9_greatest : ByteArray := prog_11_method_30_code
def yX9_greatest : MethodName := ⟨RX9, "greatest", "(II)I"⟩
abbrev cX9_isMarked : ByteArray := prog_11_method_31_code
def yX9_isMarked : MethodName := ⟨RX9, "isMarked", "(I)Z"⟩
abbrev cX9_addReport : ByteArray := prog_11_method_32_code
def yX9_addReport : MethodName := ⟨RX9, "addReport", "(I)I"⟩
abbrev cX9_addSource : ByteArray := prog_11_method_33_code
def yX9_addSource : MethodName := ⟨RX9, "addSource", "(II)I"⟩
abbrev cX9_adds : ByteArray := prog_11_method_34_code
def yX9_adds : MethodName := ⟨RX9, "adds", "(IIII)I"⟩
abbrev cX9_addCondition : ByteArray := prog_11_method_35_code
def yX9_addCondition : MethodName := ⟨RX9, "addCondition", "(IIIII)I"⟩
abbrev cX9_addJoin : ByteArray := prog_11_method_36_code
def yX9_addJoin : MethodName := ⟨RX9, "addJoin", "(IIIII)I"⟩
abbrev cX9_dropCondition : ByteArray := prog_11_method_37_code
def yX9_dropCondition : MethodName := ⟨RX9, "dropCondition", "(I)I"⟩
abbrev cX9_setSum : ByteArray := prog_11_method_38_code
def yX9_setSum : MethodName := ⟨RX9, "setSum", "(III)V"⟩
abbrev cX9_setDue : ByteArray := prog_11_method_39_code
def yX9_setDue : MethodName := ⟨RX9, "setDue", "(IZ)Z"⟩
abbrev cX9_isDue : ByteArray := prog_11_method_40_code
def yX9_isDue : MethodName := ⟨RX9, "isDue", "(I)Z"⟩
abbrev cX9_stepOf : ByteArray := prog_11_method_41_code
def yX9_stepOf : MethodName := ⟨RX9, "stepOf", "(I)I"⟩
abbrev cX9_stepOfCondition : ByteArray := prog_11_method_42_code
def yX9_stepOfCondition : MethodName := ⟨RX9, "stepOfCondition", "(I)I"⟩
abbrev cX9_columnAt : ByteArray := prog_11_method_43_code
def yX9_columnAt : MethodName := ⟨RX9, "columnAt", "(II)I"⟩
abbrev cX9_useOf : ByteArray := prog_11_method_44_code
def yX9_useOf : MethodName := ⟨RX9, "useOf", "(III)I"⟩
abbrev cX9_cellAt : ByteArray := prog_11_method_45_code
def yX9_cellAt : MethodName := ⟨RX9, "cellAt", "(III)I"⟩
abbrev cX9_changed : ByteArray := prog_11_method_46_code
def yX9_changed : MethodName := ⟨RX9, "changed", "(IIJ)J"⟩
abbrev cX9_cost : ByteArray := prog_11_method_47_code
def yX9_cost : MethodName := ⟨RX9, "cost", "(I)J"⟩
abbrev cX9_triesWays : ByteArray := prog_11_method_48_code
def yX9_triesWays : MethodName := ⟨RX9, "triesWays", "(I)V"⟩
abbrev cX9_plans : ByteArray := prog_11_method_49_code
def yX9_plans : MethodName := ⟨RX9, "plans", "(I)V"⟩
abbrev cX9_foretells : ByteArray := prog_11_method_50_code
def yX9_foretells : MethodName := ⟨RX9, "foretells", "(I)I"⟩
abbrev cX9_pickedAt : ByteArray := prog_11_method_51_code
def yX9_pickedAt : MethodName := ⟨RX9, "pickedAt", "(III)I"⟩
abbrev cX9_holds : ByteArray := prog_11_method_52_code
def yX9_holds : MethodName := ⟨RX9, "holds", "(II)Z"⟩
abbrev cX9_holdsAt : ByteArray := prog_11_method_53_code
def yX9_holdsAt : MethodName := ⟨RX9, "holdsAt", "(II)Z"⟩
abbrev cX9_minutesAt : ByteArray := prog_11_method_54_code
def yX9_minutesAt : MethodName := ⟨RX9, "minutesAt", "(II)I"⟩
abbrev cX9_runs : ByteArray := prog_11_method_55_code
def yX9_runs : MethodName := ⟨RX9, "runs", "(I)V"⟩
abbrev cX9_planSource : ByteArray := prog_11_method_56_code
def yX9_planSource : MethodName := ⟨RX9, "planSource", "(II)I"⟩
abbrev cX9_planWay : ByteArray := prog_11_method_57_code
def yX9_planWay : MethodName := ⟨RX9, "planWay", "(II)I"⟩
abbrev cX9_foretold : ByteArray := prog_11_method_58_code
def yX9_foretold : MethodName := ⟨RX9, "foretold", "(I)I"⟩
abbrev cX9_isRun : ByteArray := prog_11_method_59_code
def yX9_isRun : MethodName := ⟨RX9, "isRun", "(I)Z"⟩
abbrev cX9_minutes : ByteArray := prog_11_method_60_code
def yX9_minutes : MethodName := ⟨RX9, "minutes", "(I)I"⟩
abbrev cX9_answer : ByteArray := prog_11_method_61_code
def yX9_answer : MethodName := ⟨RX9, "answer", "(I)I"⟩
abbrev cX9_sum : ByteArray := prog_11_method_62_code
def yX9_sum : MethodName := ⟨RX9, "sum", "(I)I"⟩
abbrev cX9_plainAnswer : ByteArray := prog_11_method_63_code
def yX9_plainAnswer : MethodName := ⟨RX9, "plainAnswer", "(I)I"⟩
abbrev cX9_plainSum : ByteArray := prog_11_method_64_code
def yX9_plainSum : MethodName := ⟨RX9, "plainSum", "(I)I"⟩
abbrev cX9_marks : ByteArray := prog_11_method_65_code
def yX9_marks : MethodName := ⟨RX9, "marks", "(I)V"⟩
abbrev cX9_dueBehind : ByteArray := prog_11_method_66_code
def yX9_dueBehind : MethodName := ⟨RX9, "dueBehind", "(I)I"⟩
abbrev cX9_dusk : ByteArray := prog_11_method_67_code
def yX9_dusk : MethodName := ⟨RX9, "dusk", "()I"⟩
abbrev cX9_night : ByteArray := prog_11_method_68_code
def yX9_night : MethodName := ⟨RX9, "night", "(I)I"⟩
abbrev cX9_nights : ByteArray := prog_11_method_69_code
def yX9_nights : MethodName := ⟨RX9, "nights", "()I"⟩
abbrev cX9_paid : ByteArray := prog_11_method_70_code
def yX9_paid : MethodName := ⟨RX9, "paid", "()I"⟩
abbrev cX9_left : ByteArray := prog_11_method_71_code
def yX9_left : MethodName := ⟨RX9, "left", "()I"⟩
abbrev cX9_owed : ByteArray := prog_11_method_72_code
def yX9_owed : MethodName := ⟨RX9, "owed", "()I"⟩
abbrev cX9_kept : ByteArray := prog_11_method_73_code
def yX9_kept : MethodName := ⟨RX9, "kept", "(I)I"⟩
abbrev cX9_keptSum : ByteArray := prog_11_method_74_code
def yX9_keptSum : MethodName := ⟨RX9, "keptSum", "(I)I"⟩
abbrev cX9_keptIn : ByteArray := prog_11_method_75_code
def yX9_keptIn : MethodName := ⟨RX9, "keptIn", "(I)I"⟩
def RJ9 : String := "java/lang/Math"
def TJ9 : u_T := fun k => match k with
  | _ => ("", "", "", false)
def tyJ9 : Nat → FieldType := fun k => match k with
  | _ => .int
abbrev wsJ90 : List Cond := u_ws RJ9 TJ9 0
theorem nmJ9 : ∀ a, a < 0 → ∀ b, b < 0 → a ≠ b → (TJ9 a).2.1 ≠ (TJ9 b).2.1 := by decide +kernel
theorem tyJ9_ok : ∀ k, k < 0 → parseFieldDescriptor (TJ9 k).2.2.1 = some (tyJ9 k) := by decide +kernel
abbrev cJ9_max_7cf53 : ByteArray := prog_16_method_65_code
def yJ9_max_7cf53 : MethodName := ⟨RJ9, "max", "(II)I"⟩
abbrev cJ9_min_7cf53 : ByteArray := prog_16_method_69_code
def yJ9_min_7cf53 : MethodName := ⟨RJ9, "min", "(II)I"⟩
def RJ0 : String := "java/lang/String"
def TJ0 : u_T := fun k => match k with
  | _ => ("", "", "", false)
def tyJ0 : Nat → FieldType := fun k => match k with
  | _ => .int
abbrev wsJ00 : List Cond := u_ws RJ0 TJ0 0
theorem nmJ0 : ∀ a, a < 0 → ∀ b, b < 0 → a ≠ b → (TJ0 a).2.1 ≠ (TJ0 b).2.1 := by decide +kernel
theorem tyJ0_ok : ∀ k, k < 0 → parseFieldDescriptor (TJ0 k).2.2.1 = some (tyJ0 k) := by decide +kernel
def RL : String := "WharfQueryLaw"
abbrev cL_addTable : ByteArray := method_3_code
def yL_addTable : MethodName := ⟨RL, "addTable", "(LWharfQuery;I[J)I"⟩
abbrev cL_insert : ByteArray := method_4_code
def yL_insert : MethodName := ⟨RL, "insert", "(LWharfQuery;IIII[J)I"⟩
abbrev cL_delete : ByteArray := method_5_code
def yL_delete : MethodName := ⟨RL, "delete", "(LWharfQuery;II[J)I"⟩
abbrev cL_setIndex : ByteArray := method_6_code
def yL_setIndex : MethodName := ⟨RL, "setIndex", "(LWharfQuery;IIZ[J)I"⟩
abbrev cL_rows : ByteArray := method_7_code
def yL_rows : MethodName := ⟨RL, "rows", "(LWharfQuery;I[J)I"⟩
abbrev cL_value : ByteArray := method_8_code
def yL_value : MethodName := ⟨RL, "value", "(LWharfQuery;III[J)I"⟩
abbrev cL_renew : ByteArray := method_9_code
def yL_renew : MethodName := ⟨RL, "renew", "(LWharfQuery;II[J)I"⟩
abbrev cL_setStep : ByteArray := method_10_code
def yL_setStep : MethodName := ⟨RL, "setStep", "(LWharfQuery;I[J)I"⟩
abbrev cL_toldRows : ByteArray := method_11_code
def yL_toldRows : MethodName := ⟨RL, "toldRows", "(LWharfQuery;I[J)I"⟩
abbrev cL_unlike : ByteArray := method_12_code
def yL_unlike : MethodName := ⟨RL, "unlike", "(LWharfQuery;II[J)I"⟩
abbrev cL_least : ByteArray := method_13_code
def yL_least : MethodName := ⟨RL, "least", "(LWharfQuery;II[J)I"⟩
abbrev cL_greatest : ByteArray := method_14_code
def yL_greatest : MethodName := ⟨RL, "greatest", "(LWharfQuery;II[J)I"⟩
abbrev cL_isMarked : ByteArray := method_15_code
def yL_isMarked : MethodName := ⟨RL, "isMarked", "(LWharfQuery;I[J)I"⟩
abbrev cL_addReport : ByteArray := method_16_code
def yL_addReport : MethodName := ⟨RL, "addReport", "(LWharfQuery;I[J)I"⟩
abbrev cL_addSource : ByteArray := method_17_code
def yL_addSource : MethodName := ⟨RL, "addSource", "(LWharfQuery;II[J)I"⟩
abbrev cL_addCondition : ByteArray := method_18_code
def yL_addCondition : MethodName := ⟨RL, "addCondition", "(LWharfQuery;IIIII[J)I"⟩
abbrev cL_addJoin : ByteArray := method_19_code
def yL_addJoin : MethodName := ⟨RL, "addJoin", "(LWharfQuery;IIIII[J)I"⟩
abbrev cL_dropCondition : ByteArray := method_20_code
def yL_dropCondition : MethodName := ⟨RL, "dropCondition", "(LWharfQuery;I[J)I"⟩
abbrev cL_setSum : ByteArray := method_21_code
def yL_setSum : MethodName := ⟨RL, "setSum", "(LWharfQuery;III)I"⟩
abbrev cL_setDue : ByteArray := method_22_code
def yL_setDue : MethodName := ⟨RL, "setDue", "(LWharfQuery;IZ[J)I"⟩
abbrev cL_isDue : ByteArray := method_23_code
def yL_isDue : MethodName := ⟨RL, "isDue", "(LWharfQuery;I[J)I"⟩
abbrev cL_planSource : ByteArray := method_24_code
def yL_planSource : MethodName := ⟨RL, "planSource", "(LWharfQuery;II[J)I"⟩
abbrev cL_planWay : ByteArray := method_25_code
def yL_planWay : MethodName := ⟨RL, "planWay", "(LWharfQuery;II[J)I"⟩
abbrev cL_foretold : ByteArray := method_26_code
def yL_foretold : MethodName := ⟨RL, "foretold", "(LWharfQuery;I[J)I"⟩
abbrev cL_minutes : ByteArray := method_27_code
def yL_minutes : MethodName := ⟨RL, "minutes", "(LWharfQuery;I[J)I"⟩
abbrev cL_answer : ByteArray := method_28_code
def yL_answer : MethodName := ⟨RL, "answer", "(LWharfQuery;I[J)I"⟩
abbrev cL_sum : ByteArray := method_29_code
def yL_sum : MethodName := ⟨RL, "sum", "(LWharfQuery;I[J)I"⟩
abbrev cL_plainAnswer : ByteArray := method_30_code
def yL_plainAnswer : MethodName := ⟨RL, "plainAnswer", "(LWharfQuery;I[J)I"⟩
abbrev cL_plainSum : ByteArray := method_31_code
def yL_plainSum : MethodName := ⟨RL, "plainSum", "(LWharfQuery;I[J)I"⟩
abbrev cL_night : ByteArray := method_32_code
def yL_night : MethodName := ⟨RL, "night", "(LWharfQuery;I[J)I"⟩
abbrev cL_kept : ByteArray := method_33_code
def yL_kept : MethodName := ⟨RL, "kept", "(LWharfQuery;I[J)I"⟩
abbrev cL_keptSum : ByteArray := method_34_code
def yL_keptSum : MethodName := ⟨RL, "keptSum", "(LWharfQuery;I[J)I"⟩
abbrev cL_keptIn : ByteArray := method_35_code
def yL_keptIn : MethodName := ⟨RL, "keptIn", "(LWharfQuery;I[J)I"⟩
abbrev cL_law : ByteArray := code
def yL_law : MethodName := ⟨RL, "law", "([I)Z"⟩
def wsJ9_max_7cf53 : List Cond := .code yJ9_max_7cf53 cJ9_max_7cf53 2 (some .int) :: ([])
def wsJ9_min_7cf53 : List Cond := .code yJ9_min_7cf53 cJ9_min_7cf53 2 (some .int) :: ([])
theorem inJ9 : ∀ w ∈ wsJ90, w ∈ lw_tbl := by decide +kernel
theorem inJ0 : ∀ w ∈ wsJ00, w ∈ lw_tbl := by decide +kernel
theorem dJ9_max_7cf53_0 : decode cJ9_max_7cf53 0 = .ok (.iload_n 0, 1) := by decide +kernel
theorem dJ9_max_7cf53_1 : decode cJ9_max_7cf53 1 = .ok (.iload_n 1, 1) := by decide +kernel
theorem dJ9_max_7cf53_2 : decode cJ9_max_7cf53 2 = .ok (.if_icmp .lt 7, 3) := by decide +kernel
theorem dJ9_max_7cf53_5 : decode cJ9_max_7cf53 5 = .ok (.iload_n 0, 1) := by decide +kernel
theorem dJ9_max_7cf53_6 : decode cJ9_max_7cf53 6 = .ok (.goto 4, 3) := by decide +kernel
theorem dJ9_max_7cf53_9 : decode cJ9_max_7cf53 9 = .ok (.iload_n 1, 1) := by decide +kernel
theorem dJ9_max_7cf53_10 : decode cJ9_max_7cf53 10 = .ok (.ireturn, 1) := by decide +kernel
theorem dJ9_min_7cf53_0 : decode cJ9_min_7cf53 0 = .ok (.iload_n 0, 1) := by decide +kernel
theorem dJ9_min_7cf53_1 : decode cJ9_min_7cf53 1 = .ok (.iload_n 1, 1) := by decide +kernel
theorem dJ9_min_7cf53_2 : decode cJ9_min_7cf53 2 = .ok (.if_icmp .gt 7, 3) := by decide +kernel
theorem dJ9_min_7cf53_5 : decode cJ9_min_7cf53 5 = .ok (.iload_n 0, 1) := by decide +kernel
theorem dJ9_min_7cf53_6 : decode cJ9_min_7cf53 6 = .ok (.goto 4, 3) := by decide +kernel
theorem dJ9_min_7cf53_9 : decode cJ9_min_7cf53 9 = .ok (.iload_n 1, 1) := by decide +kernel
theorem dJ9_min_7cf53_10 : decode cJ9_min_7cf53 10 = .ok (.ireturn, 1) := by decide +kernel
abbrev vwCl : List vw_C := [(RX0, TX0, 4), (RX1, TX1, 6), (RX2, TX2, 10), (RX3, TX3, 4), (RX4, TX4, 3), (RX5, TX5, 11), (RX6, TX6, 5), (RX7, TX7, 9), (RX8, TX8, 8), (RX9, TX9, 43)]
/-- the tables' words that are the same at every moment of a run -/
def wq_aw : List Cond := lw_tbl.filter goodWord
theorem wq_mem {w : Cond} (i : Nat) (h : lw_tbl[i]? = some w) (g : goodWord w = true) : w ∈ wq_aw := List.mem_filter.mpr ⟨List.mem_of_getElem? h, g⟩
theorem wq_aw_in : ∀ w ∈ wq_aw, w ∈ lw_tbl := fun _ h => (List.mem_filter.mp h).1
theorem wq_aw_good : ∀ w ∈ wq_aw, goodWord w = true := fun _ h => (List.mem_filter.mp h).2
theorem wq_memall {ws : List Cond} (is : List Nat) (h : ws.map some = is.map (fun i => lw_tbl[i]?)) (g : ws.all goodWord = true) : ∀ w ∈ ws, w ∈ wq_aw := by
  intro w hw
  refine List.mem_filter.mpr ⟨?_, List.all_eq_true.mp g w hw⟩
  have h1 : some w ∈ ws.map some := List.mem_map.mpr ⟨w, hw, rfl⟩
  rw [h] at h1
  obtain ⟨i, -, hi⟩ := List.mem_map.mp h1
  exact List.mem_of_getElem? hi
/-- the words of a method: its code, and all of these -/
def wq_ws (c : Cond) : List Cond := c :: wq_aw
theorem wq_goodIn {c c' : Cond} (h : c' ∈ wq_aw) : GoodIn (wq_ws c) (wq_ws c') := by
  intro w hw
  rcases List.mem_cons.mp hw with rfl | hw
  · exact ⟨List.mem_cons_of_mem _ h, good_of_word (wq_aw_good _ h)⟩
  · exact ⟨List.mem_cons_of_mem _ hw, good_of_word (wq_aw_good _ hw)⟩
end
section
theorem aw_55 : Jvm.Cond.initialized "WharfQueryLaw" ∈ wq_aw := wq_mem 55 (by decide +kernel) (by decide +kernel)
theorem aw_56 : Jvm.Cond.initialized "WharfQuery" ∈ wq_aw := wq_mem 56 (by decide +kernel) (by decide +kernel)
theorem aw_57 : Jvm.Cond.initialized "WharfQuery$Plan" ∈ wq_aw := wq_mem 57 (by decide +kernel) (by decide +kernel)
theorem aw_58 : Jvm.Cond.initialized "WharfQuery$Table" ∈ wq_aw := wq_mem 58 (by decide +kernel) (by decide +kernel)
theorem aw_59 : Jvm.Cond.initialized "WharfQuery$Column" ∈ wq_aw := wq_mem 59 (by decide +kernel) (by decide +kernel)
theorem aw_60 : Jvm.Cond.initialized "WharfQuery$Report" ∈ wq_aw := wq_mem 60 (by decide +kernel) (by decide +kernel)
theorem aw_61 : Jvm.Cond.initialized "WharfQuery$Condition" ∈ wq_aw := wq_mem 61 (by decide +kernel) (by decide +kernel)
theorem aw_62 : Jvm.Cond.initialized "WharfQuery$Planner" ∈ wq_aw := wq_mem 62 (by decide +kernel) (by decide +kernel)
theorem aw_63 : Jvm.Cond.initialized "WharfQuery$Run" ∈ wq_aw := wq_mem 63 (by decide +kernel) (by decide +kernel)
theorem aw_64 : Jvm.Cond.initialized "WharfQuery$Crew" ∈ wq_aw := wq_mem 64 (by decide +kernel) (by decide +kernel)
theorem aw_65 : Jvm.Cond.initialized "WharfQueryModel" ∈ wq_aw := wq_mem 65 (by decide +kernel) (by decide +kernel)
theorem aw_66 : Jvm.Cond.initialized "java/lang/Throwable" ∈ wq_aw := wq_mem 66 (by decide +kernel) (by decide +kernel)
theorem aw_67 : Jvm.Cond.initialized "java/lang/Exception" ∈ wq_aw := wq_mem 67 (by decide +kernel) (by decide +kernel)
theorem aw_68 : Jvm.Cond.initialized "java/lang/RuntimeException" ∈ wq_aw := wq_mem 68 (by decide +kernel) (by decide +kernel)
theorem aw_69 : Jvm.Cond.initialized "java/lang/IllegalArgumentException" ∈ wq_aw := wq_mem 69 (by decide +kernel) (by decide +kernel)
theorem aw_70 : Jvm.Cond.initialized "java/lang/IllegalStateException" ∈ wq_aw := wq_mem 70 (by decide +kernel) (by decide +kernel)
theorem aw_71 : Jvm.Cond.initialized "java/lang/IndexOutOfBoundsException" ∈ wq_aw := wq_mem 71 (by decide +kernel) (by decide +kernel)
theorem aw_72 : Jvm.Cond.initialized "java/lang/Math" ∈ wq_aw := wq_mem 72 (by decide +kernel) (by decide +kernel)
theorem aw_73 : Jvm.Cond.classLink "WharfQueryLaw" (8 : Nat) "WharfQuery" ∈ wq_aw := wq_mem 73 (by decide +kernel) (by decide +kernel)
theorem aw_74 : Jvm.Cond.instantiable "WharfQuery" (8 : Nat) ∈ wq_aw := wq_mem 74 (by decide +kernel) (by decide +kernel)
theorem aw_75 : Jvm.Cond.methodLink "WharfQueryLaw" (123 : Nat) yX8_init ∈ wq_aw := wq_mem 75 (by decide +kernel) (by decide +kernel)
theorem aw_76 : Jvm.Cond.instanceMethod yX8_init ∈ wq_aw := wq_mem 76 (by decide +kernel) (by decide +kernel)
theorem aw_77 : Jvm.Cond.code yX8_init prog_1_method_1_code (5 : Nat) (Option.none : Option Jvm.ClassFile.FieldType) ∈ wq_aw := wq_mem 77 (by decide +kernel) (by decide +kernel)
theorem aw_78 : Jvm.Cond.methodLink "WharfQuery" (3 : Nat) ({ cls := "java/lang/Object", name := "<init>", desc := "()V" } : Jvm.MethodName) ∈ wq_aw := wq_mem 78 (by decide +kernel) (by decide +kernel)
theorem aw_79 : Jvm.Cond.instanceMethod ({ cls := "java/lang/Object", name := "<init>", desc := "()V" } : Jvm.MethodName) ∈ wq_aw := wq_mem 79 (by decide +kernel) (by decide +kernel)
theorem aw_80 : Jvm.Cond.code ({ cls := "java/lang/Object", name := "<init>", desc := "()V" } : Jvm.MethodName) object_method_1_code (1 : Nat) (Option.none : Option Jvm.ClassFile.FieldType) ∈ wq_aw := wq_mem 80 (by decide +kernel) (by decide +kernel)
theorem aw_81 : Jvm.Cond.classLink "WharfQuery" (9 : Nat) "WharfQuery$Plan" ∈ wq_aw := wq_mem 81 (by decide +kernel) (by decide +kernel)
theorem aw_82 : Jvm.Cond.instantiable "WharfQuery$Plan" (4 : Nat) ∈ wq_aw := wq_mem 82 (by decide +kernel) (by decide +kernel)
theorem at_83 : Jvm.Cond.methodLinkNest "WharfQuery" (11 : Nat) yX3_init "WharfQuery" ∈ lw_tbl := List.mem_of_getElem? (i := 83) (by decide +kernel)
theorem aw_84 : Jvm.Cond.instanceMethod yX3_init ∈ wq_aw := wq_mem 84 (by decide +kernel) (by decide +kernel)
theorem aw_85 : Jvm.Cond.code yX3_init prog_5_method_1_code (1 : Nat) (Option.none : Option Jvm.ClassFile.FieldType) ∈ wq_aw := wq_mem 85 (by decide +kernel) (by decide +kernel)
theorem aw_86 : Jvm.Cond.methodLink "WharfQuery$Plan" (3 : Nat) ({ cls := "java/lang/Object", name := "<init>", desc := "()V" } : Jvm.MethodName) ∈ wq_aw := wq_mem 86 (by decide +kernel) (by decide +kernel)
theorem aw_87 : Jvm.Cond.fieldLink "WharfQuery$Plan" (9 : Nat) "WharfQuery$Plan" "order" "[I" ∈ wq_aw := wq_mem 87 (by decide +kernel) (by decide +kernel)
theorem aw_88 : Jvm.Cond.fieldLink "WharfQuery$Report" (35 : Nat) "WharfQuery$Plan" "order" "[I" ∈ wq_aw := wq_mem 88 (by decide +kernel) (by decide +kernel)
theorem aw_89 : Jvm.Cond.fieldLink "WharfQuery$Run" (42 : Nat) "WharfQuery$Plan" "order" "[I" ∈ wq_aw := wq_mem 89 (by decide +kernel) (by decide +kernel)
theorem aw_90 : Jvm.Cond.fieldLink "WharfQuery$Planner" (70 : Nat) "WharfQuery$Plan" "order" "[I" ∈ wq_aw := wq_mem 90 (by decide +kernel) (by decide +kernel)
theorem aw_91 : Jvm.Cond.fieldLink "WharfQuery" (227 : Nat) "WharfQuery$Plan" "order" "[I" ∈ wq_aw := wq_mem 91 (by decide +kernel) (by decide +kernel)
theorem aw_92 : Jvm.Cond.fieldLink "WharfQuery$Plan" (15 : Nat) "WharfQuery$Plan" "ways" "[I" ∈ wq_aw := wq_mem 92 (by decide +kernel) (by decide +kernel)
theorem aw_93 : Jvm.Cond.fieldLink "WharfQuery$Run" (50 : Nat) "WharfQuery$Plan" "ways" "[I" ∈ wq_aw := wq_mem 93 (by decide +kernel) (by decide +kernel)
theorem aw_94 : Jvm.Cond.fieldLink "WharfQuery$Planner" (78 : Nat) "WharfQuery$Plan" "ways" "[I" ∈ wq_aw := wq_mem 94 (by decide +kernel) (by decide +kernel)
theorem aw_95 : Jvm.Cond.fieldLink "WharfQuery" (230 : Nat) "WharfQuery$Plan" "ways" "[I" ∈ wq_aw := wq_mem 95 (by decide +kernel) (by decide +kernel)
theorem aw_96 : Jvm.Cond.fieldLink "WharfQuery$Plan" (18 : Nat) "WharfQuery$Plan" "stepOf" "[I" ∈ wq_aw := wq_mem 96 (by decide +kernel) (by decide +kernel)
theorem aw_97 : Jvm.Cond.fieldLink "WharfQuery$Planner" (52 : Nat) "WharfQuery$Plan" "stepOf" "[I" ∈ wq_aw := wq_mem 97 (by decide +kernel) (by decide +kernel)
theorem aw_98 : Jvm.Cond.fieldLink "WharfQuery$Condition" (30 : Nat) "WharfQuery$Plan" "stepOf" "[I" ∈ wq_aw := wq_mem 98 (by decide +kernel) (by decide +kernel)
theorem aw_99 : Jvm.Cond.fieldLink "WharfQuery$Planner" (32 : Nat) "WharfQuery$Plan" "thousandths" "J" ∈ wq_aw := wq_mem 99 (by decide +kernel) (by decide +kernel)
theorem aw_100 : Jvm.Cond.fieldLink "WharfQuery$Plan" (25 : Nat) "WharfQuery$Plan" "thousandths" "J" ∈ wq_aw := wq_mem 100 (by decide +kernel) (by decide +kernel)
theorem aw_110 : Jvm.Cond.arrayClass Jvm.ClassFile.FieldType.int ∈ wq_aw := wq_mem 110 (by decide +kernel) (by decide +kernel)
theorem aw_111 : Jvm.Cond.methodLink "WharfQuery" (16 : Nat) yX8_makeTables ∈ wq_aw := wq_mem 111 (by decide +kernel) (by decide +kernel)
theorem aw_112 : Jvm.Cond.static yX8_makeTables ∈ wq_aw := wq_mem 112 (by decide +kernel) (by decide +kernel)
theorem aw_113 : Jvm.Cond.code yX8_makeTables prog_1_method_2_code (2 : Nat) (Option.some (Jvm.ClassFile.FieldType.array (Jvm.ClassFile.FieldType.object "WharfQuery$Table"))) ∈ wq_aw := wq_mem 113 (by decide +kernel) (by decide +kernel)
theorem aw_114 : Jvm.Cond.classLink "WharfQuery" (57 : Nat) "WharfQuery$Table" ∈ wq_aw := wq_mem 114 (by decide +kernel) (by decide +kernel)
theorem at_115 : Jvm.Cond.arrayOver (Jvm.ClassFile.FieldType.object "WharfQuery$Table") ∈ lw_tbl := List.mem_of_getElem? (i := 115) (by decide +kernel)
theorem aw_116 : Jvm.Cond.instantiable "WharfQuery$Table" (9 : Nat) ∈ wq_aw := wq_mem 116 (by decide +kernel) (by decide +kernel)
theorem aw_117 : Jvm.Cond.methodLink "WharfQuery" (59 : Nat) yX7_init ∈ wq_aw := wq_mem 117 (by decide +kernel) (by decide +kernel)
theorem aw_118 : Jvm.Cond.instanceMethod yX7_init ∈ wq_aw := wq_mem 118 (by decide +kernel) (by decide +kernel)
theorem aw_119 : Jvm.Cond.code yX7_init prog_9_method_1_code (2 : Nat) (Option.none : Option Jvm.ClassFile.FieldType) ∈ wq_aw := wq_mem 119 (by decide +kernel) (by decide +kernel)
theorem aw_120 : Jvm.Cond.methodLink "WharfQuery$Table" (3 : Nat) ({ cls := "java/lang/Object", name := "<init>", desc := "()V" } : Jvm.MethodName) ∈ wq_aw := wq_mem 120 (by decide +kernel) (by decide +kernel)
theorem aw_121 : Jvm.Cond.classLink "WharfQuery$Table" (9 : Nat) "WharfQuery$Column" ∈ wq_aw := wq_mem 121 (by decide +kernel) (by decide +kernel)
theorem at_122 : Jvm.Cond.arrayOver (Jvm.ClassFile.FieldType.object "WharfQuery$Column") ∈ lw_tbl := List.mem_of_getElem? (i := 122) (by decide +kernel)
theorem aw_123 : Jvm.Cond.classLink "WharfQuery$Table" (17 : Nat) "[[I" ∈ wq_aw := wq_mem 123 (by decide +kernel) (by decide +kernel)
theorem at_124 : Jvm.Cond.arrayOver (Jvm.ClassFile.FieldType.array Jvm.ClassFile.FieldType.int) ∈ lw_tbl := List.mem_of_getElem? (i := 124) (by decide +kernel)
theorem aw_125 : Jvm.Cond.instantiable "WharfQuery$Column" (4 : Nat) ∈ wq_aw := wq_mem 125 (by decide +kernel) (by decide +kernel)
theorem at_126 : Jvm.Cond.methodLinkNest "WharfQuery$Table" (30 : Nat) yX0_init "WharfQuery" ∈ lw_tbl := List.mem_of_getElem? (i := 126) (by decide +kernel)
theorem aw_127 : Jvm.Cond.instanceMethod yX0_init ∈ wq_aw := wq_mem 127 (by decide +kernel) (by decide +kernel)
theorem aw_128 : Jvm.Cond.code yX0_init prog_2_method_1_code (1 : Nat) (Option.none : Option Jvm.ClassFile.FieldType) ∈ wq_aw := wq_mem 128 (by decide +kernel) (by decide +kernel)
theorem aw_129 : Jvm.Cond.methodLink "WharfQuery$Column" (1 : Nat) ({ cls := "java/lang/Object", name := "<init>", desc := "()V" } : Jvm.MethodName) ∈ wq_aw := wq_mem 129 (by decide +kernel) (by decide +kernel)
theorem aw_130 : Jvm.Cond.fieldLink "WharfQuery$Planner" (88 : Nat) "WharfQuery$Column" "hasIndex" "Z" ∈ wq_aw := wq_mem 130 (by decide +kernel) (by decide +kernel)
theorem aw_131 : Jvm.Cond.fieldLink "WharfQuery" (116 : Nat) "WharfQuery$Column" "hasIndex" "Z" ∈ wq_aw := wq_mem 131 (by decide +kernel) (by decide +kernel)
theorem aw_132 : Jvm.Cond.fieldLink "WharfQuery$Planner" (98 : Nat) "WharfQuery$Column" "toldUnlike" "I" ∈ wq_aw := wq_mem 132 (by decide +kernel) (by decide +kernel)
theorem aw_133 : Jvm.Cond.fieldLink "WharfQuery$Table" (62 : Nat) "WharfQuery$Column" "toldUnlike" "I" ∈ wq_aw := wq_mem 133 (by decide +kernel) (by decide +kernel)
theorem aw_134 : Jvm.Cond.fieldLink "WharfQuery" (143 : Nat) "WharfQuery$Column" "toldUnlike" "I" ∈ wq_aw := wq_mem 134 (by decide +kernel) (by decide +kernel)
theorem aw_135 : Jvm.Cond.fieldLink "WharfQuery$Planner" (136 : Nat) "WharfQuery$Column" "toldLeast" "I" ∈ wq_aw := wq_mem 135 (by decide +kernel) (by decide +kernel)
theorem aw_136 : Jvm.Cond.fieldLink "WharfQuery$Table" (65 : Nat) "WharfQuery$Column" "toldLeast" "I" ∈ wq_aw := wq_mem 136 (by decide +kernel) (by decide +kernel)
theorem aw_137 : Jvm.Cond.fieldLink "WharfQuery" (146 : Nat) "WharfQuery$Column" "toldLeast" "I" ∈ wq_aw := wq_mem 137 (by decide +kernel) (by decide +kernel)
theorem aw_138 : Jvm.Cond.fieldLink "WharfQuery$Planner" (143 : Nat) "WharfQuery$Column" "toldGreatest" "I" ∈ wq_aw := wq_mem 138 (by decide +kernel) (by decide +kernel)
theorem aw_139 : Jvm.Cond.fieldLink "WharfQuery$Table" (68 : Nat) "WharfQuery$Column" "toldGreatest" "I" ∈ wq_aw := wq_mem 139 (by decide +kernel) (by decide +kernel)
theorem aw_140 : Jvm.Cond.fieldLink "WharfQuery" (149 : Nat) "WharfQuery$Column" "toldGreatest" "I" ∈ wq_aw := wq_mem 140 (by decide +kernel) (by decide +kernel)
theorem aw_150 : Jvm.Cond.arrayClass Jvm.ClassFile.FieldType.boolean ∈ wq_aw := wq_mem 150 (by decide +kernel) (by decide +kernel)
theorem aw_151 : Jvm.Cond.fieldLink "WharfQuery$Table" (11 : Nat) "WharfQuery$Table" "columns" "[LWharfQuery$Column;" ∈ wq_aw := wq_mem 151 (by decide +kernel) (by decide +kernel)
theorem aw_152 : Jvm.Cond.fieldLink "WharfQuery$Planner" (84 : Nat) "WharfQuery$Table" "columns" "[LWharfQuery$Column;" ∈ wq_aw := wq_mem 152 (by decide +kernel) (by decide +kernel)
theorem aw_153 : Jvm.Cond.fieldLink "WharfQuery" (291 : Nat) "WharfQuery$Table" "columns" "[LWharfQuery$Column;" ∈ wq_aw := wq_mem 153 (by decide +kernel) (by decide +kernel)
theorem aw_154 : Jvm.Cond.fieldLink "WharfQuery$Table" (19 : Nat) "WharfQuery$Table" "values" "[[I" ∈ wq_aw := wq_mem 154 (by decide +kernel) (by decide +kernel)
theorem aw_155 : Jvm.Cond.fieldLink "WharfQuery$Run" (66 : Nat) "WharfQuery$Table" "values" "[[I" ∈ wq_aw := wq_mem 155 (by decide +kernel) (by decide +kernel)
theorem aw_156 : Jvm.Cond.fieldLink "WharfQuery" (125 : Nat) "WharfQuery$Table" "values" "[[I" ∈ wq_aw := wq_mem 156 (by decide +kernel) (by decide +kernel)
theorem aw_157 : Jvm.Cond.fieldLink "WharfQuery$Table" (22 : Nat) "WharfQuery$Table" "isThere" "[Z" ∈ wq_aw := wq_mem 157 (by decide +kernel) (by decide +kernel)
theorem aw_158 : Jvm.Cond.fieldLink "WharfQuery$Run" (62 : Nat) "WharfQuery$Table" "isThere" "[Z" ∈ wq_aw := wq_mem 158 (by decide +kernel) (by decide +kernel)
theorem aw_159 : Jvm.Cond.fieldLink "WharfQuery" (105 : Nat) "WharfQuery$Table" "isThere" "[Z" ∈ wq_aw := wq_mem 159 (by decide +kernel) (by decide +kernel)
theorem aw_160 : Jvm.Cond.fieldLink "WharfQuery$Table" (26 : Nat) "WharfQuery$Table" "sample" "[I" ∈ wq_aw := wq_mem 160 (by decide +kernel) (by decide +kernel)
theorem aw_161 : Jvm.Cond.fieldLink "WharfQuery$Table" (31 : Nat) "WharfQuery$Table" "width" "I" ∈ wq_aw := wq_mem 161 (by decide +kernel) (by decide +kernel)
theorem aw_162 : Jvm.Cond.fieldLink "WharfQuery" (79 : Nat) "WharfQuery$Table" "width" "I" ∈ wq_aw := wq_mem 162 (by decide +kernel) (by decide +kernel)
theorem aw_163 : Jvm.Cond.fieldLink "WharfQuery$Planner" (81 : Nat) "WharfQuery$Table" "width" "I" ∈ wq_aw := wq_mem 163 (by decide +kernel) (by decide +kernel)
theorem aw_164 : Jvm.Cond.fieldLink "WharfQuery$Table" (35 : Nat) "WharfQuery$Table" "inserted" "I" ∈ wq_aw := wq_mem 164 (by decide +kernel) (by decide +kernel)
theorem aw_165 : Jvm.Cond.fieldLink "WharfQuery$Run" (57 : Nat) "WharfQuery$Table" "inserted" "I" ∈ wq_aw := wq_mem 165 (by decide +kernel) (by decide +kernel)
theorem aw_166 : Jvm.Cond.fieldLink "WharfQuery" (92 : Nat) "WharfQuery$Table" "inserted" "I" ∈ wq_aw := wq_mem 166 (by decide +kernel) (by decide +kernel)
theorem aw_167 : Jvm.Cond.fieldLink "WharfQuery$Table" (38 : Nat) "WharfQuery$Table" "present" "I" ∈ wq_aw := wq_mem 167 (by decide +kernel) (by decide +kernel)
theorem aw_168 : Jvm.Cond.fieldLink "WharfQuery" (109 : Nat) "WharfQuery$Table" "present" "I" ∈ wq_aw := wq_mem 168 (by decide +kernel) (by decide +kernel)
theorem aw_169 : Jvm.Cond.fieldLink "WharfQuery$Planner" (73 : Nat) "WharfQuery$Table" "toldPresent" "I" ∈ wq_aw := wq_mem 169 (by decide +kernel) (by decide +kernel)
theorem aw_170 : Jvm.Cond.fieldLink "WharfQuery$Table" (45 : Nat) "WharfQuery$Table" "toldPresent" "I" ∈ wq_aw := wq_mem 170 (by decide +kernel) (by decide +kernel)
theorem aw_171 : Jvm.Cond.fieldLink "WharfQuery" (140 : Nat) "WharfQuery$Table" "toldPresent" "I" ∈ wq_aw := wq_mem 171 (by decide +kernel) (by decide +kernel)
theorem aw_172 : Jvm.Cond.fieldLink "WharfQuery$Crew" (35 : Nat) "WharfQuery$Table" "marked" "Z" ∈ wq_aw := wq_mem 172 (by decide +kernel) (by decide +kernel)
theorem aw_173 : Jvm.Cond.fieldLink "WharfQuery" (152 : Nat) "WharfQuery$Table" "marked" "Z" ∈ wq_aw := wq_mem 173 (by decide +kernel) (by decide +kernel)
theorem aw_193 : Jvm.Cond.methodLink "WharfQuery" (20 : Nat) yX8_makeReports ∈ wq_aw := wq_mem 193 (by decide +kernel) (by decide +kernel)
theorem aw_194 : Jvm.Cond.static yX8_makeReports ∈ wq_aw := wq_mem 194 (by decide +kernel) (by decide +kernel)
theorem aw_195 : Jvm.Cond.code yX8_makeReports prog_1_method_3_code (2 : Nat) (Option.some (Jvm.ClassFile.FieldType.array (Jvm.ClassFile.FieldType.object "WharfQuery$Report"))) ∈ wq_aw := wq_mem 195 (by decide +kernel) (by decide +kernel)
theorem aw_196 : Jvm.Cond.classLink "WharfQuery" (60 : Nat) "WharfQuery$Report" ∈ wq_aw := wq_mem 196 (by decide +kernel) (by decide +kernel)
theorem at_197 : Jvm.Cond.arrayOver (Jvm.ClassFile.FieldType.object "WharfQuery$Report") ∈ lw_tbl := List.mem_of_getElem? (i := 197) (by decide +kernel)
theorem aw_198 : Jvm.Cond.instantiable "WharfQuery$Report" (11 : Nat) ∈ wq_aw := wq_mem 198 (by decide +kernel) (by decide +kernel)
theorem aw_199 : Jvm.Cond.methodLink "WharfQuery" (62 : Nat) yX5_init ∈ wq_aw := wq_mem 199 (by decide +kernel) (by decide +kernel)
theorem aw_200 : Jvm.Cond.instanceMethod yX5_init ∈ wq_aw := wq_mem 200 (by decide +kernel) (by decide +kernel)
theorem aw_201 : Jvm.Cond.code yX5_init prog_7_method_1_code (2 : Nat) (Option.none : Option Jvm.ClassFile.FieldType) ∈ wq_aw := wq_mem 201 (by decide +kernel) (by decide +kernel)
theorem aw_202 : Jvm.Cond.methodLink "WharfQuery$Report" (3 : Nat) ({ cls := "java/lang/Object", name := "<init>", desc := "()V" } : Jvm.MethodName) ∈ wq_aw := wq_mem 202 (by decide +kernel) (by decide +kernel)
theorem aw_203 : Jvm.Cond.classLink "WharfQuery$Report" (15 : Nat) "WharfQuery$Condition" ∈ wq_aw := wq_mem 203 (by decide +kernel) (by decide +kernel)
theorem at_204 : Jvm.Cond.arrayOver (Jvm.ClassFile.FieldType.object "WharfQuery$Condition") ∈ lw_tbl := List.mem_of_getElem? (i := 204) (by decide +kernel)
theorem aw_205 : Jvm.Cond.instantiable "WharfQuery$Condition" (6 : Nat) ∈ wq_aw := wq_mem 205 (by decide +kernel) (by decide +kernel)
theorem at_206 : Jvm.Cond.methodLinkNest "WharfQuery$Report" (34 : Nat) yX1_init "WharfQuery" ∈ lw_tbl := List.mem_of_getElem? (i := 206) (by decide +kernel)
theorem aw_207 : Jvm.Cond.instanceMethod yX1_init ∈ wq_aw := wq_mem 207 (by decide +kernel) (by decide +kernel)
theorem aw_208 : Jvm.Cond.code yX1_init prog_3_method_1_code (1 : Nat) (Option.none : Option Jvm.ClassFile.FieldType) ∈ wq_aw := wq_mem 208 (by decide +kernel) (by decide +kernel)
theorem aw_209 : Jvm.Cond.methodLink "WharfQuery$Condition" (3 : Nat) ({ cls := "java/lang/Object", name := "<init>", desc := "()V" } : Jvm.MethodName) ∈ wq_aw := wq_mem 209 (by decide +kernel) (by decide +kernel)
theorem aw_210 : Jvm.Cond.fieldLink "WharfQuery$Condition" (18 : Nat) "WharfQuery$Condition" "kind" "I" ∈ wq_aw := wq_mem 210 (by decide +kernel) (by decide +kernel)
theorem aw_211 : Jvm.Cond.fieldLink "WharfQuery$Run" (92 : Nat) "WharfQuery$Condition" "kind" "I" ∈ wq_aw := wq_mem 211 (by decide +kernel) (by decide +kernel)
theorem aw_212 : Jvm.Cond.fieldLink "WharfQuery$Planner" (130 : Nat) "WharfQuery$Condition" "kind" "I" ∈ wq_aw := wq_mem 212 (by decide +kernel) (by decide +kernel)
theorem aw_213 : Jvm.Cond.fieldLink "WharfQuery$Condition" (9 : Nat) "WharfQuery$Condition" "source" "I" ∈ wq_aw := wq_mem 213 (by decide +kernel) (by decide +kernel)
theorem aw_214 : Jvm.Cond.fieldLink "WharfQuery$Run" (100 : Nat) "WharfQuery$Condition" "source" "I" ∈ wq_aw := wq_mem 214 (by decide +kernel) (by decide +kernel)
theorem aw_215 : Jvm.Cond.fieldLink "WharfQuery$Planner" (124 : Nat) "WharfQuery$Condition" "source" "I" ∈ wq_aw := wq_mem 215 (by decide +kernel) (by decide +kernel)
theorem aw_216 : Jvm.Cond.fieldLink "WharfQuery$Condition" (15 : Nat) "WharfQuery$Condition" "column" "I" ∈ wq_aw := wq_mem 216 (by decide +kernel) (by decide +kernel)
theorem aw_217 : Jvm.Cond.fieldLink "WharfQuery$Run" (109 : Nat) "WharfQuery$Condition" "column" "I" ∈ wq_aw := wq_mem 217 (by decide +kernel) (by decide +kernel)
theorem aw_218 : Jvm.Cond.fieldLink "WharfQuery$Planner" (127 : Nat) "WharfQuery$Condition" "column" "I" ∈ wq_aw := wq_mem 218 (by decide +kernel) (by decide +kernel)
theorem aw_219 : Jvm.Cond.fieldLink "WharfQuery$Condition" (21 : Nat) "WharfQuery$Condition" "number" "I" ∈ wq_aw := wq_mem 219 (by decide +kernel) (by decide +kernel)
theorem aw_220 : Jvm.Cond.fieldLink "WharfQuery$Run" (97 : Nat) "WharfQuery$Condition" "number" "I" ∈ wq_aw := wq_mem 220 (by decide +kernel) (by decide +kernel)
theorem aw_221 : Jvm.Cond.fieldLink "WharfQuery$Planner" (133 : Nat) "WharfQuery$Condition" "number" "I" ∈ wq_aw := wq_mem 221 (by decide +kernel) (by decide +kernel)
theorem aw_222 : Jvm.Cond.fieldLink "WharfQuery$Condition" (24 : Nat) "WharfQuery$Condition" "other" "I" ∈ wq_aw := wq_mem 222 (by decide +kernel) (by decide +kernel)
theorem aw_223 : Jvm.Cond.fieldLink "WharfQuery$Run" (103 : Nat) "WharfQuery$Condition" "other" "I" ∈ wq_aw := wq_mem 223 (by decide +kernel) (by decide +kernel)
theorem aw_224 : Jvm.Cond.fieldLink "WharfQuery$Planner" (146 : Nat) "WharfQuery$Condition" "other" "I" ∈ wq_aw := wq_mem 224 (by decide +kernel) (by decide +kernel)
theorem aw_225 : Jvm.Cond.fieldLink "WharfQuery$Condition" (27 : Nat) "WharfQuery$Condition" "otherColumn" "I" ∈ wq_aw := wq_mem 225 (by decide +kernel) (by decide +kernel)
theorem aw_226 : Jvm.Cond.fieldLink "WharfQuery$Run" (106 : Nat) "WharfQuery$Condition" "otherColumn" "I" ∈ wq_aw := wq_mem 226 (by decide +kernel) (by decide +kernel)
theorem aw_227 : Jvm.Cond.fieldLink "WharfQuery$Planner" (149 : Nat) "WharfQuery$Condition" "otherColumn" "I" ∈ wq_aw := wq_mem 227 (by decide +kernel) (by decide +kernel)
theorem aw_241 : Jvm.Cond.fieldLink "WharfQuery$Report" (9 : Nat) "WharfQuery$Report" "sources" "[I" ∈ wq_aw := wq_mem 241 (by decide +kernel) (by decide +kernel)
theorem aw_242 : Jvm.Cond.fieldLink "WharfQuery$Run" (47 : Nat) "WharfQuery$Report" "sources" "[I" ∈ wq_aw := wq_mem 242 (by decide +kernel) (by decide +kernel)
theorem aw_243 : Jvm.Cond.fieldLink "WharfQuery$Planner" (67 : Nat) "WharfQuery$Report" "sources" "[I" ∈ wq_aw := wq_mem 243 (by decide +kernel) (by decide +kernel)
theorem aw_244 : Jvm.Cond.fieldLink "WharfQuery$Crew" (118 : Nat) "WharfQuery$Report" "sources" "[I" ∈ wq_aw := wq_mem 244 (by decide +kernel) (by decide +kernel)
theorem aw_245 : Jvm.Cond.fieldLink "WharfQuery" (174 : Nat) "WharfQuery$Report" "sources" "[I" ∈ wq_aw := wq_mem 245 (by decide +kernel) (by decide +kernel)
theorem aw_246 : Jvm.Cond.fieldLink "WharfQuery$Report" (17 : Nat) "WharfQuery$Report" "conditions" "[LWharfQuery$Condition;" ∈ wq_aw := wq_mem 246 (by decide +kernel) (by decide +kernel)
theorem aw_247 : Jvm.Cond.fieldLink "WharfQuery$Run" (88 : Nat) "WharfQuery$Report" "conditions" "[LWharfQuery$Condition;" ∈ wq_aw := wq_mem 247 (by decide +kernel) (by decide +kernel)
theorem aw_248 : Jvm.Cond.fieldLink "WharfQuery$Planner" (110 : Nat) "WharfQuery$Report" "conditions" "[LWharfQuery$Condition;" ∈ wq_aw := wq_mem 248 (by decide +kernel) (by decide +kernel)
theorem aw_249 : Jvm.Cond.fieldLink "WharfQuery" (190 : Nat) "WharfQuery$Report" "conditions" "[LWharfQuery$Condition;" ∈ wq_aw := wq_mem 249 (by decide +kernel) (by decide +kernel)
theorem aw_250 : Jvm.Cond.fieldLink "WharfQuery$Crew" (90 : Nat) "WharfQuery$Report" "penalty" "I" ∈ wq_aw := wq_mem 250 (by decide +kernel) (by decide +kernel)
theorem aw_251 : Jvm.Cond.fieldLink "WharfQuery" (162 : Nat) "WharfQuery$Report" "penalty" "I" ∈ wq_aw := wq_mem 251 (by decide +kernel) (by decide +kernel)
theorem aw_252 : Jvm.Cond.fieldLink "WharfQuery$Run" (29 : Nat) "WharfQuery$Report" "sourceCount" "I" ∈ wq_aw := wq_mem 252 (by decide +kernel) (by decide +kernel)
theorem aw_253 : Jvm.Cond.fieldLink "WharfQuery$Planner" (42 : Nat) "WharfQuery$Report" "sourceCount" "I" ∈ wq_aw := wq_mem 253 (by decide +kernel) (by decide +kernel)
theorem aw_254 : Jvm.Cond.fieldLink "WharfQuery$Crew" (115 : Nat) "WharfQuery$Report" "sourceCount" "I" ∈ wq_aw := wq_mem 254 (by decide +kernel) (by decide +kernel)
theorem aw_255 : Jvm.Cond.fieldLink "WharfQuery" (169 : Nat) "WharfQuery$Report" "sourceCount" "I" ∈ wq_aw := wq_mem 255 (by decide +kernel) (by decide +kernel)
theorem aw_256 : Jvm.Cond.fieldLink "WharfQuery$Report" (40 : Nat) "WharfQuery$Report" "conditionCount" "I" ∈ wq_aw := wq_mem 256 (by decide +kernel) (by decide +kernel)
theorem aw_257 : Jvm.Cond.fieldLink "WharfQuery$Planner" (107 : Nat) "WharfQuery$Report" "conditionCount" "I" ∈ wq_aw := wq_mem 257 (by decide +kernel) (by decide +kernel)
theorem aw_258 : Jvm.Cond.fieldLink "WharfQuery$Run" (112 : Nat) "WharfQuery$Report" "conditionCount" "I" ∈ wq_aw := wq_mem 258 (by decide +kernel) (by decide +kernel)
theorem aw_259 : Jvm.Cond.fieldLink "WharfQuery" (194 : Nat) "WharfQuery$Report" "conditionCount" "I" ∈ wq_aw := wq_mem 259 (by decide +kernel) (by decide +kernel)
theorem aw_260 : Jvm.Cond.fieldLink "WharfQuery$Report" (21 : Nat) "WharfQuery$Report" "sumSource" "I" ∈ wq_aw := wq_mem 260 (by decide +kernel) (by decide +kernel)
theorem aw_261 : Jvm.Cond.fieldLink "WharfQuery$Run" (74 : Nat) "WharfQuery$Report" "sumSource" "I" ∈ wq_aw := wq_mem 261 (by decide +kernel) (by decide +kernel)
theorem aw_262 : Jvm.Cond.fieldLink "WharfQuery" (213 : Nat) "WharfQuery$Report" "sumSource" "I" ∈ wq_aw := wq_mem 262 (by decide +kernel) (by decide +kernel)
theorem aw_263 : Jvm.Cond.fieldLink "WharfQuery$Run" (77 : Nat) "WharfQuery$Report" "sumColumn" "I" ∈ wq_aw := wq_mem 263 (by decide +kernel) (by decide +kernel)
theorem aw_264 : Jvm.Cond.fieldLink "WharfQuery" (210 : Nat) "WharfQuery$Report" "sumColumn" "I" ∈ wq_aw := wq_mem 264 (by decide +kernel) (by decide +kernel)
theorem aw_265 : Jvm.Cond.fieldLink "WharfQuery$Crew" (45 : Nat) "WharfQuery$Report" "due" "Z" ∈ wq_aw := wq_mem 265 (by decide +kernel) (by decide +kernel)
theorem aw_266 : Jvm.Cond.fieldLink "WharfQuery" (216 : Nat) "WharfQuery$Report" "due" "Z" ∈ wq_aw := wq_mem 266 (by decide +kernel) (by decide +kernel)
theorem aw_267 : Jvm.Cond.fieldLink "WharfQuery$Report" (25 : Nat) "WharfQuery$Report" "keptChoices" "I" ∈ wq_aw := wq_mem 267 (by decide +kernel) (by decide +kernel)
theorem aw_268 : Jvm.Cond.fieldLink "WharfQuery$Crew" (103 : Nat) "WharfQuery$Report" "keptChoices" "I" ∈ wq_aw := wq_mem 268 (by decide +kernel) (by decide +kernel)
theorem aw_269 : Jvm.Cond.fieldLink "WharfQuery" (277 : Nat) "WharfQuery$Report" "keptChoices" "I" ∈ wq_aw := wq_mem 269 (by decide +kernel) (by decide +kernel)
theorem aw_270 : Jvm.Cond.fieldLink "WharfQuery$Report" (28 : Nat) "WharfQuery$Report" "keptTotal" "I" ∈ wq_aw := wq_mem 270 (by decide +kernel) (by decide +kernel)
theorem aw_271 : Jvm.Cond.fieldLink "WharfQuery$Crew" (109 : Nat) "WharfQuery$Report" "keptTotal" "I" ∈ wq_aw := wq_mem 271 (by decide +kernel) (by decide +kernel)
theorem aw_272 : Jvm.Cond.fieldLink "WharfQuery" (280 : Nat) "WharfQuery$Report" "keptTotal" "I" ∈ wq_aw := wq_mem 272 (by decide +kernel) (by decide +kernel)
theorem aw_273 : Jvm.Cond.fieldLink "WharfQuery$Report" (31 : Nat) "WharfQuery$Report" "keptNight" "I" ∈ wq_aw := wq_mem 273 (by decide +kernel) (by decide +kernel)
theorem aw_274 : Jvm.Cond.fieldLink "WharfQuery$Crew" (112 : Nat) "WharfQuery$Report" "keptNight" "I" ∈ wq_aw := wq_mem 274 (by decide +kernel) (by decide +kernel)
theorem aw_275 : Jvm.Cond.fieldLink "WharfQuery" (283 : Nat) "WharfQuery$Report" "keptNight" "I" ∈ wq_aw := wq_mem 275 (by decide +kernel) (by decide +kernel)
theorem aw_299 : Jvm.Cond.classLink "WharfQuery" (24 : Nat) "WharfQuery$Planner" ∈ wq_aw := wq_mem 299 (by decide +kernel) (by decide +kernel)
theorem aw_300 : Jvm.Cond.instantiable "WharfQuery$Planner" (3 : Nat) ∈ wq_aw := wq_mem 300 (by decide +kernel) (by decide +kernel)
theorem aw_301 : Jvm.Cond.methodLink "WharfQuery" (26 : Nat) yX4_init ∈ wq_aw := wq_mem 301 (by decide +kernel) (by decide +kernel)
theorem aw_302 : Jvm.Cond.instanceMethod yX4_init ∈ wq_aw := wq_mem 302 (by decide +kernel) (by decide +kernel)
theorem aw_303 : Jvm.Cond.code yX4_init prog_6_method_1_code (2 : Nat) (Option.none : Option Jvm.ClassFile.FieldType) ∈ wq_aw := wq_mem 303 (by decide +kernel) (by decide +kernel)
theorem aw_304 : Jvm.Cond.methodLink "WharfQuery$Planner" (3 : Nat) ({ cls := "java/lang/Object", name := "<init>", desc := "()V" } : Jvm.MethodName) ∈ wq_aw := wq_mem 304 (by decide +kernel) (by decide +kernel)
theorem aw_305 : Jvm.Cond.classLink "WharfQuery$Planner" (9 : Nat) "WharfQuery$Plan" ∈ wq_aw := wq_mem 305 (by decide +kernel) (by decide +kernel)
theorem at_306 : Jvm.Cond.methodLinkNest "WharfQuery$Planner" (11 : Nat) yX3_init "WharfQuery" ∈ lw_tbl := List.mem_of_getElem? (i := 306) (by decide +kernel)
theorem aw_307 : Jvm.Cond.fieldLink "WharfQuery$Planner" (21 : Nat) "WharfQuery$Planner" "tables" "[LWharfQuery$Table;" ∈ wq_aw := wq_mem 307 (by decide +kernel) (by decide +kernel)
theorem aw_308 : Jvm.Cond.fieldLink "WharfQuery$Planner" (12 : Nat) "WharfQuery$Planner" "draft" "LWharfQuery$Plan;" ∈ wq_aw := wq_mem 308 (by decide +kernel) (by decide +kernel)
theorem aw_309 : Jvm.Cond.fieldLink "WharfQuery$Planner" (18 : Nat) "WharfQuery$Planner" "best" "LWharfQuery$Plan;" ∈ wq_aw := wq_mem 309 (by decide +kernel) (by decide +kernel)
theorem aw_317 : Jvm.Cond.classLink "WharfQuery" (29 : Nat) "WharfQuery$Run" ∈ wq_aw := wq_mem 317 (by decide +kernel) (by decide +kernel)
theorem aw_318 : Jvm.Cond.instantiable "WharfQuery$Run" (5 : Nat) ∈ wq_aw := wq_mem 318 (by decide +kernel) (by decide +kernel)
theorem aw_319 : Jvm.Cond.methodLink "WharfQuery" (31 : Nat) yX6_init ∈ wq_aw := wq_mem 319 (by decide +kernel) (by decide +kernel)
theorem aw_320 : Jvm.Cond.instanceMethod yX6_init ∈ wq_aw := wq_mem 320 (by decide +kernel) (by decide +kernel)
theorem aw_321 : Jvm.Cond.code yX6_init prog_8_method_1_code (2 : Nat) (Option.none : Option Jvm.ClassFile.FieldType) ∈ wq_aw := wq_mem 321 (by decide +kernel) (by decide +kernel)
theorem aw_322 : Jvm.Cond.methodLink "WharfQuery$Run" (3 : Nat) ({ cls := "java/lang/Object", name := "<init>", desc := "()V" } : Jvm.MethodName) ∈ wq_aw := wq_mem 322 (by decide +kernel) (by decide +kernel)
theorem aw_323 : Jvm.Cond.fieldLink "WharfQuery$Run" (15 : Nat) "WharfQuery$Run" "tables" "[LWharfQuery$Table;" ∈ wq_aw := wq_mem 323 (by decide +kernel) (by decide +kernel)
theorem aw_324 : Jvm.Cond.fieldLink "WharfQuery$Run" (9 : Nat) "WharfQuery$Run" "chosenRows" "[I" ∈ wq_aw := wq_mem 324 (by decide +kernel) (by decide +kernel)
theorem aw_325 : Jvm.Cond.fieldLink "WharfQuery$Run" (19 : Nat) "WharfQuery$Run" "minutesTaken" "I" ∈ wq_aw := wq_mem 325 (by decide +kernel) (by decide +kernel)
theorem aw_326 : Jvm.Cond.fieldLink "WharfQuery$Crew" (80 : Nat) "WharfQuery$Run" "minutesTaken" "I" ∈ wq_aw := wq_mem 326 (by decide +kernel) (by decide +kernel)
theorem aw_327 : Jvm.Cond.fieldLink "WharfQuery" (240 : Nat) "WharfQuery$Run" "minutesTaken" "I" ∈ wq_aw := wq_mem 327 (by decide +kernel) (by decide +kernel)
theorem aw_328 : Jvm.Cond.fieldLink "WharfQuery$Run" (23 : Nat) "WharfQuery$Run" "choices" "I" ∈ wq_aw := wq_mem 328 (by decide +kernel) (by decide +kernel)
theorem aw_329 : Jvm.Cond.fieldLink "WharfQuery$Crew" (100 : Nat) "WharfQuery$Run" "choices" "I" ∈ wq_aw := wq_mem 329 (by decide +kernel) (by decide +kernel)
theorem aw_330 : Jvm.Cond.fieldLink "WharfQuery" (243 : Nat) "WharfQuery$Run" "choices" "I" ∈ wq_aw := wq_mem 330 (by decide +kernel) (by decide +kernel)
theorem aw_331 : Jvm.Cond.fieldLink "WharfQuery$Run" (26 : Nat) "WharfQuery$Run" "total" "I" ∈ wq_aw := wq_mem 331 (by decide +kernel) (by decide +kernel)
theorem aw_332 : Jvm.Cond.fieldLink "WharfQuery$Crew" (106 : Nat) "WharfQuery$Run" "total" "I" ∈ wq_aw := wq_mem 332 (by decide +kernel) (by decide +kernel)
theorem aw_333 : Jvm.Cond.fieldLink "WharfQuery" (246 : Nat) "WharfQuery$Run" "total" "I" ∈ wq_aw := wq_mem 333 (by decide +kernel) (by decide +kernel)
theorem aw_345 : Jvm.Cond.classLink "WharfQuery" (48 : Nat) "WharfQuery$Crew" ∈ wq_aw := wq_mem 345 (by decide +kernel) (by decide +kernel)
theorem aw_346 : Jvm.Cond.instantiable "WharfQuery$Crew" (10 : Nat) ∈ wq_aw := wq_mem 346 (by decide +kernel) (by decide +kernel)
theorem aw_347 : Jvm.Cond.methodLink "WharfQuery" (50 : Nat) yX2_init ∈ wq_aw := wq_mem 347 (by decide +kernel) (by decide +kernel)
theorem aw_348 : Jvm.Cond.instanceMethod yX2_init ∈ wq_aw := wq_mem 348 (by decide +kernel) (by decide +kernel)
theorem aw_349 : Jvm.Cond.code yX2_init prog_4_method_1_code (5 : Nat) (Option.none : Option Jvm.ClassFile.FieldType) ∈ wq_aw := wq_mem 349 (by decide +kernel) (by decide +kernel)
theorem aw_350 : Jvm.Cond.methodLink "WharfQuery$Crew" (3 : Nat) ({ cls := "java/lang/Object", name := "<init>", desc := "()V" } : Jvm.MethodName) ∈ wq_aw := wq_mem 350 (by decide +kernel) (by decide +kernel)
theorem aw_351 : Jvm.Cond.fieldLink "WharfQuery$Crew" (19 : Nat) "WharfQuery$Crew" "tables" "[LWharfQuery$Table;" ∈ wq_aw := wq_mem 351 (by decide +kernel) (by decide +kernel)
theorem aw_352 : Jvm.Cond.fieldLink "WharfQuery$Crew" (23 : Nat) "WharfQuery$Crew" "reports" "[LWharfQuery$Report;" ∈ wq_aw := wq_mem 352 (by decide +kernel) (by decide +kernel)
theorem aw_353 : Jvm.Cond.fieldLink "WharfQuery$Crew" (27 : Nat) "WharfQuery$Crew" "planner" "LWharfQuery$Planner;" ∈ wq_aw := wq_mem 353 (by decide +kernel) (by decide +kernel)
theorem aw_354 : Jvm.Cond.fieldLink "WharfQuery$Crew" (31 : Nat) "WharfQuery$Crew" "run" "LWharfQuery$Run;" ∈ wq_aw := wq_mem 354 (by decide +kernel) (by decide +kernel)
theorem aw_355 : Jvm.Cond.fieldLink "WharfQuery$Crew" (9 : Nat) "WharfQuery$Crew" "line" "[I" ∈ wq_aw := wq_mem 355 (by decide +kernel) (by decide +kernel)
theorem aw_356 : Jvm.Cond.fieldLink "WharfQuery$Crew" (15 : Nat) "WharfQuery$Crew" "sampleStep" "I" ∈ wq_aw := wq_mem 356 (by decide +kernel) (by decide +kernel)
theorem aw_357 : Jvm.Cond.fieldLink "WharfQuery" (137 : Nat) "WharfQuery$Crew" "sampleStep" "I" ∈ wq_aw := wq_mem 357 (by decide +kernel) (by decide +kernel)
theorem aw_358 : Jvm.Cond.fieldLink "WharfQuery$Crew" (97 : Nat) "WharfQuery$Crew" "nightsPassed" "I" ∈ wq_aw := wq_mem 358 (by decide +kernel) (by decide +kernel)
theorem aw_359 : Jvm.Cond.fieldLink "WharfQuery" (254 : Nat) "WharfQuery$Crew" "nightsPassed" "I" ∈ wq_aw := wq_mem 359 (by decide +kernel) (by decide +kernel)
theorem aw_360 : Jvm.Cond.fieldLink "WharfQuery$Crew" (62 : Nat) "WharfQuery$Crew" "allPay" "I" ∈ wq_aw := wq_mem 360 (by decide +kernel) (by decide +kernel)
theorem aw_361 : Jvm.Cond.fieldLink "WharfQuery" (268 : Nat) "WharfQuery$Crew" "allPay" "I" ∈ wq_aw := wq_mem 361 (by decide +kernel) (by decide +kernel)
theorem aw_362 : Jvm.Cond.fieldLink "WharfQuery$Crew" (65 : Nat) "WharfQuery$Crew" "minutesLeft" "I" ∈ wq_aw := wq_mem 362 (by decide +kernel) (by decide +kernel)
theorem aw_363 : Jvm.Cond.fieldLink "WharfQuery" (271 : Nat) "WharfQuery$Crew" "minutesLeft" "I" ∈ wq_aw := wq_mem 363 (by decide +kernel) (by decide +kernel)
theorem aw_364 : Jvm.Cond.fieldLink "WharfQuery$Crew" (87 : Nat) "WharfQuery$Crew" "allPenalties" "I" ∈ wq_aw := wq_mem 364 (by decide +kernel) (by decide +kernel)
theorem aw_365 : Jvm.Cond.fieldLink "WharfQuery" (274 : Nat) "WharfQuery$Crew" "allPenalties" "I" ∈ wq_aw := wq_mem 365 (by decide +kernel) (by decide +kernel)
theorem aw_387 : Jvm.Cond.fieldLink "WharfQuery" (32 : Nat) "WharfQuery" "tables" "[LWharfQuery$Table;" ∈ wq_aw := wq_mem 387 (by decide +kernel) (by decide +kernel)
theorem aw_388 : Jvm.Cond.fieldLink "WharfQuery" (36 : Nat) "WharfQuery" "reports" "[LWharfQuery$Report;" ∈ wq_aw := wq_mem 388 (by decide +kernel) (by decide +kernel)
theorem aw_389 : Jvm.Cond.fieldLink "WharfQuery" (12 : Nat) "WharfQuery" "plainPlan" "LWharfQuery$Plan;" ∈ wq_aw := wq_mem 389 (by decide +kernel) (by decide +kernel)
theorem aw_390 : Jvm.Cond.fieldLink "WharfQuery" (40 : Nat) "WharfQuery" "planner" "LWharfQuery$Planner;" ∈ wq_aw := wq_mem 390 (by decide +kernel) (by decide +kernel)
theorem aw_391 : Jvm.Cond.fieldLink "WharfQuery" (44 : Nat) "WharfQuery" "run" "LWharfQuery$Run;" ∈ wq_aw := wq_mem 391 (by decide +kernel) (by decide +kernel)
theorem aw_392 : Jvm.Cond.fieldLink "WharfQuery" (53 : Nat) "WharfQuery" "crew" "LWharfQuery$Crew;" ∈ wq_aw := wq_mem 392 (by decide +kernel) (by decide +kernel)
theorem aw_393 : Jvm.Cond.fieldLink "WharfQuery" (70 : Nat) "WharfQuery" "tableCount" "I" ∈ wq_aw := wq_mem 393 (by decide +kernel) (by decide +kernel)
theorem aw_394 : Jvm.Cond.fieldLink "WharfQuery" (157 : Nat) "WharfQuery" "reportCount" "I" ∈ wq_aw := wq_mem 394 (by decide +kernel) (by decide +kernel)
theorem aw_412 : Jvm.Cond.methodLink "WharfQueryLaw" (231 : Nat) yX8_nights ∈ wq_aw := wq_mem 412 (by decide +kernel) (by decide +kernel)
theorem aw_413 : Jvm.Cond.instanceMethod yX8_nights ∈ wq_aw := wq_mem 413 (by decide +kernel) (by decide +kernel)
theorem aw_414 : Jvm.Cond.selects "WharfQuery" yX8_nights yX8_nights ∈ wq_aw := wq_mem 414 (by decide +kernel) (by decide +kernel)
theorem aw_415 : Jvm.Cond.code yX8_nights prog_1_method_34_code (1 : Nat) (Option.some Jvm.ClassFile.FieldType.int) ∈ wq_aw := wq_mem 415 (by decide +kernel) (by decide +kernel)
theorem aw_416 : Jvm.Cond.methodLink "WharfQueryLaw" (235 : Nat) yX8_paid ∈ wq_aw := wq_mem 416 (by decide +kernel) (by decide +kernel)
theorem aw_417 : Jvm.Cond.instanceMethod yX8_paid ∈ wq_aw := wq_mem 417 (by decide +kernel) (by decide +kernel)
theorem aw_418 : Jvm.Cond.selects "WharfQuery" yX8_paid yX8_paid ∈ wq_aw := wq_mem 418 (by decide +kernel) (by decide +kernel)
theorem aw_419 : Jvm.Cond.code yX8_paid prog_1_method_35_code (1 : Nat) (Option.some Jvm.ClassFile.FieldType.int) ∈ wq_aw := wq_mem 419 (by decide +kernel) (by decide +kernel)
theorem aw_420 : Jvm.Cond.methodLink "WharfQueryLaw" (239 : Nat) yX8_left ∈ wq_aw := wq_mem 420 (by decide +kernel) (by decide +kernel)
theorem aw_421 : Jvm.Cond.instanceMethod yX8_left ∈ wq_aw := wq_mem 421 (by decide +kernel) (by decide +kernel)
theorem aw_422 : Jvm.Cond.selects "WharfQuery" yX8_left yX8_left ∈ wq_aw := wq_mem 422 (by decide +kernel) (by decide +kernel)
theorem aw_423 : Jvm.Cond.code yX8_left prog_1_method_36_code (1 : Nat) (Option.some Jvm.ClassFile.FieldType.int) ∈ wq_aw := wq_mem 423 (by decide +kernel) (by decide +kernel)
theorem aw_424 : Jvm.Cond.methodLink "WharfQueryLaw" (243 : Nat) yX8_owed ∈ wq_aw := wq_mem 424 (by decide +kernel) (by decide +kernel)
theorem aw_425 : Jvm.Cond.instanceMethod yX8_owed ∈ wq_aw := wq_mem 425 (by decide +kernel) (by decide +kernel)
theorem aw_426 : Jvm.Cond.selects "WharfQuery" yX8_owed yX8_owed ∈ wq_aw := wq_mem 426 (by decide +kernel) (by decide +kernel)
theorem aw_427 : Jvm.Cond.code yX8_owed prog_1_method_37_code (1 : Nat) (Option.some Jvm.ClassFile.FieldType.int) ∈ wq_aw := wq_mem 427 (by decide +kernel) (by decide +kernel)
theorem aw_428 : Jvm.Cond.methodLink "WharfQueryLaw" (127 : Nat) yL_addTable ∈ wq_aw := wq_mem 428 (by decide +kernel) (by decide +kernel)
theorem aw_429 : Jvm.Cond.static yL_addTable ∈ wq_aw := wq_mem 429 (by decide +kernel) (by decide +kernel)
theorem aw_430 : Jvm.Cond.codeWith yL_addTable method_3_code (4 : Nat) (Option.some Jvm.ClassFile.FieldType.int) [((0 : Nat), (9 : Nat), (12 : Nat), (13 : Nat)), ((0 : Nat), (9 : Nat), (15 : Nat), (15 : Nat))] ∈ wq_aw := wq_mem 430 (by decide +kernel) (by decide +kernel)
theorem aw_431 : Jvm.Cond.classLink "WharfQueryLaw" (13 : Nat) "java/lang/IllegalArgumentException" ∈ wq_aw := wq_mem 431 (by decide +kernel) (by decide +kernel)
theorem aw_432 : Jvm.Cond.classLink "WharfQueryLaw" (15 : Nat) "java/lang/IllegalStateException" ∈ wq_aw := wq_mem 432 (by decide +kernel) (by decide +kernel)
theorem aw_433 : Jvm.Cond.methodLink "WharfQueryLaw" (7 : Nat) yX8_addTable ∈ wq_aw := wq_mem 433 (by decide +kernel) (by decide +kernel)
theorem aw_434 : Jvm.Cond.instanceMethod yX8_addTable ∈ wq_aw := wq_mem 434 (by decide +kernel) (by decide +kernel)
theorem aw_435 : Jvm.Cond.selects "WharfQuery" yX8_addTable yX8_addTable ∈ wq_aw := wq_mem 435 (by decide +kernel) (by decide +kernel)
theorem aw_436 : Jvm.Cond.code yX8_addTable prog_1_method_4_code (2 : Nat) (Option.some Jvm.ClassFile.FieldType.int) ∈ wq_aw := wq_mem 436 (by decide +kernel) (by decide +kernel)
theorem aw_437 : Jvm.Cond.classLink "WharfQuery" (63 : Nat) "java/lang/IllegalArgumentException" ∈ wq_aw := wq_mem 437 (by decide +kernel) (by decide +kernel)
theorem aw_438 : Jvm.Cond.instantiable "java/lang/IllegalArgumentException" (6 : Nat) ∈ wq_aw := wq_mem 438 (by decide +kernel) (by decide +kernel)
theorem aw_446 : Jvm.Cond.selects "java/lang/IllegalArgumentException" ({ cls := "java/lang/Throwable", name := "fillInStackTrace", desc := "(I)Ljava/lang/Throwable;" } : Jvm.MethodName) ({ cls := "java/lang/Throwable", name := "fillInStackTrace", desc := "(I)Ljava/lang/Throwable;" } : Jvm.MethodName) ∈ wq_aw := wq_mem 446 (by decide +kernel) (by decide +kernel)
theorem aw_447 : Jvm.Cond.selects "java/lang/IllegalArgumentException" ({ cls := "java/lang/Throwable", name := "fillInStackTrace", desc := "()Ljava/lang/Throwable;" } : Jvm.MethodName) ({ cls := "java/lang/Throwable", name := "fillInStackTrace", desc := "()Ljava/lang/Throwable;" } : Jvm.MethodName) ∈ wq_aw := wq_mem 447 (by decide +kernel) (by decide +kernel)
theorem aw_458 : Jvm.Cond.fieldLink "java/lang/Throwable" (198 : Nat) "java/lang/Throwable" "backtrace" "Ljava/lang/Object;" ∈ wq_aw := wq_mem 458 (by decide +kernel) (by decide +kernel)
theorem aw_460 : Jvm.Cond.instanceMethod ({ cls := "java/lang/Throwable", name := "<init>", desc := "()V" } : Jvm.MethodName) ∈ wq_aw := wq_mem 460 (by decide +kernel) (by decide +kernel)
theorem aw_461 : Jvm.Cond.code ({ cls := "java/lang/Throwable", name := "<init>", desc := "()V" } : Jvm.MethodName) prog_19_method_1_code (1 : Nat) (Option.none : Option Jvm.ClassFile.FieldType) ∈ wq_aw := wq_mem 461 (by decide +kernel) (by decide +kernel)
theorem aw_462 : Jvm.Cond.methodLink "java/lang/Throwable" (1 : Nat) ({ cls := "java/lang/Object", name := "<init>", desc := "()V" } : Jvm.MethodName) ∈ wq_aw := wq_mem 462 (by decide +kernel) (by decide +kernel)
theorem aw_463 : Jvm.Cond.fieldLink "java/lang/Throwable" (13 : Nat) "java/lang/Throwable" "UNASSIGNED_STACK" "[Ljava/lang/StackTraceElement;" ∈ wq_aw := wq_mem 463 (by decide +kernel) (by decide +kernel)
theorem aw_465 : Jvm.Cond.fieldLink "java/lang/Throwable" (20 : Nat) "java/lang/Throwable" "SUPPRESSED_SENTINEL" "Ljava/util/List;" ∈ wq_aw := wq_mem 465 (by decide +kernel) (by decide +kernel)
theorem aw_467 : Jvm.Cond.methodLink "java/lang/Throwable" (27 : Nat) ({ cls := "java/lang/Throwable", name := "fillInStackTrace", desc := "()Ljava/lang/Throwable;" } : Jvm.MethodName) ∈ wq_aw := wq_mem 467 (by decide +kernel) (by decide +kernel)
theorem aw_468 : Jvm.Cond.instanceMethod ({ cls := "java/lang/Throwable", name := "fillInStackTrace", desc := "()Ljava/lang/Throwable;" } : Jvm.MethodName) ∈ wq_aw := wq_mem 468 (by decide +kernel) (by decide +kernel)
theorem aw_470 : Jvm.Cond.selects "java/lang/IllegalStateException" ({ cls := "java/lang/Throwable", name := "fillInStackTrace", desc := "()Ljava/lang/Throwable;" } : Jvm.MethodName) ({ cls := "java/lang/Throwable", name := "fillInStackTrace", desc := "()Ljava/lang/Throwable;" } : Jvm.MethodName) ∈ wq_aw := wq_mem 470 (by decide +kernel) (by decide +kernel)
theorem aw_471 : Jvm.Cond.selects "java/lang/IndexOutOfBoundsException" ({ cls := "java/lang/Throwable", name := "fillInStackTrace", desc := "()Ljava/lang/Throwable;" } : Jvm.MethodName) ({ cls := "java/lang/Throwable", name := "fillInStackTrace", desc := "()Ljava/lang/Throwable;" } : Jvm.MethodName) ∈ wq_aw := wq_mem 471 (by decide +kernel) (by decide +kernel)
theorem aw_473 : Jvm.Cond.methodLink "java/lang/Throwable" (202 : Nat) ({ cls := "java/lang/Throwable", name := "fillInStackTrace", desc := "(I)Ljava/lang/Throwable;" } : Jvm.MethodName) ∈ wq_aw := wq_mem 473 (by decide +kernel) (by decide +kernel)
theorem aw_475 : Jvm.Cond.instanceMethod ({ cls := "java/lang/Throwable", name := "fillInStackTrace", desc := "(I)Ljava/lang/Throwable;" } : Jvm.MethodName) ∈ wq_aw := wq_mem 475 (by decide +kernel) (by decide +kernel)
theorem aw_476 : Jvm.Cond.instantiable "java/lang/Throwable" (6 : Nat) ∈ wq_aw := wq_mem 476 (by decide +kernel) (by decide +kernel)
theorem aw_479 : Jvm.Cond.methodLink "WharfQuery" (67 : Nat) ({ cls := "java/lang/IllegalArgumentException", name := "<init>", desc := "(Ljava/lang/String;)V" } : Jvm.MethodName) ∈ wq_aw := wq_mem 479 (by decide +kernel) (by decide +kernel)
theorem aw_480 : Jvm.Cond.instanceMethod ({ cls := "java/lang/IllegalArgumentException", name := "<init>", desc := "(Ljava/lang/String;)V" } : Jvm.MethodName) ∈ wq_aw := wq_mem 480 (by decide +kernel) (by decide +kernel)
theorem aw_481 : Jvm.Cond.code ({ cls := "java/lang/IllegalArgumentException", name := "<init>", desc := "(Ljava/lang/String;)V" } : Jvm.MethodName) prog_13_method_2_code (2 : Nat) (Option.none : Option Jvm.ClassFile.FieldType) ∈ wq_aw := wq_mem 481 (by decide +kernel) (by decide +kernel)
theorem aw_482 : Jvm.Cond.methodLink "java/lang/IllegalArgumentException" (7 : Nat) ({ cls := "java/lang/RuntimeException", name := "<init>", desc := "(Ljava/lang/String;)V" } : Jvm.MethodName) ∈ wq_aw := wq_mem 482 (by decide +kernel) (by decide +kernel)
theorem aw_483 : Jvm.Cond.instanceMethod ({ cls := "java/lang/RuntimeException", name := "<init>", desc := "(Ljava/lang/String;)V" } : Jvm.MethodName) ∈ wq_aw := wq_mem 483 (by decide +kernel) (by decide +kernel)
theorem aw_484 : Jvm.Cond.code ({ cls := "java/lang/RuntimeException", name := "<init>", desc := "(Ljava/lang/String;)V" } : Jvm.MethodName) prog_17_method_2_code (2 : Nat) (Option.none : Option Jvm.ClassFile.FieldType) ∈ wq_aw := wq_mem 484 (by decide +kernel) (by decide +kernel)
theorem aw_485 : Jvm.Cond.methodLink "java/lang/RuntimeException" (7 : Nat) ({ cls := "java/lang/Exception", name := "<init>", desc := "(Ljava/lang/String;)V" } : Jvm.MethodName) ∈ wq_aw := wq_mem 485 (by decide +kernel) (by decide +kernel)
theorem aw_486 : Jvm.Cond.instanceMethod ({ cls := "java/lang/Exception", name := "<init>", desc := "(Ljava/lang/String;)V" } : Jvm.MethodName) ∈ wq_aw := wq_mem 486 (by decide +kernel) (by decide +kernel)
theorem aw_487 : Jvm.Cond.code ({ cls := "java/lang/Exception", name := "<init>", desc := "(Ljava/lang/String;)V" } : Jvm.MethodName) prog_12_method_2_code (2 : Nat) (Option.none : Option Jvm.ClassFile.FieldType) ∈ wq_aw := wq_mem 487 (by decide +kernel) (by decide +kernel)
theorem aw_488 : Jvm.Cond.methodLink "java/lang/Exception" (7 : Nat) ({ cls := "java/lang/Throwable", name := "<init>", desc := "(Ljava/lang/String;)V" } : Jvm.MethodName) ∈ wq_aw := wq_mem 488 (by decide +kernel) (by decide +kernel)
theorem aw_489 : Jvm.Cond.instanceMethod ({ cls := "java/lang/Throwable", name := "<init>", desc := "(Ljava/lang/String;)V" } : Jvm.MethodName) ∈ wq_aw := wq_mem 489 (by decide +kernel) (by decide +kernel)
theorem aw_490 : Jvm.Cond.code ({ cls := "java/lang/Throwable", name := "<init>", desc := "(Ljava/lang/String;)V" } : Jvm.MethodName) prog_19_method_2_code (2 : Nat) (Option.none : Option Jvm.ClassFile.FieldType) ∈ wq_aw := wq_mem 490 (by decide +kernel) (by decide +kernel)
theorem aw_492 : Jvm.Cond.fieldLink "java/lang/Throwable" (31 : Nat) "java/lang/Throwable" "detailMessage" "Ljava/lang/String;" ∈ wq_aw := wq_mem 492 (by decide +kernel) (by decide +kernel)
theorem aw_493 : Jvm.Cond.fieldLink "java/lang/Throwable" (7 : Nat) "java/lang/Throwable" "cause" "Ljava/lang/Throwable;" ∈ wq_aw := wq_mem 493 (by decide +kernel) (by decide +kernel)
theorem aw_494 : Jvm.Cond.fieldLink "java/lang/Throwable" (17 : Nat) "java/lang/Throwable" "stackTrace" "[Ljava/lang/StackTraceElement;" ∈ wq_aw := wq_mem 494 (by decide +kernel) (by decide +kernel)
theorem aw_495 : Jvm.Cond.fieldLink "java/lang/Throwable" (24 : Nat) "java/lang/Throwable" "suppressedExceptions" "Ljava/util/List;" ∈ wq_aw := wq_mem 495 (by decide +kernel) (by decide +kernel)
theorem aw_504 : Jvm.Cond.arrayClass Jvm.ClassFile.FieldType.byte ∈ wq_aw := wq_mem 504 (by decide +kernel) (by decide +kernel)
theorem aw_505 : Jvm.Cond.classLink "WharfQuery" (74 : Nat) "java/lang/IllegalStateException" ∈ wq_aw := wq_mem 505 (by decide +kernel) (by decide +kernel)
theorem aw_506 : Jvm.Cond.instantiable "java/lang/IllegalStateException" (6 : Nat) ∈ wq_aw := wq_mem 506 (by decide +kernel) (by decide +kernel)
theorem aw_508 : Jvm.Cond.selects "java/lang/IllegalStateException" ({ cls := "java/lang/Throwable", name := "fillInStackTrace", desc := "(I)Ljava/lang/Throwable;" } : Jvm.MethodName) ({ cls := "java/lang/Throwable", name := "fillInStackTrace", desc := "(I)Ljava/lang/Throwable;" } : Jvm.MethodName) ∈ wq_aw := wq_mem 508 (by decide +kernel) (by decide +kernel)
theorem aw_515 : Jvm.Cond.methodLink "WharfQuery" (78 : Nat) ({ cls := "java/lang/IllegalStateException", name := "<init>", desc := "(Ljava/lang/String;)V" } : Jvm.MethodName) ∈ wq_aw := wq_mem 515 (by decide +kernel) (by decide +kernel)
theorem aw_516 : Jvm.Cond.instanceMethod ({ cls := "java/lang/IllegalStateException", name := "<init>", desc := "(Ljava/lang/String;)V" } : Jvm.MethodName) ∈ wq_aw := wq_mem 516 (by decide +kernel) (by decide +kernel)
theorem aw_517 : Jvm.Cond.code ({ cls := "java/lang/IllegalStateException", name := "<init>", desc := "(Ljava/lang/String;)V" } : Jvm.MethodName) prog_14_method_2_code (2 : Nat) (Option.none : Option Jvm.ClassFile.FieldType) ∈ wq_aw := wq_mem 517 (by decide +kernel) (by decide +kernel)
theorem aw_518 : Jvm.Cond.methodLink "java/lang/IllegalStateException" (7 : Nat) ({ cls := "java/lang/RuntimeException", name := "<init>", desc := "(Ljava/lang/String;)V" } : Jvm.MethodName) ∈ wq_aw := wq_mem 518 (by decide +kernel) (by decide +kernel)
theorem aw_521 : Jvm.Cond.methodLink "WharfQueryLaw" (137 : Nat) yL_insert ∈ wq_aw := wq_mem 521 (by decide +kernel) (by decide +kernel)
theorem aw_522 : Jvm.Cond.static yL_insert ∈ wq_aw := wq_mem 522 (by decide +kernel) (by decide +kernel)
theorem aw_523 : Jvm.Cond.codeWith yL_insert method_4_code (7 : Nat) (Option.some Jvm.ClassFile.FieldType.int) [((0 : Nat), (14 : Nat), (17 : Nat), (21 : Nat)), ((0 : Nat), (14 : Nat), (21 : Nat), (13 : Nat)), ((0 : Nat), (14 : Nat), (25 : Nat), (15 : Nat))] ∈ wq_aw := wq_mem 523 (by decide +kernel) (by decide +kernel)
theorem aw_524 : Jvm.Cond.classLink "WharfQueryLaw" (21 : Nat) "java/lang/IndexOutOfBoundsException" ∈ wq_aw := wq_mem 524 (by decide +kernel) (by decide +kernel)
theorem aw_525 : Jvm.Cond.methodLink "WharfQueryLaw" (17 : Nat) yX8_insert ∈ wq_aw := wq_mem 525 (by decide +kernel) (by decide +kernel)
theorem aw_526 : Jvm.Cond.instanceMethod yX8_insert ∈ wq_aw := wq_mem 526 (by decide +kernel) (by decide +kernel)
theorem aw_527 : Jvm.Cond.selects "WharfQuery" yX8_insert yX8_insert ∈ wq_aw := wq_mem 527 (by decide +kernel) (by decide +kernel)
theorem aw_528 : Jvm.Cond.code yX8_insert prog_1_method_5_code (6 : Nat) (Option.some Jvm.ClassFile.FieldType.int) ∈ wq_aw := wq_mem 528 (by decide +kernel) (by decide +kernel)
theorem aw_529 : Jvm.Cond.methodLink "WharfQuery" (82 : Nat) yX8_findTable ∈ wq_aw := wq_mem 529 (by decide +kernel) (by decide +kernel)
theorem aw_531 : Jvm.Cond.instanceMethod yX8_findTable ∈ wq_aw := wq_mem 531 (by decide +kernel) (by decide +kernel)
theorem aw_532 : Jvm.Cond.code yX8_findTable prog_1_method_41_code (2 : Nat) (Option.some (Jvm.ClassFile.FieldType.object "WharfQuery$Table")) ∈ wq_aw := wq_mem 532 (by decide +kernel) (by decide +kernel)
theorem aw_533 : Jvm.Cond.classLink "WharfQuery" (286 : Nat) "java/lang/IndexOutOfBoundsException" ∈ wq_aw := wq_mem 533 (by decide +kernel) (by decide +kernel)
theorem aw_534 : Jvm.Cond.instantiable "java/lang/IndexOutOfBoundsException" (6 : Nat) ∈ wq_aw := wq_mem 534 (by decide +kernel) (by decide +kernel)
theorem aw_536 : Jvm.Cond.selects "java/lang/IndexOutOfBoundsException" ({ cls := "java/lang/Throwable", name := "fillInStackTrace", desc := "(I)Ljava/lang/Throwable;" } : Jvm.MethodName) ({ cls := "java/lang/Throwable", name := "fillInStackTrace", desc := "(I)Ljava/lang/Throwable;" } : Jvm.MethodName) ∈ wq_aw := wq_mem 536 (by decide +kernel) (by decide +kernel)
theorem aw_543 : Jvm.Cond.methodLink "WharfQuery" (290 : Nat) ({ cls := "java/lang/IndexOutOfBoundsException", name := "<init>", desc := "(Ljava/lang/String;)V" } : Jvm.MethodName) ∈ wq_aw := wq_mem 543 (by decide +kernel) (by decide +kernel)
theorem aw_544 : Jvm.Cond.instanceMethod ({ cls := "java/lang/IndexOutOfBoundsException", name := "<init>", desc := "(Ljava/lang/String;)V" } : Jvm.MethodName) ∈ wq_aw := wq_mem 544 (by decide +kernel) (by decide +kernel)
theorem aw_545 : Jvm.Cond.code ({ cls := "java/lang/IndexOutOfBoundsException", name := "<init>", desc := "(Ljava/lang/String;)V" } : Jvm.MethodName) prog_15_method_2_code (2 : Nat) (Option.none : Option Jvm.ClassFile.FieldType) ∈ wq_aw := wq_mem 545 (by decide +kernel) (by decide +kernel)
theorem aw_546 : Jvm.Cond.methodLink "java/lang/IndexOutOfBoundsException" (7 : Nat) ({ cls := "java/lang/RuntimeException", name := "<init>", desc := "(Ljava/lang/String;)V" } : Jvm.MethodName) ∈ wq_aw := wq_mem 546 (by decide +kernel) (by decide +kernel)
theorem aw_549 : Jvm.Cond.methodLink "WharfQuery" (86 : Nat) yX7_fits ∈ wq_aw := wq_mem 549 (by decide +kernel) (by decide +kernel)
theorem aw_550 : Jvm.Cond.instanceMethod yX7_fits ∈ wq_aw := wq_mem 550 (by decide +kernel) (by decide +kernel)
theorem aw_551 : Jvm.Cond.selects "WharfQuery$Table" yX7_fits yX7_fits ∈ wq_aw := wq_mem 551 (by decide +kernel) (by decide +kernel)
theorem aw_552 : Jvm.Cond.code yX7_fits prog_9_method_2_code (3 : Nat) (Option.some Jvm.ClassFile.FieldType.boolean) ∈ wq_aw := wq_mem 552 (by decide +kernel) (by decide +kernel)
theorem aw_555 : Jvm.Cond.methodLink "WharfQuery" (97 : Nat) yX7_put ∈ wq_aw := wq_mem 555 (by decide +kernel) (by decide +kernel)
theorem aw_556 : Jvm.Cond.instanceMethod yX7_put ∈ wq_aw := wq_mem 556 (by decide +kernel) (by decide +kernel)
theorem aw_557 : Jvm.Cond.selects "WharfQuery$Table" yX7_put yX7_put ∈ wq_aw := wq_mem 557 (by decide +kernel) (by decide +kernel)
theorem aw_558 : Jvm.Cond.code yX7_put prog_9_method_3_code (5 : Nat) (Option.some Jvm.ClassFile.FieldType.int) ∈ wq_aw := wq_mem 558 (by decide +kernel) (by decide +kernel)
theorem aw_559 : Jvm.Cond.methodLink "WharfQueryLaw" (141 : Nat) yL_delete ∈ wq_aw := wq_mem 559 (by decide +kernel) (by decide +kernel)
theorem aw_560 : Jvm.Cond.static yL_delete ∈ wq_aw := wq_mem 560 (by decide +kernel) (by decide +kernel)
theorem aw_561 : Jvm.Cond.codeWith yL_delete method_5_code (5 : Nat) (Option.some Jvm.ClassFile.FieldType.int) [((0 : Nat), (10 : Nat), (13 : Nat), (21 : Nat))] ∈ wq_aw := wq_mem 561 (by decide +kernel) (by decide +kernel)
theorem aw_562 : Jvm.Cond.methodLink "WharfQueryLaw" (23 : Nat) yX8_delete ∈ wq_aw := wq_mem 562 (by decide +kernel) (by decide +kernel)
theorem aw_563 : Jvm.Cond.instanceMethod yX8_delete ∈ wq_aw := wq_mem 563 (by decide +kernel) (by decide +kernel)
theorem aw_564 : Jvm.Cond.selects "WharfQuery" yX8_delete yX8_delete ∈ wq_aw := wq_mem 564 (by decide +kernel) (by decide +kernel)
theorem aw_565 : Jvm.Cond.code yX8_delete prog_1_method_6_code (4 : Nat) (Option.some Jvm.ClassFile.FieldType.int) ∈ wq_aw := wq_mem 565 (by decide +kernel) (by decide +kernel)
theorem aw_566 : Jvm.Cond.methodLink "WharfQuery" (101 : Nat) yX8_checkRow ∈ wq_aw := wq_mem 566 (by decide +kernel) (by decide +kernel)
theorem aw_567 : Jvm.Cond.static yX8_checkRow ∈ wq_aw := wq_mem 567 (by decide +kernel) (by decide +kernel)
theorem aw_568 : Jvm.Cond.code yX8_checkRow prog_1_method_45_code (2 : Nat) (Option.none : Option Jvm.ClassFile.FieldType) ∈ wq_aw := wq_mem 568 (by decide +kernel) (by decide +kernel)
theorem aw_570 : Jvm.Cond.methodLink "WharfQueryLaw" (145 : Nat) yL_setIndex ∈ wq_aw := wq_mem 570 (by decide +kernel) (by decide +kernel)
theorem aw_571 : Jvm.Cond.static yL_setIndex ∈ wq_aw := wq_mem 571 (by decide +kernel) (by decide +kernel)
theorem aw_572 : Jvm.Cond.codeWith yL_setIndex method_6_code (6 : Nat) (Option.some Jvm.ClassFile.FieldType.int) [((0 : Nat), (19 : Nat), (22 : Nat), (21 : Nat))] ∈ wq_aw := wq_mem 572 (by decide +kernel) (by decide +kernel)
theorem aw_573 : Jvm.Cond.methodLink "WharfQueryLaw" (27 : Nat) yX8_setIndex ∈ wq_aw := wq_mem 573 (by decide +kernel) (by decide +kernel)
theorem aw_574 : Jvm.Cond.instanceMethod yX8_setIndex ∈ wq_aw := wq_mem 574 (by decide +kernel) (by decide +kernel)
theorem aw_575 : Jvm.Cond.selects "WharfQuery" yX8_setIndex yX8_setIndex ∈ wq_aw := wq_mem 575 (by decide +kernel) (by decide +kernel)
theorem aw_576 : Jvm.Cond.code yX8_setIndex prog_1_method_7_code (6 : Nat) (Option.some Jvm.ClassFile.FieldType.boolean) ∈ wq_aw := wq_mem 576 (by decide +kernel) (by decide +kernel)
theorem aw_577 : Jvm.Cond.methodLink "WharfQuery" (112 : Nat) yX8_findColumn ∈ wq_aw := wq_mem 577 (by decide +kernel) (by decide +kernel)
theorem aw_579 : Jvm.Cond.instanceMethod yX8_findColumn ∈ wq_aw := wq_mem 579 (by decide +kernel) (by decide +kernel)
theorem aw_580 : Jvm.Cond.code yX8_findColumn prog_1_method_42_code (4 : Nat) (Option.some (Jvm.ClassFile.FieldType.object "WharfQuery$Column")) ∈ wq_aw := wq_mem 580 (by decide +kernel) (by decide +kernel)
theorem aw_581 : Jvm.Cond.methodLink "WharfQuery" (122 : Nat) yX8_checkColumn ∈ wq_aw := wq_mem 581 (by decide +kernel) (by decide +kernel)
theorem aw_582 : Jvm.Cond.static yX8_checkColumn ∈ wq_aw := wq_mem 582 (by decide +kernel) (by decide +kernel)
theorem aw_583 : Jvm.Cond.code yX8_checkColumn prog_1_method_44_code (2 : Nat) (Option.none : Option Jvm.ClassFile.FieldType) ∈ wq_aw := wq_mem 583 (by decide +kernel) (by decide +kernel)
theorem aw_585 : Jvm.Cond.methodLink "WharfQueryLaw" (149 : Nat) yL_rows ∈ wq_aw := wq_mem 585 (by decide +kernel) (by decide +kernel)
theorem aw_586 : Jvm.Cond.static yL_rows ∈ wq_aw := wq_mem 586 (by decide +kernel) (by decide +kernel)
theorem aw_587 : Jvm.Cond.codeWith yL_rows method_7_code (4 : Nat) (Option.some Jvm.ClassFile.FieldType.int) [((0 : Nat), (9 : Nat), (12 : Nat), (21 : Nat))] ∈ wq_aw := wq_mem 587 (by decide +kernel) (by decide +kernel)
theorem aw_588 : Jvm.Cond.methodLink "WharfQueryLaw" (31 : Nat) yX8_rows ∈ wq_aw := wq_mem 588 (by decide +kernel) (by decide +kernel)
theorem aw_589 : Jvm.Cond.instanceMethod yX8_rows ∈ wq_aw := wq_mem 589 (by decide +kernel) (by decide +kernel)
theorem aw_590 : Jvm.Cond.selects "WharfQuery" yX8_rows yX8_rows ∈ wq_aw := wq_mem 590 (by decide +kernel) (by decide +kernel)
theorem aw_591 : Jvm.Cond.code yX8_rows prog_1_method_8_code (2 : Nat) (Option.some Jvm.ClassFile.FieldType.int) ∈ wq_aw := wq_mem 591 (by decide +kernel) (by decide +kernel)
theorem aw_592 : Jvm.Cond.methodLink "WharfQueryLaw" (152 : Nat) yL_value ∈ wq_aw := wq_mem 592 (by decide +kernel) (by decide +kernel)
theorem aw_593 : Jvm.Cond.static yL_value ∈ wq_aw := wq_mem 593 (by decide +kernel) (by decide +kernel)
theorem aw_594 : Jvm.Cond.codeWith yL_value method_8_code (6 : Nat) (Option.some Jvm.ClassFile.FieldType.int) [((0 : Nat), (12 : Nat), (15 : Nat), (21 : Nat))] ∈ wq_aw := wq_mem 594 (by decide +kernel) (by decide +kernel)
theorem aw_595 : Jvm.Cond.methodLink "WharfQueryLaw" (34 : Nat) yX8_value ∈ wq_aw := wq_mem 595 (by decide +kernel) (by decide +kernel)
theorem aw_596 : Jvm.Cond.instanceMethod yX8_value ∈ wq_aw := wq_mem 596 (by decide +kernel) (by decide +kernel)
theorem aw_597 : Jvm.Cond.selects "WharfQuery" yX8_value yX8_value ∈ wq_aw := wq_mem 597 (by decide +kernel) (by decide +kernel)
theorem aw_598 : Jvm.Cond.code yX8_value prog_1_method_9_code (5 : Nat) (Option.some Jvm.ClassFile.FieldType.int) ∈ wq_aw := wq_mem 598 (by decide +kernel) (by decide +kernel)
theorem aw_599 : Jvm.Cond.methodLink "WharfQueryLaw" (156 : Nat) yL_renew ∈ wq_aw := wq_mem 599 (by decide +kernel) (by decide +kernel)
theorem aw_600 : Jvm.Cond.static yL_renew ∈ wq_aw := wq_mem 600 (by decide +kernel) (by decide +kernel)
theorem aw_601 : Jvm.Cond.codeWith yL_renew method_9_code (5 : Nat) (Option.some Jvm.ClassFile.FieldType.int) [((0 : Nat), (10 : Nat), (13 : Nat), (21 : Nat)), ((0 : Nat), (10 : Nat), (17 : Nat), (13 : Nat))] ∈ wq_aw := wq_mem 601 (by decide +kernel) (by decide +kernel)
theorem aw_602 : Jvm.Cond.methodLink "WharfQueryLaw" (38 : Nat) yX8_renew ∈ wq_aw := wq_mem 602 (by decide +kernel) (by decide +kernel)
theorem aw_603 : Jvm.Cond.instanceMethod yX8_renew ∈ wq_aw := wq_mem 603 (by decide +kernel) (by decide +kernel)
theorem aw_604 : Jvm.Cond.selects "WharfQuery" yX8_renew yX8_renew ∈ wq_aw := wq_mem 604 (by decide +kernel) (by decide +kernel)
theorem aw_605 : Jvm.Cond.code yX8_renew prog_1_method_10_code (4 : Nat) (Option.some Jvm.ClassFile.FieldType.int) ∈ wq_aw := wq_mem 605 (by decide +kernel) (by decide +kernel)
theorem aw_606 : Jvm.Cond.methodLink "WharfQuery" (129 : Nat) yX8_checkSampleStep ∈ wq_aw := wq_mem 606 (by decide +kernel) (by decide +kernel)
theorem aw_607 : Jvm.Cond.static yX8_checkSampleStep ∈ wq_aw := wq_mem 607 (by decide +kernel) (by decide +kernel)
theorem aw_608 : Jvm.Cond.code yX8_checkSampleStep prog_1_method_49_code (1 : Nat) (Option.none : Option Jvm.ClassFile.FieldType) ∈ wq_aw := wq_mem 608 (by decide +kernel) (by decide +kernel)
theorem aw_610 : Jvm.Cond.methodLink "WharfQuery" (133 : Nat) yX7_renewCounts ∈ wq_aw := wq_mem 610 (by decide +kernel) (by decide +kernel)
theorem aw_611 : Jvm.Cond.instanceMethod yX7_renewCounts ∈ wq_aw := wq_mem 611 (by decide +kernel) (by decide +kernel)
theorem aw_612 : Jvm.Cond.selects "WharfQuery$Table" yX7_renewCounts yX7_renewCounts ∈ wq_aw := wq_mem 612 (by decide +kernel) (by decide +kernel)
theorem aw_613 : Jvm.Cond.code yX7_renewCounts prog_9_method_5_code (4 : Nat) (Option.some Jvm.ClassFile.FieldType.int) ∈ wq_aw := wq_mem 613 (by decide +kernel) (by decide +kernel)
theorem aw_614 : Jvm.Cond.methodLink "WharfQuery$Table" (41 : Nat) yX7_takeSample ∈ wq_aw := wq_mem 614 (by decide +kernel) (by decide +kernel)
theorem aw_615 : Jvm.Cond.instanceMethod yX7_takeSample ∈ wq_aw := wq_mem 615 (by decide +kernel) (by decide +kernel)
theorem aw_616 : Jvm.Cond.selects "WharfQuery$Table" yX7_takeSample yX7_takeSample ∈ wq_aw := wq_mem 616 (by decide +kernel) (by decide +kernel)
theorem aw_617 : Jvm.Cond.code yX7_takeSample prog_9_method_4_code (6 : Nat) (Option.some Jvm.ClassFile.FieldType.int) ∈ wq_aw := wq_mem 617 (by decide +kernel) (by decide +kernel)
theorem aw_618 : Jvm.Cond.methodLink "WharfQuery$Table" (48 : Nat) yX7_tellColumn ∈ wq_aw := wq_mem 618 (by decide +kernel) (by decide +kernel)
theorem aw_620 : Jvm.Cond.instanceMethod yX7_tellColumn ∈ wq_aw := wq_mem 620 (by decide +kernel) (by decide +kernel)
theorem aw_621 : Jvm.Cond.code yX7_tellColumn prog_9_method_6_code (9 : Nat) (Option.none : Option Jvm.ClassFile.FieldType) ∈ wq_aw := wq_mem 621 (by decide +kernel) (by decide +kernel)
theorem aw_622 : Jvm.Cond.methodLink "WharfQuery$Table" (52 : Nat) yX7_isNewInSample ∈ wq_aw := wq_mem 622 (by decide +kernel) (by decide +kernel)
theorem aw_624 : Jvm.Cond.instanceMethod yX7_isNewInSample ∈ wq_aw := wq_mem 624 (by decide +kernel) (by decide +kernel)
theorem aw_625 : Jvm.Cond.code yX7_isNewInSample prog_9_method_7_code (4 : Nat) (Option.some Jvm.ClassFile.FieldType.boolean) ∈ wq_aw := wq_mem 625 (by decide +kernel) (by decide +kernel)
theorem aw_626 : Jvm.Cond.methodLink "WharfQuery$Table" (56 : Nat) ({ cls := "java/lang/Math", name := "min", desc := "(II)I" } : Jvm.MethodName) ∈ wq_aw := wq_mem 626 (by decide +kernel) (by decide +kernel)
theorem aw_627 : Jvm.Cond.static ({ cls := "java/lang/Math", name := "min", desc := "(II)I" } : Jvm.MethodName) ∈ wq_aw := wq_mem 627 (by decide +kernel) (by decide +kernel)
theorem aw_628 : Jvm.Cond.code ({ cls := "java/lang/Math", name := "min", desc := "(II)I" } : Jvm.MethodName) prog_16_method_69_code (2 : Nat) (Option.some Jvm.ClassFile.FieldType.int) ∈ wq_aw := wq_mem 628 (by decide +kernel) (by decide +kernel)
theorem aw_629 : Jvm.Cond.methodLink "WharfQueryLaw" (159 : Nat) yL_setStep ∈ wq_aw := wq_mem 629 (by decide +kernel) (by decide +kernel)
theorem aw_630 : Jvm.Cond.static yL_setStep ∈ wq_aw := wq_mem 630 (by decide +kernel) (by decide +kernel)
theorem aw_631 : Jvm.Cond.codeWith yL_setStep method_10_code (4 : Nat) (Option.some Jvm.ClassFile.FieldType.int) [((0 : Nat), (9 : Nat), (12 : Nat), (13 : Nat))] ∈ wq_aw := wq_mem 631 (by decide +kernel) (by decide +kernel)
theorem aw_632 : Jvm.Cond.methodLink "WharfQueryLaw" (41 : Nat) yX8_setStep ∈ wq_aw := wq_mem 632 (by decide +kernel) (by decide +kernel)
theorem aw_633 : Jvm.Cond.instanceMethod yX8_setStep ∈ wq_aw := wq_mem 633 (by decide +kernel) (by decide +kernel)
theorem aw_634 : Jvm.Cond.selects "WharfQuery" yX8_setStep yX8_setStep ∈ wq_aw := wq_mem 634 (by decide +kernel) (by decide +kernel)
theorem aw_635 : Jvm.Cond.code yX8_setStep prog_1_method_11_code (3 : Nat) (Option.some Jvm.ClassFile.FieldType.int) ∈ wq_aw := wq_mem 635 (by decide +kernel) (by decide +kernel)
theorem aw_636 : Jvm.Cond.methodLink "WharfQueryLaw" (162 : Nat) yL_toldRows ∈ wq_aw := wq_mem 636 (by decide +kernel) (by decide +kernel)
theorem aw_637 : Jvm.Cond.static yL_toldRows ∈ wq_aw := wq_mem 637 (by decide +kernel) (by decide +kernel)
theorem aw_638 : Jvm.Cond.codeWith yL_toldRows method_11_code (4 : Nat) (Option.some Jvm.ClassFile.FieldType.int) [((0 : Nat), (9 : Nat), (12 : Nat), (21 : Nat))] ∈ wq_aw := wq_mem 638 (by decide +kernel) (by decide +kernel)
theorem aw_639 : Jvm.Cond.methodLink "WharfQueryLaw" (44 : Nat) yX8_toldRows ∈ wq_aw := wq_mem 639 (by decide +kernel) (by decide +kernel)
theorem aw_640 : Jvm.Cond.instanceMethod yX8_toldRows ∈ wq_aw := wq_mem 640 (by decide +kernel) (by decide +kernel)
theorem aw_641 : Jvm.Cond.selects "WharfQuery" yX8_toldRows yX8_toldRows ∈ wq_aw := wq_mem 641 (by decide +kernel) (by decide +kernel)
theorem aw_642 : Jvm.Cond.code yX8_toldRows prog_1_method_12_code (2 : Nat) (Option.some Jvm.ClassFile.FieldType.int) ∈ wq_aw := wq_mem 642 (by decide +kernel) (by decide +kernel)
theorem aw_643 : Jvm.Cond.methodLink "WharfQueryLaw" (165 : Nat) yL_unlike ∈ wq_aw := wq_mem 643 (by decide +kernel) (by decide +kernel)
theorem aw_644 : Jvm.Cond.static yL_unlike ∈ wq_aw := wq_mem 644 (by decide +kernel) (by decide +kernel)
theorem aw_645 : Jvm.Cond.codeWith yL_unlike method_12_code (5 : Nat) (Option.some Jvm.ClassFile.FieldType.int) [((0 : Nat), (10 : Nat), (13 : Nat), (21 : Nat))] ∈ wq_aw := wq_mem 645 (by decide +kernel) (by decide +kernel)
theorem aw_646 : Jvm.Cond.methodLink "WharfQueryLaw" (47 : Nat) yX8_unlike ∈ wq_aw := wq_mem 646 (by decide +kernel) (by decide +kernel)
theorem aw_647 : Jvm.Cond.instanceMethod yX8_unlike ∈ wq_aw := wq_mem 647 (by decide +kernel) (by decide +kernel)
theorem aw_648 : Jvm.Cond.selects "WharfQuery" yX8_unlike yX8_unlike ∈ wq_aw := wq_mem 648 (by decide +kernel) (by decide +kernel)
theorem aw_649 : Jvm.Cond.code yX8_unlike prog_1_method_13_code (3 : Nat) (Option.some Jvm.ClassFile.FieldType.int) ∈ wq_aw := wq_mem 649 (by decide +kernel) (by decide +kernel)
theorem aw_650 : Jvm.Cond.methodLink "WharfQueryLaw" (168 : Nat) yL_least ∈ wq_aw := wq_mem 650 (by decide +kernel) (by decide +kernel)
theorem aw_651 : Jvm.Cond.static yL_least ∈ wq_aw := wq_mem 651 (by decide +kernel) (by decide +kernel)
theorem aw_652 : Jvm.Cond.codeWith yL_least method_13_code (5 : Nat) (Option.some Jvm.ClassFile.FieldType.int) [((0 : Nat), (10 : Nat), (13 : Nat), (21 : Nat))] ∈ wq_aw := wq_mem 652 (by decide +kernel) (by decide +kernel)
theorem aw_653 : Jvm.Cond.methodLink "WharfQueryLaw" (50 : Nat) yX8_least ∈ wq_aw := wq_mem 653 (by decide +kernel) (by decide +kernel)
theorem aw_654 : Jvm.Cond.instanceMethod yX8_least ∈ wq_aw := wq_mem 654 (by decide +kernel) (by decide +kernel)
theorem aw_655 : Jvm.Cond.selects "WharfQuery" yX8_least yX8_least ∈ wq_aw := wq_mem 655 (by decide +kernel) (by decide +kernel)
theorem aw_656 : Jvm.Cond.code yX8_least prog_1_method_14_code (3 : Nat) (Option.some Jvm.ClassFile.FieldType.int) ∈ wq_aw := wq_mem 656 (by decide +kernel) (by decide +kernel)
theorem aw_657 : Jvm.Cond.methodLink "WharfQueryLaw" (171 : Nat) yL_greatest ∈ wq_aw := wq_mem 657 (by decide +kernel) (by decide +kernel)
theorem aw_658 : Jvm.Cond.static yL_greatest ∈ wq_aw := wq_mem 658 (by decide +kernel) (by decide +kernel)
theorem aw_659 : Jvm.Cond.codeWith yL_greatest method_14_code (5 : Nat) (Option.some Jvm.ClassFile.FieldType.int) [((0 : Nat), (10 : Nat), (13 : Nat), (21 : Nat))] ∈ wq_aw := wq_mem 659 (by decide +kernel) (by decide +kernel)
theorem aw_660 : Jvm.Cond.methodLink "WharfQueryLaw" (53 : Nat) yX8_greatest ∈ wq_aw := wq_mem 660 (by decide +kernel) (by decide +kernel)
theorem aw_661 : Jvm.Cond.instanceMethod yX8_greatest ∈ wq_aw := wq_mem 661 (by decide +kernel) (by decide +kernel)
theorem aw_662 : Jvm.Cond.selects "WharfQuery" yX8_greatest yX8_greatest ∈ wq_aw := wq_mem 662 (by decide +kernel) (by decide +kernel)
theorem aw_663 : Jvm.Cond.code yX8_greatest prog_1_method_15_code (3 : Nat) (Option.some Jvm.ClassFile.FieldType.int) ∈ wq_aw := wq_mem 663 (by decide +kernel) (by decide +kernel)
theorem aw_664 : Jvm.Cond.methodLink "WharfQueryLaw" (174 : Nat) yL_isMarked ∈ wq_aw := wq_mem 664 (by decide +kernel) (by decide +kernel)
theorem aw_665 : Jvm.Cond.static yL_isMarked ∈ wq_aw := wq_mem 665 (by decide +kernel) (by decide +kernel)
theorem aw_666 : Jvm.Cond.codeWith yL_isMarked method_15_code (4 : Nat) (Option.some Jvm.ClassFile.FieldType.int) [((0 : Nat), (16 : Nat), (19 : Nat), (21 : Nat))] ∈ wq_aw := wq_mem 666 (by decide +kernel) (by decide +kernel)
theorem aw_667 : Jvm.Cond.methodLink "WharfQueryLaw" (56 : Nat) yX8_isMarked ∈ wq_aw := wq_mem 667 (by decide +kernel) (by decide +kernel)
theorem aw_668 : Jvm.Cond.instanceMethod yX8_isMarked ∈ wq_aw := wq_mem 668 (by decide +kernel) (by decide +kernel)
theorem aw_669 : Jvm.Cond.selects "WharfQuery" yX8_isMarked yX8_isMarked ∈ wq_aw := wq_mem 669 (by decide +kernel) (by decide +kernel)
theorem aw_670 : Jvm.Cond.code yX8_isMarked prog_1_method_16_code (2 : Nat) (Option.some Jvm.ClassFile.FieldType.boolean) ∈ wq_aw := wq_mem 670 (by decide +kernel) (by decide +kernel)
theorem aw_671 : Jvm.Cond.methodLink "WharfQueryLaw" (177 : Nat) yL_addReport ∈ wq_aw := wq_mem 671 (by decide +kernel) (by decide +kernel)
theorem aw_672 : Jvm.Cond.static yL_addReport ∈ wq_aw := wq_mem 672 (by decide +kernel) (by decide +kernel)
theorem aw_673 : Jvm.Cond.codeWith yL_addReport method_16_code (4 : Nat) (Option.some Jvm.ClassFile.FieldType.int) [((0 : Nat), (9 : Nat), (12 : Nat), (13 : Nat)), ((0 : Nat), (9 : Nat), (15 : Nat), (15 : Nat))] ∈ wq_aw := wq_mem 673 (by decide +kernel) (by decide +kernel)
theorem aw_674 : Jvm.Cond.methodLink "WharfQueryLaw" (60 : Nat) yX8_addReport ∈ wq_aw := wq_mem 674 (by decide +kernel) (by decide +kernel)
theorem aw_675 : Jvm.Cond.instanceMethod yX8_addReport ∈ wq_aw := wq_mem 675 (by decide +kernel) (by decide +kernel)
theorem aw_676 : Jvm.Cond.selects "WharfQuery" yX8_addReport yX8_addReport ∈ wq_aw := wq_mem 676 (by decide +kernel) (by decide +kernel)
theorem aw_677 : Jvm.Cond.code yX8_addReport prog_1_method_17_code (2 : Nat) (Option.some Jvm.ClassFile.FieldType.int) ∈ wq_aw := wq_mem 677 (by decide +kernel) (by decide +kernel)
theorem aw_680 : Jvm.Cond.methodLink "WharfQueryLaw" (180 : Nat) yL_addSource ∈ wq_aw := wq_mem 680 (by decide +kernel) (by decide +kernel)
theorem aw_681 : Jvm.Cond.static yL_addSource ∈ wq_aw := wq_mem 681 (by decide +kernel) (by decide +kernel)
theorem aw_682 : Jvm.Cond.codeWith yL_addSource method_17_code (5 : Nat) (Option.some Jvm.ClassFile.FieldType.int) [((0 : Nat), (10 : Nat), (13 : Nat), (21 : Nat)), ((0 : Nat), (10 : Nat), (17 : Nat), (15 : Nat))] ∈ wq_aw := wq_mem 682 (by decide +kernel) (by decide +kernel)
theorem aw_683 : Jvm.Cond.methodLink "WharfQueryLaw" (63 : Nat) yX8_addSource ∈ wq_aw := wq_mem 683 (by decide +kernel) (by decide +kernel)
theorem aw_684 : Jvm.Cond.instanceMethod yX8_addSource ∈ wq_aw := wq_mem 684 (by decide +kernel) (by decide +kernel)
theorem aw_685 : Jvm.Cond.selects "WharfQuery" yX8_addSource yX8_addSource ∈ wq_aw := wq_mem 685 (by decide +kernel) (by decide +kernel)
theorem aw_686 : Jvm.Cond.code yX8_addSource prog_1_method_18_code (4 : Nat) (Option.some Jvm.ClassFile.FieldType.int) ∈ wq_aw := wq_mem 686 (by decide +kernel) (by decide +kernel)
theorem aw_687 : Jvm.Cond.methodLink "WharfQuery" (165 : Nat) yX8_findReport ∈ wq_aw := wq_mem 687 (by decide +kernel) (by decide +kernel)
theorem aw_689 : Jvm.Cond.instanceMethod yX8_findReport ∈ wq_aw := wq_mem 689 (by decide +kernel) (by decide +kernel)
theorem aw_690 : Jvm.Cond.code yX8_findReport prog_1_method_43_code (2 : Nat) (Option.some (Jvm.ClassFile.FieldType.object "WharfQuery$Report")) ∈ wq_aw := wq_mem 690 (by decide +kernel) (by decide +kernel)
theorem aw_693 : Jvm.Cond.methodLink "WharfQueryLaw" (183 : Nat) yL_addCondition ∈ wq_aw := wq_mem 693 (by decide +kernel) (by decide +kernel)
theorem aw_694 : Jvm.Cond.static yL_addCondition ∈ wq_aw := wq_mem 694 (by decide +kernel) (by decide +kernel)
theorem aw_695 : Jvm.Cond.codeWith yL_addCondition method_18_code (8 : Nat) (Option.some Jvm.ClassFile.FieldType.int) [((0 : Nat), (16 : Nat), (19 : Nat), (21 : Nat)), ((0 : Nat), (16 : Nat), (23 : Nat), (13 : Nat)), ((0 : Nat), (16 : Nat), (27 : Nat), (15 : Nat))] ∈ wq_aw := wq_mem 695 (by decide +kernel) (by decide +kernel)
theorem aw_696 : Jvm.Cond.methodLink "WharfQueryLaw" (66 : Nat) yX8_addCondition ∈ wq_aw := wq_mem 696 (by decide +kernel) (by decide +kernel)
theorem aw_697 : Jvm.Cond.instanceMethod yX8_addCondition ∈ wq_aw := wq_mem 697 (by decide +kernel) (by decide +kernel)
theorem aw_698 : Jvm.Cond.selects "WharfQuery" yX8_addCondition yX8_addCondition ∈ wq_aw := wq_mem 698 (by decide +kernel) (by decide +kernel)
theorem aw_699 : Jvm.Cond.code yX8_addCondition prog_1_method_19_code (7 : Nat) (Option.some Jvm.ClassFile.FieldType.int) ∈ wq_aw := wq_mem 699 (by decide +kernel) (by decide +kernel)
theorem aw_700 : Jvm.Cond.methodLink "WharfQuery" (178 : Nat) yX8_checkSourceColumn ∈ wq_aw := wq_mem 700 (by decide +kernel) (by decide +kernel)
theorem aw_702 : Jvm.Cond.instanceMethod yX8_checkSourceColumn ∈ wq_aw := wq_mem 702 (by decide +kernel) (by decide +kernel)
theorem aw_703 : Jvm.Cond.code yX8_checkSourceColumn prog_1_method_46_code (4 : Nat) (Option.none : Option Jvm.ClassFile.FieldType) ∈ wq_aw := wq_mem 703 (by decide +kernel) (by decide +kernel)
theorem aw_707 : Jvm.Cond.methodLink "WharfQuery" (186 : Nat) yX8_checkConditionRoom ∈ wq_aw := wq_mem 707 (by decide +kernel) (by decide +kernel)
theorem aw_708 : Jvm.Cond.static yX8_checkConditionRoom ∈ wq_aw := wq_mem 708 (by decide +kernel) (by decide +kernel)
theorem aw_709 : Jvm.Cond.code yX8_checkConditionRoom prog_1_method_48_code (1 : Nat) (Option.none : Option Jvm.ClassFile.FieldType) ∈ wq_aw := wq_mem 709 (by decide +kernel) (by decide +kernel)
theorem aw_711 : Jvm.Cond.methodLink "WharfQuery" (197 : Nat) yX1_compare ∈ wq_aw := wq_mem 711 (by decide +kernel) (by decide +kernel)
theorem aw_712 : Jvm.Cond.instanceMethod yX1_compare ∈ wq_aw := wq_mem 712 (by decide +kernel) (by decide +kernel)
theorem aw_713 : Jvm.Cond.selects "WharfQuery$Condition" yX1_compare yX1_compare ∈ wq_aw := wq_mem 713 (by decide +kernel) (by decide +kernel)
theorem aw_714 : Jvm.Cond.code yX1_compare prog_3_method_2_code (5 : Nat) (Option.none : Option Jvm.ClassFile.FieldType) ∈ wq_aw := wq_mem 714 (by decide +kernel) (by decide +kernel)
theorem aw_715 : Jvm.Cond.methodLink "WharfQueryLaw" (187 : Nat) yL_addJoin ∈ wq_aw := wq_mem 715 (by decide +kernel) (by decide +kernel)
theorem aw_716 : Jvm.Cond.static yL_addJoin ∈ wq_aw := wq_mem 716 (by decide +kernel) (by decide +kernel)
theorem aw_717 : Jvm.Cond.codeWith yL_addJoin method_19_code (8 : Nat) (Option.some Jvm.ClassFile.FieldType.int) [((0 : Nat), (16 : Nat), (19 : Nat), (21 : Nat)), ((0 : Nat), (16 : Nat), (23 : Nat), (13 : Nat)), ((0 : Nat), (16 : Nat), (27 : Nat), (15 : Nat))] ∈ wq_aw := wq_mem 717 (by decide +kernel) (by decide +kernel)
theorem aw_718 : Jvm.Cond.methodLink "WharfQueryLaw" (70 : Nat) yX8_addJoin ∈ wq_aw := wq_mem 718 (by decide +kernel) (by decide +kernel)
theorem aw_719 : Jvm.Cond.instanceMethod yX8_addJoin ∈ wq_aw := wq_mem 719 (by decide +kernel) (by decide +kernel)
theorem aw_720 : Jvm.Cond.selects "WharfQuery" yX8_addJoin yX8_addJoin ∈ wq_aw := wq_mem 720 (by decide +kernel) (by decide +kernel)
theorem aw_721 : Jvm.Cond.code yX8_addJoin prog_1_method_20_code (7 : Nat) (Option.some Jvm.ClassFile.FieldType.int) ∈ wq_aw := wq_mem 721 (by decide +kernel) (by decide +kernel)
theorem aw_723 : Jvm.Cond.methodLink "WharfQuery" (205 : Nat) yX1_join ∈ wq_aw := wq_mem 723 (by decide +kernel) (by decide +kernel)
theorem aw_724 : Jvm.Cond.instanceMethod yX1_join ∈ wq_aw := wq_mem 724 (by decide +kernel) (by decide +kernel)
theorem aw_725 : Jvm.Cond.selects "WharfQuery$Condition" yX1_join yX1_join ∈ wq_aw := wq_mem 725 (by decide +kernel) (by decide +kernel)
theorem aw_726 : Jvm.Cond.code yX1_join prog_3_method_3_code (5 : Nat) (Option.none : Option Jvm.ClassFile.FieldType) ∈ wq_aw := wq_mem 726 (by decide +kernel) (by decide +kernel)
theorem aw_727 : Jvm.Cond.methodLink "WharfQueryLaw" (190 : Nat) yL_dropCondition ∈ wq_aw := wq_mem 727 (by decide +kernel) (by decide +kernel)
theorem aw_728 : Jvm.Cond.static yL_dropCondition ∈ wq_aw := wq_mem 728 (by decide +kernel) (by decide +kernel)
theorem aw_729 : Jvm.Cond.codeWith yL_dropCondition method_20_code (4 : Nat) (Option.some Jvm.ClassFile.FieldType.int) [((0 : Nat), (9 : Nat), (12 : Nat), (21 : Nat)), ((0 : Nat), (9 : Nat), (15 : Nat), (15 : Nat))] ∈ wq_aw := wq_mem 729 (by decide +kernel) (by decide +kernel)
theorem aw_730 : Jvm.Cond.methodLink "WharfQueryLaw" (73 : Nat) yX8_dropCondition ∈ wq_aw := wq_mem 730 (by decide +kernel) (by decide +kernel)
theorem aw_731 : Jvm.Cond.instanceMethod yX8_dropCondition ∈ wq_aw := wq_mem 731 (by decide +kernel) (by decide +kernel)
theorem aw_732 : Jvm.Cond.selects "WharfQuery" yX8_dropCondition yX8_dropCondition ∈ wq_aw := wq_mem 732 (by decide +kernel) (by decide +kernel)
theorem aw_733 : Jvm.Cond.code yX8_dropCondition prog_1_method_21_code (3 : Nat) (Option.some Jvm.ClassFile.FieldType.int) ∈ wq_aw := wq_mem 733 (by decide +kernel) (by decide +kernel)
theorem aw_735 : Jvm.Cond.methodLink "WharfQueryLaw" (193 : Nat) yL_setSum ∈ wq_aw := wq_mem 735 (by decide +kernel) (by decide +kernel)
theorem aw_736 : Jvm.Cond.static yL_setSum ∈ wq_aw := wq_mem 736 (by decide +kernel) (by decide +kernel)
theorem aw_737 : Jvm.Cond.codeWith yL_setSum method_21_code (5 : Nat) (Option.some Jvm.ClassFile.FieldType.int) [((0 : Nat), (7 : Nat), (10 : Nat), (21 : Nat))] ∈ wq_aw := wq_mem 737 (by decide +kernel) (by decide +kernel)
theorem aw_738 : Jvm.Cond.methodLink "WharfQueryLaw" (76 : Nat) yX8_setSum ∈ wq_aw := wq_mem 738 (by decide +kernel) (by decide +kernel)
theorem aw_739 : Jvm.Cond.instanceMethod yX8_setSum ∈ wq_aw := wq_mem 739 (by decide +kernel) (by decide +kernel)
theorem aw_740 : Jvm.Cond.selects "WharfQuery" yX8_setSum yX8_setSum ∈ wq_aw := wq_mem 740 (by decide +kernel) (by decide +kernel)
theorem aw_741 : Jvm.Cond.code yX8_setSum prog_1_method_22_code (5 : Nat) (Option.none : Option Jvm.ClassFile.FieldType) ∈ wq_aw := wq_mem 741 (by decide +kernel) (by decide +kernel)
theorem aw_742 : Jvm.Cond.methodLink "WharfQueryLaw" (197 : Nat) yL_setDue ∈ wq_aw := wq_mem 742 (by decide +kernel) (by decide +kernel)
theorem aw_743 : Jvm.Cond.static yL_setDue ∈ wq_aw := wq_mem 743 (by decide +kernel) (by decide +kernel)
theorem aw_744 : Jvm.Cond.codeWith yL_setDue method_22_code (5 : Nat) (Option.some Jvm.ClassFile.FieldType.int) [((0 : Nat), (17 : Nat), (20 : Nat), (21 : Nat))] ∈ wq_aw := wq_mem 744 (by decide +kernel) (by decide +kernel)
theorem aw_745 : Jvm.Cond.methodLink "WharfQueryLaw" (80 : Nat) yX8_setDue ∈ wq_aw := wq_mem 745 (by decide +kernel) (by decide +kernel)
theorem aw_746 : Jvm.Cond.instanceMethod yX8_setDue ∈ wq_aw := wq_mem 746 (by decide +kernel) (by decide +kernel)
theorem aw_747 : Jvm.Cond.selects "WharfQuery" yX8_setDue yX8_setDue ∈ wq_aw := wq_mem 747 (by decide +kernel) (by decide +kernel)
theorem aw_748 : Jvm.Cond.code yX8_setDue prog_1_method_23_code (5 : Nat) (Option.some Jvm.ClassFile.FieldType.boolean) ∈ wq_aw := wq_mem 748 (by decide +kernel) (by decide +kernel)
theorem aw_749 : Jvm.Cond.methodLink "WharfQueryLaw" (201 : Nat) yL_isDue ∈ wq_aw := wq_mem 749 (by decide +kernel) (by decide +kernel)
theorem aw_750 : Jvm.Cond.static yL_isDue ∈ wq_aw := wq_mem 750 (by decide +kernel) (by decide +kernel)
theorem aw_751 : Jvm.Cond.codeWith yL_isDue method_23_code (4 : Nat) (Option.some Jvm.ClassFile.FieldType.int) [((0 : Nat), (16 : Nat), (19 : Nat), (21 : Nat))] ∈ wq_aw := wq_mem 751 (by decide +kernel) (by decide +kernel)
theorem aw_752 : Jvm.Cond.methodLink "WharfQueryLaw" (84 : Nat) yX8_isDue ∈ wq_aw := wq_mem 752 (by decide +kernel) (by decide +kernel)
theorem aw_753 : Jvm.Cond.instanceMethod yX8_isDue ∈ wq_aw := wq_mem 753 (by decide +kernel) (by decide +kernel)
theorem aw_754 : Jvm.Cond.selects "WharfQuery" yX8_isDue yX8_isDue ∈ wq_aw := wq_mem 754 (by decide +kernel) (by decide +kernel)
theorem aw_755 : Jvm.Cond.code yX8_isDue prog_1_method_24_code (2 : Nat) (Option.some Jvm.ClassFile.FieldType.boolean) ∈ wq_aw := wq_mem 755 (by decide +kernel) (by decide +kernel)
theorem aw_756 : Jvm.Cond.methodLink "WharfQueryLaw" (204 : Nat) yL_planSource ∈ wq_aw := wq_mem 756 (by decide +kernel) (by decide +kernel)
theorem aw_757 : Jvm.Cond.static yL_planSource ∈ wq_aw := wq_mem 757 (by decide +kernel) (by decide +kernel)
theorem aw_758 : Jvm.Cond.codeWith yL_planSource method_24_code (5 : Nat) (Option.some Jvm.ClassFile.FieldType.int) [((0 : Nat), (10 : Nat), (13 : Nat), (21 : Nat))] ∈ wq_aw := wq_mem 758 (by decide +kernel) (by decide +kernel)
theorem aw_759 : Jvm.Cond.methodLink "WharfQueryLaw" (87 : Nat) yX8_planSource ∈ wq_aw := wq_mem 759 (by decide +kernel) (by decide +kernel)
theorem aw_760 : Jvm.Cond.instanceMethod yX8_planSource ∈ wq_aw := wq_mem 760 (by decide +kernel) (by decide +kernel)
theorem aw_761 : Jvm.Cond.selects "WharfQuery" yX8_planSource yX8_planSource ∈ wq_aw := wq_mem 761 (by decide +kernel) (by decide +kernel)
theorem aw_762 : Jvm.Cond.code yX8_planSource prog_1_method_25_code (4 : Nat) (Option.some Jvm.ClassFile.FieldType.int) ∈ wq_aw := wq_mem 762 (by decide +kernel) (by decide +kernel)
theorem aw_763 : Jvm.Cond.methodLink "WharfQuery" (219 : Nat) yX8_checkPlanStep ∈ wq_aw := wq_mem 763 (by decide +kernel) (by decide +kernel)
theorem aw_764 : Jvm.Cond.static yX8_checkPlanStep ∈ wq_aw := wq_mem 764 (by decide +kernel) (by decide +kernel)
theorem aw_765 : Jvm.Cond.code yX8_checkPlanStep prog_1_method_47_code (2 : Nat) (Option.none : Option Jvm.ClassFile.FieldType) ∈ wq_aw := wq_mem 765 (by decide +kernel) (by decide +kernel)
theorem aw_767 : Jvm.Cond.methodLink "WharfQuery" (223 : Nat) yX4_choose ∈ wq_aw := wq_mem 767 (by decide +kernel) (by decide +kernel)
theorem aw_768 : Jvm.Cond.instanceMethod yX4_choose ∈ wq_aw := wq_mem 768 (by decide +kernel) (by decide +kernel)
theorem aw_769 : Jvm.Cond.selects "WharfQuery$Planner" yX4_choose yX4_choose ∈ wq_aw := wq_mem 769 (by decide +kernel) (by decide +kernel)
theorem aw_770 : Jvm.Cond.code yX4_choose prog_6_method_2_code (2 : Nat) (Option.some (Jvm.ClassFile.FieldType.object "WharfQuery$Plan")) ∈ wq_aw := wq_mem 770 (by decide +kernel) (by decide +kernel)
theorem aw_771 : Jvm.Cond.methodLink "WharfQuery$Planner" (25 : Nat) yX3_clear ∈ wq_aw := wq_mem 771 (by decide +kernel) (by decide +kernel)
theorem aw_772 : Jvm.Cond.instanceMethod yX3_clear ∈ wq_aw := wq_mem 772 (by decide +kernel) (by decide +kernel)
theorem aw_773 : Jvm.Cond.selects "WharfQuery$Plan" yX3_clear yX3_clear ∈ wq_aw := wq_mem 773 (by decide +kernel) (by decide +kernel)
theorem aw_774 : Jvm.Cond.code yX3_clear prog_5_method_2_code (2 : Nat) (Option.none : Option Jvm.ClassFile.FieldType) ∈ wq_aw := wq_mem 774 (by decide +kernel) (by decide +kernel)
theorem aw_775 : Jvm.Cond.constantLong "WharfQuery$Planner" (30 : Nat) (9223372036854775807 : Int64) ∈ wq_aw := wq_mem 775 (by decide +kernel) (by decide +kernel)
theorem aw_776 : Jvm.Cond.constantLong "WharfQuery$Planner" (36 : Nat) (1000 : Int64) ∈ wq_aw := wq_mem 776 (by decide +kernel) (by decide +kernel)
theorem aw_777 : Jvm.Cond.methodLink "WharfQuery$Planner" (38 : Nat) yX4_extend ∈ wq_aw := wq_mem 777 (by decide +kernel) (by decide +kernel)
theorem aw_778 : Jvm.Cond.static yX4_extend ∈ wq_aw := wq_mem 778 (by decide +kernel) (by decide +kernel)
theorem aw_779 : Jvm.Cond.code yX4_extend prog_6_method_3_code (13 : Nat) (Option.none : Option Jvm.ClassFile.FieldType) ∈ wq_aw := wq_mem 779 (by decide +kernel) (by decide +kernel)
theorem aw_780 : Jvm.Cond.methodLink "WharfQuery$Planner" (48 : Nat) yX3_copyFrom ∈ wq_aw := wq_mem 780 (by decide +kernel) (by decide +kernel)
theorem aw_781 : Jvm.Cond.instanceMethod yX3_copyFrom ∈ wq_aw := wq_mem 781 (by decide +kernel) (by decide +kernel)
theorem aw_782 : Jvm.Cond.selects "WharfQuery$Plan" yX3_copyFrom yX3_copyFrom ∈ wq_aw := wq_mem 782 (by decide +kernel) (by decide +kernel)
theorem aw_783 : Jvm.Cond.code yX3_copyFrom prog_5_method_5_code (5 : Nat) (Option.none : Option Jvm.ClassFile.FieldType) ∈ wq_aw := wq_mem 783 (by decide +kernel) (by decide +kernel)
theorem aw_784 : Jvm.Cond.methodLink "WharfQuery$Planner" (56 : Nat) yX3_place ∈ wq_aw := wq_mem 784 (by decide +kernel) (by decide +kernel)
theorem aw_785 : Jvm.Cond.instanceMethod yX3_place ∈ wq_aw := wq_mem 785 (by decide +kernel) (by decide +kernel)
theorem aw_786 : Jvm.Cond.selects "WharfQuery$Plan" yX3_place yX3_place ∈ wq_aw := wq_mem 786 (by decide +kernel) (by decide +kernel)
theorem aw_787 : Jvm.Cond.code yX3_place prog_5_method_3_code (3 : Nat) (Option.none : Option Jvm.ClassFile.FieldType) ∈ wq_aw := wq_mem 787 (by decide +kernel) (by decide +kernel)
theorem aw_788 : Jvm.Cond.methodLink "WharfQuery$Planner" (60 : Nat) yX4_takeCheapestWay ∈ wq_aw := wq_mem 788 (by decide +kernel) (by decide +kernel)
theorem aw_790 : Jvm.Cond.instanceMethod yX4_takeCheapestWay ∈ wq_aw := wq_mem 790 (by decide +kernel) (by decide +kernel)
theorem aw_791 : Jvm.Cond.code yX4_takeCheapestWay prog_6_method_4_code (14 : Nat) (Option.some Jvm.ClassFile.FieldType.long) ∈ wq_aw := wq_mem 791 (by decide +kernel) (by decide +kernel)
theorem aw_792 : Jvm.Cond.methodLink "WharfQuery$Planner" (94 : Nat) yX5_conditionForIndex ∈ wq_aw := wq_mem 792 (by decide +kernel) (by decide +kernel)
theorem aw_793 : Jvm.Cond.instanceMethod yX5_conditionForIndex ∈ wq_aw := wq_mem 793 (by decide +kernel) (by decide +kernel)
theorem aw_794 : Jvm.Cond.selects "WharfQuery$Report" yX5_conditionForIndex yX5_conditionForIndex ∈ wq_aw := wq_mem 794 (by decide +kernel) (by decide +kernel)
theorem aw_795 : Jvm.Cond.code yX5_conditionForIndex prog_7_method_2_code (7 : Nat) (Option.some Jvm.ClassFile.FieldType.int) ∈ wq_aw := wq_mem 795 (by decide +kernel) (by decide +kernel)
theorem aw_796 : Jvm.Cond.methodLink "WharfQuery$Report" (43 : Nat) yX1_stepIn ∈ wq_aw := wq_mem 796 (by decide +kernel) (by decide +kernel)
theorem aw_797 : Jvm.Cond.instanceMethod yX1_stepIn ∈ wq_aw := wq_mem 797 (by decide +kernel) (by decide +kernel)
theorem aw_798 : Jvm.Cond.selects "WharfQuery$Condition" yX1_stepIn yX1_stepIn ∈ wq_aw := wq_mem 798 (by decide +kernel) (by decide +kernel)
theorem aw_799 : Jvm.Cond.code yX1_stepIn prog_3_method_4_code (3 : Nat) (Option.some Jvm.ClassFile.FieldType.int) ∈ wq_aw := wq_mem 799 (by decide +kernel) (by decide +kernel)
theorem aw_800 : Jvm.Cond.methodLink "WharfQuery$Report" (47 : Nat) yX1_asksForOneValueOf ∈ wq_aw := wq_mem 800 (by decide +kernel) (by decide +kernel)
theorem aw_801 : Jvm.Cond.instanceMethod yX1_asksForOneValueOf ∈ wq_aw := wq_mem 801 (by decide +kernel) (by decide +kernel)
theorem aw_802 : Jvm.Cond.selects "WharfQuery$Condition" yX1_asksForOneValueOf yX1_asksForOneValueOf ∈ wq_aw := wq_mem 802 (by decide +kernel) (by decide +kernel)
theorem aw_803 : Jvm.Cond.code yX1_asksForOneValueOf prog_3_method_5_code (3 : Nat) (Option.some Jvm.ClassFile.FieldType.boolean) ∈ wq_aw := wq_mem 803 (by decide +kernel) (by decide +kernel)
theorem aw_804 : Jvm.Cond.methodLink "WharfQuery$Planner" (101 : Nat) ({ cls := "java/lang/Math", name := "max", desc := "(II)I" } : Jvm.MethodName) ∈ wq_aw := wq_mem 804 (by decide +kernel) (by decide +kernel)
theorem aw_805 : Jvm.Cond.static ({ cls := "java/lang/Math", name := "max", desc := "(II)I" } : Jvm.MethodName) ∈ wq_aw := wq_mem 805 (by decide +kernel) (by decide +kernel)
theorem aw_806 : Jvm.Cond.code ({ cls := "java/lang/Math", name := "max", desc := "(II)I" } : Jvm.MethodName) prog_16_method_65_code (2 : Nat) (Option.some Jvm.ClassFile.FieldType.int) ∈ wq_aw := wq_mem 806 (by decide +kernel) (by decide +kernel)
theorem aw_807 : Jvm.Cond.methodLink "WharfQuery$Planner" (64 : Nat) yX4_choicesBehind ∈ wq_aw := wq_mem 807 (by decide +kernel) (by decide +kernel)
theorem aw_809 : Jvm.Cond.instanceMethod yX4_choicesBehind ∈ wq_aw := wq_mem 809 (by decide +kernel) (by decide +kernel)
theorem aw_810 : Jvm.Cond.code yX4_choicesBehind prog_6_method_5_code (9 : Nat) (Option.some Jvm.ClassFile.FieldType.long) ∈ wq_aw := wq_mem 810 (by decide +kernel) (by decide +kernel)
theorem aw_811 : Jvm.Cond.methodLink "WharfQuery$Planner" (114 : Nat) yX1_stepIn ∈ wq_aw := wq_mem 811 (by decide +kernel) (by decide +kernel)
theorem aw_812 : Jvm.Cond.methodLink "WharfQuery$Planner" (120 : Nat) yX4_narrow ∈ wq_aw := wq_mem 812 (by decide +kernel) (by decide +kernel)
theorem aw_814 : Jvm.Cond.instanceMethod yX4_narrow ∈ wq_aw := wq_mem 814 (by decide +kernel) (by decide +kernel)
theorem aw_815 : Jvm.Cond.code yX4_narrow prog_6_method_6_code (8 : Nat) (Option.some Jvm.ClassFile.FieldType.long) ∈ wq_aw := wq_mem 815 (by decide +kernel) (by decide +kernel)
theorem aw_816 : Jvm.Cond.methodLink "WharfQuery$Planner" (139 : Nat) yX4_share ∈ wq_aw := wq_mem 816 (by decide +kernel) (by decide +kernel)
theorem aw_817 : Jvm.Cond.static yX4_share ∈ wq_aw := wq_mem 817 (by decide +kernel) (by decide +kernel)
theorem aw_818 : Jvm.Cond.code yX4_share prog_6_method_7_code (5 : Nat) (Option.some Jvm.ClassFile.FieldType.long) ∈ wq_aw := wq_mem 818 (by decide +kernel) (by decide +kernel)
theorem aw_819 : Jvm.Cond.methodLink "WharfQuery$Planner" (152 : Nat) ({ cls := "java/lang/Math", name := "min", desc := "(II)I" } : Jvm.MethodName) ∈ wq_aw := wq_mem 819 (by decide +kernel) (by decide +kernel)
theorem aw_820 : Jvm.Cond.methodLink "WharfQueryLaw" (207 : Nat) yL_planWay ∈ wq_aw := wq_mem 820 (by decide +kernel) (by decide +kernel)
theorem aw_821 : Jvm.Cond.static yL_planWay ∈ wq_aw := wq_mem 821 (by decide +kernel) (by decide +kernel)
theorem aw_822 : Jvm.Cond.codeWith yL_planWay method_25_code (5 : Nat) (Option.some Jvm.ClassFile.FieldType.int) [((0 : Nat), (10 : Nat), (13 : Nat), (21 : Nat))] ∈ wq_aw := wq_mem 822 (by decide +kernel) (by decide +kernel)
theorem aw_823 : Jvm.Cond.methodLink "WharfQueryLaw" (90 : Nat) yX8_planWay ∈ wq_aw := wq_mem 823 (by decide +kernel) (by decide +kernel)
theorem aw_824 : Jvm.Cond.instanceMethod yX8_planWay ∈ wq_aw := wq_mem 824 (by decide +kernel) (by decide +kernel)
theorem aw_825 : Jvm.Cond.selects "WharfQuery" yX8_planWay yX8_planWay ∈ wq_aw := wq_mem 825 (by decide +kernel) (by decide +kernel)
theorem aw_826 : Jvm.Cond.code yX8_planWay prog_1_method_26_code (4 : Nat) (Option.some Jvm.ClassFile.FieldType.int) ∈ wq_aw := wq_mem 826 (by decide +kernel) (by decide +kernel)
theorem aw_827 : Jvm.Cond.methodLink "WharfQueryLaw" (210 : Nat) yL_foretold ∈ wq_aw := wq_mem 827 (by decide +kernel) (by decide +kernel)
theorem aw_828 : Jvm.Cond.static yL_foretold ∈ wq_aw := wq_mem 828 (by decide +kernel) (by decide +kernel)
theorem aw_829 : Jvm.Cond.codeWith yL_foretold method_26_code (4 : Nat) (Option.some Jvm.ClassFile.FieldType.int) [((0 : Nat), (9 : Nat), (12 : Nat), (21 : Nat))] ∈ wq_aw := wq_mem 829 (by decide +kernel) (by decide +kernel)
theorem aw_830 : Jvm.Cond.methodLink "WharfQueryLaw" (93 : Nat) yX8_foretold ∈ wq_aw := wq_mem 830 (by decide +kernel) (by decide +kernel)
theorem aw_831 : Jvm.Cond.instanceMethod yX8_foretold ∈ wq_aw := wq_mem 831 (by decide +kernel) (by decide +kernel)
theorem aw_832 : Jvm.Cond.selects "WharfQuery" yX8_foretold yX8_foretold ∈ wq_aw := wq_mem 832 (by decide +kernel) (by decide +kernel)
theorem aw_833 : Jvm.Cond.code yX8_foretold prog_1_method_27_code (2 : Nat) (Option.some Jvm.ClassFile.FieldType.int) ∈ wq_aw := wq_mem 833 (by decide +kernel) (by decide +kernel)
theorem aw_834 : Jvm.Cond.methodLink "WharfQuery" (233 : Nat) yX3_foretoldMinutes ∈ wq_aw := wq_mem 834 (by decide +kernel) (by decide +kernel)
theorem aw_835 : Jvm.Cond.instanceMethod yX3_foretoldMinutes ∈ wq_aw := wq_mem 835 (by decide +kernel) (by decide +kernel)
theorem aw_836 : Jvm.Cond.selects "WharfQuery$Plan" yX3_foretoldMinutes yX3_foretoldMinutes ∈ wq_aw := wq_mem 836 (by decide +kernel) (by decide +kernel)
theorem aw_837 : Jvm.Cond.code yX3_foretoldMinutes prog_5_method_6_code (1 : Nat) (Option.some Jvm.ClassFile.FieldType.int) ∈ wq_aw := wq_mem 837 (by decide +kernel) (by decide +kernel)
theorem aw_838 : Jvm.Cond.constantLong "WharfQuery$Plan" (29 : Nat) (1000 : Int64) ∈ wq_aw := wq_mem 838 (by decide +kernel) (by decide +kernel)
theorem aw_839 : Jvm.Cond.methodLink "WharfQueryLaw" (213 : Nat) yL_minutes ∈ wq_aw := wq_mem 839 (by decide +kernel) (by decide +kernel)
theorem aw_840 : Jvm.Cond.static yL_minutes ∈ wq_aw := wq_mem 840 (by decide +kernel) (by decide +kernel)
theorem aw_841 : Jvm.Cond.codeWith yL_minutes method_27_code (4 : Nat) (Option.some Jvm.ClassFile.FieldType.int) [((0 : Nat), (9 : Nat), (12 : Nat), (21 : Nat))] ∈ wq_aw := wq_mem 841 (by decide +kernel) (by decide +kernel)
theorem aw_842 : Jvm.Cond.methodLink "WharfQueryLaw" (96 : Nat) yX8_minutes ∈ wq_aw := wq_mem 842 (by decide +kernel) (by decide +kernel)
theorem aw_843 : Jvm.Cond.instanceMethod yX8_minutes ∈ wq_aw := wq_mem 843 (by decide +kernel) (by decide +kernel)
theorem aw_844 : Jvm.Cond.selects "WharfQuery" yX8_minutes yX8_minutes ∈ wq_aw := wq_mem 844 (by decide +kernel) (by decide +kernel)
theorem aw_845 : Jvm.Cond.code yX8_minutes prog_1_method_28_code (2 : Nat) (Option.some Jvm.ClassFile.FieldType.int) ∈ wq_aw := wq_mem 845 (by decide +kernel) (by decide +kernel)
theorem aw_846 : Jvm.Cond.methodLink "WharfQuery" (237 : Nat) yX8_runChosenPlan ∈ wq_aw := wq_mem 846 (by decide +kernel) (by decide +kernel)
theorem aw_848 : Jvm.Cond.instanceMethod yX8_runChosenPlan ∈ wq_aw := wq_mem 848 (by decide +kernel) (by decide +kernel)
theorem aw_849 : Jvm.Cond.code yX8_runChosenPlan prog_1_method_50_code (2 : Nat) (Option.none : Option Jvm.ClassFile.FieldType) ∈ wq_aw := wq_mem 849 (by decide +kernel) (by decide +kernel)
theorem aw_850 : Jvm.Cond.methodLink "WharfQuery" (309 : Nat) yX6_goThrough ∈ wq_aw := wq_mem 850 (by decide +kernel) (by decide +kernel)
theorem aw_851 : Jvm.Cond.instanceMethod yX6_goThrough ∈ wq_aw := wq_mem 851 (by decide +kernel) (by decide +kernel)
theorem aw_852 : Jvm.Cond.selects "WharfQuery$Run" yX6_goThrough yX6_goThrough ∈ wq_aw := wq_mem 852 (by decide +kernel) (by decide +kernel)
theorem aw_853 : Jvm.Cond.code yX6_goThrough prog_8_method_2_code (3 : Nat) (Option.none : Option Jvm.ClassFile.FieldType) ∈ wq_aw := wq_mem 853 (by decide +kernel) (by decide +kernel)
theorem aw_854 : Jvm.Cond.methodLink "WharfQuery$Run" (34 : Nat) yX6_takeStep ∈ wq_aw := wq_mem 854 (by decide +kernel) (by decide +kernel)
theorem aw_855 : Jvm.Cond.static yX6_takeStep ∈ wq_aw := wq_mem 855 (by decide +kernel) (by decide +kernel)
theorem aw_856 : Jvm.Cond.code yX6_takeStep prog_8_method_3_code (9 : Nat) (Option.none : Option Jvm.ClassFile.FieldType) ∈ wq_aw := wq_mem 856 (by decide +kernel) (by decide +kernel)
theorem aw_857 : Jvm.Cond.methodLink "WharfQuery$Run" (38 : Nat) yX6_countChoice ∈ wq_aw := wq_mem 857 (by decide +kernel) (by decide +kernel)
theorem aw_859 : Jvm.Cond.instanceMethod yX6_countChoice ∈ wq_aw := wq_mem 859 (by decide +kernel) (by decide +kernel)
theorem aw_860 : Jvm.Cond.code yX6_countChoice prog_8_method_4_code (2 : Nat) (Option.none : Option Jvm.ClassFile.FieldType) ∈ wq_aw := wq_mem 860 (by decide +kernel) (by decide +kernel)
theorem aw_861 : Jvm.Cond.methodLink "WharfQuery$Run" (80 : Nat) yX6_chosenValue ∈ wq_aw := wq_mem 861 (by decide +kernel) (by decide +kernel)
theorem aw_863 : Jvm.Cond.instanceMethod yX6_chosenValue ∈ wq_aw := wq_mem 863 (by decide +kernel) (by decide +kernel)
theorem aw_864 : Jvm.Cond.code yX6_chosenValue prog_8_method_8_code (4 : Nat) (Option.some Jvm.ClassFile.FieldType.int) ∈ wq_aw := wq_mem 864 (by decide +kernel) (by decide +kernel)
theorem aw_865 : Jvm.Cond.methodLink "WharfQuery$Run" (53 : Nat) yX6_valueLookedFor ∈ wq_aw := wq_mem 865 (by decide +kernel) (by decide +kernel)
theorem aw_867 : Jvm.Cond.instanceMethod yX6_valueLookedFor ∈ wq_aw := wq_mem 867 (by decide +kernel) (by decide +kernel)
theorem aw_868 : Jvm.Cond.code yX6_valueLookedFor prog_8_method_5_code (6 : Nat) (Option.some Jvm.ClassFile.FieldType.int) ∈ wq_aw := wq_mem 868 (by decide +kernel) (by decide +kernel)
theorem aw_869 : Jvm.Cond.methodLink "WharfQuery$Run" (84 : Nat) yX5_conditionForIndex ∈ wq_aw := wq_mem 869 (by decide +kernel) (by decide +kernel)
theorem aw_870 : Jvm.Cond.methodLink "WharfQuery$Run" (70 : Nat) yX6_conditionsHold ∈ wq_aw := wq_mem 870 (by decide +kernel) (by decide +kernel)
theorem aw_872 : Jvm.Cond.instanceMethod yX6_conditionsHold ∈ wq_aw := wq_mem 872 (by decide +kernel) (by decide +kernel)
theorem aw_873 : Jvm.Cond.code yX6_conditionsHold prog_8_method_6_code (6 : Nat) (Option.some Jvm.ClassFile.FieldType.boolean) ∈ wq_aw := wq_mem 873 (by decide +kernel) (by decide +kernel)
theorem aw_874 : Jvm.Cond.methodLink "WharfQuery$Run" (115 : Nat) yX1_stepIn ∈ wq_aw := wq_mem 874 (by decide +kernel) (by decide +kernel)
theorem aw_875 : Jvm.Cond.methodLink "WharfQuery$Run" (119 : Nat) yX6_holds ∈ wq_aw := wq_mem 875 (by decide +kernel) (by decide +kernel)
theorem aw_877 : Jvm.Cond.instanceMethod yX6_holds ∈ wq_aw := wq_mem 877 (by decide +kernel) (by decide +kernel)
theorem aw_878 : Jvm.Cond.code yX6_holds prog_8_method_7_code (4 : Nat) (Option.some Jvm.ClassFile.FieldType.boolean) ∈ wq_aw := wq_mem 878 (by decide +kernel) (by decide +kernel)
theorem aw_879 : Jvm.Cond.methodLink "WharfQueryLaw" (216 : Nat) yL_answer ∈ wq_aw := wq_mem 879 (by decide +kernel) (by decide +kernel)
theorem aw_880 : Jvm.Cond.static yL_answer ∈ wq_aw := wq_mem 880 (by decide +kernel) (by decide +kernel)
theorem aw_881 : Jvm.Cond.codeWith yL_answer method_28_code (4 : Nat) (Option.some Jvm.ClassFile.FieldType.int) [((0 : Nat), (9 : Nat), (12 : Nat), (21 : Nat))] ∈ wq_aw := wq_mem 881 (by decide +kernel) (by decide +kernel)
theorem aw_882 : Jvm.Cond.methodLink "WharfQueryLaw" (99 : Nat) yX8_answer ∈ wq_aw := wq_mem 882 (by decide +kernel) (by decide +kernel)
theorem aw_883 : Jvm.Cond.instanceMethod yX8_answer ∈ wq_aw := wq_mem 883 (by decide +kernel) (by decide +kernel)
theorem aw_884 : Jvm.Cond.selects "WharfQuery" yX8_answer yX8_answer ∈ wq_aw := wq_mem 884 (by decide +kernel) (by decide +kernel)
theorem aw_885 : Jvm.Cond.code yX8_answer prog_1_method_29_code (2 : Nat) (Option.some Jvm.ClassFile.FieldType.int) ∈ wq_aw := wq_mem 885 (by decide +kernel) (by decide +kernel)
theorem aw_886 : Jvm.Cond.methodLink "WharfQueryLaw" (219 : Nat) yL_sum ∈ wq_aw := wq_mem 886 (by decide +kernel) (by decide +kernel)
theorem aw_887 : Jvm.Cond.static yL_sum ∈ wq_aw := wq_mem 887 (by decide +kernel) (by decide +kernel)
theorem aw_888 : Jvm.Cond.codeWith yL_sum method_29_code (4 : Nat) (Option.some Jvm.ClassFile.FieldType.int) [((0 : Nat), (9 : Nat), (12 : Nat), (21 : Nat))] ∈ wq_aw := wq_mem 888 (by decide +kernel) (by decide +kernel)
theorem aw_889 : Jvm.Cond.methodLink "WharfQueryLaw" (102 : Nat) yX8_sum ∈ wq_aw := wq_mem 889 (by decide +kernel) (by decide +kernel)
theorem aw_890 : Jvm.Cond.instanceMethod yX8_sum ∈ wq_aw := wq_mem 890 (by decide +kernel) (by decide +kernel)
theorem aw_891 : Jvm.Cond.selects "WharfQuery" yX8_sum yX8_sum ∈ wq_aw := wq_mem 891 (by decide +kernel) (by decide +kernel)
theorem aw_892 : Jvm.Cond.code yX8_sum prog_1_method_30_code (2 : Nat) (Option.some Jvm.ClassFile.FieldType.int) ∈ wq_aw := wq_mem 892 (by decide +kernel) (by decide +kernel)
theorem aw_893 : Jvm.Cond.methodLink "WharfQueryLaw" (222 : Nat) yL_plainAnswer ∈ wq_aw := wq_mem 893 (by decide +kernel) (by decide +kernel)
theorem aw_894 : Jvm.Cond.static yL_plainAnswer ∈ wq_aw := wq_mem 894 (by decide +kernel) (by decide +kernel)
theorem aw_895 : Jvm.Cond.codeWith yL_plainAnswer method_30_code (4 : Nat) (Option.some Jvm.ClassFile.FieldType.int) [((0 : Nat), (9 : Nat), (12 : Nat), (21 : Nat))] ∈ wq_aw := wq_mem 895 (by decide +kernel) (by decide +kernel)
theorem aw_896 : Jvm.Cond.methodLink "WharfQueryLaw" (105 : Nat) yX8_plainAnswer ∈ wq_aw := wq_mem 896 (by decide +kernel) (by decide +kernel)
theorem aw_897 : Jvm.Cond.instanceMethod yX8_plainAnswer ∈ wq_aw := wq_mem 897 (by decide +kernel) (by decide +kernel)
theorem aw_898 : Jvm.Cond.selects "WharfQuery" yX8_plainAnswer yX8_plainAnswer ∈ wq_aw := wq_mem 898 (by decide +kernel) (by decide +kernel)
theorem aw_899 : Jvm.Cond.code yX8_plainAnswer prog_1_method_31_code (2 : Nat) (Option.some Jvm.ClassFile.FieldType.int) ∈ wq_aw := wq_mem 899 (by decide +kernel) (by decide +kernel)
theorem aw_900 : Jvm.Cond.methodLink "WharfQuery" (249 : Nat) yX8_runPlainPlan ∈ wq_aw := wq_mem 900 (by decide +kernel) (by decide +kernel)
theorem aw_902 : Jvm.Cond.instanceMethod yX8_runPlainPlan ∈ wq_aw := wq_mem 902 (by decide +kernel) (by decide +kernel)
theorem aw_903 : Jvm.Cond.code yX8_runPlainPlan prog_1_method_51_code (2 : Nat) (Option.none : Option Jvm.ClassFile.FieldType) ∈ wq_aw := wq_mem 903 (by decide +kernel) (by decide +kernel)
theorem aw_904 : Jvm.Cond.methodLink "WharfQuery" (313 : Nat) yX3_becomePlain ∈ wq_aw := wq_mem 904 (by decide +kernel) (by decide +kernel)
theorem aw_905 : Jvm.Cond.instanceMethod yX3_becomePlain ∈ wq_aw := wq_mem 905 (by decide +kernel) (by decide +kernel)
theorem aw_906 : Jvm.Cond.selects "WharfQuery$Plan" yX3_becomePlain yX3_becomePlain ∈ wq_aw := wq_mem 906 (by decide +kernel) (by decide +kernel)
theorem aw_907 : Jvm.Cond.code yX3_becomePlain prog_5_method_4_code (3 : Nat) (Option.none : Option Jvm.ClassFile.FieldType) ∈ wq_aw := wq_mem 907 (by decide +kernel) (by decide +kernel)
theorem aw_908 : Jvm.Cond.methodLink "WharfQuery$Plan" (21 : Nat) yX3_place ∈ wq_aw := wq_mem 908 (by decide +kernel) (by decide +kernel)
theorem aw_909 : Jvm.Cond.methodLink "WharfQueryLaw" (225 : Nat) yL_plainSum ∈ wq_aw := wq_mem 909 (by decide +kernel) (by decide +kernel)
theorem aw_910 : Jvm.Cond.static yL_plainSum ∈ wq_aw := wq_mem 910 (by decide +kernel) (by decide +kernel)
theorem aw_911 : Jvm.Cond.codeWith yL_plainSum method_31_code (4 : Nat) (Option.some Jvm.ClassFile.FieldType.int) [((0 : Nat), (9 : Nat), (12 : Nat), (21 : Nat))] ∈ wq_aw := wq_mem 911 (by decide +kernel) (by decide +kernel)
theorem aw_912 : Jvm.Cond.methodLink "WharfQueryLaw" (108 : Nat) yX8_plainSum ∈ wq_aw := wq_mem 912 (by decide +kernel) (by decide +kernel)
theorem aw_913 : Jvm.Cond.instanceMethod yX8_plainSum ∈ wq_aw := wq_mem 913 (by decide +kernel) (by decide +kernel)
theorem aw_914 : Jvm.Cond.selects "WharfQuery" yX8_plainSum yX8_plainSum ∈ wq_aw := wq_mem 914 (by decide +kernel) (by decide +kernel)
theorem aw_915 : Jvm.Cond.code yX8_plainSum prog_1_method_32_code (2 : Nat) (Option.some Jvm.ClassFile.FieldType.int) ∈ wq_aw := wq_mem 915 (by decide +kernel) (by decide +kernel)
theorem aw_916 : Jvm.Cond.methodLink "WharfQueryLaw" (228 : Nat) yL_night ∈ wq_aw := wq_mem 916 (by decide +kernel) (by decide +kernel)
theorem aw_917 : Jvm.Cond.static yL_night ∈ wq_aw := wq_mem 917 (by decide +kernel) (by decide +kernel)
theorem aw_918 : Jvm.Cond.codeWith yL_night method_32_code (4 : Nat) (Option.some Jvm.ClassFile.FieldType.int) [((0 : Nat), (9 : Nat), (12 : Nat), (13 : Nat)), ((0 : Nat), (9 : Nat), (15 : Nat), (15 : Nat))] ∈ wq_aw := wq_mem 918 (by decide +kernel) (by decide +kernel)
theorem aw_919 : Jvm.Cond.methodLink "WharfQueryLaw" (111 : Nat) yX8_night ∈ wq_aw := wq_mem 919 (by decide +kernel) (by decide +kernel)
theorem aw_920 : Jvm.Cond.instanceMethod yX8_night ∈ wq_aw := wq_mem 920 (by decide +kernel) (by decide +kernel)
theorem aw_921 : Jvm.Cond.selects "WharfQuery" yX8_night yX8_night ∈ wq_aw := wq_mem 921 (by decide +kernel) (by decide +kernel)
theorem aw_922 : Jvm.Cond.code yX8_night prog_1_method_33_code (2 : Nat) (Option.some Jvm.ClassFile.FieldType.int) ∈ wq_aw := wq_mem 922 (by decide +kernel) (by decide +kernel)
theorem aw_925 : Jvm.Cond.methodLink "WharfQuery" (259 : Nat) yX2_takePay ∈ wq_aw := wq_mem 925 (by decide +kernel) (by decide +kernel)
theorem aw_926 : Jvm.Cond.instanceMethod yX2_takePay ∈ wq_aw := wq_mem 926 (by decide +kernel) (by decide +kernel)
theorem aw_927 : Jvm.Cond.selects "WharfQuery$Crew" yX2_takePay yX2_takePay ∈ wq_aw := wq_mem 927 (by decide +kernel) (by decide +kernel)
theorem aw_928 : Jvm.Cond.code yX2_takePay prog_4_method_2_code (4 : Nat) (Option.none : Option Jvm.ClassFile.FieldType) ∈ wq_aw := wq_mem 928 (by decide +kernel) (by decide +kernel)
theorem aw_929 : Jvm.Cond.methodLink "WharfQuery$Crew" (41 : Nat) yX7_takeSample ∈ wq_aw := wq_mem 929 (by decide +kernel) (by decide +kernel)
theorem aw_930 : Jvm.Cond.methodLink "WharfQuery$Crew" (50 : Nat) yX4_choose ∈ wq_aw := wq_mem 930 (by decide +kernel) (by decide +kernel)
theorem aw_931 : Jvm.Cond.methodLink "WharfQuery$Crew" (56 : Nat) yX3_foretoldMinutes ∈ wq_aw := wq_mem 931 (by decide +kernel) (by decide +kernel)
theorem aw_932 : Jvm.Cond.methodLink "WharfQuery" (262 : Nat) yX2_renewMarkedTables ∈ wq_aw := wq_mem 932 (by decide +kernel) (by decide +kernel)
theorem aw_933 : Jvm.Cond.instanceMethod yX2_renewMarkedTables ∈ wq_aw := wq_mem 933 (by decide +kernel) (by decide +kernel)
theorem aw_934 : Jvm.Cond.selects "WharfQuery$Crew" yX2_renewMarkedTables yX2_renewMarkedTables ∈ wq_aw := wq_mem 934 (by decide +kernel) (by decide +kernel)
theorem aw_935 : Jvm.Cond.code yX2_renewMarkedTables prog_4_method_3_code (3 : Nat) (Option.none : Option Jvm.ClassFile.FieldType) ∈ wq_aw := wq_mem 935 (by decide +kernel) (by decide +kernel)
theorem aw_936 : Jvm.Cond.methodLink "WharfQuery$Crew" (68 : Nat) yX7_renewCounts ∈ wq_aw := wq_mem 936 (by decide +kernel) (by decide +kernel)
theorem aw_937 : Jvm.Cond.methodLink "WharfQuery" (265 : Nat) yX2_runDueReports ∈ wq_aw := wq_mem 937 (by decide +kernel) (by decide +kernel)
theorem aw_938 : Jvm.Cond.instanceMethod yX2_runDueReports ∈ wq_aw := wq_mem 938 (by decide +kernel) (by decide +kernel)
theorem aw_939 : Jvm.Cond.selects "WharfQuery$Crew" yX2_runDueReports yX2_runDueReports ∈ wq_aw := wq_mem 939 (by decide +kernel) (by decide +kernel)
theorem aw_940 : Jvm.Cond.code yX2_runDueReports prog_4_method_4_code (5 : Nat) (Option.some Jvm.ClassFile.FieldType.int) ∈ wq_aw := wq_mem 940 (by decide +kernel) (by decide +kernel)
theorem aw_941 : Jvm.Cond.methodLink "WharfQuery$Crew" (71 : Nat) yX2_lineUpDueReports ∈ wq_aw := wq_mem 941 (by decide +kernel) (by decide +kernel)
theorem aw_943 : Jvm.Cond.instanceMethod yX2_lineUpDueReports ∈ wq_aw := wq_mem 943 (by decide +kernel) (by decide +kernel)
theorem aw_944 : Jvm.Cond.code yX2_lineUpDueReports prog_4_method_5_code (4 : Nat) (Option.some Jvm.ClassFile.FieldType.int) ∈ wq_aw := wq_mem 944 (by decide +kernel) (by decide +kernel)
theorem aw_945 : Jvm.Cond.methodLink "WharfQuery$Crew" (74 : Nat) yX6_goThrough ∈ wq_aw := wq_mem 945 (by decide +kernel) (by decide +kernel)
theorem aw_946 : Jvm.Cond.methodLink "WharfQuery$Crew" (83 : Nat) yX2_keep ∈ wq_aw := wq_mem 946 (by decide +kernel) (by decide +kernel)
theorem aw_948 : Jvm.Cond.instanceMethod yX2_keep ∈ wq_aw := wq_mem 948 (by decide +kernel) (by decide +kernel)
theorem aw_949 : Jvm.Cond.code yX2_keep prog_4_method_6_code (3 : Nat) (Option.none : Option Jvm.ClassFile.FieldType) ∈ wq_aw := wq_mem 949 (by decide +kernel) (by decide +kernel)
theorem aw_950 : Jvm.Cond.methodLink "WharfQuery$Crew" (93 : Nat) yX2_markTables ∈ wq_aw := wq_mem 950 (by decide +kernel) (by decide +kernel)
theorem aw_952 : Jvm.Cond.instanceMethod yX2_markTables ∈ wq_aw := wq_mem 952 (by decide +kernel) (by decide +kernel)
theorem aw_953 : Jvm.Cond.code yX2_markTables prog_4_method_7_code (3 : Nat) (Option.none : Option Jvm.ClassFile.FieldType) ∈ wq_aw := wq_mem 953 (by decide +kernel) (by decide +kernel)
theorem aw_954 : Jvm.Cond.methodLink "WharfQueryLaw" (247 : Nat) yL_kept ∈ wq_aw := wq_mem 954 (by decide +kernel) (by decide +kernel)
theorem aw_955 : Jvm.Cond.static yL_kept ∈ wq_aw := wq_mem 955 (by decide +kernel) (by decide +kernel)
theorem aw_956 : Jvm.Cond.codeWith yL_kept method_33_code (4 : Nat) (Option.some Jvm.ClassFile.FieldType.int) [((0 : Nat), (9 : Nat), (12 : Nat), (21 : Nat))] ∈ wq_aw := wq_mem 956 (by decide +kernel) (by decide +kernel)
theorem aw_957 : Jvm.Cond.methodLink "WharfQueryLaw" (114 : Nat) yX8_kept ∈ wq_aw := wq_mem 957 (by decide +kernel) (by decide +kernel)
theorem aw_958 : Jvm.Cond.instanceMethod yX8_kept ∈ wq_aw := wq_mem 958 (by decide +kernel) (by decide +kernel)
theorem aw_959 : Jvm.Cond.selects "WharfQuery" yX8_kept yX8_kept ∈ wq_aw := wq_mem 959 (by decide +kernel) (by decide +kernel)
theorem aw_960 : Jvm.Cond.code yX8_kept prog_1_method_38_code (2 : Nat) (Option.some Jvm.ClassFile.FieldType.int) ∈ wq_aw := wq_mem 960 (by decide +kernel) (by decide +kernel)
theorem aw_961 : Jvm.Cond.methodLink "WharfQueryLaw" (250 : Nat) yL_keptSum ∈ wq_aw := wq_mem 961 (by decide +kernel) (by decide +kernel)
theorem aw_962 : Jvm.Cond.static yL_keptSum ∈ wq_aw := wq_mem 962 (by decide +kernel) (by decide +kernel)
theorem aw_963 : Jvm.Cond.codeWith yL_keptSum method_34_code (4 : Nat) (Option.some Jvm.ClassFile.FieldType.int) [((0 : Nat), (9 : Nat), (12 : Nat), (21 : Nat))] ∈ wq_aw := wq_mem 963 (by decide +kernel) (by decide +kernel)
theorem aw_964 : Jvm.Cond.methodLink "WharfQueryLaw" (117 : Nat) yX8_keptSum ∈ wq_aw := wq_mem 964 (by decide +kernel) (by decide +kernel)
theorem aw_965 : Jvm.Cond.instanceMethod yX8_keptSum ∈ wq_aw := wq_mem 965 (by decide +kernel) (by decide +kernel)
theorem aw_966 : Jvm.Cond.selects "WharfQuery" yX8_keptSum yX8_keptSum ∈ wq_aw := wq_mem 966 (by decide +kernel) (by decide +kernel)
theorem aw_967 : Jvm.Cond.code yX8_keptSum prog_1_method_39_code (2 : Nat) (Option.some Jvm.ClassFile.FieldType.int) ∈ wq_aw := wq_mem 967 (by decide +kernel) (by decide +kernel)
theorem aw_968 : Jvm.Cond.methodLink "WharfQueryLaw" (253 : Nat) yL_keptIn ∈ wq_aw := wq_mem 968 (by decide +kernel) (by decide +kernel)
theorem aw_969 : Jvm.Cond.static yL_keptIn ∈ wq_aw := wq_mem 969 (by decide +kernel) (by decide +kernel)
theorem aw_970 : Jvm.Cond.codeWith yL_keptIn method_35_code (4 : Nat) (Option.some Jvm.ClassFile.FieldType.int) [((0 : Nat), (9 : Nat), (12 : Nat), (21 : Nat))] ∈ wq_aw := wq_mem 970 (by decide +kernel) (by decide +kernel)
theorem aw_971 : Jvm.Cond.methodLink "WharfQueryLaw" (120 : Nat) yX8_keptIn ∈ wq_aw := wq_mem 971 (by decide +kernel) (by decide +kernel)
theorem aw_972 : Jvm.Cond.instanceMethod yX8_keptIn ∈ wq_aw := wq_mem 972 (by decide +kernel) (by decide +kernel)
theorem aw_973 : Jvm.Cond.selects "WharfQuery" yX8_keptIn yX8_keptIn ∈ wq_aw := wq_mem 973 (by decide +kernel) (by decide +kernel)
theorem aw_974 : Jvm.Cond.code yX8_keptIn prog_1_method_40_code (2 : Nat) (Option.some Jvm.ClassFile.FieldType.int) ∈ wq_aw := wq_mem 974 (by decide +kernel) (by decide +kernel)
theorem aw_975 : Jvm.Cond.classLink "WharfQueryLaw" (124 : Nat) "WharfQueryModel" ∈ wq_aw := wq_mem 975 (by decide +kernel) (by decide +kernel)
theorem aw_976 : Jvm.Cond.instantiable "WharfQueryModel" (43 : Nat) ∈ wq_aw := wq_mem 976 (by decide +kernel) (by decide +kernel)
theorem aw_977 : Jvm.Cond.methodLink "WharfQueryLaw" (126 : Nat) yX9_init ∈ wq_aw := wq_mem 977 (by decide +kernel) (by decide +kernel)
theorem aw_978 : Jvm.Cond.instanceMethod yX9_init ∈ wq_aw := wq_mem 978 (by decide +kernel) (by decide +kernel)
theorem aw_979 : Jvm.Cond.code yX9_init prog_11_method_1_code (1 : Nat) (Option.none : Option Jvm.ClassFile.FieldType) ∈ wq_aw := wq_mem 979 (by decide +kernel) (by decide +kernel)
theorem aw_980 : Jvm.Cond.methodLink "WharfQueryModel" (1 : Nat) ({ cls := "java/lang/Object", name := "<init>", desc := "()V" } : Jvm.MethodName) ∈ wq_aw := wq_mem 980 (by decide +kernel) (by decide +kernel)
theorem aw_981 : Jvm.Cond.fieldLink "WharfQueryModel" (7 : Nat) "WharfQueryModel" "columns" "[I" ∈ wq_aw := wq_mem 981 (by decide +kernel) (by decide +kernel)
theorem aw_982 : Jvm.Cond.fieldLink "WharfQueryModel" (13 : Nat) "WharfQueryModel" "inserted" "[I" ∈ wq_aw := wq_mem 982 (by decide +kernel) (by decide +kernel)
theorem aw_983 : Jvm.Cond.fieldLink "WharfQueryModel" (16 : Nat) "WharfQueryModel" "there" "[Z" ∈ wq_aw := wq_mem 983 (by decide +kernel) (by decide +kernel)
theorem aw_984 : Jvm.Cond.fieldLink "WharfQueryModel" (20 : Nat) "WharfQueryModel" "value" "[I" ∈ wq_aw := wq_mem 984 (by decide +kernel) (by decide +kernel)
theorem aw_985 : Jvm.Cond.fieldLink "WharfQueryModel" (23 : Nat) "WharfQueryModel" "index" "[Z" ∈ wq_aw := wq_mem 985 (by decide +kernel) (by decide +kernel)
theorem aw_986 : Jvm.Cond.fieldLink "WharfQueryModel" (111 : Nat) "WharfQueryModel" "tables" "I" ∈ wq_aw := wq_mem 986 (by decide +kernel) (by decide +kernel)
theorem aw_987 : Jvm.Cond.fieldLink "WharfQueryModel" (26 : Nat) "WharfQueryModel" "toldRows" "[I" ∈ wq_aw := wq_mem 987 (by decide +kernel) (by decide +kernel)
theorem aw_988 : Jvm.Cond.fieldLink "WharfQueryModel" (29 : Nat) "WharfQueryModel" "unlike" "[I" ∈ wq_aw := wq_mem 988 (by decide +kernel) (by decide +kernel)
theorem aw_989 : Jvm.Cond.fieldLink "WharfQueryModel" (32 : Nat) "WharfQueryModel" "least" "[I" ∈ wq_aw := wq_mem 989 (by decide +kernel) (by decide +kernel)
theorem aw_990 : Jvm.Cond.fieldLink "WharfQueryModel" (35 : Nat) "WharfQueryModel" "greatest" "[I" ∈ wq_aw := wq_mem 990 (by decide +kernel) (by decide +kernel)
theorem aw_991 : Jvm.Cond.fieldLink "WharfQueryModel" (38 : Nat) "WharfQueryModel" "marked" "[Z" ∈ wq_aw := wq_mem 991 (by decide +kernel) (by decide +kernel)
theorem aw_992 : Jvm.Cond.fieldLink "WharfQueryModel" (41 : Nat) "WharfQueryModel" "step" "I" ∈ wq_aw := wq_mem 992 (by decide +kernel) (by decide +kernel)
theorem aw_993 : Jvm.Cond.fieldLink "WharfQueryModel" (45 : Nat) "WharfQueryModel" "penalty" "[I" ∈ wq_aw := wq_mem 993 (by decide +kernel) (by decide +kernel)
theorem aw_994 : Jvm.Cond.fieldLink "WharfQueryModel" (48 : Nat) "WharfQueryModel" "due" "[Z" ∈ wq_aw := wq_mem 994 (by decide +kernel) (by decide +kernel)
theorem aw_995 : Jvm.Cond.fieldLink "WharfQueryModel" (51 : Nat) "WharfQueryModel" "sources" "[I" ∈ wq_aw := wq_mem 995 (by decide +kernel) (by decide +kernel)
theorem aw_996 : Jvm.Cond.fieldLink "WharfQueryModel" (54 : Nat) "WharfQueryModel" "tableOf" "[I" ∈ wq_aw := wq_mem 996 (by decide +kernel) (by decide +kernel)
theorem aw_997 : Jvm.Cond.fieldLink "WharfQueryModel" (57 : Nat) "WharfQueryModel" "conditions" "[I" ∈ wq_aw := wq_mem 997 (by decide +kernel) (by decide +kernel)
theorem aw_998 : Jvm.Cond.fieldLink "WharfQueryModel" (60 : Nat) "WharfQueryModel" "kind" "[I" ∈ wq_aw := wq_mem 998 (by decide +kernel) (by decide +kernel)
theorem aw_999 : Jvm.Cond.fieldLink "WharfQueryModel" (63 : Nat) "WharfQueryModel" "source" "[I" ∈ wq_aw := wq_mem 999 (by decide +kernel) (by decide +kernel)
theorem aw_1000 : Jvm.Cond.fieldLink "WharfQueryModel" (66 : Nat) "WharfQueryModel" "column" "[I" ∈ wq_aw := wq_mem 1000 (by decide +kernel) (by decide +kernel)
theorem aw_1001 : Jvm.Cond.fieldLink "WharfQueryModel" (69 : Nat) "WharfQueryModel" "number" "[I" ∈ wq_aw := wq_mem 1001 (by decide +kernel) (by decide +kernel)
theorem aw_1002 : Jvm.Cond.fieldLink "WharfQueryModel" (72 : Nat) "WharfQueryModel" "other" "[I" ∈ wq_aw := wq_mem 1002 (by decide +kernel) (by decide +kernel)
theorem aw_1003 : Jvm.Cond.fieldLink "WharfQueryModel" (75 : Nat) "WharfQueryModel" "otherColumn" "[I" ∈ wq_aw := wq_mem 1003 (by decide +kernel) (by decide +kernel)
theorem aw_1004 : Jvm.Cond.fieldLink "WharfQueryModel" (78 : Nat) "WharfQueryModel" "sumSource" "[I" ∈ wq_aw := wq_mem 1004 (by decide +kernel) (by decide +kernel)
theorem aw_1005 : Jvm.Cond.fieldLink "WharfQueryModel" (81 : Nat) "WharfQueryModel" "sumColumn" "[I" ∈ wq_aw := wq_mem 1005 (by decide +kernel) (by decide +kernel)
theorem aw_1006 : Jvm.Cond.fieldLink "WharfQueryModel" (84 : Nat) "WharfQueryModel" "kept" "[I" ∈ wq_aw := wq_mem 1006 (by decide +kernel) (by decide +kernel)
theorem aw_1007 : Jvm.Cond.fieldLink "WharfQueryModel" (87 : Nat) "WharfQueryModel" "keptSum" "[I" ∈ wq_aw := wq_mem 1007 (by decide +kernel) (by decide +kernel)
theorem aw_1008 : Jvm.Cond.fieldLink "WharfQueryModel" (90 : Nat) "WharfQueryModel" "keptIn" "[I" ∈ wq_aw := wq_mem 1008 (by decide +kernel) (by decide +kernel)
theorem aw_1009 : Jvm.Cond.fieldLink "WharfQueryModel" (122 : Nat) "WharfQueryModel" "reports" "I" ∈ wq_aw := wq_mem 1009 (by decide +kernel) (by decide +kernel)
theorem aw_1010 : Jvm.Cond.fieldLink "WharfQueryModel" (250 : Nat) "WharfQueryModel" "nights" "I" ∈ wq_aw := wq_mem 1010 (by decide +kernel) (by decide +kernel)
theorem aw_1011 : Jvm.Cond.fieldLink "WharfQueryModel" (260 : Nat) "WharfQueryModel" "paid" "I" ∈ wq_aw := wq_mem 1011 (by decide +kernel) (by decide +kernel)
theorem aw_1012 : Jvm.Cond.fieldLink "WharfQueryModel" (257 : Nat) "WharfQueryModel" "left" "I" ∈ wq_aw := wq_mem 1012 (by decide +kernel) (by decide +kernel)
theorem aw_1013 : Jvm.Cond.fieldLink "WharfQueryModel" (266 : Nat) "WharfQueryModel" "owed" "I" ∈ wq_aw := wq_mem 1013 (by decide +kernel) (by decide +kernel)
theorem aw_1014 : Jvm.Cond.fieldLink "WharfQueryModel" (93 : Nat) "WharfQueryModel" "order" "[I" ∈ wq_aw := wq_mem 1014 (by decide +kernel) (by decide +kernel)
theorem aw_1015 : Jvm.Cond.fieldLink "WharfQueryModel" (96 : Nat) "WharfQueryModel" "way" "[I" ∈ wq_aw := wq_mem 1015 (by decide +kernel) (by decide +kernel)
theorem aw_1016 : Jvm.Cond.fieldLink "WharfQueryModel" (99 : Nat) "WharfQueryModel" "bestOrder" "[I" ∈ wq_aw := wq_mem 1016 (by decide +kernel) (by decide +kernel)
theorem aw_1017 : Jvm.Cond.fieldLink "WharfQueryModel" (102 : Nat) "WharfQueryModel" "bestWay" "[I" ∈ wq_aw := wq_mem 1017 (by decide +kernel) (by decide +kernel)
theorem aw_1018 : Jvm.Cond.fieldLink "WharfQueryModel" (201 : Nat) "WharfQueryModel" "thousandths" "J" ∈ wq_aw := wq_mem 1018 (by decide +kernel) (by decide +kernel)
theorem aw_1019 : Jvm.Cond.fieldLink "WharfQueryModel" (105 : Nat) "WharfQueryModel" "pick" "[I" ∈ wq_aw := wq_mem 1019 (by decide +kernel) (by decide +kernel)
theorem aw_1020 : Jvm.Cond.fieldLink "WharfQueryModel" (220 : Nat) "WharfQueryModel" "took" "I" ∈ wq_aw := wq_mem 1020 (by decide +kernel) (by decide +kernel)
theorem aw_1021 : Jvm.Cond.fieldLink "WharfQueryModel" (223 : Nat) "WharfQueryModel" "found" "I" ∈ wq_aw := wq_mem 1021 (by decide +kernel) (by decide +kernel)
theorem aw_1022 : Jvm.Cond.fieldLink "WharfQueryModel" (226 : Nat) "WharfQueryModel" "summed" "I" ∈ wq_aw := wq_mem 1022 (by decide +kernel) (by decide +kernel)
theorem aw_1023 : Jvm.Cond.fieldLink "WharfQueryModel" (108 : Nat) "WharfQueryModel" "thrown" "I" ∈ wq_aw := wq_mem 1023 (by decide +kernel) (by decide +kernel)
theorem aw_1111 : Jvm.Cond.methodLink "WharfQueryLaw" (133 : Nat) yX9_thrown ∈ wq_aw := wq_mem 1111 (by decide +kernel) (by decide +kernel)
theorem aw_1112 : Jvm.Cond.instanceMethod yX9_thrown ∈ wq_aw := wq_mem 1112 (by decide +kernel) (by decide +kernel)
theorem aw_1113 : Jvm.Cond.selects "WharfQueryModel" yX9_thrown yX9_thrown ∈ wq_aw := wq_mem 1113 (by decide +kernel) (by decide +kernel)
theorem aw_1114 : Jvm.Cond.code yX9_thrown prog_11_method_2_code (1 : Nat) (Option.some Jvm.ClassFile.FieldType.int) ∈ wq_aw := wq_mem 1114 (by decide +kernel) (by decide +kernel)
theorem aw_1115 : Jvm.Cond.methodLink "WharfQueryLaw" (132 : Nat) yX9_addTable ∈ wq_aw := wq_mem 1115 (by decide +kernel) (by decide +kernel)
theorem aw_1116 : Jvm.Cond.instanceMethod yX9_addTable ∈ wq_aw := wq_mem 1116 (by decide +kernel) (by decide +kernel)
theorem aw_1117 : Jvm.Cond.selects "WharfQueryModel" yX9_addTable yX9_addTable ∈ wq_aw := wq_mem 1117 (by decide +kernel) (by decide +kernel)
theorem aw_1118 : Jvm.Cond.code yX9_addTable prog_11_method_14_code (2 : Nat) (Option.some Jvm.ClassFile.FieldType.int) ∈ wq_aw := wq_mem 1118 (by decide +kernel) (by decide +kernel)
theorem aw_1119 : Jvm.Cond.methodLink "WharfQueryModel" (114 : Nat) yX9_in ∈ wq_aw := wq_mem 1119 (by decide +kernel) (by decide +kernel)
theorem aw_1120 : Jvm.Cond.static yX9_in ∈ wq_aw := wq_mem 1120 (by decide +kernel) (by decide +kernel)
theorem aw_1121 : Jvm.Cond.code yX9_in prog_11_method_3_code (3 : Nat) (Option.some Jvm.ClassFile.FieldType.boolean) ∈ wq_aw := wq_mem 1121 (by decide +kernel) (by decide +kernel)
theorem aw_1122 : Jvm.Cond.methodLink "WharfQueryModel" (135 : Nat) yX9_asked_ ∈ wq_aw := wq_mem 1122 (by decide +kernel) (by decide +kernel)
theorem aw_1124 : Jvm.Cond.instanceMethod yX9_asked_ ∈ wq_aw := wq_mem 1124 (by decide +kernel) (by decide +kernel)
theorem aw_1125 : Jvm.Cond.code yX9_asked_ prog_11_method_5_code (3 : Nat) (Option.some Jvm.ClassFile.FieldType.boolean) ∈ wq_aw := wq_mem 1125 (by decide +kernel) (by decide +kernel)
theorem aw_1126 : Jvm.Cond.methodLink "WharfQueryLaw" (140 : Nat) yX9_insert ∈ wq_aw := wq_mem 1126 (by decide +kernel) (by decide +kernel)
theorem aw_1127 : Jvm.Cond.instanceMethod yX9_insert ∈ wq_aw := wq_mem 1127 (by decide +kernel) (by decide +kernel)
theorem aw_1128 : Jvm.Cond.selects "WharfQueryModel" yX9_insert yX9_insert ∈ wq_aw := wq_mem 1128 (by decide +kernel) (by decide +kernel)
theorem aw_1129 : Jvm.Cond.code yX9_insert prog_11_method_15_code (8 : Nat) (Option.some Jvm.ClassFile.FieldType.int) ∈ wq_aw := wq_mem 1129 (by decide +kernel) (by decide +kernel)
theorem aw_1130 : Jvm.Cond.methodLink "WharfQueryModel" (118 : Nat) yX9_isTable ∈ wq_aw := wq_mem 1130 (by decide +kernel) (by decide +kernel)
theorem aw_1132 : Jvm.Cond.instanceMethod yX9_isTable ∈ wq_aw := wq_mem 1132 (by decide +kernel) (by decide +kernel)
theorem aw_1133 : Jvm.Cond.code yX9_isTable prog_11_method_8_code (2 : Nat) (Option.some Jvm.ClassFile.FieldType.boolean) ∈ wq_aw := wq_mem 1133 (by decide +kernel) (by decide +kernel)
theorem aw_1134 : Jvm.Cond.methodLink "WharfQueryModel" (139 : Nat) yX9_asked__ ∈ wq_aw := wq_mem 1134 (by decide +kernel) (by decide +kernel)
theorem aw_1136 : Jvm.Cond.instanceMethod yX9_asked__ ∈ wq_aw := wq_mem 1136 (by decide +kernel) (by decide +kernel)
theorem aw_1137 : Jvm.Cond.code yX9_asked__ prog_11_method_6_code (4 : Nat) (Option.some Jvm.ClassFile.FieldType.boolean) ∈ wq_aw := wq_mem 1137 (by decide +kernel) (by decide +kernel)
theorem aw_1138 : Jvm.Cond.methodLink "WharfQueryLaw" (144 : Nat) yX9_delete ∈ wq_aw := wq_mem 1138 (by decide +kernel) (by decide +kernel)
theorem aw_1139 : Jvm.Cond.instanceMethod yX9_delete ∈ wq_aw := wq_mem 1139 (by decide +kernel) (by decide +kernel)
theorem aw_1140 : Jvm.Cond.selects "WharfQueryModel" yX9_delete yX9_delete ∈ wq_aw := wq_mem 1140 (by decide +kernel) (by decide +kernel)
theorem aw_1141 : Jvm.Cond.code yX9_delete prog_11_method_17_code (3 : Nat) (Option.some Jvm.ClassFile.FieldType.int) ∈ wq_aw := wq_mem 1141 (by decide +kernel) (by decide +kernel)
theorem aw_1142 : Jvm.Cond.methodLink "WharfQueryModel" (142 : Nat) yX9_isRow ∈ wq_aw := wq_mem 1142 (by decide +kernel) (by decide +kernel)
theorem aw_1144 : Jvm.Cond.instanceMethod yX9_isRow ∈ wq_aw := wq_mem 1144 (by decide +kernel) (by decide +kernel)
theorem aw_1145 : Jvm.Cond.code yX9_isRow prog_11_method_10_code (3 : Nat) (Option.some Jvm.ClassFile.FieldType.boolean) ∈ wq_aw := wq_mem 1145 (by decide +kernel) (by decide +kernel)
theorem aw_1146 : Jvm.Cond.methodLink "WharfQueryModel" (145 : Nat) yX9_asked ∈ wq_aw := wq_mem 1146 (by decide +kernel) (by decide +kernel)
theorem aw_1148 : Jvm.Cond.instanceMethod yX9_asked ∈ wq_aw := wq_mem 1148 (by decide +kernel) (by decide +kernel)
theorem aw_1149 : Jvm.Cond.code yX9_asked prog_11_method_4_code (2 : Nat) (Option.some Jvm.ClassFile.FieldType.boolean) ∈ wq_aw := wq_mem 1149 (by decide +kernel) (by decide +kernel)
theorem aw_1150 : Jvm.Cond.methodLink "WharfQueryModel" (148 : Nat) yX9_rowsOf ∈ wq_aw := wq_mem 1150 (by decide +kernel) (by decide +kernel)
theorem aw_1152 : Jvm.Cond.instanceMethod yX9_rowsOf ∈ wq_aw := wq_mem 1152 (by decide +kernel) (by decide +kernel)
theorem aw_1153 : Jvm.Cond.code yX9_rowsOf prog_11_method_16_code (4 : Nat) (Option.some Jvm.ClassFile.FieldType.int) ∈ wq_aw := wq_mem 1153 (by decide +kernel) (by decide +kernel)
theorem aw_1154 : Jvm.Cond.methodLink "WharfQueryLaw" (148 : Nat) yX9_setIndex ∈ wq_aw := wq_mem 1154 (by decide +kernel) (by decide +kernel)
theorem aw_1155 : Jvm.Cond.instanceMethod yX9_setIndex ∈ wq_aw := wq_mem 1155 (by decide +kernel) (by decide +kernel)
theorem aw_1156 : Jvm.Cond.selects "WharfQueryModel" yX9_setIndex yX9_setIndex ∈ wq_aw := wq_mem 1156 (by decide +kernel) (by decide +kernel)
theorem aw_1157 : Jvm.Cond.code yX9_setIndex prog_11_method_18_code (5 : Nat) (Option.some Jvm.ClassFile.FieldType.boolean) ∈ wq_aw := wq_mem 1157 (by decide +kernel) (by decide +kernel)
theorem aw_1158 : Jvm.Cond.methodLink "WharfQueryModel" (132 : Nat) yX9_isColumn ∈ wq_aw := wq_mem 1158 (by decide +kernel) (by decide +kernel)
theorem aw_1160 : Jvm.Cond.instanceMethod yX9_isColumn ∈ wq_aw := wq_mem 1160 (by decide +kernel) (by decide +kernel)
theorem aw_1161 : Jvm.Cond.code yX9_isColumn prog_11_method_9_code (3 : Nat) (Option.some Jvm.ClassFile.FieldType.boolean) ∈ wq_aw := wq_mem 1161 (by decide +kernel) (by decide +kernel)
theorem aw_1162 : Jvm.Cond.methodLink "WharfQueryLaw" (151 : Nat) yX9_rows ∈ wq_aw := wq_mem 1162 (by decide +kernel) (by decide +kernel)
theorem aw_1163 : Jvm.Cond.instanceMethod yX9_rows ∈ wq_aw := wq_mem 1163 (by decide +kernel) (by decide +kernel)
theorem aw_1164 : Jvm.Cond.selects "WharfQueryModel" yX9_rows yX9_rows ∈ wq_aw := wq_mem 1164 (by decide +kernel) (by decide +kernel)
theorem aw_1165 : Jvm.Cond.code yX9_rows prog_11_method_19_code (2 : Nat) (Option.some Jvm.ClassFile.FieldType.int) ∈ wq_aw := wq_mem 1165 (by decide +kernel) (by decide +kernel)
theorem aw_1166 : Jvm.Cond.methodLink "WharfQueryLaw" (155 : Nat) yX9_value ∈ wq_aw := wq_mem 1166 (by decide +kernel) (by decide +kernel)
theorem aw_1167 : Jvm.Cond.instanceMethod yX9_value ∈ wq_aw := wq_mem 1167 (by decide +kernel) (by decide +kernel)
theorem aw_1168 : Jvm.Cond.selects "WharfQueryModel" yX9_value yX9_value ∈ wq_aw := wq_mem 1168 (by decide +kernel) (by decide +kernel)
theorem aw_1169 : Jvm.Cond.code yX9_value prog_11_method_21_code (5 : Nat) (Option.some Jvm.ClassFile.FieldType.int) ∈ wq_aw := wq_mem 1169 (by decide +kernel) (by decide +kernel)
theorem aw_1170 : Jvm.Cond.methodLink "WharfQueryModel" (152 : Nat) yX9_valueAt ∈ wq_aw := wq_mem 1170 (by decide +kernel) (by decide +kernel)
theorem aw_1172 : Jvm.Cond.instanceMethod yX9_valueAt ∈ wq_aw := wq_mem 1172 (by decide +kernel) (by decide +kernel)
theorem aw_1173 : Jvm.Cond.code yX9_valueAt prog_11_method_20_code (4 : Nat) (Option.some Jvm.ClassFile.FieldType.int) ∈ wq_aw := wq_mem 1173 (by decide +kernel) (by decide +kernel)
theorem aw_1174 : Jvm.Cond.methodLink "WharfQueryLaw" (158 : Nat) yX9_renew ∈ wq_aw := wq_mem 1174 (by decide +kernel) (by decide +kernel)
theorem aw_1175 : Jvm.Cond.instanceMethod yX9_renew ∈ wq_aw := wq_mem 1175 (by decide +kernel) (by decide +kernel)
theorem aw_1176 : Jvm.Cond.selects "WharfQueryModel" yX9_renew yX9_renew ∈ wq_aw := wq_mem 1176 (by decide +kernel) (by decide +kernel)
theorem aw_1177 : Jvm.Cond.code yX9_renew prog_11_method_25_code (3 : Nat) (Option.some Jvm.ClassFile.FieldType.int) ∈ wq_aw := wq_mem 1177 (by decide +kernel) (by decide +kernel)
theorem aw_1178 : Jvm.Cond.methodLink "WharfQueryModel" (159 : Nat) yX9_renews ∈ wq_aw := wq_mem 1178 (by decide +kernel) (by decide +kernel)
theorem aw_1180 : Jvm.Cond.instanceMethod yX9_renews ∈ wq_aw := wq_mem 1180 (by decide +kernel) (by decide +kernel)
theorem aw_1181 : Jvm.Cond.code yX9_renews prog_11_method_24_code (10 : Nat) (Option.none : Option Jvm.ClassFile.FieldType) ∈ wq_aw := wq_mem 1181 (by decide +kernel) (by decide +kernel)
theorem aw_1182 : Jvm.Cond.methodLink "WharfQueryModel" (156 : Nat) yX9_isSampled ∈ wq_aw := wq_mem 1182 (by decide +kernel) (by decide +kernel)
theorem aw_1184 : Jvm.Cond.instanceMethod yX9_isSampled ∈ wq_aw := wq_mem 1184 (by decide +kernel) (by decide +kernel)
theorem aw_1185 : Jvm.Cond.code yX9_isSampled prog_11_method_23_code (6 : Nat) (Option.some Jvm.ClassFile.FieldType.boolean) ∈ wq_aw := wq_mem 1185 (by decide +kernel) (by decide +kernel)
theorem aw_1186 : Jvm.Cond.methodLink "WharfQueryModel" (163 : Nat) yX9_sample ∈ wq_aw := wq_mem 1186 (by decide +kernel) (by decide +kernel)
theorem aw_1188 : Jvm.Cond.instanceMethod yX9_sample ∈ wq_aw := wq_mem 1188 (by decide +kernel) (by decide +kernel)
theorem aw_1189 : Jvm.Cond.code yX9_sample prog_11_method_22_code (3 : Nat) (Option.some Jvm.ClassFile.FieldType.int) ∈ wq_aw := wq_mem 1189 (by decide +kernel) (by decide +kernel)
theorem aw_1190 : Jvm.Cond.methodLink "WharfQueryLaw" (161 : Nat) yX9_setStep ∈ wq_aw := wq_mem 1190 (by decide +kernel) (by decide +kernel)
theorem aw_1191 : Jvm.Cond.instanceMethod yX9_setStep ∈ wq_aw := wq_mem 1191 (by decide +kernel) (by decide +kernel)
theorem aw_1192 : Jvm.Cond.selects "WharfQueryModel" yX9_setStep yX9_setStep ∈ wq_aw := wq_mem 1192 (by decide +kernel) (by decide +kernel)
theorem aw_1193 : Jvm.Cond.code yX9_setStep prog_11_method_26_code (3 : Nat) (Option.some Jvm.ClassFile.FieldType.int) ∈ wq_aw := wq_mem 1193 (by decide +kernel) (by decide +kernel)
theorem aw_1194 : Jvm.Cond.methodLink "WharfQueryLaw" (164 : Nat) yX9_toldRows ∈ wq_aw := wq_mem 1194 (by decide +kernel) (by decide +kernel)
theorem aw_1195 : Jvm.Cond.instanceMethod yX9_toldRows ∈ wq_aw := wq_mem 1195 (by decide +kernel) (by decide +kernel)
theorem aw_1196 : Jvm.Cond.selects "WharfQueryModel" yX9_toldRows yX9_toldRows ∈ wq_aw := wq_mem 1196 (by decide +kernel) (by decide +kernel)
theorem aw_1197 : Jvm.Cond.code yX9_toldRows prog_11_method_27_code (2 : Nat) (Option.some Jvm.ClassFile.FieldType.int) ∈ wq_aw := wq_mem 1197 (by decide +kernel) (by decide +kernel)
theorem aw_1198 : Jvm.Cond.methodLink "WharfQueryLaw" (167 : Nat) yX9_unlike ∈ wq_aw := wq_mem 1198 (by decide +kernel) (by decide +kernel)
theorem aw_1199 : Jvm.Cond.instanceMethod yX9_unlike ∈ wq_aw := wq_mem 1199 (by decide +kernel) (by decide +kernel)
theorem aw_1200 : Jvm.Cond.selects "WharfQueryModel" yX9_unlike yX9_unlike ∈ wq_aw := wq_mem 1200 (by decide +kernel) (by decide +kernel)
theorem aw_1201 : Jvm.Cond.code yX9_unlike prog_11_method_28_code (3 : Nat) (Option.some Jvm.ClassFile.FieldType.int) ∈ wq_aw := wq_mem 1201 (by decide +kernel) (by decide +kernel)
theorem aw_1202 : Jvm.Cond.methodLink "WharfQueryLaw" (170 : Nat) yX9_least ∈ wq_aw := wq_mem 1202 (by decide +kernel) (by decide +kernel)
theorem aw_1203 : Jvm.Cond.instanceMethod yX9_least ∈ wq_aw := wq_mem 1203 (by decide +kernel) (by decide +kernel)
theorem aw_1204 : Jvm.Cond.selects "WharfQueryModel" yX9_least yX9_least ∈ wq_aw := wq_mem 1204 (by decide +kernel) (by decide +kernel)
theorem aw_1205 : Jvm.Cond.code yX9_least prog_11_method_29_code (3 : Nat) (Option.some Jvm.ClassFile.FieldType.int) ∈ wq_aw := wq_mem 1205 (by decide +kernel) (by decide +kernel)
theorem aw_1206 : Jvm.Cond.methodLink "WharfQueryLaw" (173 : Nat) yX9_greatest ∈ wq_aw := wq_mem 1206 (by decide +kernel) (by decide +kernel)
theorem aw_1207 : Jvm.Cond.instanceMethod yX9_greatest ∈ wq_aw := wq_mem 1207 (by decide +kernel) (by decide +kernel)
theorem aw_1208 : Jvm.Cond.selects "WharfQueryModel" yX9_greatest yX9_greatest ∈ wq_aw := wq_mem 1208 (by decide +kernel) (by decide +kernel)
theorem aw_1209 : Jvm.Cond.code yX9_greatest prog_11_method_30_code (3 : Nat) (Option.some Jvm.ClassFile.FieldType.int) ∈ wq_aw := wq_mem 1209 (by decide +kernel) (by decide +kernel)
theorem aw_1210 : Jvm.Cond.methodLink "WharfQueryLaw" (176 : Nat) yX9_isMarked ∈ wq_aw := wq_mem 1210 (by decide +kernel) (by decide +kernel)
theorem aw_1211 : Jvm.Cond.instanceMethod yX9_isMarked ∈ wq_aw := wq_mem 1211 (by decide +kernel) (by decide +kernel)
theorem aw_1212 : Jvm.Cond.selects "WharfQueryModel" yX9_isMarked yX9_isMarked ∈ wq_aw := wq_mem 1212 (by decide +kernel) (by decide +kernel)
theorem aw_1213 : Jvm.Cond.code yX9_isMarked prog_11_method_31_code (2 : Nat) (Option.some Jvm.ClassFile.FieldType.boolean) ∈ wq_aw := wq_mem 1213 (by decide +kernel) (by decide +kernel)
theorem aw_1214 : Jvm.Cond.methodLink "WharfQueryLaw" (179 : Nat) yX9_addReport ∈ wq_aw := wq_mem 1214 (by decide +kernel) (by decide +kernel)
theorem aw_1215 : Jvm.Cond.instanceMethod yX9_addReport ∈ wq_aw := wq_mem 1215 (by decide +kernel) (by decide +kernel)
theorem aw_1216 : Jvm.Cond.selects "WharfQueryModel" yX9_addReport yX9_addReport ∈ wq_aw := wq_mem 1216 (by decide +kernel) (by decide +kernel)
theorem aw_1217 : Jvm.Cond.code yX9_addReport prog_11_method_32_code (2 : Nat) (Option.some Jvm.ClassFile.FieldType.int) ∈ wq_aw := wq_mem 1217 (by decide +kernel) (by decide +kernel)
theorem aw_1218 : Jvm.Cond.methodLink "WharfQueryLaw" (182 : Nat) yX9_addSource ∈ wq_aw := wq_mem 1218 (by decide +kernel) (by decide +kernel)
theorem aw_1219 : Jvm.Cond.instanceMethod yX9_addSource ∈ wq_aw := wq_mem 1219 (by decide +kernel) (by decide +kernel)
theorem aw_1220 : Jvm.Cond.selects "WharfQueryModel" yX9_addSource yX9_addSource ∈ wq_aw := wq_mem 1220 (by decide +kernel) (by decide +kernel)
theorem aw_1221 : Jvm.Cond.code yX9_addSource prog_11_method_33_code (4 : Nat) (Option.some Jvm.ClassFile.FieldType.int) ∈ wq_aw := wq_mem 1221 (by decide +kernel) (by decide +kernel)
theorem aw_1222 : Jvm.Cond.methodLink "WharfQueryModel" (125 : Nat) yX9_isReport ∈ wq_aw := wq_mem 1222 (by decide +kernel) (by decide +kernel)
theorem aw_1224 : Jvm.Cond.instanceMethod yX9_isReport ∈ wq_aw := wq_mem 1224 (by decide +kernel) (by decide +kernel)
theorem aw_1225 : Jvm.Cond.code yX9_isReport prog_11_method_11_code (2 : Nat) (Option.some Jvm.ClassFile.FieldType.boolean) ∈ wq_aw := wq_mem 1225 (by decide +kernel) (by decide +kernel)
theorem aw_1226 : Jvm.Cond.methodLink "WharfQueryLaw" (186 : Nat) yX9_addCondition ∈ wq_aw := wq_mem 1226 (by decide +kernel) (by decide +kernel)
theorem aw_1227 : Jvm.Cond.instanceMethod yX9_addCondition ∈ wq_aw := wq_mem 1227 (by decide +kernel) (by decide +kernel)
theorem aw_1228 : Jvm.Cond.selects "WharfQueryModel" yX9_addCondition yX9_addCondition ∈ wq_aw := wq_mem 1228 (by decide +kernel) (by decide +kernel)
theorem aw_1229 : Jvm.Cond.code yX9_addCondition prog_11_method_35_code (7 : Nat) (Option.some Jvm.ClassFile.FieldType.int) ∈ wq_aw := wq_mem 1229 (by decide +kernel) (by decide +kernel)
theorem aw_1230 : Jvm.Cond.methodLink "WharfQueryModel" (167 : Nat) yX9_isColumnOf ∈ wq_aw := wq_mem 1230 (by decide +kernel) (by decide +kernel)
theorem aw_1232 : Jvm.Cond.instanceMethod yX9_isColumnOf ∈ wq_aw := wq_mem 1232 (by decide +kernel) (by decide +kernel)
theorem aw_1233 : Jvm.Cond.code yX9_isColumnOf prog_11_method_13_code (4 : Nat) (Option.some Jvm.ClassFile.FieldType.boolean) ∈ wq_aw := wq_mem 1233 (by decide +kernel) (by decide +kernel)
theorem aw_1234 : Jvm.Cond.methodLink "WharfQueryModel" (128 : Nat) yX9_isSource ∈ wq_aw := wq_mem 1234 (by decide +kernel) (by decide +kernel)
theorem aw_1236 : Jvm.Cond.instanceMethod yX9_isSource ∈ wq_aw := wq_mem 1236 (by decide +kernel) (by decide +kernel)
theorem aw_1237 : Jvm.Cond.code yX9_isSource prog_11_method_12_code (3 : Nat) (Option.some Jvm.ClassFile.FieldType.boolean) ∈ wq_aw := wq_mem 1237 (by decide +kernel) (by decide +kernel)
theorem aw_1238 : Jvm.Cond.methodLink "WharfQueryModel" (170 : Nat) yX9_adds ∈ wq_aw := wq_mem 1238 (by decide +kernel) (by decide +kernel)
theorem aw_1240 : Jvm.Cond.instanceMethod yX9_adds ∈ wq_aw := wq_mem 1240 (by decide +kernel) (by decide +kernel)
theorem aw_1241 : Jvm.Cond.code yX9_adds prog_11_method_34_code (6 : Nat) (Option.some Jvm.ClassFile.FieldType.int) ∈ wq_aw := wq_mem 1241 (by decide +kernel) (by decide +kernel)
theorem aw_1242 : Jvm.Cond.methodLink "WharfQueryLaw" (189 : Nat) yX9_addJoin ∈ wq_aw := wq_mem 1242 (by decide +kernel) (by decide +kernel)
theorem aw_1243 : Jvm.Cond.instanceMethod yX9_addJoin ∈ wq_aw := wq_mem 1243 (by decide +kernel) (by decide +kernel)
theorem aw_1244 : Jvm.Cond.selects "WharfQueryModel" yX9_addJoin yX9_addJoin ∈ wq_aw := wq_mem 1244 (by decide +kernel) (by decide +kernel)
theorem aw_1245 : Jvm.Cond.code yX9_addJoin prog_11_method_36_code (7 : Nat) (Option.some Jvm.ClassFile.FieldType.int) ∈ wq_aw := wq_mem 1245 (by decide +kernel) (by decide +kernel)
theorem aw_1246 : Jvm.Cond.methodLink "WharfQueryLaw" (192 : Nat) yX9_dropCondition ∈ wq_aw := wq_mem 1246 (by decide +kernel) (by decide +kernel)
theorem aw_1247 : Jvm.Cond.instanceMethod yX9_dropCondition ∈ wq_aw := wq_mem 1247 (by decide +kernel) (by decide +kernel)
theorem aw_1248 : Jvm.Cond.selects "WharfQueryModel" yX9_dropCondition yX9_dropCondition ∈ wq_aw := wq_mem 1248 (by decide +kernel) (by decide +kernel)
theorem aw_1249 : Jvm.Cond.code yX9_dropCondition prog_11_method_37_code (3 : Nat) (Option.some Jvm.ClassFile.FieldType.int) ∈ wq_aw := wq_mem 1249 (by decide +kernel) (by decide +kernel)
theorem aw_1250 : Jvm.Cond.methodLink "WharfQueryLaw" (196 : Nat) yX9_setSum ∈ wq_aw := wq_mem 1250 (by decide +kernel) (by decide +kernel)
theorem aw_1251 : Jvm.Cond.instanceMethod yX9_setSum ∈ wq_aw := wq_mem 1251 (by decide +kernel) (by decide +kernel)
theorem aw_1252 : Jvm.Cond.selects "WharfQueryModel" yX9_setSum yX9_setSum ∈ wq_aw := wq_mem 1252 (by decide +kernel) (by decide +kernel)
theorem aw_1253 : Jvm.Cond.code yX9_setSum prog_11_method_38_code (4 : Nat) (Option.none : Option Jvm.ClassFile.FieldType) ∈ wq_aw := wq_mem 1253 (by decide +kernel) (by decide +kernel)
theorem aw_1254 : Jvm.Cond.methodLink "WharfQueryLaw" (200 : Nat) yX9_setDue ∈ wq_aw := wq_mem 1254 (by decide +kernel) (by decide +kernel)
theorem aw_1255 : Jvm.Cond.instanceMethod yX9_setDue ∈ wq_aw := wq_mem 1255 (by decide +kernel) (by decide +kernel)
theorem aw_1256 : Jvm.Cond.selects "WharfQueryModel" yX9_setDue yX9_setDue ∈ wq_aw := wq_mem 1256 (by decide +kernel) (by decide +kernel)
theorem aw_1257 : Jvm.Cond.code yX9_setDue prog_11_method_39_code (4 : Nat) (Option.some Jvm.ClassFile.FieldType.boolean) ∈ wq_aw := wq_mem 1257 (by decide +kernel) (by decide +kernel)
theorem aw_1258 : Jvm.Cond.methodLink "WharfQueryLaw" (203 : Nat) yX9_isDue ∈ wq_aw := wq_mem 1258 (by decide +kernel) (by decide +kernel)
theorem aw_1259 : Jvm.Cond.instanceMethod yX9_isDue ∈ wq_aw := wq_mem 1259 (by decide +kernel) (by decide +kernel)
theorem aw_1260 : Jvm.Cond.selects "WharfQueryModel" yX9_isDue yX9_isDue ∈ wq_aw := wq_mem 1260 (by decide +kernel) (by decide +kernel)
theorem aw_1261 : Jvm.Cond.code yX9_isDue prog_11_method_40_code (2 : Nat) (Option.some Jvm.ClassFile.FieldType.boolean) ∈ wq_aw := wq_mem 1261 (by decide +kernel) (by decide +kernel)
theorem aw_1262 : Jvm.Cond.methodLink "WharfQueryLaw" (206 : Nat) yX9_planSource ∈ wq_aw := wq_mem 1262 (by decide +kernel) (by decide +kernel)
theorem aw_1263 : Jvm.Cond.instanceMethod yX9_planSource ∈ wq_aw := wq_mem 1263 (by decide +kernel) (by decide +kernel)
theorem aw_1264 : Jvm.Cond.selects "WharfQueryModel" yX9_planSource yX9_planSource ∈ wq_aw := wq_mem 1264 (by decide +kernel) (by decide +kernel)
theorem aw_1265 : Jvm.Cond.code yX9_planSource prog_11_method_56_code (3 : Nat) (Option.some Jvm.ClassFile.FieldType.int) ∈ wq_aw := wq_mem 1265 (by decide +kernel) (by decide +kernel)
theorem aw_1266 : Jvm.Cond.methodLink "WharfQueryModel" (209 : Nat) yX9_plans ∈ wq_aw := wq_mem 1266 (by decide +kernel) (by decide +kernel)
theorem aw_1268 : Jvm.Cond.instanceMethod yX9_plans ∈ wq_aw := wq_mem 1268 (by decide +kernel) (by decide +kernel)
theorem aw_1269 : Jvm.Cond.code yX9_plans prog_11_method_49_code (6 : Nat) (Option.none : Option Jvm.ClassFile.FieldType) ∈ wq_aw := wq_mem 1269 (by decide +kernel) (by decide +kernel)
theorem aw_1270 : Jvm.Cond.constantLong "WharfQueryModel" (191 : Nat) (-1 : Int64) ∈ wq_aw := wq_mem 1270 (by decide +kernel) (by decide +kernel)
theorem aw_1271 : Jvm.Cond.methodLink "WharfQueryModel" (205 : Nat) yX9_triesWays ∈ wq_aw := wq_mem 1271 (by decide +kernel) (by decide +kernel)
theorem aw_1273 : Jvm.Cond.instanceMethod yX9_triesWays ∈ wq_aw := wq_mem 1273 (by decide +kernel) (by decide +kernel)
theorem aw_1274 : Jvm.Cond.code yX9_triesWays prog_11_method_48_code (9 : Nat) (Option.none : Option Jvm.ClassFile.FieldType) ∈ wq_aw := wq_mem 1274 (by decide +kernel) (by decide +kernel)
theorem aw_1275 : Jvm.Cond.methodLink "WharfQueryModel" (197 : Nat) yX9_cost ∈ wq_aw := wq_mem 1275 (by decide +kernel) (by decide +kernel)
theorem aw_1277 : Jvm.Cond.instanceMethod yX9_cost ∈ wq_aw := wq_mem 1277 (by decide +kernel) (by decide +kernel)
theorem aw_1278 : Jvm.Cond.code yX9_cost prog_11_method_47_code (9 : Nat) (Option.some Jvm.ClassFile.FieldType.long) ∈ wq_aw := wq_mem 1278 (by decide +kernel) (by decide +kernel)
theorem aw_1279 : Jvm.Cond.constantLong "WharfQueryModel" (186 : Nat) (1000 : Int64) ∈ wq_aw := wq_mem 1279 (by decide +kernel) (by decide +kernel)
theorem aw_1280 : Jvm.Cond.methodLink "WharfQueryModel" (188 : Nat) yX9_useOf ∈ wq_aw := wq_mem 1280 (by decide +kernel) (by decide +kernel)
theorem aw_1282 : Jvm.Cond.instanceMethod yX9_useOf ∈ wq_aw := wq_mem 1282 (by decide +kernel) (by decide +kernel)
theorem aw_1283 : Jvm.Cond.code yX9_useOf prog_11_method_44_code (5 : Nat) (Option.some Jvm.ClassFile.FieldType.int) ∈ wq_aw := wq_mem 1283 (by decide +kernel) (by decide +kernel)
theorem aw_1284 : Jvm.Cond.methodLink "WharfQueryModel" (177 : Nat) yX9_stepOfCondition ∈ wq_aw := wq_mem 1284 (by decide +kernel) (by decide +kernel)
theorem aw_1286 : Jvm.Cond.instanceMethod yX9_stepOfCondition ∈ wq_aw := wq_mem 1286 (by decide +kernel) (by decide +kernel)
theorem aw_1287 : Jvm.Cond.code yX9_stepOfCondition prog_11_method_42_code (4 : Nat) (Option.some Jvm.ClassFile.FieldType.int) ∈ wq_aw := wq_mem 1287 (by decide +kernel) (by decide +kernel)
theorem aw_1288 : Jvm.Cond.methodLink "WharfQueryModel" (174 : Nat) yX9_stepOf ∈ wq_aw := wq_mem 1288 (by decide +kernel) (by decide +kernel)
theorem aw_1290 : Jvm.Cond.instanceMethod yX9_stepOf ∈ wq_aw := wq_mem 1290 (by decide +kernel) (by decide +kernel)
theorem aw_1291 : Jvm.Cond.code yX9_stepOf prog_11_method_41_code (3 : Nat) (Option.some Jvm.ClassFile.FieldType.int) ∈ wq_aw := wq_mem 1291 (by decide +kernel) (by decide +kernel)
theorem aw_1292 : Jvm.Cond.methodLink "WharfQueryModel" (180 : Nat) yX9_columnAt ∈ wq_aw := wq_mem 1292 (by decide +kernel) (by decide +kernel)
theorem aw_1294 : Jvm.Cond.instanceMethod yX9_columnAt ∈ wq_aw := wq_mem 1294 (by decide +kernel) (by decide +kernel)
theorem aw_1295 : Jvm.Cond.code yX9_columnAt prog_11_method_43_code (3 : Nat) (Option.some Jvm.ClassFile.FieldType.int) ∈ wq_aw := wq_mem 1295 (by decide +kernel) (by decide +kernel)
theorem aw_1296 : Jvm.Cond.methodLink "WharfQueryModel" (193 : Nat) yX9_changed ∈ wq_aw := wq_mem 1296 (by decide +kernel) (by decide +kernel)
theorem aw_1298 : Jvm.Cond.instanceMethod yX9_changed ∈ wq_aw := wq_mem 1298 (by decide +kernel) (by decide +kernel)
theorem aw_1299 : Jvm.Cond.code yX9_changed prog_11_method_46_code (8 : Nat) (Option.some Jvm.ClassFile.FieldType.long) ∈ wq_aw := wq_mem 1299 (by decide +kernel) (by decide +kernel)
theorem aw_1300 : Jvm.Cond.methodLink "WharfQueryModel" (183 : Nat) yX9_cellAt ∈ wq_aw := wq_mem 1300 (by decide +kernel) (by decide +kernel)
theorem aw_1302 : Jvm.Cond.instanceMethod yX9_cellAt ∈ wq_aw := wq_mem 1302 (by decide +kernel) (by decide +kernel)
theorem aw_1303 : Jvm.Cond.code yX9_cellAt prog_11_method_45_code (4 : Nat) (Option.some Jvm.ClassFile.FieldType.int) ∈ wq_aw := wq_mem 1303 (by decide +kernel) (by decide +kernel)
theorem aw_1304 : Jvm.Cond.methodLink "WharfQueryLaw" (209 : Nat) yX9_planWay ∈ wq_aw := wq_mem 1304 (by decide +kernel) (by decide +kernel)
theorem aw_1305 : Jvm.Cond.instanceMethod yX9_planWay ∈ wq_aw := wq_mem 1305 (by decide +kernel) (by decide +kernel)
theorem aw_1306 : Jvm.Cond.selects "WharfQueryModel" yX9_planWay yX9_planWay ∈ wq_aw := wq_mem 1306 (by decide +kernel) (by decide +kernel)
theorem aw_1307 : Jvm.Cond.code yX9_planWay prog_11_method_57_code (3 : Nat) (Option.some Jvm.ClassFile.FieldType.int) ∈ wq_aw := wq_mem 1307 (by decide +kernel) (by decide +kernel)
theorem aw_1308 : Jvm.Cond.methodLink "WharfQueryLaw" (212 : Nat) yX9_foretold ∈ wq_aw := wq_mem 1308 (by decide +kernel) (by decide +kernel)
theorem aw_1309 : Jvm.Cond.instanceMethod yX9_foretold ∈ wq_aw := wq_mem 1309 (by decide +kernel) (by decide +kernel)
theorem aw_1310 : Jvm.Cond.selects "WharfQueryModel" yX9_foretold yX9_foretold ∈ wq_aw := wq_mem 1310 (by decide +kernel) (by decide +kernel)
theorem aw_1311 : Jvm.Cond.code yX9_foretold prog_11_method_58_code (2 : Nat) (Option.some Jvm.ClassFile.FieldType.int) ∈ wq_aw := wq_mem 1311 (by decide +kernel) (by decide +kernel)
theorem aw_1312 : Jvm.Cond.methodLink "WharfQueryModel" (235 : Nat) yX9_foretells ∈ wq_aw := wq_mem 1312 (by decide +kernel) (by decide +kernel)
theorem aw_1314 : Jvm.Cond.instanceMethod yX9_foretells ∈ wq_aw := wq_mem 1314 (by decide +kernel) (by decide +kernel)
theorem aw_1315 : Jvm.Cond.code yX9_foretells prog_11_method_50_code (2 : Nat) (Option.some Jvm.ClassFile.FieldType.int) ∈ wq_aw := wq_mem 1315 (by decide +kernel) (by decide +kernel)
theorem aw_1316 : Jvm.Cond.constantLong "WharfQueryModel" (212 : Nat) (999 : Int64) ∈ wq_aw := wq_mem 1316 (by decide +kernel) (by decide +kernel)
theorem aw_1317 : Jvm.Cond.methodLink "WharfQueryLaw" (215 : Nat) yX9_minutes ∈ wq_aw := wq_mem 1317 (by decide +kernel) (by decide +kernel)
theorem aw_1318 : Jvm.Cond.instanceMethod yX9_minutes ∈ wq_aw := wq_mem 1318 (by decide +kernel) (by decide +kernel)
theorem aw_1319 : Jvm.Cond.selects "WharfQueryModel" yX9_minutes yX9_minutes ∈ wq_aw := wq_mem 1319 (by decide +kernel) (by decide +kernel)
theorem aw_1320 : Jvm.Cond.code yX9_minutes prog_11_method_60_code (2 : Nat) (Option.some Jvm.ClassFile.FieldType.int) ∈ wq_aw := wq_mem 1320 (by decide +kernel) (by decide +kernel)
theorem aw_1321 : Jvm.Cond.methodLink "WharfQueryModel" (241 : Nat) yX9_isRun ∈ wq_aw := wq_mem 1321 (by decide +kernel) (by decide +kernel)
theorem aw_1323 : Jvm.Cond.instanceMethod yX9_isRun ∈ wq_aw := wq_mem 1323 (by decide +kernel) (by decide +kernel)
theorem aw_1324 : Jvm.Cond.code yX9_isRun prog_11_method_59_code (3 : Nat) (Option.some Jvm.ClassFile.FieldType.boolean) ∈ wq_aw := wq_mem 1324 (by decide +kernel) (by decide +kernel)
theorem aw_1325 : Jvm.Cond.methodLink "WharfQueryModel" (238 : Nat) yX9_runs ∈ wq_aw := wq_mem 1325 (by decide +kernel) (by decide +kernel)
theorem aw_1327 : Jvm.Cond.instanceMethod yX9_runs ∈ wq_aw := wq_mem 1327 (by decide +kernel) (by decide +kernel)
theorem aw_1328 : Jvm.Cond.code yX9_runs prog_11_method_55_code (5 : Nat) (Option.none : Option Jvm.ClassFile.FieldType) ∈ wq_aw := wq_mem 1328 (by decide +kernel) (by decide +kernel)
theorem aw_1329 : Jvm.Cond.methodLink "WharfQueryModel" (229 : Nat) yX9_minutesAt ∈ wq_aw := wq_mem 1329 (by decide +kernel) (by decide +kernel)
theorem aw_1331 : Jvm.Cond.instanceMethod yX9_minutesAt ∈ wq_aw := wq_mem 1331 (by decide +kernel) (by decide +kernel)
theorem aw_1332 : Jvm.Cond.code yX9_minutesAt prog_11_method_54_code (8 : Nat) (Option.some Jvm.ClassFile.FieldType.int) ∈ wq_aw := wq_mem 1332 (by decide +kernel) (by decide +kernel)
theorem aw_1333 : Jvm.Cond.methodLink "WharfQueryModel" (214 : Nat) yX9_pickedAt ∈ wq_aw := wq_mem 1333 (by decide +kernel) (by decide +kernel)
theorem aw_1335 : Jvm.Cond.instanceMethod yX9_pickedAt ∈ wq_aw := wq_mem 1335 (by decide +kernel) (by decide +kernel)
theorem aw_1336 : Jvm.Cond.code yX9_pickedAt prog_11_method_51_code (4 : Nat) (Option.some Jvm.ClassFile.FieldType.int) ∈ wq_aw := wq_mem 1336 (by decide +kernel) (by decide +kernel)
theorem aw_1337 : Jvm.Cond.methodLink "WharfQueryModel" (232 : Nat) yX9_holdsAt ∈ wq_aw := wq_mem 1337 (by decide +kernel) (by decide +kernel)
theorem aw_1339 : Jvm.Cond.instanceMethod yX9_holdsAt ∈ wq_aw := wq_mem 1339 (by decide +kernel) (by decide +kernel)
theorem aw_1340 : Jvm.Cond.code yX9_holdsAt prog_11_method_53_code (5 : Nat) (Option.some Jvm.ClassFile.FieldType.boolean) ∈ wq_aw := wq_mem 1340 (by decide +kernel) (by decide +kernel)
theorem aw_1341 : Jvm.Cond.methodLink "WharfQueryModel" (217 : Nat) yX9_holds ∈ wq_aw := wq_mem 1341 (by decide +kernel) (by decide +kernel)
theorem aw_1343 : Jvm.Cond.instanceMethod yX9_holds ∈ wq_aw := wq_mem 1343 (by decide +kernel) (by decide +kernel)
theorem aw_1344 : Jvm.Cond.code yX9_holds prog_11_method_52_code (4 : Nat) (Option.some Jvm.ClassFile.FieldType.boolean) ∈ wq_aw := wq_mem 1344 (by decide +kernel) (by decide +kernel)
theorem aw_1345 : Jvm.Cond.methodLink "WharfQueryLaw" (218 : Nat) yX9_answer ∈ wq_aw := wq_mem 1345 (by decide +kernel) (by decide +kernel)
theorem aw_1346 : Jvm.Cond.instanceMethod yX9_answer ∈ wq_aw := wq_mem 1346 (by decide +kernel) (by decide +kernel)
theorem aw_1347 : Jvm.Cond.selects "WharfQueryModel" yX9_answer yX9_answer ∈ wq_aw := wq_mem 1347 (by decide +kernel) (by decide +kernel)
theorem aw_1348 : Jvm.Cond.code yX9_answer prog_11_method_61_code (2 : Nat) (Option.some Jvm.ClassFile.FieldType.int) ∈ wq_aw := wq_mem 1348 (by decide +kernel) (by decide +kernel)
theorem aw_1349 : Jvm.Cond.methodLink "WharfQueryLaw" (221 : Nat) yX9_sum ∈ wq_aw := wq_mem 1349 (by decide +kernel) (by decide +kernel)
theorem aw_1350 : Jvm.Cond.instanceMethod yX9_sum ∈ wq_aw := wq_mem 1350 (by decide +kernel) (by decide +kernel)
theorem aw_1351 : Jvm.Cond.selects "WharfQueryModel" yX9_sum yX9_sum ∈ wq_aw := wq_mem 1351 (by decide +kernel) (by decide +kernel)
theorem aw_1352 : Jvm.Cond.code yX9_sum prog_11_method_62_code (2 : Nat) (Option.some Jvm.ClassFile.FieldType.int) ∈ wq_aw := wq_mem 1352 (by decide +kernel) (by decide +kernel)
theorem aw_1353 : Jvm.Cond.methodLink "WharfQueryLaw" (224 : Nat) yX9_plainAnswer ∈ wq_aw := wq_mem 1353 (by decide +kernel) (by decide +kernel)
theorem aw_1354 : Jvm.Cond.instanceMethod yX9_plainAnswer ∈ wq_aw := wq_mem 1354 (by decide +kernel) (by decide +kernel)
theorem aw_1355 : Jvm.Cond.selects "WharfQueryModel" yX9_plainAnswer yX9_plainAnswer ∈ wq_aw := wq_mem 1355 (by decide +kernel) (by decide +kernel)
theorem aw_1356 : Jvm.Cond.code yX9_plainAnswer prog_11_method_63_code (2 : Nat) (Option.some Jvm.ClassFile.FieldType.int) ∈ wq_aw := wq_mem 1356 (by decide +kernel) (by decide +kernel)
theorem aw_1357 : Jvm.Cond.methodLink "WharfQueryModel" (244 : Nat) yX9_answer ∈ wq_aw := wq_mem 1357 (by decide +kernel) (by decide +kernel)
theorem aw_1358 : Jvm.Cond.methodLink "WharfQueryLaw" (227 : Nat) yX9_plainSum ∈ wq_aw := wq_mem 1358 (by decide +kernel) (by decide +kernel)
theorem aw_1359 : Jvm.Cond.instanceMethod yX9_plainSum ∈ wq_aw := wq_mem 1359 (by decide +kernel) (by decide +kernel)
theorem aw_1360 : Jvm.Cond.selects "WharfQueryModel" yX9_plainSum yX9_plainSum ∈ wq_aw := wq_mem 1360 (by decide +kernel) (by decide +kernel)
theorem aw_1361 : Jvm.Cond.code yX9_plainSum prog_11_method_64_code (2 : Nat) (Option.some Jvm.ClassFile.FieldType.int) ∈ wq_aw := wq_mem 1361 (by decide +kernel) (by decide +kernel)
theorem aw_1362 : Jvm.Cond.methodLink "WharfQueryModel" (247 : Nat) yX9_sum ∈ wq_aw := wq_mem 1362 (by decide +kernel) (by decide +kernel)
theorem aw_1363 : Jvm.Cond.methodLink "WharfQueryLaw" (230 : Nat) yX9_night ∈ wq_aw := wq_mem 1363 (by decide +kernel) (by decide +kernel)
theorem aw_1364 : Jvm.Cond.instanceMethod yX9_night ∈ wq_aw := wq_mem 1364 (by decide +kernel) (by decide +kernel)
theorem aw_1365 : Jvm.Cond.selects "WharfQueryModel" yX9_night yX9_night ∈ wq_aw := wq_mem 1365 (by decide +kernel) (by decide +kernel)
theorem aw_1366 : Jvm.Cond.code yX9_night prog_11_method_68_code (9 : Nat) (Option.some Jvm.ClassFile.FieldType.int) ∈ wq_aw := wq_mem 1366 (by decide +kernel) (by decide +kernel)
theorem aw_1367 : Jvm.Cond.methodLink "WharfQueryModel" (253 : Nat) yX9_dusk ∈ wq_aw := wq_mem 1367 (by decide +kernel) (by decide +kernel)
theorem aw_1369 : Jvm.Cond.instanceMethod yX9_dusk ∈ wq_aw := wq_mem 1369 (by decide +kernel) (by decide +kernel)
theorem aw_1370 : Jvm.Cond.code yX9_dusk prog_11_method_67_code (3 : Nat) (Option.some Jvm.ClassFile.FieldType.int) ∈ wq_aw := wq_mem 1370 (by decide +kernel) (by decide +kernel)
theorem aw_1371 : Jvm.Cond.methodLink "WharfQueryModel" (263 : Nat) yX9_dueBehind ∈ wq_aw := wq_mem 1371 (by decide +kernel) (by decide +kernel)
theorem aw_1373 : Jvm.Cond.instanceMethod yX9_dueBehind ∈ wq_aw := wq_mem 1373 (by decide +kernel) (by decide +kernel)
theorem aw_1374 : Jvm.Cond.code yX9_dueBehind prog_11_method_66_code (5 : Nat) (Option.some Jvm.ClassFile.FieldType.int) ∈ wq_aw := wq_mem 1374 (by decide +kernel) (by decide +kernel)
theorem aw_1375 : Jvm.Cond.methodLink "WharfQueryModel" (269 : Nat) yX9_marks ∈ wq_aw := wq_mem 1375 (by decide +kernel) (by decide +kernel)
theorem aw_1377 : Jvm.Cond.instanceMethod yX9_marks ∈ wq_aw := wq_mem 1377 (by decide +kernel) (by decide +kernel)
theorem aw_1378 : Jvm.Cond.code yX9_marks prog_11_method_65_code (3 : Nat) (Option.none : Option Jvm.ClassFile.FieldType) ∈ wq_aw := wq_mem 1378 (by decide +kernel) (by decide +kernel)
theorem aw_1379 : Jvm.Cond.methodLink "WharfQueryLaw" (234 : Nat) yX9_nights ∈ wq_aw := wq_mem 1379 (by decide +kernel) (by decide +kernel)
theorem aw_1380 : Jvm.Cond.instanceMethod yX9_nights ∈ wq_aw := wq_mem 1380 (by decide +kernel) (by decide +kernel)
theorem aw_1381 : Jvm.Cond.selects "WharfQueryModel" yX9_nights yX9_nights ∈ wq_aw := wq_mem 1381 (by decide +kernel) (by decide +kernel)
theorem aw_1382 : Jvm.Cond.code yX9_nights prog_11_method_69_code (1 : Nat) (Option.some Jvm.ClassFile.FieldType.int) ∈ wq_aw := wq_mem 1382 (by decide +kernel) (by decide +kernel)
theorem aw_1383 : Jvm.Cond.methodLink "WharfQueryModel" (272 : Nat) yX9_told ∈ wq_aw := wq_mem 1383 (by decide +kernel) (by decide +kernel)
theorem aw_1385 : Jvm.Cond.instanceMethod yX9_told ∈ wq_aw := wq_mem 1385 (by decide +kernel) (by decide +kernel)
theorem aw_1386 : Jvm.Cond.code yX9_told prog_11_method_7_code (2 : Nat) (Option.some Jvm.ClassFile.FieldType.int) ∈ wq_aw := wq_mem 1386 (by decide +kernel) (by decide +kernel)
theorem aw_1387 : Jvm.Cond.methodLink "WharfQueryLaw" (238 : Nat) yX9_paid ∈ wq_aw := wq_mem 1387 (by decide +kernel) (by decide +kernel)
theorem aw_1388 : Jvm.Cond.instanceMethod yX9_paid ∈ wq_aw := wq_mem 1388 (by decide +kernel) (by decide +kernel)
theorem aw_1389 : Jvm.Cond.selects "WharfQueryModel" yX9_paid yX9_paid ∈ wq_aw := wq_mem 1389 (by decide +kernel) (by decide +kernel)
theorem aw_1390 : Jvm.Cond.code yX9_paid prog_11_method_70_code (1 : Nat) (Option.some Jvm.ClassFile.FieldType.int) ∈ wq_aw := wq_mem 1390 (by decide +kernel) (by decide +kernel)
theorem aw_1391 : Jvm.Cond.methodLink "WharfQueryLaw" (242 : Nat) yX9_left ∈ wq_aw := wq_mem 1391 (by decide +kernel) (by decide +kernel)
theorem aw_1392 : Jvm.Cond.instanceMethod yX9_left ∈ wq_aw := wq_mem 1392 (by decide +kernel) (by decide +kernel)
theorem aw_1393 : Jvm.Cond.selects "WharfQueryModel" yX9_left yX9_left ∈ wq_aw := wq_mem 1393 (by decide +kernel) (by decide +kernel)
theorem aw_1394 : Jvm.Cond.code yX9_left prog_11_method_71_code (1 : Nat) (Option.some Jvm.ClassFile.FieldType.int) ∈ wq_aw := wq_mem 1394 (by decide +kernel) (by decide +kernel)
theorem aw_1395 : Jvm.Cond.methodLink "WharfQueryLaw" (246 : Nat) yX9_owed ∈ wq_aw := wq_mem 1395 (by decide +kernel) (by decide +kernel)
theorem aw_1396 : Jvm.Cond.instanceMethod yX9_owed ∈ wq_aw := wq_mem 1396 (by decide +kernel) (by decide +kernel)
theorem aw_1397 : Jvm.Cond.selects "WharfQueryModel" yX9_owed yX9_owed ∈ wq_aw := wq_mem 1397 (by decide +kernel) (by decide +kernel)
theorem aw_1398 : Jvm.Cond.code yX9_owed prog_11_method_72_code (1 : Nat) (Option.some Jvm.ClassFile.FieldType.int) ∈ wq_aw := wq_mem 1398 (by decide +kernel) (by decide +kernel)
theorem aw_1399 : Jvm.Cond.methodLink "WharfQueryLaw" (249 : Nat) yX9_kept ∈ wq_aw := wq_mem 1399 (by decide +kernel) (by decide +kernel)
theorem aw_1400 : Jvm.Cond.instanceMethod yX9_kept ∈ wq_aw := wq_mem 1400 (by decide +kernel) (by decide +kernel)
theorem aw_1401 : Jvm.Cond.selects "WharfQueryModel" yX9_kept yX9_kept ∈ wq_aw := wq_mem 1401 (by decide +kernel) (by decide +kernel)
theorem aw_1402 : Jvm.Cond.code yX9_kept prog_11_method_73_code (2 : Nat) (Option.some Jvm.ClassFile.FieldType.int) ∈ wq_aw := wq_mem 1402 (by decide +kernel) (by decide +kernel)
theorem aw_1403 : Jvm.Cond.methodLink "WharfQueryLaw" (252 : Nat) yX9_keptSum ∈ wq_aw := wq_mem 1403 (by decide +kernel) (by decide +kernel)
theorem aw_1404 : Jvm.Cond.instanceMethod yX9_keptSum ∈ wq_aw := wq_mem 1404 (by decide +kernel) (by decide +kernel)
theorem aw_1405 : Jvm.Cond.selects "WharfQueryModel" yX9_keptSum yX9_keptSum ∈ wq_aw := wq_mem 1405 (by decide +kernel) (by decide +kernel)
theorem aw_1406 : Jvm.Cond.code yX9_keptSum prog_11_method_74_code (2 : Nat) (Option.some Jvm.ClassFile.FieldType.int) ∈ wq_aw := wq_mem 1406 (by decide +kernel) (by decide +kernel)
theorem aw_1407 : Jvm.Cond.methodLink "WharfQueryLaw" (255 : Nat) yX9_keptIn ∈ wq_aw := wq_mem 1407 (by decide +kernel) (by decide +kernel)
theorem aw_1408 : Jvm.Cond.instanceMethod yX9_keptIn ∈ wq_aw := wq_mem 1408 (by decide +kernel) (by decide +kernel)
theorem aw_1409 : Jvm.Cond.selects "WharfQueryModel" yX9_keptIn yX9_keptIn ∈ wq_aw := wq_mem 1409 (by decide +kernel) (by decide +kernel)
theorem aw_1410 : Jvm.Cond.code yX9_keptIn prog_11_method_75_code (2 : Nat) (Option.some Jvm.ClassFile.FieldType.int) ∈ wq_aw := wq_mem 1410 (by decide +kernel) (by decide +kernel)
theorem aw_1411 : Jvm.Cond.arrayClass Jvm.ClassFile.FieldType.long ∈ wq_aw := wq_mem 1411 (by decide +kernel) (by decide +kernel)
theorem aw_1 : Jvm.Cond.selects RX8 yX8_findTable yX8_findTable ∈ wq_aw := wq_mem 1 (by decide +kernel) (by decide +kernel)
theorem aw_2 : Jvm.Cond.selects RX8 yX8_findColumn yX8_findColumn ∈ wq_aw := wq_mem 2 (by decide +kernel) (by decide +kernel)
theorem aw_3 : Jvm.Cond.selects RX7 yX7_tellColumn yX7_tellColumn ∈ wq_aw := wq_mem 3 (by decide +kernel) (by decide +kernel)
theorem aw_4 : Jvm.Cond.selects RX7 yX7_isNewInSample yX7_isNewInSample ∈ wq_aw := wq_mem 4 (by decide +kernel) (by decide +kernel)
theorem aw_5 : Jvm.Cond.selects RX8 yX8_findReport yX8_findReport ∈ wq_aw := wq_mem 5 (by decide +kernel) (by decide +kernel)
theorem aw_6 : Jvm.Cond.selects RX8 yX8_checkSourceColumn yX8_checkSourceColumn ∈ wq_aw := wq_mem 6 (by decide +kernel) (by decide +kernel)
theorem aw_7 : Jvm.Cond.selects RX4 yX4_takeCheapestWay yX4_takeCheapestWay ∈ wq_aw := wq_mem 7 (by decide +kernel) (by decide +kernel)
theorem aw_8 : Jvm.Cond.selects RX4 yX4_choicesBehind yX4_choicesBehind ∈ wq_aw := wq_mem 8 (by decide +kernel) (by decide +kernel)
theorem aw_9 : Jvm.Cond.selects RX4 yX4_narrow yX4_narrow ∈ wq_aw := wq_mem 9 (by decide +kernel) (by decide +kernel)
theorem aw_10 : Jvm.Cond.selects RX8 yX8_runChosenPlan yX8_runChosenPlan ∈ wq_aw := wq_mem 10 (by decide +kernel) (by decide +kernel)
theorem aw_11 : Jvm.Cond.selects RX6 yX6_countChoice yX6_countChoice ∈ wq_aw := wq_mem 11 (by decide +kernel) (by decide +kernel)
theorem aw_12 : Jvm.Cond.selects RX6 yX6_chosenValue yX6_chosenValue ∈ wq_aw := wq_mem 12 (by decide +kernel) (by decide +kernel)
theorem aw_13 : Jvm.Cond.selects RX6 yX6_valueLookedFor yX6_valueLookedFor ∈ wq_aw := wq_mem 13 (by decide +kernel) (by decide +kernel)
theorem aw_14 : Jvm.Cond.selects RX6 yX6_conditionsHold yX6_conditionsHold ∈ wq_aw := wq_mem 14 (by decide +kernel) (by decide +kernel)
theorem aw_15 : Jvm.Cond.selects RX6 yX6_holds yX6_holds ∈ wq_aw := wq_mem 15 (by decide +kernel) (by decide +kernel)
theorem aw_16 : Jvm.Cond.selects RX8 yX8_runPlainPlan yX8_runPlainPlan ∈ wq_aw := wq_mem 16 (by decide +kernel) (by decide +kernel)
theorem aw_17 : Jvm.Cond.selects RX2 yX2_lineUpDueReports yX2_lineUpDueReports ∈ wq_aw := wq_mem 17 (by decide +kernel) (by decide +kernel)
theorem aw_18 : Jvm.Cond.selects RX2 yX2_keep yX2_keep ∈ wq_aw := wq_mem 18 (by decide +kernel) (by decide +kernel)
theorem aw_19 : Jvm.Cond.selects RX2 yX2_markTables yX2_markTables ∈ wq_aw := wq_mem 19 (by decide +kernel) (by decide +kernel)
theorem aw_20 : Jvm.Cond.selects RX9 yX9_asked_ yX9_asked_ ∈ wq_aw := wq_mem 20 (by decide +kernel) (by decide +kernel)
theorem aw_21 : Jvm.Cond.selects RX9 yX9_isTable yX9_isTable ∈ wq_aw := wq_mem 21 (by decide +kernel) (by decide +kernel)
theorem aw_22 : Jvm.Cond.selects RX9 yX9_asked__ yX9_asked__ ∈ wq_aw := wq_mem 22 (by decide +kernel) (by decide +kernel)
theorem aw_23 : Jvm.Cond.selects RX9 yX9_isRow yX9_isRow ∈ wq_aw := wq_mem 23 (by decide +kernel) (by decide +kernel)
theorem aw_24 : Jvm.Cond.selects RX9 yX9_asked yX9_asked ∈ wq_aw := wq_mem 24 (by decide +kernel) (by decide +kernel)
theorem aw_25 : Jvm.Cond.selects RX9 yX9_rowsOf yX9_rowsOf ∈ wq_aw := wq_mem 25 (by decide +kernel) (by decide +kernel)
theorem aw_26 : Jvm.Cond.selects RX9 yX9_isColumn yX9_isColumn ∈ wq_aw := wq_mem 26 (by decide +kernel) (by decide +kernel)
theorem aw_27 : Jvm.Cond.selects RX9 yX9_valueAt yX9_valueAt ∈ wq_aw := wq_mem 27 (by decide +kernel) (by decide +kernel)
theorem aw_28 : Jvm.Cond.selects RX9 yX9_renews yX9_renews ∈ wq_aw := wq_mem 28 (by decide +kernel) (by decide +kernel)
theorem aw_29 : Jvm.Cond.selects RX9 yX9_isSampled yX9_isSampled ∈ wq_aw := wq_mem 29 (by decide +kernel) (by decide +kernel)
theorem aw_30 : Jvm.Cond.selects RX9 yX9_sample yX9_sample ∈ wq_aw := wq_mem 30 (by decide +kernel) (by decide +kernel)
theorem aw_31 : Jvm.Cond.selects RX9 yX9_isReport yX9_isReport ∈ wq_aw := wq_mem 31 (by decide +kernel) (by decide +kernel)
theorem aw_32 : Jvm.Cond.selects RX9 yX9_isColumnOf yX9_isColumnOf ∈ wq_aw := wq_mem 32 (by decide +kernel) (by decide +kernel)
theorem aw_33 : Jvm.Cond.selects RX9 yX9_isSource yX9_isSource ∈ wq_aw := wq_mem 33 (by decide +kernel) (by decide +kernel)
theorem aw_34 : Jvm.Cond.selects RX9 yX9_adds yX9_adds ∈ wq_aw := wq_mem 34 (by decide +kernel) (by decide +kernel)
theorem aw_35 : Jvm.Cond.selects RX9 yX9_plans yX9_plans ∈ wq_aw := wq_mem 35 (by decide +kernel) (by decide +kernel)
theorem aw_36 : Jvm.Cond.selects RX9 yX9_triesWays yX9_triesWays ∈ wq_aw := wq_mem 36 (by decide +kernel) (by decide +kernel)
theorem aw_37 : Jvm.Cond.selects RX9 yX9_cost yX9_cost ∈ wq_aw := wq_mem 37 (by decide +kernel) (by decide +kernel)
theorem aw_38 : Jvm.Cond.selects RX9 yX9_useOf yX9_useOf ∈ wq_aw := wq_mem 38 (by decide +kernel) (by decide +kernel)
theorem aw_39 : Jvm.Cond.selects RX9 yX9_stepOfCondition yX9_stepOfCondition ∈ wq_aw := wq_mem 39 (by decide +kernel) (by decide +kernel)
theorem aw_40 : Jvm.Cond.selects RX9 yX9_stepOf yX9_stepOf ∈ wq_aw := wq_mem 40 (by decide +kernel) (by decide +kernel)
theorem aw_41 : Jvm.Cond.selects RX9 yX9_columnAt yX9_columnAt ∈ wq_aw := wq_mem 41 (by decide +kernel) (by decide +kernel)
theorem aw_42 : Jvm.Cond.selects RX9 yX9_changed yX9_changed ∈ wq_aw := wq_mem 42 (by decide +kernel) (by decide +kernel)
theorem aw_43 : Jvm.Cond.selects RX9 yX9_cellAt yX9_cellAt ∈ wq_aw := wq_mem 43 (by decide +kernel) (by decide +kernel)
theorem aw_44 : Jvm.Cond.selects RX9 yX9_foretells yX9_foretells ∈ wq_aw := wq_mem 44 (by decide +kernel) (by decide +kernel)
theorem aw_45 : Jvm.Cond.selects RX9 yX9_isRun yX9_isRun ∈ wq_aw := wq_mem 45 (by decide +kernel) (by decide +kernel)
theorem aw_46 : Jvm.Cond.selects RX9 yX9_runs yX9_runs ∈ wq_aw := wq_mem 46 (by decide +kernel) (by decide +kernel)
theorem aw_47 : Jvm.Cond.selects RX9 yX9_minutesAt yX9_minutesAt ∈ wq_aw := wq_mem 47 (by decide +kernel) (by decide +kernel)
theorem aw_48 : Jvm.Cond.selects RX9 yX9_pickedAt yX9_pickedAt ∈ wq_aw := wq_mem 48 (by decide +kernel) (by decide +kernel)
theorem aw_49 : Jvm.Cond.selects RX9 yX9_holdsAt yX9_holdsAt ∈ wq_aw := wq_mem 49 (by decide +kernel) (by decide +kernel)
theorem aw_50 : Jvm.Cond.selects RX9 yX9_holds yX9_holds ∈ wq_aw := wq_mem 50 (by decide +kernel) (by decide +kernel)
theorem aw_51 : Jvm.Cond.selects RX9 yX9_dusk yX9_dusk ∈ wq_aw := wq_mem 51 (by decide +kernel) (by decide +kernel)
theorem aw_52 : Jvm.Cond.selects RX9 yX9_dueBehind yX9_dueBehind ∈ wq_aw := wq_mem 52 (by decide +kernel) (by decide +kernel)
theorem aw_53 : Jvm.Cond.selects RX9 yX9_marks yX9_marks ∈ wq_aw := wq_mem 53 (by decide +kernel) (by decide +kernel)
theorem aw_54 : Jvm.Cond.selects RX9 yX9_told yX9_told ∈ wq_aw := wq_mem 54 (by decide +kernel) (by decide +kernel)
theorem wq_iX0 : ∀ w ∈ u_ws RX0 TX0 4, w ∈ wq_aw := wq_memall [141, 143, 145, 147] (by decide +kernel) (by decide +kernel)
theorem wq_iX1 : ∀ w ∈ u_ws RX1 TX1 6, w ∈ wq_aw := wq_memall [228, 230, 232, 234, 236, 238] (by decide +kernel) (by decide +kernel)
theorem wq_iX2 : ∀ w ∈ u_ws RX2 TX2 10, w ∈ wq_aw := wq_memall [366, 368, 370, 372, 374, 376, 378, 380, 382, 384] (by decide +kernel) (by decide +kernel)
theorem wq_iX3 : ∀ w ∈ u_ws RX3 TX3 4, w ∈ wq_aw := wq_memall [101, 103, 105, 107] (by decide +kernel) (by decide +kernel)
theorem wq_iX4 : ∀ w ∈ u_ws RX4 TX4 3, w ∈ wq_aw := wq_memall [310, 312, 314] (by decide +kernel) (by decide +kernel)
theorem wq_iX5 : ∀ w ∈ u_ws RX5 TX5 11, w ∈ wq_aw := wq_memall [276, 278, 280, 282, 284, 286, 288, 290, 292, 294, 296] (by decide +kernel) (by decide +kernel)
theorem wq_iX6 : ∀ w ∈ u_ws RX6 TX6 5, w ∈ wq_aw := wq_memall [334, 336, 338, 340, 342] (by decide +kernel) (by decide +kernel)
theorem wq_iX7 : ∀ w ∈ u_ws RX7 TX7 9, w ∈ wq_aw := wq_memall [174, 176, 178, 180, 182, 184, 186, 188, 190] (by decide +kernel) (by decide +kernel)
theorem wq_iX8 : ∀ w ∈ u_ws RX8 TX8 8, w ∈ wq_aw := wq_memall [395, 397, 399, 401, 403, 405, 407, 409] (by decide +kernel) (by decide +kernel)
theorem wq_iX9 : ∀ w ∈ u_ws RX9 TX9 43, w ∈ wq_aw := wq_memall [1024, 1026, 1028, 1030, 1032, 1034, 1036, 1038, 1040, 1042, 1044, 1046, 1048, 1050, 1052, 1054, 1056, 1058, 1060, 1062, 1064, 1066, 1068, 1070, 1072, 1074, 1076, 1078, 1080, 1082, 1084, 1086, 1088, 1090, 1092, 1094, 1096, 1098, 1100, 1102, 1104, 1106, 1108] (by decide +kernel) (by decide +kernel)
end
section
/-! THE STATE AS NUMBERS. A cell of the world stands at base + offset; what it holds of numbers is a row of Int, read as 32 or 64 bits where the machine looks. -/
abbrev wq_St : Type := Nat → Nat → Int
def wq_set (S : wq_St) (k j : Nat) (v : Int) : wq_St := fun a i => if a = k ∧ i = j then v else S a i
def wq_I (x : Int) : Int32 := Int32.ofInt x
def wq_J (x : Int) : Int64 := Int64.ofInt x
/-- the number that the machine sees of it: 32 bits, 64 bits -/
def wq_w (x : Int) : Int := (wq_I x).toInt
def wq_v (x : Int) : Int := (wq_J x).toInt
theorem wq_bmod {z : Int} (h1 : -2147483648 ≤ z) (h2 : z < 2147483648) : z.bmod (2 ^ 32) = z := by
  rw [Int.bmod_def]
  split <;> omega
theorem wq_bmodL {z : Int} (h1 : -9223372036854775808 ≤ z) (h2 : z < 9223372036854775808) : z.bmod (2 ^ 64) = z := by
  rw [Int.bmod_def]
  split <;> omega
theorem wq_w_id {x : Int} (h1 : -2147483648 ≤ x) (h2 : x < 2147483648) : wq_w x = x := by
  unfold wq_w wq_I
  rw [Int32.toInt_ofInt]
  exact wq_bmod h1 h2
theorem wq_v_id {x : Int} (h1 : -9223372036854775808 ≤ x) (h2 : x < 9223372036854775808) : wq_v x = x := by
  unfold wq_v wq_J
  rw [Int64.toInt_ofInt]
  exact wq_bmodL h1 h2
theorem wq_w_rng (x : Int) : -2147483648 ≤ wq_w x ∧ wq_w x < 2147483648 := by
  have h1 := Int32.le_toInt (wq_I x)
  have h2 := Int32.toInt_lt (wq_I x)
  unfold wq_w
  omega
theorem wq_v_rng (x : Int) : -9223372036854775808 ≤ wq_v x ∧ wq_v x < 9223372036854775808 := by
  have h1 := Int64.le_toInt (wq_J x)
  have h2 := Int64.toInt_lt (wq_J x)
  unfold wq_v
  omega
theorem wq_I_w (x : Int) : wq_I (wq_w x) = wq_I x := Int32.ofInt_toInt _
theorem wq_J_v (x : Int) : wq_J (wq_v x) = wq_J x := Int64.ofInt_toInt _
theorem wq_I_of (x : Int32) : wq_I x.toInt = x := Int32.ofInt_toInt _
theorem wq_J_of (x : Int64) : wq_J x.toInt = x := Int64.ofInt_toInt _
theorem wq_I_add (a b : Int) : wq_I a + wq_I b = wq_I (a + b) := (Int32.ofInt_add a b).symm
theorem wq_I_sub (a b : Int) : wq_I a - wq_I b = wq_I (a - b) := (Int32.ofInt_sub a b).symm
theorem wq_I_mul (a b : Int) : wq_I a * wq_I b = wq_I (a * b) := (Int32.ofInt_mul a b).symm
theorem wq_J_add (a b : Int) : wq_J a + wq_J b = wq_J (a + b) := (Int64.ofInt_add a b).symm
theorem wq_J_sub (a b : Int) : wq_J a - wq_J b = wq_J (a - b) := (Int64.ofInt_sub a b).symm
theorem wq_J_mul (a b : Int) : wq_J a * wq_J b = wq_J (a * b) := (Int64.ofInt_mul a b).symm
theorem wq_I_div (a b : Int) : wq_I a / wq_I b = wq_I (Int.tdiv (wq_w a) (wq_w b)) := by
  apply Int32.toInt_inj.mp
  rw [Int32.toInt_div]
  unfold wq_w
  conv => rhs; unfold wq_I
  rw [Int32.toInt_ofInt]
  rfl
theorem wq_J_div (a b : Int) : wq_J a / wq_J b = wq_J (Int.tdiv (wq_v a) (wq_v b)) := by
  apply Int64.toInt_inj.mp
  rw [Int64.toInt_div]
  unfold wq_v
  conv => rhs; unfold wq_J
  rw [Int64.toInt_ofInt]
  rfl
theorem wq_I_eq (a b : Int) : wq_I a = wq_I b ↔ wq_w a = wq_w b := Int32.toInt_inj.symm
theorem wq_I_lt (a b : Int) : wq_I a < wq_I b ↔ wq_w a < wq_w b := Int32.lt_iff_toInt_lt
theorem wq_I_le (a b : Int) : wq_I a ≤ wq_I b ↔ wq_w a ≤ wq_w b := Int32.le_iff_toInt_le
theorem wq_J_eq (a b : Int) : wq_J a = wq_J b ↔ wq_v a = wq_v b := Int64.toInt_inj.symm
theorem wq_J_lt (a b : Int) : wq_J a < wq_J b ↔ wq_v a < wq_v b := Int64.lt_iff_toInt_lt
theorem wq_I_0 : wq_I 0 = 0 := rfl
theorem wq_J_0 : wq_J 0 = 0 := rfl
theorem wq_w_0 : wq_w 0 = 0 := rfl
theorem wq_i2l (a : Int) : (wq_I a).toInt64 = wq_J (wq_w a) := by
  apply Int64.toInt_inj.mp
  rw [Int32.toInt_toInt64]
  show (wq_I a).toInt = wq_v (wq_w a)
  have h := wq_w_rng a
  rw [wq_v_id (by omega) (by omega)]
  rfl
theorem wq_l2i (a : Int) : (wq_J a).toInt32 = wq_I a := Int64.toInt32_ofInt
def wq_and (a b : Int) : Int := (wq_I a &&& wq_I b).toInt
def wq_or (a b : Int) : Int := (wq_I a ||| wq_I b).toInt
def wq_shl (a b : Int) : Int := (wq_I a <<< (wq_I b &&& 31)).toInt
def wq_shr (a b : Int) : Int := (wq_I a >>> (wq_I b &&& 31)).toInt
def wq_div (a b : Int) : Int := Int.tdiv (wq_w a) (wq_w b)
def wq_rem (a b : Int) : Int := a - wq_div a b * b
def wq_divL (a b : Int) : Int := Int.tdiv (wq_v a) (wq_v b)
def wq_cmp (a b : Int) : Int := if wq_v a < wq_v b then -1 else if wq_v a = wq_v b then 0 else 1
def wq_max (a b : Int) : Int := if wq_w a < wq_w b then b else a
def wq_min (a b : Int) : Int := if wq_w b < wq_w a then b else a
/-! GUARDED STEPS of the pictures of methods: none where the machine would throw -/
def wq_gd {α : Type} (c : Prop) [Decidable c] (x : Option α) : Option α := if c then x else none
theorem wq_gd_some {α : Type} {c : Prop} [Decidable c] {x : Option α} {o : α} (h : wq_gd c x = some o) : c ∧ x = some o := by
  unfold wq_gd at h
  split at h
  · exact ⟨by assumption, h⟩
  · cases h
theorem wq_gd_t {α : Type} {c : Prop} [Decidable c] {x : Option α} (h : c) : wq_gd c x = x := if_pos h
def wq_ix {α : Type} (i : Int) (n : Nat) (k : Nat → Option α) : Option α := if 0 ≤ wq_w i ∧ wq_w i < (n : Int) then k (wq_w i).toNat else none
theorem wq_ix_some {α : Type} {i : Int} {n : Nat} {k : Nat → Option α} {o : α} (h : wq_ix i n k = some o) : ∃ t : Nat, t < n ∧ wq_w i = (t : Int) ∧ k t = some o := by
  unfold wq_ix at h
  split at h
  · rename_i hc
    exact ⟨(wq_w i).toNat, by omega, by omega, h⟩
  · cases h
theorem wq_ix_t {α : Type} {i : Int} {n : Nat} {k : Nat → Option α} (t : Nat) (h : i = (t : Int)) (ht : t < n) (hn : n < 2147483648) : wq_ix i n k = k t := by
  have e : wq_w i = (t : Int) := by rw [h]; exact wq_w_id (by omega) (by omega)
  unfold wq_ix
  rw [if_pos (by omega), e]
  rfl
def wq_lt {α β : Type} (e : β) (k : β → Option α) : Option α := k e
theorem wq_lt_some {α β : Type} {e : β} {k : β → Option α} {o : α} (h : wq_lt e k = some o) : ∃ x, x = e ∧ k x = some o := ⟨e, rfl, h⟩
/-- a callee that returns: its answer, and the state behind it -/
def wq_bd {α β : Type} (x : Option (β × wq_St)) (k : β → wq_St → Option α) : Option α := match x with
  | none => none
  | some (r, S) => k r S
theorem wq_bd_some {α β : Type} {x : Option (β × wq_St)} {k : β → wq_St → Option α} {o : α} (h : wq_bd x k = some o) : ∃ (r : β) (S : wq_St), x = some (r, S) ∧ k r S = some o := by
  cases x with
  | none => cases h
  | some q => exact ⟨q.1, q.2, rfl, h⟩
/-- a callee that returns (0), or throws (1 IndexOutOfBounds, 2 IllegalArgument, 3 IllegalState) -/
def wq_bx {α β : Type} (z : α) (x : Option (Nat × β × wq_St)) (k : β → wq_St → Option (Nat × α × wq_St)) : Option (Nat × α × wq_St) := match x with
  | none => none
  | some (0, r, S) => k r S
  | some (n + 1, _, S) => some (n + 1, z, S)
theorem wq_bx_some {α β : Type} {z : α} {x : Option (Nat × β × wq_St)} {k : β → wq_St → Option (Nat × α × wq_St)} {o : Nat × α × wq_St} (h : wq_bx z x k = some o) :
    (∃ (r : β) (S : wq_St), x = some (0, r, S) ∧ k r S = some o) ∨ ∃ (n : Nat) (r : β) (S : wq_St), x = some (n + 1, r, S) ∧ o = (n + 1, z, S) := by
  cases x with
  | none => cases h
  | some q =>
    obtain ⟨n, r, S⟩ := q
    cases n with
    | zero => exact Or.inl ⟨r, S, rfl, h⟩
    | succ n => exact Or.inr ⟨n, r, S, rfl, (Option.some.inj h).symm⟩
/-! loops: a body over what goes on, unrolled n times at most -/
def wq_loop {σ ρ : Type} (f : (σ → Option ρ) → σ → Option ρ) : Nat → σ → Option ρ
  | 0, _ => none
  | n + 1, x => f (wq_loop f n) x
theorem wq_loop_ind {σ ρ : Type} {f : (σ → Option ρ) → σ → Option ρ} {o : ρ} {P : σ → Prop} (h : ∀ rec : σ → Option ρ, (∀ x, rec x = some o → P x) → ∀ x, f rec x = some o → P x) : ∀ (n : Nat) (x : σ), wq_loop f n x = some o → P x
  | 0, _, e => by cases e
  | n + 1, x, e => h (wq_loop f n) (wq_loop_ind h n) x e
def wq_fu : Nat := 10000000
/-! THE MACHINE OVER SUCH A STATE -/
def wq_Wd (D : va_G) (E : (Nat → Int) → Nat → va_E) (b N : Nat) (S : wq_St) (H : Heap) : Prop := ∀ k : Nat, k < N → va_at D vwCl (b + k, E (S k) k) H
def wq_Ab (b N : Nat) : Nat → Prop := fun q => b ≤ q ∧ q < b + N
def wq_tys (Ar : Nat → ClassId) : List (ClassId × FieldType) := [(Ar 0, .int), (Ar 1, .boolean), (Ar 2, .array .int), (Ar 3, .object "WharfQuery$Column"), (Ar 4, .object "WharfQuery$Condition"), (Ar 5, .object "WharfQuery$Report"), (Ar 6, .object "WharfQuery$Table"), (Ar 7, .long)]
def wq_rm (n mc ms : Nat) : Room := { frames := n, cells := mc, slots := ms, locals := 40 * n }
/-- locals by their places -/
def wq_has (ls : Array Slot) (nL : Nat) (L : List (Option Value)) : Prop := ls.size = nL ∧ lv_wf ls ∧ ∀ (i : Nat) (v : Value), L[i]? = some (some v) → ls[i]? = some (.val v)
def wq_pos : Nat → List (Option Value) → List (Nat × Value)
  | _, [] => []
  | i, none :: l => wq_pos (i + 1) l
  | i, some v :: l => (i, v) :: wq_pos (i + 1) l
theorem wq_pos_in : ∀ (l : List (Option Value)) (i j : Nat) (v : Value), (j, v) ∈ wq_pos i l → i ≤ j ∧ l[j - i]? = some (some v)
  | [], i, j, v, h => by simp [wq_pos] at h
  | none :: l, i, j, v, h => by
    obtain ⟨h1, h2⟩ := wq_pos_in l (i + 1) j v h
    refine ⟨by omega, ?_⟩
    rw [show j - i = (j - (i + 1)) + 1 by omega]
    exact h2
  | some w :: l, i, j, v, h => by
    rcases List.mem_cons.mp h with h | h
    · cases h
      exact ⟨Nat.le_refl _, by rw [Nat.sub_self]; rfl⟩
    · obtain ⟨h1, h2⟩ := wq_pos_in l (i + 1) j v h
      refine ⟨by omega, ?_⟩
      rw [show j - i = (j - (i + 1)) + 1 by omega]
      exact h2
theorem wq_in_pos : ∀ (l : List (Option Value)) (i j : Nat) (v : Value), l[j]? = some (some v) → (i + j, v) ∈ wq_pos i l
  | [], i, j, v, h => by simp at h
  | none :: l, i, 0, v, h => by simp at h
  | none :: l, i, j + 1, v, h => by
    have h2 := wq_in_pos l (i + 1) j v (by simpa using h)
    rw [show i + (j + 1) = i + 1 + j by omega]
    exact h2
  | some w :: l, i, 0, v, h => by
    have e : w = v := by simpa using h
    subst e
    exact List.mem_cons_self
  | some w :: l, i, j + 1, v, h => by
    have h2 := wq_in_pos l (i + 1) j v (by simpa using h)
    rw [show i + (j + 1) = i + 1 + j by omega]
    exact List.mem_cons_of_mem _ h2
theorem wq_has_lv {ls : Array Slot} {nL : Nat} {L : List (Option Value)} (h : wq_has ls nL L) : lv_has ls nL (wq_pos 0 L) := by
  refine ⟨h.1, h.2.1, fun q hq => ?_⟩
  obtain ⟨-, h2⟩ := wq_pos_in L 0 q.1 q.2 hq
  exact h.2.2 _ _ h2
/-- no long stands right before the place i -/
def wq_ok (L : List (Option Value)) : Nat → Bool
  | 0 => true
  | i + 1 => match L[i]? with
    | some (some v) => v.category == 1
    | _ => true
theorem wq_ok_ne {L : List (Option Value)} {i j : Nat} {v : Value} (h : wq_ok L i = true) (e : j + 1 = i) (hv : L[j]? = some (some v)) : ¬ v.category = 2 := by
  subst e
  simp only [wq_ok, hv] at h
  have h2 : v.category = 1 := by simpa using h
  omega
theorem wq_has1 {ls' : Array Slot} {nL i : Nat} {L : List (Option Value)} {v : Value} (hok : wq_ok L i = true) (h : lv_has ls' nL ((i, v) :: (wq_pos 0 L).filter (fun q => !(q.1 == i) && !(q.1 + 1 == i && q.2.category == 2)))) : wq_has ls' nL (L.set i (some v)) := by
  refine ⟨h.1, h.2.1, fun j u hj => ?_⟩
  by_cases e : j = i
  · subst e
    by_cases hlt : j < L.length
    · rw [List.getElem?_set_self hlt] at hj
      cases hj
      exact h.2.2 (j, v) List.mem_cons_self
    · rw [List.getElem?_eq_none (by simp; omega)] at hj
      cases hj
  · rw [List.getElem?_set_ne (Ne.symm e)] at hj
    refine h.2.2 (j, u) (List.mem_cons_of_mem _ (List.mem_filter.mpr ⟨?_, ?_⟩))
    · have := wq_in_pos L 0 j u hj
      simpa using this
    · by_cases e2 : j + 1 = i
      · have := wq_ok_ne hok e2 hj
        simp [e, this]
      · simp [e, e2]
theorem wq_has2 {ls' : Array Slot} {nL i : Nat} {L : List (Option Value)} {v : Value} (hok : wq_ok L i = true) (h : lv_has ls' nL ((i, v) :: (wq_pos 0 L).filter (fun q => !(q.1 == i) && (!(q.1 == i + 1) && !(q.1 + 1 == i && q.2.category == 2))))) : wq_has ls' nL ((L.set i (some v)).set (i + 1) none) := by
  refine ⟨h.1, h.2.1, fun j u hj => ?_⟩
  by_cases e : j = i
  · subst e
    rw [List.getElem?_set_ne (by omega)] at hj
    by_cases hlt : j < L.length
    · rw [List.getElem?_set_self hlt] at hj
      cases hj
      exact h.2.2 (j, v) List.mem_cons_self
    · rw [List.getElem?_eq_none (by simp; omega)] at hj
      cases hj
  · by_cases e1 : j = i + 1
    · subst e1
      by_cases hlt : i + 1 < (L.set i (some v)).length
      · rw [List.getElem?_set_self hlt] at hj
        cases hj
      · rw [List.getElem?_eq_none (by rw [List.length_set]; omega)] at hj
        cases hj
    · rw [List.getElem?_set_ne (by omega), List.getElem?_set_ne (Ne.symm e)] at hj
      refine h.2.2 (j, u) (List.mem_cons_of_mem _ (List.mem_filter.mpr ⟨?_, ?_⟩))
      · have := wq_in_pos L 0 j u hj
        simpa using this
      · by_cases e2 : j + 1 = i
        · have := wq_ok_ne hok e2 hj
          simp [e, e1, this]
        · simp [e, e1, e2]
/-- fewer known locals -/
theorem wq_less {ls : Array Slot} {nL : Nat} {L L' : List (Option Value)} (h : wq_has ls nL L) (hs : ∀ (i : Nat) (v : Value), L'[i]? = some (some v) → L[i]? = some (some v)) : wq_has ls nL L' := ⟨h.1, h.2.1, fun i v hi => h.2.2 i v (hs i v hi)⟩
def wq_sub : List (Option Value) → List (Option Value) → Prop
  | [], _ => True
  | none :: l', _ :: l => wq_sub l' l
  | none :: l', [] => wq_sub l' []
  | some v :: l', w :: l => w = some v ∧ wq_sub l' l
  | some _ :: _, [] => False
theorem wq_sub_at : ∀ (l' l : List (Option Value)), wq_sub l' l → ∀ (i : Nat) (v : Value), l'[i]? = some (some v) → l[i]? = some (some v)
  | [], _, _, i, v, hi => by simp at hi
  | none :: l', _ :: l, h, 0, v, hi => by simp at hi
  | none :: l', _ :: l, h, i + 1, v, hi => by
    rw [List.getElem?_cons_succ] at hi ⊢
    exact wq_sub_at l' l h i v hi
  | none :: l', [], h, 0, v, hi => by simp at hi
  | none :: l', [], h, i + 1, v, hi => by
    rw [List.getElem?_cons_succ] at hi
    have := wq_sub_at l' [] h i v hi
    simp at this
  | some w :: l', u :: l, h, 0, v, hi => by
    rw [List.getElem?_cons_zero] at hi ⊢
    cases hi
    rw [h.1]
  | some w :: l', u :: l, h, i + 1, v, hi => by
    rw [List.getElem?_cons_succ] at hi ⊢
    exact wq_sub_at l' l h.2 i v hi
  | some _ :: _, [], h, _, _, _ => h.elim
/-- the locals of a method's start -/
def wq_args (n : Nat) (vs : List Value) : List (Option Value) := (vs.flatMap fun v => if v.category = 2 then [some v, none] else [some v]) ++ List.replicate (n - (lg_sl vs).length) none
theorem wq_args_lv : ∀ (vs : List Value) (i j : Nat) (v : Value), (vs.flatMap fun v => if v.category = 2 then [some v, none] else [some v])[j]? = some (some v) → (i + j, v) ∈ lv_args i vs
  | [], i, j, v, h => by simp at h
  | w :: vs, i, j, v, h => by
    rw [List.flatMap_cons] at h
    by_cases hc : w.category = 2
    · rw [if_pos hc] at h
      match j, h with
      | 0, h =>
        have e : w = v := by simpa using h
        subst e
        exact List.mem_cons_self
      | 1, h => simp at h
      | j + 2, h =>
        have h2 := wq_args_lv vs (i + 2) j v (by simpa using h)
        refine List.mem_cons_of_mem _ ?_
        rw [if_pos hc, show i + (j + 2) = i + 2 + j by omega]
        exact h2
    · rw [if_neg hc] at h
      match j, h with
      | 0, h =>
        have e : w = v := by simpa using h
        subst e
        exact List.mem_cons_self
      | j + 1, h =>
        have h2 := wq_args_lv vs (i + 1) j v (by simpa using h)
        refine List.mem_cons_of_mem _ ?_
        rw [if_neg hc, show i + (j + 1) = i + 1 + j by omega]
        exact h2
theorem wq_entry (vs : List Value) {n : Nat} (h : (lg_sl vs).length ≤ n) : wq_has ((lg_sl vs ++ List.replicate (n - (lg_sl vs).length) Slot.unset).toArray) n (wq_args n vs) := by
  have h0 := lv_entry vs h
  refine ⟨h0.1, h0.2.1, fun i v hi => ?_⟩
  refine h0.2.2 (i, v) ?_
  unfold wq_args at hi
  by_cases hl : i < (vs.flatMap fun v => if v.category = 2 then [some v, none] else [some v]).length
  · rw [List.getElem?_append_left hl] at hi
    have := wq_args_lv vs 0 i v hi
    simpa using this
  · rw [List.getElem?_append_right (by omega)] at hi
    rw [List.getElem?_replicate] at hi
    split at hi <;> cases hi
end
section
/-- what a method's walk stands on -/
def wq_Fr (p : Program) (s : State) (m : MethodId) (args : Array Value) (meth : Method) (c : Code) (cc : ByteArray) (nL : Nat) (ret : Option FieldType) (own : String) (D : va_G) (Ar : Nat → ClassId) : Prop :=
  p.tables.exec = Jvm.exec ∧ c.code = cc ∧ c.maxLocals = nL ∧ s.vm.findClass own = some m.cls ∧ (∀ w ∈ wq_aw, w.before args s = true) ∧ va_K D vwCl (wq_tys Ar) s ∧ meth.sig.returnType = ret ∧ meth.locks = false
/-- from every machine's state with these locals, this stack and this world the walk comes to Q -/
def wq_Z (p : Program) (l : Launch) (e : Env) (R : Room) (s : State) (m : MethodId) (args : Array Value) (below : List Frame) (meth : Method) (c : Code) (D : va_G) (E : (Nat → Int) → Nat → va_E) (b N nL : Nat) (A : Nat → Prop) (Q : State → Prop) (cells slots pc : Nat) (L : List (Option Value)) (st : List Value) (S : wq_St) : Prop :=
  ∀ (H : Heap) (locs : List Loc) (ls : Array Slot), wq_Wd D E b N S H → va_S A s.heap H locs → wq_has ls nL L → W p l e R s m args below meth c H locs cells slots Q (F0 m pc ls st)
section WQM
variable {p : Program} {l : Launch} {e : Env} {R : Room} {s : State} {m : MethodId} {args : Array Value} {below : List Frame} {meth : Method} {c : Code} {D : va_G} {Ar : Nat → ClassId} {E : (Nat → Int) → Nat → va_E} {b N nL : Nat} {A : Nat → Prop} {Q : State → Prop} {cells slots pc q : Nat} {L L' : List (Option Value)} {st : List Value} {S : wq_St}
variable {cc : ByteArray} {own : String} {ret : Option FieldType}
theorem wq_iconst (F : wq_Fr p s m args meth c cc nL ret own D Ar) {n : Int} (d : decode cc pc = .ok (.iconst n, 1))  (hq : pc + 1 = q) (kk : wq_Z p l e R s m args below meth c D E b N nL A Q cells slots q L (.int (wq_I n) :: st) S) : wq_Z p l e R s m args below meth c D E b N nL A Q cells slots pc L (st) S := by
  subst hq
  intro H locs ls hW hS hl
  exact lv_iconst F.1 F.2.1 d rfl (kk H locs ls hW hS hl)
theorem wq_bipush (F : wq_Fr p s m args meth c cc nL ret own D Ar) {n : Int} (d : decode cc pc = .ok (.bipush n, 2)) (hn : (Int8.ofInt n).toInt32 = wq_I n) (hq : pc + 2 = q) (kk : wq_Z p l e R s m args below meth c D E b N nL A Q cells slots q L (.int (wq_I n) :: st) S) : wq_Z p l e R s m args below meth c D E b N nL A Q cells slots pc L (st) S := by
  subst hq
  intro H locs ls hW hS hl
  exact lv_bipush F.1 F.2.1 d hn (kk H locs ls hW hS hl)
theorem wq_sipush (F : wq_Fr p s m args meth c cc nL ret own D Ar) {n : Int} (d : decode cc pc = .ok (.sipush n, 3)) (hn : (Int16.ofInt n).toInt32 = wq_I n) (hq : pc + 3 = q) (kk : wq_Z p l e R s m args below meth c D E b N nL A Q cells slots q L (.int (wq_I n) :: st) S) : wq_Z p l e R s m args below meth c D E b N nL A Q cells slots pc L (st) S := by
  subst hq
  intro H locs ls hW hS hl
  exact lv_sipush F.1 F.2.1 d hn (kk H locs ls hW hS hl)
theorem wq_lconst (F : wq_Fr p s m args meth c cc nL ret own D Ar) {n : Fin 2} {v : Int} (d : decode cc pc = .ok (.lconst n, 1)) (hn : Int64.ofNat (n : Nat) = wq_J v) (hq : pc + 1 = q) (kk : wq_Z p l e R s m args below meth c D E b N nL A Q cells slots q L (.long (wq_J v) :: st) S) : wq_Z p l e R s m args below meth c D E b N nL A Q cells slots pc L (st) S := by
  subst hq
  intro H locs ls hW hS hl
  exact lv_lconst F.1 F.2.1 d hn (kk H locs ls hW hS hl)
theorem wq_ldc2 (F : wq_Fr p s m args meth c cc nL ret own D Ar) {index : Nat} {v : Int} (d : decode cc pc = .ok (.ldc2_w index, 3)) (hw : Cond.constantLong own index (wq_J v) ∈ wq_aw) (hq : pc + 3 = q) (kk : wq_Z p l e R s m args below meth c D E b N nL A Q cells slots q L (.long (wq_J v) :: st) S) : wq_Z p l e R s m args below meth c D E b N nL A Q cells slots pc L (st) S := by
  subst hq
  intro H locs ls hW hS hl
  exact lv_ldc2 F.1 F.2.1 F.2.2.2.1 (F.2.2.2.2.1 _ hw) d (kk H locs ls hW hS hl)
theorem wq_iload_n (F : wq_Fr p s m args meth c cc nL ret own D Ar) {k : Fin 4} {i : Nat} {x : Int32} (d : decode cc pc = .ok (.iload_n k, 1)) (hi : (k : Nat) = i) (hL : L[i]? = some (some (.int x))) (hq : pc + 1 = q) (kk : wq_Z p l e R s m args below meth c D E b N nL A Q cells slots q L (.int x :: st) S) : wq_Z p l e R s m args below meth c D E b N nL A Q cells slots pc L (st) S := by
  subst hq
  intro H locs ls hW hS hl
  exact lv_iload_n F.1 F.2.1 d hi (hl.2.2 i _ hL) (kk H locs ls hW hS hl)
theorem wq_iload (F : wq_Fr p s m args meth c cc nL ret own D Ar) {i : Nat} {x : Int32} (d : decode cc pc = .ok (.iload i, 2)) (hL : L[i]? = some (some (.int x))) (hq : pc + 2 = q) (kk : wq_Z p l e R s m args below meth c D E b N nL A Q cells slots q L (.int x :: st) S) : wq_Z p l e R s m args below meth c D E b N nL A Q cells slots pc L (st) S := by
  subst hq
  intro H locs ls hW hS hl
  exact lv_iload F.1 F.2.1 d (hl.2.2 i _ hL) (kk H locs ls hW hS hl)
theorem wq_istore_n (F : wq_Fr p s m args meth c cc nL ret own D Ar) {k : Fin 4} {i : Nat} {x : Int32} (d : decode cc pc = .ok (.istore_n k, 1)) (hi : (k : Nat) = i) (hn : i < nL) (hok : wq_ok L i = true) (hL : L.set i (some (.int x)) = L') (hq : pc + 1 = q) (kk : wq_Z p l e R s m args below meth c D E b N nL A Q cells slots q L' (st) S) : wq_Z p l e R s m args below meth c D E b N nL A Q cells slots pc L (.int x :: st) S := by
  subst hq
  intro H locs ls hW hS hl
  subst hL
  exact lv_istore_n F.1 F.2.1 d hi (wq_has_lv hl) hn rfl (fun ls2 h2 => kk H locs ls2 hW hS (wq_has1 hok h2))
theorem wq_istore (F : wq_Fr p s m args meth c cc nL ret own D Ar) {i : Nat} {x : Int32} (d : decode cc pc = .ok (.istore i, 2)) (hn : i < nL) (hok : wq_ok L i = true) (hL : L.set i (some (.int x)) = L') (hq : pc + 2 = q) (kk : wq_Z p l e R s m args below meth c D E b N nL A Q cells slots q L' (st) S) : wq_Z p l e R s m args below meth c D E b N nL A Q cells slots pc L (.int x :: st) S := by
  subst hq
  intro H locs ls hW hS hl
  subst hL
  exact lv_istore F.1 F.2.1 d (wq_has_lv hl) hn rfl (fun ls2 h2 => kk H locs ls2 hW hS (wq_has1 hok h2))
theorem wq_lload_n (F : wq_Fr p s m args meth c cc nL ret own D Ar) {k : Fin 4} {i : Nat} {x : Int64} (d : decode cc pc = .ok (.lload_n k, 1)) (hi : (k : Nat) = i) (hL : L[i]? = some (some (.long x))) (hq : pc + 1 = q) (kk : wq_Z p l e R s m args below meth c D E b N nL A Q cells slots q L (.long x :: st) S) : wq_Z p l e R s m args below meth c D E b N nL A Q cells slots pc L (st) S := by
  subst hq
  intro H locs ls hW hS hl
  exact lv_lload_n F.1 F.2.1 d hi (hl.2.2 i _ hL) (kk H locs ls hW hS hl)
theorem wq_lload (F : wq_Fr p s m args meth c cc nL ret own D Ar) {i : Nat} {x : Int64} (d : decode cc pc = .ok (.lload i, 2)) (hL : L[i]? = some (some (.long x))) (hq : pc + 2 = q) (kk : wq_Z p l e R s m args below meth c D E b N nL A Q cells slots q L (.long x :: st) S) : wq_Z p l e R s m args below meth c D E b N nL A Q cells slots pc L (st) S := by
  subst hq
  intro H locs ls hW hS hl
  exact lv_lload F.1 F.2.1 d (hl.2.2 i _ hL) (kk H locs ls hW hS hl)
theorem wq_lstore_n (F : wq_Fr p s m args meth c cc nL ret own D Ar) {k : Fin 4} {i : Nat} {x : Int64} (d : decode cc pc = .ok (.lstore_n k, 1)) (hi : (k : Nat) = i) (hn : i + 1 < nL) (hok : wq_ok L i = true) (hL : (L.set i (some (.long x))).set (i + 1) none = L') (hq : pc + 1 = q) (kk : wq_Z p l e R s m args below meth c D E b N nL A Q cells slots q L' (st) S) : wq_Z p l e R s m args below meth c D E b N nL A Q cells slots pc L (.long x :: st) S := by
  subst hq
  intro H locs ls hW hS hl
  subst hL
  exact lv_lstore_n F.1 F.2.1 d hi (wq_has_lv hl) hn rfl (fun ls2 h2 => kk H locs ls2 hW hS (wq_has2 hok h2))
theorem wq_lstore (F : wq_Fr p s m args meth c cc nL ret own D Ar) {i : Nat} {x : Int64} (d : decode cc pc = .ok (.lstore i, 2)) (hn : i + 1 < nL) (hok : wq_ok L i = true) (hL : (L.set i (some (.long x))).set (i + 1) none = L') (hq : pc + 2 = q) (kk : wq_Z p l e R s m args below meth c D E b N nL A Q cells slots q L' (st) S) : wq_Z p l e R s m args below meth c D E b N nL A Q cells slots pc L (.long x :: st) S := by
  subst hq
  intro H locs ls hW hS hl
  subst hL
  exact lv_lstore F.1 F.2.1 d (wq_has_lv hl) hn rfl (fun ls2 h2 => kk H locs ls2 hW hS (wq_has2 hok h2))
theorem wq_aload_n (F : wq_Fr p s m args meth c cc nL ret own D Ar) {k : Fin 4} {i : Nat} {x : Nat} (d : decode cc pc = .ok (.aload_n k, 1)) (hi : (k : Nat) = i) (hL : L[i]? = some (some (.ref x))) (hq : pc + 1 = q) (kk : wq_Z p l e R s m args below meth c D E b N nL A Q cells slots q L (.ref x :: st) S) : wq_Z p l e R s m args below meth c D E b N nL A Q cells slots pc L (st) S := by
  subst hq
  intro H locs ls hW hS hl
  exact lv_aload_n F.1 F.2.1 d hi (hl.2.2 i _ hL) (kk H locs ls hW hS hl)
theorem wq_aload (F : wq_Fr p s m args meth c cc nL ret own D Ar) {i : Nat} {x : Nat} (d : decode cc pc = .ok (.aload i, 2)) (hL : L[i]? = some (some (.ref x))) (hq : pc + 2 = q) (kk : wq_Z p l e R s m args below meth c D E b N nL A Q cells slots q L (.ref x :: st) S) : wq_Z p l e R s m args below meth c D E b N nL A Q cells slots pc L (st) S := by
  subst hq
  intro H locs ls hW hS hl
  exact lv_aload F.1 F.2.1 d (hl.2.2 i _ hL) (kk H locs ls hW hS hl)
theorem wq_astore_n (F : wq_Fr p s m args meth c cc nL ret own D Ar) {k : Fin 4} {i : Nat} {x : Nat} (d : decode cc pc = .ok (.astore_n k, 1)) (hi : (k : Nat) = i) (hn : i < nL) (hok : wq_ok L i = true) (hL : L.set i (some (.ref x)) = L') (hq : pc + 1 = q) (kk : wq_Z p l e R s m args below meth c D E b N nL A Q cells slots q L' (st) S) : wq_Z p l e R s m args below meth c D E b N nL A Q cells slots pc L (.ref x :: st) S := by
  subst hq
  intro H locs ls hW hS hl
  subst hL
  exact lv_astore_n F.1 F.2.1 d hi (wq_has_lv hl) hn rfl (fun ls2 h2 => kk H locs ls2 hW hS (wq_has1 hok h2))
theorem wq_astore (F : wq_Fr p s m args meth c cc nL ret own D Ar) {i : Nat} {x : Nat} (d : decode cc pc = .ok (.astore i, 2)) (hn : i < nL) (hok : wq_ok L i = true) (hL : L.set i (some (.ref x)) = L') (hq : pc + 2 = q) (kk : wq_Z p l e R s m args below meth c D E b N nL A Q cells slots q L' (st) S) : wq_Z p l e R s m args below meth c D E b N nL A Q cells slots pc L (.ref x :: st) S := by
  subst hq
  intro H locs ls hW hS hl
  subst hL
  exact lv_astore F.1 F.2.1 d (wq_has_lv hl) hn rfl (fun ls2 h2 => kk H locs ls2 hW hS (wq_has1 hok h2))
theorem wq_iinc (F : wq_Fr p s m args meth c cc nL ret own D Ar) {i : Nat} {n x : Int} (d : decode cc pc = .ok (.iinc i n, 3)) (hL0 : L[i]? = some (some (.int (wq_I x)))) (hn : i < nL) (hok : wq_ok L i = true) (hL : L.set i (some (.int (wq_I (x + n)))) = L') (hq : pc + 3 = q) (kk : wq_Z p l e R s m args below meth c D E b N nL A Q cells slots q L' st S) : wq_Z p l e R s m args below meth c D E b N nL A Q cells slots pc L st S := by
  subst hq
  intro H locs ls hW hS hl
  subst hL
  have hp := wq_in_pos L 0 i _ hL0
  rw [Nat.zero_add] at hp
  obtain ⟨k, hk⟩ := List.getElem?_of_mem hp
  exact lv_iinc F.1 F.2.1 d (wq_has_lv hl) hk (wq_I_add x n) hn rfl (fun ls2 h2 => kk H locs ls2 hW hS (wq_has1 hok h2))
theorem wq_namI {x y : Int} (h : y = x) (kk : wq_Z p l e R s m args below meth c D E b N nL A Q cells slots pc L (.int (wq_I y) :: st) S) : wq_Z p l e R s m args below meth c D E b N nL A Q cells slots pc L (.int (wq_I x) :: st) S := h ▸ kk
theorem wq_namL {x y : Int} (h : y = x) (kk : wq_Z p l e R s m args below meth c D E b N nL A Q cells slots pc L (.long (wq_J y) :: st) S) : wq_Z p l e R s m args below meth c D E b N nL A Q cells slots pc L (.long (wq_J x) :: st) S := h ▸ kk
theorem wq_lsub (L' : List (Option Value)) (h : wq_sub L' L) (kk : wq_Z p l e R s m args below meth c D E b N nL A Q cells slots pc L' st S) : wq_Z p l e R s m args below meth c D E b N nL A Q cells slots pc L st S := fun H locs ls hW hS hl => kk H locs ls hW hS (wq_less hl (wq_sub_at L' L h))
theorem wq_stk {st' : List Value} (h : st = st') (kk : wq_Z p l e R s m args below meth c D E b N nL A Q cells slots pc L st' S) : wq_Z p l e R s m args below meth c D E b N nL A Q cells slots pc L st S := h ▸ kk
theorem wq_wid {k n : Nat} (h1 : cells ≤ k) (h2 : slots ≤ n) (kk : wq_Z p l e R s m args below meth c D E b N nL A Q k n pc L st S) : wq_Z p l e R s m args below meth c D E b N nL A Q cells slots pc L st S := fun H locs ls hW hS hl => W.widen h1 h2 (kk H locs ls hW hS hl)
theorem wq_iadd (F : wq_Fr p s m args meth c cc nL ret own D Ar) {x y : Int}  (d : decode cc pc = .ok (.iadd, 1))  (hq : pc + 1 = q) (kk : wq_Z p l e R s m args below meth c D E b N nL A Q cells slots q L (.int (wq_I (x + y)) :: st) S) : wq_Z p l e R s m args below meth c D E b N nL A Q cells slots pc L (.int (wq_I y) :: .int (wq_I x) :: st) S := by
  subst hq
  intro H locs ls hW hS hl
  refine lv_iadd F.1 F.2.1 d  ?_
  rw [wq_I_add]
  exact kk H locs ls hW hS hl
theorem wq_isub (F : wq_Fr p s m args meth c cc nL ret own D Ar) {x y : Int}  (d : decode cc pc = .ok (.isub, 1))  (hq : pc + 1 = q) (kk : wq_Z p l e R s m args below meth c D E b N nL A Q cells slots q L (.int (wq_I (x - y)) :: st) S) : wq_Z p l e R s m args below meth c D E b N nL A Q cells slots pc L (.int (wq_I y) :: .int (wq_I x) :: st) S := by
  subst hq
  intro H locs ls hW hS hl
  refine lv_isub F.1 F.2.1 d  ?_
  rw [wq_I_sub]
  exact kk H locs ls hW hS hl
theorem wq_imul (F : wq_Fr p s m args meth c cc nL ret own D Ar) {x y : Int}  (d : decode cc pc = .ok (.imul, 1))  (hq : pc + 1 = q) (kk : wq_Z p l e R s m args below meth c D E b N nL A Q cells slots q L (.int (wq_I (x * y)) :: st) S) : wq_Z p l e R s m args below meth c D E b N nL A Q cells slots pc L (.int (wq_I y) :: .int (wq_I x) :: st) S := by
  subst hq
  intro H locs ls hW hS hl
  refine lv_imul F.1 F.2.1 d  ?_
  rw [wq_I_mul]
  exact kk H locs ls hW hS hl
theorem wq_ladd (F : wq_Fr p s m args meth c cc nL ret own D Ar) {x y : Int}  (d : decode cc pc = .ok (.ladd, 1))  (hq : pc + 1 = q) (kk : wq_Z p l e R s m args below meth c D E b N nL A Q cells slots q L (.long (wq_J (x + y)) :: st) S) : wq_Z p l e R s m args below meth c D E b N nL A Q cells slots pc L (.long (wq_J y) :: .long (wq_J x) :: st) S := by
  subst hq
  intro H locs ls hW hS hl
  refine lv_ladd F.1 F.2.1 d  ?_
  rw [wq_J_add]
  exact kk H locs ls hW hS hl
theorem wq_lsub_ (F : wq_Fr p s m args meth c cc nL ret own D Ar) {x y : Int}  (d : decode cc pc = .ok (.lsub, 1))  (hq : pc + 1 = q) (kk : wq_Z p l e R s m args below meth c D E b N nL A Q cells slots q L (.long (wq_J (x - y)) :: st) S) : wq_Z p l e R s m args below meth c D E b N nL A Q cells slots pc L (.long (wq_J y) :: .long (wq_J x) :: st) S := by
  subst hq
  intro H locs ls hW hS hl
  refine lv_lsub F.1 F.2.1 d  ?_
  rw [wq_J_sub]
  exact kk H locs ls hW hS hl
theorem wq_lmul (F : wq_Fr p s m args meth c cc nL ret own D Ar) {x y : Int}  (d : decode cc pc = .ok (.lmul, 1))  (hq : pc + 1 = q) (kk : wq_Z p l e R s m args below meth c D E b N nL A Q cells slots q L (.long (wq_J (x * y)) :: st) S) : wq_Z p l e R s m args below meth c D E b N nL A Q cells slots pc L (.long (wq_J y) :: .long (wq_J x) :: st) S := by
  subst hq
  intro H locs ls hW hS hl
  refine lv_lmul F.1 F.2.1 d  ?_
  rw [wq_J_mul]
  exact kk H locs ls hW hS hl
theorem wq_idiv (F : wq_Fr p s m args meth c cc nL ret own D Ar) {x y : Int} (hy : ¬ wq_w y = 0) (d : decode cc pc = .ok (.idiv, 1))  (hq : pc + 1 = q) (kk : wq_Z p l e R s m args below meth c D E b N nL A Q cells slots q L (.int (wq_I (wq_div x y)) :: st) S) : wq_Z p l e R s m args below meth c D E b N nL A Q cells slots pc L (.int (wq_I y) :: .int (wq_I x) :: st) S := by
  subst hq
  intro H locs ls hW hS hl
  refine lv_idiv F.1 F.2.1 d (by rw [show (0 : Int32) = wq_I 0 from rfl, wq_I_eq]; exact hy) ?_
  rw [wq_I_div]
  exact kk H locs ls hW hS hl
theorem wq_ldiv (F : wq_Fr p s m args meth c cc nL ret own D Ar) {x y : Int} (hy : ¬ wq_v y = 0) (d : decode cc pc = .ok (.ldiv, 1))  (hq : pc + 1 = q) (kk : wq_Z p l e R s m args below meth c D E b N nL A Q cells slots q L (.long (wq_J (wq_divL x y)) :: st) S) : wq_Z p l e R s m args below meth c D E b N nL A Q cells slots pc L (.long (wq_J y) :: .long (wq_J x) :: st) S := by
  subst hq
  intro H locs ls hW hS hl
  refine lv_ldiv F.1 F.2.1 d (by rw [show (0 : Int64) = wq_J 0 from rfl, wq_J_eq]; exact hy) ?_
  rw [wq_J_div]
  exact kk H locs ls hW hS hl
theorem wq_irem (F : wq_Fr p s m args meth c cc nL ret own D Ar) {x y : Int} (hy : ¬ wq_w y = 0) (d : decode cc pc = .ok (.irem, 1))  (hq : pc + 1 = q) (kk : wq_Z p l e R s m args below meth c D E b N nL A Q cells slots q L (.int (wq_I (wq_rem x y)) :: st) S) : wq_Z p l e R s m args below meth c D E b N nL A Q cells slots pc L (.int (wq_I y) :: .int (wq_I x) :: st) S := by
  subst hq
  intro H locs ls hW hS hl
  refine lv_irem F.1 F.2.1 d (by rw [show (0 : Int32) = wq_I 0 from rfl, wq_I_eq]; exact hy) ?_
  rw [wq_I_div, wq_I_mul, wq_I_sub]
  exact kk H locs ls hW hS hl
theorem wq_iand (F : wq_Fr p s m args meth c cc nL ret own D Ar) {x y : Int} (d : decode cc pc = .ok (.iand, 1))  (hq : pc + 1 = q) (kk : wq_Z p l e R s m args below meth c D E b N nL A Q cells slots q L (.int (wq_I (wq_and x y)) :: st) S) : wq_Z p l e R s m args below meth c D E b N nL A Q cells slots pc L (.int (wq_I y) :: .int (wq_I x) :: st) S := by
  subst hq
  intro H locs ls hW hS hl
  refine lv_iand F.1 F.2.1 d ?_
  have h := kk H locs ls hW hS hl
  rw [show wq_I (wq_and x y) = _ from wq_I_of _] at h
  exact h
theorem wq_ior (F : wq_Fr p s m args meth c cc nL ret own D Ar) {x y : Int} (d : decode cc pc = .ok (.ior, 1))  (hq : pc + 1 = q) (kk : wq_Z p l e R s m args below meth c D E b N nL A Q cells slots q L (.int (wq_I (wq_or x y)) :: st) S) : wq_Z p l e R s m args below meth c D E b N nL A Q cells slots pc L (.int (wq_I y) :: .int (wq_I x) :: st) S := by
  subst hq
  intro H locs ls hW hS hl
  refine lv_ior F.1 F.2.1 d ?_
  have h := kk H locs ls hW hS hl
  rw [show wq_I (wq_or x y) = _ from wq_I_of _] at h
  exact h
theorem wq_ishl (F : wq_Fr p s m args meth c cc nL ret own D Ar) {x y : Int} (d : decode cc pc = .ok (.ishl, 1))  (hq : pc + 1 = q) (kk : wq_Z p l e R s m args below meth c D E b N nL A Q cells slots q L (.int (wq_I (wq_shl x y)) :: st) S) : wq_Z p l e R s m args below meth c D E b N nL A Q cells slots pc L (.int (wq_I y) :: .int (wq_I x) :: st) S := by
  subst hq
  intro H locs ls hW hS hl
  refine lv_ishl F.1 F.2.1 d ?_
  have h := kk H locs ls hW hS hl
  rw [show wq_I (wq_shl x y) = _ from wq_I_of _] at h
  exact h
theorem wq_ishr (F : wq_Fr p s m args meth c cc nL ret own D Ar) {x y : Int} (d : decode cc pc = .ok (.ishr, 1))  (hq : pc + 1 = q) (kk : wq_Z p l e R s m args below meth c D E b N nL A Q cells slots q L (.int (wq_I (wq_shr x y)) :: st) S) : wq_Z p l e R s m args below meth c D E b N nL A Q cells slots pc L (.int (wq_I y) :: .int (wq_I x) :: st) S := by
  subst hq
  intro H locs ls hW hS hl
  refine lv_ishr F.1 F.2.1 d ?_
  have h := kk H locs ls hW hS hl
  rw [show wq_I (wq_shr x y) = _ from wq_I_of _] at h
  exact h
theorem wq_i2l_ (F : wq_Fr p s m args meth c cc nL ret own D Ar) {x : Int} (d : decode cc pc = .ok (.i2l, 1))  (hq : pc + 1 = q) (kk : wq_Z p l e R s m args below meth c D E b N nL A Q cells slots q L (.long (wq_J (wq_w x)) :: st) S) : wq_Z p l e R s m args below meth c D E b N nL A Q cells slots pc L (.int (wq_I x) :: st) S := by
  subst hq
  intro H locs ls hW hS hl
  exact lv_i2l F.1 F.2.1 d (wq_i2l x) (kk H locs ls hW hS hl)
theorem wq_l2i_ (F : wq_Fr p s m args meth c cc nL ret own D Ar) {x : Int} (d : decode cc pc = .ok (.l2i, 1))  (hq : pc + 1 = q) (kk : wq_Z p l e R s m args below meth c D E b N nL A Q cells slots q L (.int (wq_I x) :: st) S) : wq_Z p l e R s m args below meth c D E b N nL A Q cells slots pc L (.long (wq_J x) :: st) S := by
  subst hq
  intro H locs ls hW hS hl
  exact lv_l2i F.1 F.2.1 d (wq_l2i x) (kk H locs ls hW hS hl)
theorem wq_lcmp (F : wq_Fr p s m args meth c cc nL ret own D Ar) {x y : Int} (d : decode cc pc = .ok (.lcmp, 1))  (hq : pc + 1 = q) (kk : wq_Z p l e R s m args below meth c D E b N nL A Q cells slots q L (.int (wq_I (wq_cmp x y)) :: st) S) : wq_Z p l e R s m args below meth c D E b N nL A Q cells slots pc L (.long (wq_J y) :: .long (wq_J x) :: st) S := by
  subst hq
  intro H locs ls hW hS hl
  refine W.lcmp F.1 F.2.1 d ?_
  have h := kk H locs ls hW hS hl
  have e9 : wq_I (wq_cmp x y) = lg_cmp (wq_J x) (wq_J y) := by
    unfold wq_cmp lg_cmp
    simp only [wq_J_lt, wq_J_eq]
    (repeat' split) <;> first | rfl | omega
  rw [e9] at h
  exact h
theorem wq_dup1 (F : wq_Fr p s m args meth c cc nL ret own D Ar) {v : Value} (hv : v.category = 1) (d : decode cc pc = .ok (.dup, 1))  (hq : pc + 1 = q) (kk : wq_Z p l e R s m args below meth c D E b N nL A Q cells slots q L (v :: v :: st) S) : wq_Z p l e R s m args below meth c D E b N nL A Q cells slots pc L (v :: st) S := by
  subst hq
  intro H locs ls hW hS hl
  exact lv_dup F.1 F.2.1 d hv (kk H locs ls hW hS hl)
theorem wq_dup22 (F : wq_Fr p s m args meth c cc nL ret own D Ar) {v : Value} (hv : v.category = 2) (d : decode cc pc = .ok (.dup2, 1))  (hq : pc + 1 = q) (kk : wq_Z p l e R s m args below meth c D E b N nL A Q cells slots q L (v :: v :: st) S) : wq_Z p l e R s m args below meth c D E b N nL A Q cells slots pc L (v :: st) S := by
  subst hq
  intro H locs ls hW hS hl
  exact lv_dup2_2 F.1 F.2.1 d hv (kk H locs ls hW hS hl)
theorem wq_dup211 (F : wq_Fr p s m args meth c cc nL ret own D Ar) {va vb : Value} (hva : va.category = 1) (hvb : vb.category = 1) (d : decode cc pc = .ok (.dup2, 1))  (hq : pc + 1 = q) (kk : wq_Z p l e R s m args below meth c D E b N nL A Q cells slots q L (va :: vb :: va :: vb :: st) S) : wq_Z p l e R s m args below meth c D E b N nL A Q cells slots pc L (va :: vb :: st) S := by
  subst hq
  intro H locs ls hW hS hl
  exact lv_dup2_11 F.1 F.2.1 d hva hvb (kk H locs ls hW hS hl)
theorem wq_pop1 (F : wq_Fr p s m args meth c cc nL ret own D Ar) {v : Value} (hv : v.category = 1) (d : decode cc pc = .ok (.pop, 1))  (hq : pc + 1 = q) (kk : wq_Z p l e R s m args below meth c D E b N nL A Q cells slots q L (st) S) : wq_Z p l e R s m args below meth c D E b N nL A Q cells slots pc L (v :: st) S := by
  subst hq
  intro H locs ls hW hS hl
  exact lv_pop F.1 F.2.1 d hv (kk H locs ls hW hS hl)
theorem wq_icmp_eq (F : wq_Fr p s m args meth c cc nL ret own D Ar) {x y off : Int} {tgt : Nat} (d : decode cc pc = .ok (.if_icmp .eq off, 3)) (ht : (pc : Int) + off = (tgt : Int)) (hq : pc + 3 = q) (kt : wq_w x = wq_w y → wq_Z p l e R s m args below meth c D E b N nL A Q cells slots tgt L st S) (kf : ¬ (wq_w x = wq_w y) → wq_Z p l e R s m args below meth c D E b N nL A Q cells slots q L st S) : wq_Z p l e R s m args below meth c D E b N nL A Q cells slots pc L (.int (wq_I y) :: .int (wq_I x) :: st) S := by
  subst hq
  intro H locs ls hW hS hl
  exact lv_icmp_eq F.1 F.2.1 d ht (fun h => kt ((wq_I_eq x y).mp h) H locs ls hW hS hl) (fun h => kf (fun h2 => h ((wq_I_eq x y).mpr h2)) H locs ls hW hS hl)
theorem wq_if_eq (F : wq_Fr p s m args meth c cc nL ret own D Ar) {x off : Int} {tgt : Nat} (d : decode cc pc = .ok (.ifCond .eq off, 3)) (ht : (pc : Int) + off = (tgt : Int)) (hq : pc + 3 = q) (kt : wq_w x = (0 : Int) → wq_Z p l e R s m args below meth c D E b N nL A Q cells slots tgt L st S) (kf : ¬ (wq_w x = (0 : Int)) → wq_Z p l e R s m args below meth c D E b N nL A Q cells slots q L st S) : wq_Z p l e R s m args below meth c D E b N nL A Q cells slots pc L (.int (wq_I x) :: st) S := by
  subst hq
  intro H locs ls hW hS hl
  exact lv_if_eq F.1 F.2.1 d ht (fun h => kt ((wq_I_eq x 0).mp h) H locs ls hW hS hl) (fun h => kf (fun h2 => h ((wq_I_eq x 0).mpr h2)) H locs ls hW hS hl)
theorem wq_icmp_ne (F : wq_Fr p s m args meth c cc nL ret own D Ar) {x y off : Int} {tgt : Nat} (d : decode cc pc = .ok (.if_icmp .ne off, 3)) (ht : (pc : Int) + off = (tgt : Int)) (hq : pc + 3 = q) (kt : ¬ wq_w x = wq_w y → wq_Z p l e R s m args below meth c D E b N nL A Q cells slots tgt L st S) (kf : wq_w x = wq_w y → wq_Z p l e R s m args below meth c D E b N nL A Q cells slots q L st S) : wq_Z p l e R s m args below meth c D E b N nL A Q cells slots pc L (.int (wq_I y) :: .int (wq_I x) :: st) S := by
  subst hq
  intro H locs ls hW hS hl
  exact lv_icmp_ne F.1 F.2.1 d ht (fun h => kt ((not_congr (wq_I_eq x y)).mp h) H locs ls hW hS hl) (fun h => kf ((wq_I_eq x y).mp h) H locs ls hW hS hl)
theorem wq_if_ne (F : wq_Fr p s m args meth c cc nL ret own D Ar) {x off : Int} {tgt : Nat} (d : decode cc pc = .ok (.ifCond .ne off, 3)) (ht : (pc : Int) + off = (tgt : Int)) (hq : pc + 3 = q) (kt : ¬ wq_w x = (0 : Int) → wq_Z p l e R s m args below meth c D E b N nL A Q cells slots tgt L st S) (kf : wq_w x = (0 : Int) → wq_Z p l e R s m args below meth c D E b N nL A Q cells slots q L st S) : wq_Z p l e R s m args below meth c D E b N nL A Q cells slots pc L (.int (wq_I x) :: st) S := by
  subst hq
  intro H locs ls hW hS hl
  exact lv_if_ne F.1 F.2.1 d ht (fun h => kt ((not_congr (wq_I_eq x 0)).mp h) H locs ls hW hS hl) (fun h => kf ((wq_I_eq x 0).mp h) H locs ls hW hS hl)
theorem wq_icmp_lt (F : wq_Fr p s m args meth c cc nL ret own D Ar) {x y off : Int} {tgt : Nat} (d : decode cc pc = .ok (.if_icmp .lt off, 3)) (ht : (pc : Int) + off = (tgt : Int)) (hq : pc + 3 = q) (kt : wq_w x < wq_w y → wq_Z p l e R s m args below meth c D E b N nL A Q cells slots tgt L st S) (kf : ¬ (wq_w x < wq_w y) → wq_Z p l e R s m args below meth c D E b N nL A Q cells slots q L st S) : wq_Z p l e R s m args below meth c D E b N nL A Q cells slots pc L (.int (wq_I y) :: .int (wq_I x) :: st) S := by
  subst hq
  intro H locs ls hW hS hl
  exact lv_icmp_lt F.1 F.2.1 d ht (fun h => kt ((wq_I_lt x y).mp h) H locs ls hW hS hl) (fun h => kf (fun h2 => h ((wq_I_lt x y).mpr h2)) H locs ls hW hS hl)
theorem wq_if_lt (F : wq_Fr p s m args meth c cc nL ret own D Ar) {x off : Int} {tgt : Nat} (d : decode cc pc = .ok (.ifCond .lt off, 3)) (ht : (pc : Int) + off = (tgt : Int)) (hq : pc + 3 = q) (kt : wq_w x < 0 → wq_Z p l e R s m args below meth c D E b N nL A Q cells slots tgt L st S) (kf : ¬ (wq_w x < 0) → wq_Z p l e R s m args below meth c D E b N nL A Q cells slots q L st S) : wq_Z p l e R s m args below meth c D E b N nL A Q cells slots pc L (.int (wq_I x) :: st) S := by
  subst hq
  intro H locs ls hW hS hl
  exact lv_if_lt F.1 F.2.1 d ht (fun h => kt ((wq_I_lt x 0).mp h) H locs ls hW hS hl) (fun h => kf (fun h2 => h ((wq_I_lt x 0).mpr h2)) H locs ls hW hS hl)
theorem wq_icmp_ge (F : wq_Fr p s m args meth c cc nL ret own D Ar) {x y off : Int} {tgt : Nat} (d : decode cc pc = .ok (.if_icmp .ge off, 3)) (ht : (pc : Int) + off = (tgt : Int)) (hq : pc + 3 = q) (kt : wq_w y ≤ wq_w x → wq_Z p l e R s m args below meth c D E b N nL A Q cells slots tgt L st S) (kf : ¬ (wq_w y ≤ wq_w x) → wq_Z p l e R s m args below meth c D E b N nL A Q cells slots q L st S) : wq_Z p l e R s m args below meth c D E b N nL A Q cells slots pc L (.int (wq_I y) :: .int (wq_I x) :: st) S := by
  subst hq
  intro H locs ls hW hS hl
  exact lv_icmp_ge F.1 F.2.1 d ht (fun h => kt ((wq_I_le y x).mp h) H locs ls hW hS hl) (fun h => kf (fun h2 => h ((wq_I_le y x).mpr h2)) H locs ls hW hS hl)
theorem wq_if_ge (F : wq_Fr p s m args meth c cc nL ret own D Ar) {x off : Int} {tgt : Nat} (d : decode cc pc = .ok (.ifCond .ge off, 3)) (ht : (pc : Int) + off = (tgt : Int)) (hq : pc + 3 = q) (kt : 0 ≤ wq_w x → wq_Z p l e R s m args below meth c D E b N nL A Q cells slots tgt L st S) (kf : ¬ (0 ≤ wq_w x) → wq_Z p l e R s m args below meth c D E b N nL A Q cells slots q L st S) : wq_Z p l e R s m args below meth c D E b N nL A Q cells slots pc L (.int (wq_I x) :: st) S := by
  subst hq
  intro H locs ls hW hS hl
  exact lv_if_ge F.1 F.2.1 d ht (fun h => kt ((wq_I_le 0 x).mp h) H locs ls hW hS hl) (fun h => kf (fun h2 => h ((wq_I_le 0 x).mpr h2)) H locs ls hW hS hl)
theorem wq_icmp_gt (F : wq_Fr p s m args meth c cc nL ret own D Ar) {x y off : Int} {tgt : Nat} (d : decode cc pc = .ok (.if_icmp .gt off, 3)) (ht : (pc : Int) + off = (tgt : Int)) (hq : pc + 3 = q) (kt : wq_w y < wq_w x → wq_Z p l e R s m args below meth c D E b N nL A Q cells slots tgt L st S) (kf : ¬ (wq_w y < wq_w x) → wq_Z p l e R s m args below meth c D E b N nL A Q cells slots q L st S) : wq_Z p l e R s m args below meth c D E b N nL A Q cells slots pc L (.int (wq_I y) :: .int (wq_I x) :: st) S := by
  subst hq
  intro H locs ls hW hS hl
  exact lv_icmp_gt F.1 F.2.1 d ht (fun h => kt ((wq_I_lt y x).mp h) H locs ls hW hS hl) (fun h => kf (fun h2 => h ((wq_I_lt y x).mpr h2)) H locs ls hW hS hl)
theorem wq_if_gt (F : wq_Fr p s m args meth c cc nL ret own D Ar) {x off : Int} {tgt : Nat} (d : decode cc pc = .ok (.ifCond .gt off, 3)) (ht : (pc : Int) + off = (tgt : Int)) (hq : pc + 3 = q) (kt : 0 < wq_w x → wq_Z p l e R s m args below meth c D E b N nL A Q cells slots tgt L st S) (kf : ¬ (0 < wq_w x) → wq_Z p l e R s m args below meth c D E b N nL A Q cells slots q L st S) : wq_Z p l e R s m args below meth c D E b N nL A Q cells slots pc L (.int (wq_I x) :: st) S := by
  subst hq
  intro H locs ls hW hS hl
  exact lv_if_gt F.1 F.2.1 d ht (fun h => kt ((wq_I_lt 0 x).mp h) H locs ls hW hS hl) (fun h => kf (fun h2 => h ((wq_I_lt 0 x).mpr h2)) H locs ls hW hS hl)
theorem wq_icmp_le (F : wq_Fr p s m args meth c cc nL ret own D Ar) {x y off : Int} {tgt : Nat} (d : decode cc pc = .ok (.if_icmp .le off, 3)) (ht : (pc : Int) + off = (tgt : Int)) (hq : pc + 3 = q) (kt : wq_w x ≤ wq_w y → wq_Z p l e R s m args below meth c D E b N nL A Q cells slots tgt L st S) (kf : ¬ (wq_w x ≤ wq_w y) → wq_Z p l e R s m args below meth c D E b N nL A Q cells slots q L st S) : wq_Z p l e R s m args below meth c D E b N nL A Q cells slots pc L (.int (wq_I y) :: .int (wq_I x) :: st) S := by
  subst hq
  intro H locs ls hW hS hl
  exact lv_icmp_le F.1 F.2.1 d ht (fun h => kt ((wq_I_le x y).mp h) H locs ls hW hS hl) (fun h => kf (fun h2 => h ((wq_I_le x y).mpr h2)) H locs ls hW hS hl)
theorem wq_if_le (F : wq_Fr p s m args meth c cc nL ret own D Ar) {x off : Int} {tgt : Nat} (d : decode cc pc = .ok (.ifCond .le off, 3)) (ht : (pc : Int) + off = (tgt : Int)) (hq : pc + 3 = q) (kt : wq_w x ≤ 0 → wq_Z p l e R s m args below meth c D E b N nL A Q cells slots tgt L st S) (kf : ¬ (wq_w x ≤ 0) → wq_Z p l e R s m args below meth c D E b N nL A Q cells slots q L st S) : wq_Z p l e R s m args below meth c D E b N nL A Q cells slots pc L (.int (wq_I x) :: st) S := by
  subst hq
  intro H locs ls hW hS hl
  exact lv_if_le F.1 F.2.1 d ht (fun h => kt ((wq_I_le x 0).mp h) H locs ls hW hS hl) (fun h => kf (fun h2 => h ((wq_I_le x 0).mpr h2)) H locs ls hW hS hl)
theorem wq_goto (F : wq_Fr p s m args meth c cc nL ret own D Ar) {off : Int} {tgt : Nat} (d : decode cc pc = .ok (.goto off, 3)) (ht : (pc : Int) + off = (tgt : Int)) (kk : wq_Z p l e R s m args below meth c D E b N nL A Q cells slots tgt L st S) : wq_Z p l e R s m args below meth c D E b N nL A Q cells slots pc L st S := fun H locs ls hW hS hl => lv_goto F.1 F.2.1 d ht (kk H locs ls hW hS hl)
theorem wq_tableIn (F : wq_Fr p s m args meth c cc nL ret own D Ar) {dflt lo hi : Int} {offs : Array Int} {len : Nat} {x off : Int} {tgt : Nat} (d : decode cc pc = .ok (.tableswitch dflt lo hi offs, len)) (h1 : ¬ wq_w x < lo) (h2 : ¬ hi < wq_w x) (ho : offs[(wq_w x - lo).toNat]? = some off) (ht : (pc : Int) + off = (tgt : Int)) (kk : wq_Z p l e R s m args below meth c D E b N nL A Q cells slots tgt L st S) : wq_Z p l e R s m args below meth c D E b N nL A Q cells slots pc L (.int (wq_I x) :: st) S := fun H locs ls hW hS hl => lv_tableIn F.1 F.2.1 d h1 h2 ho ht (kk H locs ls hW hS hl)
theorem wq_tableOut (F : wq_Fr p s m args meth c cc nL ret own D Ar) {dflt lo hi : Int} {offs : Array Int} {len : Nat} {x : Int} {tgt : Nat} (d : decode cc pc = .ok (.tableswitch dflt lo hi offs, len)) (h : wq_w x < lo ∨ hi < wq_w x) (ht : (pc : Int) + dflt = (tgt : Int)) (kk : wq_Z p l e R s m args below meth c D E b N nL A Q cells slots tgt L st S) : wq_Z p l e R s m args below meth c D E b N nL A Q cells slots pc L (.int (wq_I x) :: st) S := fun H locs ls hW hS hl => lv_tableOut F.1 F.2.1 d h ht (kk H locs ls hW hS hl)
theorem wq_Wd_set {S' : wq_St} {H H1 : Heap} {k : Nat} (hW : wq_Wd D E b N S H) (hk : va_at D vwCl (b + k, E (S' k) k) H1) (hS' : ∀ k' : Nat, k' ≠ k → S' k' = S k') (oq : ∀ q : Nat, q ≠ b + k → H1[q]? = H[q]?) : wq_Wd D E b N S' H1 := by
  intro k' hk'
  by_cases e9 : k' = k
  · subst e9
    exact hk
  · rw [hS' k' e9]
    exact (hW k' hk').kept (oq (b + k') (by omega))
theorem wq_set_row (S : wq_St) (k j : Nat) (v : Int) : ∀ k' : Nat, k' ≠ k → wq_set S k j v k' = S k' := by
  intro k' h
  funext i
  unfold wq_set
  rw [if_neg (fun h2 => h h2.1)]
theorem wq_set_eq (S : wq_St) (k j : Nat) (v : Int) : wq_set S k j v k = fun i => if i = j then v else S k i := by
  funext i
  unfold wq_set
  by_cases h : i = j
  · rw [if_pos ⟨rfl, h⟩, if_pos h]
  · rw [if_neg (fun h2 => h h2.2), if_neg h]
theorem wq_getf (F : wq_Fr p s m args meth c cc nL ret own D Ar) {ref C : String} {T : u_T} {n ci index k j : Nat} {fs : List Value} {v : Value} (hin : ∀ w ∈ u_ws C T n, w ∈ wq_aw) (hc : vwCl[ci]? = some (C, T, n)) (hj : j < n) (hlink : Cond.fieldLink own index ref (T j).2.1 (T j).2.2.1 ∈ wq_aw) (hsame : ∀ x, s.fieldFound? (T j).1 (T j).2.1 (T j).2.2.1 = some x → s.fieldFound? ref (T j).2.1 (T j).2.2.1 = some x) (hk : k < N) (hE : E (S k) k = .inr (ci, fs)) (hv : fs[j]? = some v) (d : decode cc pc = .ok (.getfield index, 3)) (hq : pc + 3 = q) (kk : wq_Z p l e R s m args below meth c D E b N nL A Q cells slots q L (v :: st) S) : wq_Z p l e R s m args below meth c D E b N nL A Q cells slots pc L (.ref (b + k) :: st) S := by
  subst hq
  intro H locs ls hW hS hl
  have hP : va_P D vwCl [(b + k, .inr (ci, fs))] H := by
    intro i x hx
    match i, hx with
    | 0, hx =>
      cases hx
      have h := hW k hk
      rw [hE] at h
      exact h
  exact va_get (ws := [(b + k, .inr (ci, fs))]) F.1 F.2.1 F.2.2.2.2.1 hin F.2.2.2.1 F.2.2.2.2.2.1 hP 0 rfl hc j hj (F.2.2.2.2.1 _ hlink) hsame hv d (kk H locs ls hW hS hl)
theorem wq_putf (F : wq_Fr p s m args meth c cc nL ret own D Ar) {ref C : String} {T : u_T} {n ci index k j : Nat} {fs : List Value} {ty : FieldType} {v : Value} {S' : wq_St} (hin : ∀ w ∈ u_ws C T n, w ∈ wq_aw) (hc : vwCl[ci]? = some (C, T, n)) (ty0 : Nat → FieldType) (hty : ∀ k, k < n → parseFieldDescriptor (T k).2.2.1 = some (ty0 k)) (hnm : ∀ a, a < n → ∀ b, b < n → a ≠ b → (T a).2.1 ≠ (T b).2.1) (hj : j < n) (hlink : Cond.fieldLink own index ref (T j).2.1 (T j).2.2.1 ∈ wq_aw) (hsame : ∀ x, s.fieldFound? (T j).1 (T j).2.1 (T j).2.2.1 = some x → s.fieldFound? ref (T j).2.1 (T j).2.2.1 = some x) (hfin : (T j).2.2.2 = false) (hd : parseFieldDescriptor (T j).2.2.1 = some ty) (hn : narrow ty v = v) (hfit : fits ty v = true) (hl0 : j < fs.length) (hk : k < N) (hE : E (S k) k = .inr (ci, fs)) (hE' : E (S' k) k = .inr (ci, fs.set j v)) (hS' : ∀ k' : Nat, k' ≠ k → S' k' = S k') (hA : A (b + k)) (d : decode cc pc = .ok (.putfield index, 3)) (hq : pc + 3 = q) (kk : wq_Z p l e R s m args below meth c D E b N nL A Q cells slots q L st S') : wq_Z p l e R s m args below meth c D E b N nL A Q cells slots pc L (v :: .ref (b + k) :: st) S := by
  subst hq
  intro H locs ls hW hS hl
  have hts := F.2.2.2.2.1
  have hK := F.2.2.2.2.2.1
  have hap := va_apart (own := own) hts hin ty0 hty hnm hK hc
  have h0 := hW k hk
  rw [hE] at h0
  obtain ⟨r, h1, cell, q1, q2, q3, q4⟩ := h0
  have hr : r = (C, T, n) := Option.some.inj (h1.symm.trans hc)
  subst hr
  obtain ⟨hSl, hfc, kC, hkC, hkind⟩ := hK.1 ci _ hc
  obtain ⟨cf, kf, fi, f, hi, hsl⟩ := hSl j hj
  have hlay := hts _ (hin _ (u_in_lay hj))
  unfold u_lay at hlay
  rw [if_neg (by rw [hfin]; decide)] at hlay
  have hst := (u_facts hfc hkC (u_lays hts hin hj) hi).1
  have h6 := u_store hfc hkC hkind hlay hi hd hn hfit
  refine W.putK F.1 F.2.1 (f := f) ⟨F.2.2.2.1, hts _ hlink, ⟨_, _, _, hsame _ hi⟩, hst⟩ (by rw [q2]; exact h6) q1 q3 (by rw [hsl]; exact k2_hasslot (q4 j hj)) rfl rfl d fun H' e1 e2 e3 => ?_
  rw [hsl] at e1 ⊢
  refine kk H' _ ls (wq_Wd_set hW ?_ hS' e3) (hS.put e2 e3 hA) hl
  rw [hE']
  exact ⟨_, hc, t_OB.to (V := updV (vp_V fs) j v) ⟨_, e1, q2, q3, t_set q4 hap hj v⟩ (fun i _ => vp_updV_set hl0 v i)⟩
theorem wq_iald (F : wq_Fr p s m args meth c cc nL ret own D Ar) {k n t : Nat} {i : Int} (hk : k < N) (hE : E (S k) k = .inl (Ar 0, n, .inl fun j => wq_I (S k j))) (ht : t < n) (hi : wq_w i = (t : Int)) (d : decode cc pc = .ok (.iaload, 1)) (hq : pc + 1 = q) (kk : wq_Z p l e R s m args below meth c D E b N nL A Q cells slots q L (.int (wq_I (S k t)) :: st) S) : wq_Z p l e R s m args below meth c D E b N nL A Q cells slots pc L (.int (wq_I i) :: .ref (b + k) :: st) S := by
  subst hq
  intro H locs ls hW hS hl
  have h0 := hW k hk
  rw [hE] at h0
  have hin : vp_in (wq_I i) n := vp_in_iff.mpr (by show 0 ≤ wq_w i ∧ wq_w i < (n : Int); omega)
  have et : (wq_I i).toNatClampNeg = t := by show (wq_w i).toNat = t; omega
  exact W.iald (v := .int (wq_I (S k t))) F.1 F.2.1 h0 ((F.2.2.2.2.2.1.2 0 _ rfl).1 n (fun j => .int (wq_I (S k j)))) (fun q => by cases q) (by show ¬ (wq_I i < 0 ∨ (arrV _ _ _).slots.size ≤ _); rw [arrV_size]; exact hin) (by show (arrV _ _ _).slots[_]? = _; rw [et, arrV_read _ _ ht]) rfl rfl d (kk H locs ls hW hS hl)
theorem wq_zald (F : wq_Fr p s m args meth c cc nL ret own D Ar) {k n t : Nat} {i : Int} (hk : k < N) (hE : E (S k) k = .inl (Ar 1, n, .inl fun j => wq_I (S k j))) (ht : t < n) (hi : wq_w i = (t : Int)) (d : decode cc pc = .ok (.baload, 1)) (hq : pc + 1 = q) (kk : wq_Z p l e R s m args below meth c D E b N nL A Q cells slots q L (.int (wq_I (S k t)) :: st) S) : wq_Z p l e R s m args below meth c D E b N nL A Q cells slots pc L (.int (wq_I i) :: .ref (b + k) :: st) S := by
  subst hq
  intro H locs ls hW hS hl
  have h0 := hW k hk
  rw [hE] at h0
  have hin : vp_in (wq_I i) n := vp_in_iff.mpr (by show 0 ≤ wq_w i ∧ wq_w i < (n : Int); omega)
  have et : (wq_I i).toNatClampNeg = t := by show (wq_w i).toNat = t; omega
  exact W.zald (v := .int (wq_I (S k t))) F.1 F.2.1 h0 ((F.2.2.2.2.2.1.2 1 _ rfl).1 n (fun j => .int (wq_I (S k j)))) (fun q => by cases q) (by show ¬ (wq_I i < 0 ∨ (arrV _ _ _).slots.size ≤ _); rw [arrV_size]; exact hin) (by show (arrV _ _ _).slots[_]? = _; rw [et, arrV_read _ _ ht]) rfl rfl d (kk H locs ls hW hS hl)
theorem wq_iast (F : wq_Fr p s m args meth c cc nL ret own D Ar) {k n t : Nat} {i x : Int} (hk : k < N) (hE : E (S k) k = .inl (Ar 0, n, .inl fun j => wq_I (S k j))) (hE' : E (wq_set S k t x k) k = .inl (Ar 0, n, .inl fun j => wq_I (wq_set S k t x k j))) (ht : t < n) (hi : wq_w i = (t : Int)) (hA : A (b + k)) (d : decode cc pc = .ok (.iastore, 1)) (hq : pc + 1 = q) (kk : wq_Z p l e R s m args below meth c D E b N nL A Q cells slots q L st (wq_set S k t x)) : wq_Z p l e R s m args below meth c D E b N nL A Q cells slots pc L (.int (wq_I x) :: .int (wq_I i) :: .ref (b + k) :: st) S := by
  subst hq
  intro H locs ls hW hS hl
  have h0 := hW k hk
  rw [hE] at h0
  have hin : vp_in (wq_I i) n := vp_in_iff.mpr (by show 0 ≤ wq_w i ∧ wq_w i < (n : Int); omega)
  have et : (wq_I i).toNatClampNeg = t := by show (wq_w i).toNat = t; omega
  refine W.iast F.1 F.2.1 h0 ((F.2.2.2.2.2.1.2 0 _ rfl).1 n (fun j => .int (wq_I (S k j)))) (fun q => by cases q) (by show ¬ (wq_I i < 0 ∨ (arrV _ _ _).slots.size ≤ _); rw [arrV_size]; exact hin) rfl rfl d fun H1 e1 z oq => ?_
  refine kk H1 _ ls (wq_Wd_set hW ?_ (wq_set_row S k t x) oq) (hS.put z oq hA) hl
  rw [hE']
  show H1[b + k]? = some (vp_cell _ _)
  rw [e1, et]
  
  rw [vp_cell_i, vp_cell_i, arrV_store]
  congr 2
  funext j
  rw [wq_set_eq]
  by_cases hj : j = t
  · subst hj
    simp [updV]
  · simp [updV, hj]
theorem wq_zast (F : wq_Fr p s m args meth c cc nL ret own D Ar) {k n t : Nat} {i x : Int} (hx : x = 0 ∨ x = 1) (hk : k < N) (hE : E (S k) k = .inl (Ar 1, n, .inl fun j => wq_I (S k j))) (hE' : E (wq_set S k t x k) k = .inl (Ar 1, n, .inl fun j => wq_I (wq_set S k t x k j))) (ht : t < n) (hi : wq_w i = (t : Int)) (hA : A (b + k)) (d : decode cc pc = .ok (.bastore, 1)) (hq : pc + 1 = q) (kk : wq_Z p l e R s m args below meth c D E b N nL A Q cells slots q L st (wq_set S k t x)) : wq_Z p l e R s m args below meth c D E b N nL A Q cells slots pc L (.int (wq_I x) :: .int (wq_I i) :: .ref (b + k) :: st) S := by
  subst hq
  intro H locs ls hW hS hl
  have h0 := hW k hk
  rw [hE] at h0
  have hin : vp_in (wq_I i) n := vp_in_iff.mpr (by show 0 ≤ wq_w i ∧ wq_w i < (n : Int); omega)
  have et : (wq_I i).toNatClampNeg = t := by show (wq_w i).toNat = t; omega
  have ex : vp_nar .boolean (wq_I x) = wq_I x := by rcases hx with h | h <;> rw [h] <;> decide
  refine W.zast F.1 F.2.1 h0 ((F.2.2.2.2.2.1.2 1 _ rfl).1 n (fun j => .int (wq_I (S k j)))) (fun q => by cases q) (by show ¬ (wq_I i < 0 ∨ (arrV _ _ _).slots.size ≤ _); rw [arrV_size]; exact hin) rfl rfl d fun H1 e1 z oq => ?_
  refine kk H1 _ ls (wq_Wd_set hW ?_ (wq_set_row S k t x) oq) (hS.put z oq hA) hl
  rw [hE']
  show H1[b + k]? = some (vp_cell _ _)
  rw [e1, et]
  show some ((vp_cell _ _).setSlot t (.int (vp_nar .boolean (wq_I x)))) = _
  rw [ex]
  rw [vp_cell_i, vp_cell_i, arrV_store]
  congr 2
  funext j
  rw [wq_set_eq]
  by_cases hj : j = t
  · subst hj
    simp [updV]
  · simp [updV, hj]
theorem wq_aald (F : wq_Fr p s m args meth c cc nL ret own D Ar) {k n t tk : Nat} {i : Int} {ty : FieldType} {f : Nat → Nat} (hk : k < N) (hE : E (S k) k = .inl (Ar tk, n, .inr (.inr (.inr (.inr fun j => some (b + f j)))))) (hty : (wq_tys Ar)[tk]? = some (Ar tk, ty)) (hrf : ty.isReference = true) (ht : t < n) (hi : wq_w i = (t : Int)) (d : decode cc pc = .ok (.aaload, 1)) (hq : pc + 1 = q) (kk : wq_Z p l e R s m args below meth c D E b N nL A Q cells slots q L (.ref (b + f t) :: st) S) : wq_Z p l e R s m args below meth c D E b N nL A Q cells slots pc L (.int (wq_I i) :: .ref (b + k) :: st) S := by
  subst hq
  intro H locs ls hW hS hl
  have h0 := hW k hk
  rw [hE] at h0
  have hin : vp_in (wq_I i) n := vp_in_iff.mpr (by show 0 ≤ wq_w i ∧ wq_w i < (n : Int); omega)
  have et : (wq_I i).toNatClampNeg = t := by show (wq_w i).toNat = t; omega
  exact W.aald (v := .ref (b + f t)) (ty := ty) F.1 F.2.1 h0 ((F.2.2.2.2.2.1.2 tk _ hty).1 n (fun j => va_rf (some (b + f j)))) hrf (fun q => by cases q) (by show ¬ (wq_I i < 0 ∨ (arrV _ _ _).slots.size ≤ _); rw [arrV_size]; exact hin) (by show (arrV _ _ _).slots[_]? = _; rw [et, arrV_read _ _ ht]; rfl) rfl rfl d (kk H locs ls hW hS hl)
end WQM
end
section
/-! CONTRACTS: a method that returns -/
def wq_Qc (D : va_G) (E : (Nat → Int) → Nat → va_E) (b N : Nat) (rv : Option Value) (S' : wq_St) : Array Value → State → Outcome → State → Prop := fun _ st oc t => oc = .returned rv ∧ wq_Wd D E b N S' t.heap ∧ va_F (wq_Ab b N) st t
def wq_Pc (D : va_G) (Ar : Nat → ClassId) (E : (Nat → Int) → Nat → va_E) (b N : Nat) (av : List Value) (S : wq_St) : Array Value → State → Prop := va_Pc av (fun U => wq_Wd D E b N S U.heap ∧ va_K D vwCl (wq_tys Ar) U)
def wq_Ct (l : Launch) (y : MethodName) (cd : Cond) (n : Nat) (D : va_G) (Ar : Nat → ClassId) (E : (Nat → Int) → Nat → va_E) (b N : Nat) (av : List Value) (S : wq_St) (rv : Option Value) (S' : wq_St) : Prop :=
  Met l y (wq_ws cd) (wq_rm n 0 0) (wq_Pc D Ar E b N av S) (wq_Qc D E b N rv S') 0 0 (wq_Ab b N)
theorem wq_blind (D : va_G) (Ar : Nat → ClassId) (E : (Nat → Int) → Nat → va_E) (b N : Nat) (av : List Value) (S : wq_St) : FrameBlind (wq_Pc D Ar E b N av S) := fun a U g mk h => ⟨h.1, h.2.1, va_K.moved (u := U) (U := U.calling g mk a) (Vm.Alike.refl U.vm) h.2.2⟩
theorem wq_start {l : Launch} {y : MethodName} {cc : ByteArray} {maxL n b N : Nat} {ret : Option FieldType} {D : va_G} {Ar : Nat → ClassId} {E : (Nat → Int) → Nat → va_E} {av : List Value} {S S' : wq_St} {rv : Option Value} (own : String) (L0 : List (Option Value)) (hy : plainName y.cls = true) (hcls : y.cls = own) (hlen : (lg_sl av).length ≤ maxL) (hL0 : wq_args maxL av = L0)
    (body : ∀ p e s m args below meth c, wq_Fr p s m args meth c cc maxL ret own D Ar → wq_Z p l e (wq_rm n 0 0) s m args below meth c D E b N maxL (wq_Ab b N) (MQ below (wq_Qc D E b N rv S') args s 0 0 (wq_Ab b N)) 0 0 0 L0 [] S) : wq_Ct l y (.code y cc maxL ret) n D Ar E b N av S rv S' := by
  refine Met.ofW (cc := cc) (maxL := maxL) (ret := ret) hy rfl ?_
  intro p e s m args below meth c s₁ B hml hv
  obtain ⟨rfl, hW, hK⟩ := hv
  have hts := atoms_spec (ws := wq_ws (.code y cc maxL ret)) B.pre
  have F : wq_Fr p s m av.toArray meth c cc maxL ret own D Ar := ⟨B.exec, B.bytes, hml, hcls ▸ findClass_of_methodNamed B.named, fun w h => hts w (List.mem_cons_of_mem _ h), hK, B.returns, B.notSynchronized⟩
  rw [lg_entry_eq]
  exact body p e s m _ below meth c F s.heap [] _ hW va_S.rf (hL0 ▸ wq_entry av hlen)
/-- a link of a call: the words that it needs -/
def wq_Lk (own : String) (idx : Nat) (y : MethodName) (bytes : ByteArray) (maxL : Nat) (ret : Option FieldType) (np : Nat) : Prop :=
  Cond.methodLink own idx y ∈ wq_aw ∧ Cond.initialized y.cls ∈ wq_aw ∧ Cond.code y bytes maxL ret ∈ wq_aw ∧ (y.cls ≠ "java/lang/invoke/MethodHandle" ∧ y.cls ≠ "java/lang/invoke/VarHandle" ∧ (parseMethodDescriptor y.desc).map (fun d => d.parameters.length) = some np)
def wq_LkV (own : String) (idx : Nat) (y : MethodName) (bytes : ByteArray) (maxL : Nat) (ret : Option FieldType) (np : Nat) : Prop := wq_Lk own idx y bytes maxL ret np ∧ Cond.instanceMethod y ∈ wq_aw ∧ Cond.selects y.cls y y ∈ wq_aw
def wq_LkS (own : String) (idx : Nat) (y : MethodName) (bytes : ByteArray) (maxL : Nat) (ret : Option FieldType) (np : Nat) : Prop := wq_Lk own idx y bytes maxL ret np ∧ Cond.static y ∈ wq_aw
section WQC
variable {p : Program} {l : Launch} {e : Env} {R : Room} {s : State} {m : MethodId} {args : Array Value} {below : List Frame} {meth : Method} {c : Code} {D : va_G} {Ar : Nat → ClassId} {E : (Nat → Int) → Nat → va_E} {b N nL : Nat} {A : Nat → Prop} {Q : State → Prop} {cells slots pc q : Nat} {L : List (Option Value)} {st : List Value} {S S' : wq_St}
variable {cc bytes : ByteArray} {own : String} {ret rt : Option FieldType} {H : Heap} {locs : List Loc} {y : MethodName} {idx maxL np n : Nat} {As rest st0 : List Value} {rv : Option Value} {rm : Room} {mc ms : Nat}
theorem wq_callB (hts : ∀ w ∈ wq_aw, w.before args s = true) (lk : wq_Lk own idx y bytes maxL rt np) (hrc : rm.cells = mc) (hrs : rm.slots = ms) (hR : rm.frames + 1 ≤ R.frames ∧ 8 + (maxL + 11) + rm.locals ≤ R.locals) : CallB R s args own idx y bytes maxL rt (wq_ws (.code y bytes maxL rt)) rm mc ms np := by
  obtain ⟨h1, h2, h3, h4⟩ := lk
  refine callB_of (Ts := wq_aw) (ws' := wq_aw) np hts (fun w hw => ?_) rfl hrc hrs (hts _ h2) (hts _ h1) h4 hR
  rcases List.mem_cons.mp hw with rfl | hw
  · exact ⟨h3, good_of_word (wq_aw_good _ h3)⟩
  · exact ⟨hw, good_of_word (wq_aw_good _ hw)⟩
theorem wq_go {ls : Array Slot} (hr : va_Run p l e R s m args below meth c H locs cells slots 0 0 (F0 m pc ls st0) rest (wq_Qc D E b N rv S' As.toArray) (wq_Ab b N)) (hS : va_S A s.heap H locs) (hA : ∀ q, wq_Ab b N q → A q) (hl : wq_has ls nL L)
    (kk : wq_Z p l e R s m args below meth c D E b N nL A Q cells slots (pc + 3) L (rv.toList ++ rest) S') : W p l e R s m args below meth c H locs cells slots Q (F0 m pc ls st0) := by
  intro T hT X
  obtain ⟨v, st₀, t, T', Lx, h0, X', hL, e1, e2, ⟨hv, hW, hz, hk⟩, st⟩ := hr T hT X
  cases hv
  rw [h0] at hz hk
  obtain ⟨t2, a1, b1⟩ := kk T'.heap (locs ++ Lx) ls (by rw [e1]; exact hW)
    ⟨Nat.le_trans hS.1 (by rw [e1]; exact hz), fun q h1 h2 => by rw [e1, hk q (Nat.lt_of_lt_of_le h1 hS.1) (fun z => h2 (hA q z))]; exact hS.2.1 q h1 h2, fun q hq => by
      rcases List.mem_append.mp hq with h | h
      · exact hS.2.2 q h
      · exact hA _ (hL q h)⟩ hl T' rfl X'
  exact ⟨t2, st t2 a1, b1⟩
theorem wq_callV (F : wq_Fr p s m args meth c cc nL ret own D Ar) {k ci nf : Nat} {T : u_T} {fs : List Value} (lk : wq_LkV own idx y bytes maxL rt np) (hM : wq_Ct l y (.code y bytes maxL rt) n D Ar E b N (.ref (b + k) :: As) S rv S') (hR : n + 1 ≤ R.frames ∧ 8 + (maxL + 11) + 40 * n ≤ R.locals) (hc0 : cells ≤ R.cells ∧ slots ≤ R.slots) (hk : k < N) (hE : E (S k) k = .inr (ci, fs)) (hcl : vwCl[ci]? = some (y.cls, T, nf)) (hA : ∀ q, wq_Ab b N q → A q) (hn : As.length = np) (hst : st0 = As.reverse ++ .ref (b + k) :: rest) (hcat : (rest.map fun v => v.category).sum ≤ 8) (d : decode cc pc = .ok (.invokevirtual idx, 3)) (hq : pc + 3 = q)
    (kk : wq_Z p l e R s m args below meth c D E b N nL A Q cells slots q L (rv.toList ++ rest) S') : wq_Z p l e R s m args below meth c D E b N nL A Q cells slots pc L st0 S := by
  subst hq
  subst hst
  intro H locs ls hW hS hl
  have hts := F.2.2.2.2.1
  have hP : va_P D vwCl [(b + k, .inr (ci, fs))] H := by
    intro i x hx
    match i, hx with
    | 0, hx =>
      cases hx
      have h := hW k hk
      rw [hE] at h
      exact h
  refine wq_go (va_runV (Ts := wq_aw) (C := y.cls) (n := np) (ws := wq_ws (.code y bytes maxL rt)) (As := As) (rest := rest) ⟨F.1, F.2.1, F.2.2.1, F.2.2.2.1, hts⟩ hM ⟨wq_callB hts lk.1 rfl rfl hR, hts _ lk.2.1, hts _ lk.2.2⟩ ⟨wq_blind _ _ _ _ _ _ _, va_recv F.2.2.2.2.2.1 hP hcl (q0 := 0) rfl, fun U hU hW9 => ⟨rfl, by rw [hU]; exact hW, va_K.moved hW9.alike F.2.2.2.2.2.1⟩⟩ rfl hn hl.1 rfl ?_ d ⟨hc0.1, hc0.2⟩) hS hA hl kk
  show 2 * 0 + _ ≤ 8
  omega
theorem wq_callS (F : wq_Fr p s m args meth c cc nL ret own D Ar) (lk : wq_LkS own idx y bytes maxL rt np) (hM : wq_Ct l y (.code y bytes maxL rt) n D Ar E b N As S rv S') (hR : n + 1 ≤ R.frames ∧ 8 + (maxL + 11) + 40 * n ≤ R.locals) (hc0 : cells ≤ R.cells ∧ slots ≤ R.slots) (hA : ∀ q, wq_Ab b N q → A q) (hn : As.length = np) (hst : st0 = As.reverse ++ rest) (hcat : (rest.map fun v => v.category).sum ≤ 8) (d : decode cc pc = .ok (.invokestatic idx, 3)) (hq : pc + 3 = q)
    (kk : wq_Z p l e R s m args below meth c D E b N nL A Q cells slots q L (rv.toList ++ rest) S') : wq_Z p l e R s m args below meth c D E b N nL A Q cells slots pc L st0 S := by
  subst hq
  subst hst
  intro H locs ls hW hS hl
  have hts := F.2.2.2.2.1
  refine wq_go (va_runS (Ts := wq_aw) (n := np) (ws := wq_ws (.code y bytes maxL rt)) (As := As) (rest := rest) ⟨F.1, F.2.1, F.2.2.1, F.2.2.2.1, hts⟩ hM ⟨wq_callB hts lk.1 rfl rfl hR, hts _ lk.2⟩ ⟨wq_blind _ _ _ _ _ _ _, fun U hU hW9 => ⟨rfl, by rw [hU]; exact hW, va_K.moved hW9.alike F.2.2.2.2.2.1⟩⟩ rfl hn hl.1 rfl ?_ d ⟨hc0.1, hc0.2⟩) hS hA hl kk
  show 2 * 0 + _ ≤ 8
  omega
/-- Math.max, Math.min of ints -/
theorem wq_mmax (F : wq_Fr p s m args meth c cc nL ret own D Ar) {x y : Int} (h1 : Cond.methodLink own idx Lib.Math.max.name ∈ wq_aw) (h2 : Cond.static Lib.Math.max.name ∈ wq_aw) (h3 : Cond.initialized "java/lang/Math" ∈ wq_aw) (h4 : Cond.code Lib.Math.max.name Lib.Math.max.code 2 (some .int) ∈ wq_aw) (hR : 1 ≤ R.frames) (hR2 : (st.map fun v => v.category).sum + 13 ≤ R.locals) (hc0 : cells ≤ R.cells ∧ slots ≤ R.slots) (d : decode cc pc = .ok (.invokestatic idx, 3)) (hq : pc + 3 = q)
    (kk : wq_Z p l e R s m args below meth c D E b N nL A Q cells slots q L (.int (wq_I (wq_max x y)) :: st) S) : wq_Z p l e R s m args below meth c D E b N nL A Q cells slots pc L (.int (wq_I y) :: .int (wq_I x) :: st) S := by
  subst hq
  intro H locs ls hW hS hl
  have hts := F.2.2.2.2.1
  refine va_mmax F.1 F.2.1 (F.2.2.1.trans hl.1.symm) F.2.2.2.1 (hts _ h1) (hts _ h2) (hts _ h3) (hts _ h4) hR hR2 hc0.1 hc0.2 d ?_
  have h := kk H locs ls hW hS hl
  have e9 : wq_I (wq_max x y) = if wq_I x < wq_I y then wq_I y else wq_I x := by
    unfold wq_max
    simp only [wq_I_lt]
    split <;> rfl
  rw [e9] at h
  exact h
theorem wq_mmin (F : wq_Fr p s m args meth c cc nL ret own D Ar) {x y : Int} (h1 : Cond.methodLink own idx Lib.Math.min.name ∈ wq_aw) (h2 : Cond.static Lib.Math.min.name ∈ wq_aw) (h3 : Cond.initialized "java/lang/Math" ∈ wq_aw) (h4 : Cond.code Lib.Math.min.name Lib.Math.min.code 2 (some .int) ∈ wq_aw) (hR : 1 ≤ R.frames) (hR2 : (st.map fun v => v.category).sum + 13 ≤ R.locals) (hc0 : cells ≤ R.cells ∧ slots ≤ R.slots) (d : decode cc pc = .ok (.invokestatic idx, 3)) (hq : pc + 3 = q)
    (kk : wq_Z p l e R s m args below meth c D E b N nL A Q cells slots q L (.int (wq_I (wq_min x y)) :: st) S) : wq_Z p l e R s m args below meth c D E b N nL A Q cells slots pc L (.int (wq_I y) :: .int (wq_I x) :: st) S := by
  subst hq
  intro H locs ls hW hS hl
  have hts := F.2.2.2.2.1
  refine va_mmin F.1 F.2.1 (F.2.2.1.trans hl.1.symm) F.2.2.2.1 (hts _ h1) (hts _ h2) (hts _ h3) (hts _ h4) hR hR2 hc0.1 hc0.2 d ?_
  have h := kk H locs ls hW hS hl
  have e9 : wq_I (wq_min x y) = if wq_I y < wq_I x then wq_I y else wq_I x := by
    unfold wq_min
    simp only [wq_I_lt]
    split <;> rfl
  rw [e9] at h
  exact h
/-! ends of a method that returns -/
theorem wq_iret (F : wq_Fr p s m args meth c cc nL (some .int) own D Ar) {x : Int32} (h : rv = some (.int x)) (hS9 : S = S') (d : decode cc pc = .ok (.ireturn, 1)) : wq_Z p l e R s m args below meth c D E b N nL (wq_Ab b N) (MQ below (wq_Qc D E b N rv S') args s cells slots (wq_Ab b N)) cells slots pc L [.int x] S := by
  subst h
  subst hS9
  intro H locs ls hW hS hl
  exact W.iret (v := x) F.1 F.2.1 F.2.2.2.2.2.2.1 (fun t ht hW9 => ⟨rfl, by rw [ht]; exact hW, hS.F ht⟩) hS.2.2 d F.2.2.2.2.2.2.2
theorem wq_zret (F : wq_Fr p s m args meth c cc nL (some .boolean) own D Ar) {x : Int} (hx : x = 0 ∨ x = 1) (h : rv = some (.int (wq_I x))) (hS9 : S = S') (d : decode cc pc = .ok (.ireturn, 1)) : wq_Z p l e R s m args below meth c D E b N nL (wq_Ab b N) (MQ below (wq_Qc D E b N rv S') args s cells slots (wq_Ab b N)) cells slots pc L [.int (wq_I x)] S := by
  subst h
  subst hS9
  intro H locs ls hW hS hl
  exact W.zret (v := wq_I x) (ty := .boolean) F.1 F.2.1 F.2.2.2.2.2.2.1 (by rcases hx with h | h <;> rw [h] <;> decide) (fun t ht hW9 => ⟨rfl, by rw [ht]; exact hW, hS.F ht⟩) hS.2.2 d F.2.2.2.2.2.2.2
theorem wq_lret (F : wq_Fr p s m args meth c cc nL (some .long) own D Ar) {x : Int64} (h : rv = some (.long x)) (hS9 : S = S') (d : decode cc pc = .ok (.lreturn, 1)) : wq_Z p l e R s m args below meth c D E b N nL (wq_Ab b N) (MQ below (wq_Qc D E b N rv S') args s cells slots (wq_Ab b N)) cells slots pc L [.long x] S := by
  subst h
  subst hS9
  intro H locs ls hW hS hl
  exact W.lret (v := x) F.1 F.2.1 F.2.2.2.2.2.2.1 (fun t ht hW9 => ⟨rfl, by rw [ht]; exact hW, hS.F ht⟩) hS.2.2 d F.2.2.2.2.2.2.2
theorem wq_aret {rt9 : FieldType} (F : wq_Fr p s m args meth c cc nL (some rt9) own D Ar) (hrt : (∃ n, rt9 = .object n) ∨ ∃ t, rt9 = .array t) {x : Nat} (h : rv = some (.ref x)) (hS9 : S = S') (d : decode cc pc = .ok (.areturn, 1)) : wq_Z p l e R s m args below meth c D E b N nL (wq_Ab b N) (MQ below (wq_Qc D E b N rv S') args s cells slots (wq_Ab b N)) cells slots pc L [.ref x] S := by
  subst h
  subst hS9
  intro H locs ls hW hS hl
  exact W.aret (v := .ref x) F.1 F.2.1 F.2.2.2.2.2.2.1 hrt (Or.inr ⟨x, rfl⟩) (fun t ht hW9 => ⟨rfl, by rw [ht]; exact hW, hS.F ht⟩) hS.2.2 d F.2.2.2.2.2.2.2
theorem wq_vret (F : wq_Fr p s m args meth c cc nL none own D Ar) (h : rv = none) (hS9 : S = S') (d : decode cc pc = .ok (.return_, 1)) : wq_Z p l e R s m args below meth c D E b N nL (wq_Ab b N) (MQ below (wq_Qc D E b N rv S') args s cells slots (wq_Ab b N)) cells slots pc L [] S := by
  subst h
  subst hS9
  intro H locs ls hW hS hl
  exact W.vret F.1 F.2.1 F.2.2.2.2.2.2.1 (fun t ht hW9 => ⟨rfl, by rw [ht]; exact hW, hS.F ht⟩) hS.2.2 d F.2.2.2.2.2.2.2
end WQC
end
