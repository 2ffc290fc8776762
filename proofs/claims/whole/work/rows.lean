section
-- ===== PART A: goes FIRST, ahead of the names: the tables' words, and 'selects' of the private methods out of them =====
/-- a private method of a class that the tables say can be made, by its rows of tables_1 -/
def lw_okq (q : MethodName × Nat) : Prop := (q.1.cls ≠ "java/lang/invoke/MethodHandle" ∧ q.1.cls ≠ "java/lang/invoke/VarHandle") ∧ Cond.instantiable q.1.cls q.2 ∈ tables_1 ∧ Cond.privateMethod q.1 ∈ tables_1 ∧ Cond.instanceMethod q.1 ∈ tables_1
theorem lw_p0 : lw_okq (⟨"java/lang/Throwable", "fillInStackTrace", "(I)Ljava/lang/Throwable;"⟩, 6) := ⟨⟨by decide +kernel, by decide +kernel⟩, List.mem_of_getElem? (i := 421) (by decide +kernel), List.mem_of_getElem? (i := 419) (by decide +kernel), List.mem_of_getElem? (i := 420) (by decide +kernel)⟩
theorem lw_p1 : lw_okq (⟨"WharfQuery", "findTable", "(I)LWharfQuery$Table;"⟩, 8) := ⟨⟨by decide +kernel, by decide +kernel⟩, List.mem_of_getElem? (i := 19) (by decide +kernel), List.mem_of_getElem? (i := 475) (by decide +kernel), List.mem_of_getElem? (i := 476) (by decide +kernel)⟩
theorem lw_p2 : lw_okq (⟨"WharfQuery", "findColumn", "(II)LWharfQuery$Column;"⟩, 8) := ⟨⟨by decide +kernel, by decide +kernel⟩, List.mem_of_getElem? (i := 19) (by decide +kernel), List.mem_of_getElem? (i := 523) (by decide +kernel), List.mem_of_getElem? (i := 524) (by decide +kernel)⟩
theorem lw_p3 : lw_okq (⟨"WharfQuery$Table", "tellColumn", "(III)V"⟩, 9) := ⟨⟨by decide +kernel, by decide +kernel⟩, List.mem_of_getElem? (i := 61) (by decide +kernel), List.mem_of_getElem? (i := 564) (by decide +kernel), List.mem_of_getElem? (i := 565) (by decide +kernel)⟩
theorem lw_p4 : lw_okq (⟨"WharfQuery$Table", "isNewInSample", "(II)Z"⟩, 9) := ⟨⟨by decide +kernel, by decide +kernel⟩, List.mem_of_getElem? (i := 61) (by decide +kernel), List.mem_of_getElem? (i := 568) (by decide +kernel), List.mem_of_getElem? (i := 569) (by decide +kernel)⟩
theorem lw_p5 : lw_okq (⟨"WharfQuery", "findReport", "(I)LWharfQuery$Report;"⟩, 8) := ⟨⟨by decide +kernel, by decide +kernel⟩, List.mem_of_getElem? (i := 19) (by decide +kernel), List.mem_of_getElem? (i := 633) (by decide +kernel), List.mem_of_getElem? (i := 634) (by decide +kernel)⟩
theorem lw_p6 : lw_okq (⟨"WharfQuery", "checkSourceColumn", "(LWharfQuery$Report;II)V"⟩, 8) := ⟨⟨by decide +kernel, by decide +kernel⟩, List.mem_of_getElem? (i := 19) (by decide +kernel), List.mem_of_getElem? (i := 646) (by decide +kernel), List.mem_of_getElem? (i := 647) (by decide +kernel)⟩
theorem lw_p7 : lw_okq (⟨"WharfQuery$Planner", "takeCheapestWay", "(LWharfQuery$Report;IJ)J"⟩, 3) := ⟨⟨by decide +kernel, by decide +kernel⟩, List.mem_of_getElem? (i := 245) (by decide +kernel), List.mem_of_getElem? (i := 734) (by decide +kernel), List.mem_of_getElem? (i := 735) (by decide +kernel)⟩
theorem lw_p8 : lw_okq (⟨"WharfQuery$Planner", "choicesBehind", "(LWharfQuery$Report;IJ)J"⟩, 3) := ⟨⟨by decide +kernel, by decide +kernel⟩, List.mem_of_getElem? (i := 245) (by decide +kernel), List.mem_of_getElem? (i := 753) (by decide +kernel), List.mem_of_getElem? (i := 754) (by decide +kernel)⟩
theorem lw_p9 : lw_okq (⟨"WharfQuery$Planner", "narrow", "(LWharfQuery$Report;LWharfQuery$Condition;J)J"⟩, 3) := ⟨⟨by decide +kernel, by decide +kernel⟩, List.mem_of_getElem? (i := 245) (by decide +kernel), List.mem_of_getElem? (i := 758) (by decide +kernel), List.mem_of_getElem? (i := 759) (by decide +kernel)⟩
theorem lw_p10 : lw_okq (⟨"WharfQuery", "runChosenPlan", "(LWharfQuery$Report;)V"⟩, 8) := ⟨⟨by decide +kernel, by decide +kernel⟩, List.mem_of_getElem? (i := 19) (by decide +kernel), List.mem_of_getElem? (i := 792) (by decide +kernel), List.mem_of_getElem? (i := 793) (by decide +kernel)⟩
theorem lw_p11 : lw_okq (⟨"WharfQuery$Run", "countChoice", "(LWharfQuery$Report;)V"⟩, 5) := ⟨⟨by decide +kernel, by decide +kernel⟩, List.mem_of_getElem? (i := 263) (by decide +kernel), List.mem_of_getElem? (i := 803) (by decide +kernel), List.mem_of_getElem? (i := 804) (by decide +kernel)⟩
theorem lw_p12 : lw_okq (⟨"WharfQuery$Run", "chosenValue", "(LWharfQuery$Report;II)I"⟩, 5) := ⟨⟨by decide +kernel, by decide +kernel⟩, List.mem_of_getElem? (i := 263) (by decide +kernel), List.mem_of_getElem? (i := 807) (by decide +kernel), List.mem_of_getElem? (i := 808) (by decide +kernel)⟩
theorem lw_p13 : lw_okq (⟨"WharfQuery$Run", "valueLookedFor", "(LWharfQuery$Report;LWharfQuery$Plan;I)I"⟩, 5) := ⟨⟨by decide +kernel, by decide +kernel⟩, List.mem_of_getElem? (i := 263) (by decide +kernel), List.mem_of_getElem? (i := 811) (by decide +kernel), List.mem_of_getElem? (i := 812) (by decide +kernel)⟩
theorem lw_p14 : lw_okq (⟨"WharfQuery$Run", "conditionsHold", "(LWharfQuery$Report;LWharfQuery$Plan;I)Z"⟩, 5) := ⟨⟨by decide +kernel, by decide +kernel⟩, List.mem_of_getElem? (i := 263) (by decide +kernel), List.mem_of_getElem? (i := 816) (by decide +kernel), List.mem_of_getElem? (i := 817) (by decide +kernel)⟩
theorem lw_p15 : lw_okq (⟨"WharfQuery$Run", "holds", "(LWharfQuery$Report;LWharfQuery$Condition;)Z"⟩, 5) := ⟨⟨by decide +kernel, by decide +kernel⟩, List.mem_of_getElem? (i := 263) (by decide +kernel), List.mem_of_getElem? (i := 821) (by decide +kernel), List.mem_of_getElem? (i := 822) (by decide +kernel)⟩
def lw_privs_1 : List (MethodName × Nat) := [(⟨"java/lang/Throwable", "fillInStackTrace", "(I)Ljava/lang/Throwable;"⟩, 6), (⟨"WharfQuery", "findTable", "(I)LWharfQuery$Table;"⟩, 8), (⟨"WharfQuery", "findColumn", "(II)LWharfQuery$Column;"⟩, 8), (⟨"WharfQuery$Table", "tellColumn", "(III)V"⟩, 9), (⟨"WharfQuery$Table", "isNewInSample", "(II)Z"⟩, 9), (⟨"WharfQuery", "findReport", "(I)LWharfQuery$Report;"⟩, 8), (⟨"WharfQuery", "checkSourceColumn", "(LWharfQuery$Report;II)V"⟩, 8), (⟨"WharfQuery$Planner", "takeCheapestWay", "(LWharfQuery$Report;IJ)J"⟩, 3), (⟨"WharfQuery$Planner", "choicesBehind", "(LWharfQuery$Report;IJ)J"⟩, 3), (⟨"WharfQuery$Planner", "narrow", "(LWharfQuery$Report;LWharfQuery$Condition;J)J"⟩, 3), (⟨"WharfQuery", "runChosenPlan", "(LWharfQuery$Report;)V"⟩, 8), (⟨"WharfQuery$Run", "countChoice", "(LWharfQuery$Report;)V"⟩, 5), (⟨"WharfQuery$Run", "chosenValue", "(LWharfQuery$Report;II)I"⟩, 5), (⟨"WharfQuery$Run", "valueLookedFor", "(LWharfQuery$Report;LWharfQuery$Plan;I)I"⟩, 5), (⟨"WharfQuery$Run", "conditionsHold", "(LWharfQuery$Report;LWharfQuery$Plan;I)Z"⟩, 5), (⟨"WharfQuery$Run", "holds", "(LWharfQuery$Report;LWharfQuery$Condition;)Z"⟩, 5)]
theorem lw_r1 : ∀ q ∈ lw_privs_1, lw_okq q := List.forall_mem_cons.mpr ⟨lw_p0, List.forall_mem_cons.mpr ⟨lw_p1, List.forall_mem_cons.mpr ⟨lw_p2, List.forall_mem_cons.mpr ⟨lw_p3, List.forall_mem_cons.mpr ⟨lw_p4, List.forall_mem_cons.mpr ⟨lw_p5, List.forall_mem_cons.mpr ⟨lw_p6, List.forall_mem_cons.mpr ⟨lw_p7, List.forall_mem_cons.mpr ⟨lw_p8, List.forall_mem_cons.mpr ⟨lw_p9, List.forall_mem_cons.mpr ⟨lw_p10, List.forall_mem_cons.mpr ⟨lw_p11, List.forall_mem_cons.mpr ⟨lw_p12, List.forall_mem_cons.mpr ⟨lw_p13, List.forall_mem_cons.mpr ⟨lw_p14, List.forall_mem_cons.mpr ⟨lw_p15, fun _ h => absurd h List.not_mem_nil⟩⟩⟩⟩⟩⟩⟩⟩⟩⟩⟩⟩⟩⟩⟩⟩
theorem lw_p16 : lw_okq (⟨"WharfQuery", "runPlainPlan", "(LWharfQuery$Report;)V"⟩, 8) := ⟨⟨by decide +kernel, by decide +kernel⟩, List.mem_of_getElem? (i := 19) (by decide +kernel), List.mem_of_getElem? (i := 846) (by decide +kernel), List.mem_of_getElem? (i := 847) (by decide +kernel)⟩
theorem lw_p17 : lw_okq (⟨"WharfQuery$Crew", "lineUpDueReports", "()I"⟩, 10) := ⟨⟨by decide +kernel, by decide +kernel⟩, List.mem_of_getElem? (i := 291) (by decide +kernel), List.mem_of_getElem? (i := 887) (by decide +kernel), List.mem_of_getElem? (i := 888) (by decide +kernel)⟩
theorem lw_p18 : lw_okq (⟨"WharfQuery$Crew", "keep", "(LWharfQuery$Report;I)V"⟩, 10) := ⟨⟨by decide +kernel, by decide +kernel⟩, List.mem_of_getElem? (i := 291) (by decide +kernel), List.mem_of_getElem? (i := 892) (by decide +kernel), List.mem_of_getElem? (i := 893) (by decide +kernel)⟩
theorem lw_p19 : lw_okq (⟨"WharfQuery$Crew", "markTables", "(LWharfQuery$Report;)V"⟩, 10) := ⟨⟨by decide +kernel, by decide +kernel⟩, List.mem_of_getElem? (i := 291) (by decide +kernel), List.mem_of_getElem? (i := 896) (by decide +kernel), List.mem_of_getElem? (i := 897) (by decide +kernel)⟩
theorem lw_p20 : lw_okq (⟨"WharfQueryModel", "asked", "(ZZ)Z"⟩, 43) := ⟨⟨by decide +kernel, by decide +kernel⟩, List.mem_of_getElem? (i := 921) (by decide +kernel), List.mem_of_getElem? (i := 1068) (by decide +kernel), List.mem_of_getElem? (i := 1069) (by decide +kernel)⟩
theorem lw_p21 : lw_okq (⟨"WharfQueryModel", "isTable", "(I)Z"⟩, 43) := ⟨⟨by decide +kernel, by decide +kernel⟩, List.mem_of_getElem? (i := 921) (by decide +kernel), List.mem_of_getElem? (i := 1076) (by decide +kernel), List.mem_of_getElem? (i := 1077) (by decide +kernel)⟩
theorem lw_p22 : lw_okq (⟨"WharfQueryModel", "asked", "(ZZZ)Z"⟩, 43) := ⟨⟨by decide +kernel, by decide +kernel⟩, List.mem_of_getElem? (i := 921) (by decide +kernel), List.mem_of_getElem? (i := 1080) (by decide +kernel), List.mem_of_getElem? (i := 1081) (by decide +kernel)⟩
theorem lw_p23 : lw_okq (⟨"WharfQueryModel", "isRow", "(II)Z"⟩, 43) := ⟨⟨by decide +kernel, by decide +kernel⟩, List.mem_of_getElem? (i := 921) (by decide +kernel), List.mem_of_getElem? (i := 1088) (by decide +kernel), List.mem_of_getElem? (i := 1089) (by decide +kernel)⟩
theorem lw_p24 : lw_okq (⟨"WharfQueryModel", "asked", "(Z)Z"⟩, 43) := ⟨⟨by decide +kernel, by decide +kernel⟩, List.mem_of_getElem? (i := 921) (by decide +kernel), List.mem_of_getElem? (i := 1092) (by decide +kernel), List.mem_of_getElem? (i := 1093) (by decide +kernel)⟩
theorem lw_p25 : lw_okq (⟨"WharfQueryModel", "rowsOf", "(I)I"⟩, 43) := ⟨⟨by decide +kernel, by decide +kernel⟩, List.mem_of_getElem? (i := 921) (by decide +kernel), List.mem_of_getElem? (i := 1096) (by decide +kernel), List.mem_of_getElem? (i := 1097) (by decide +kernel)⟩
theorem lw_p26 : lw_okq (⟨"WharfQueryModel", "isColumn", "(II)Z"⟩, 43) := ⟨⟨by decide +kernel, by decide +kernel⟩, List.mem_of_getElem? (i := 921) (by decide +kernel), List.mem_of_getElem? (i := 1104) (by decide +kernel), List.mem_of_getElem? (i := 1105) (by decide +kernel)⟩
theorem lw_p27 : lw_okq (⟨"WharfQueryModel", "valueAt", "(III)I"⟩, 43) := ⟨⟨by decide +kernel, by decide +kernel⟩, List.mem_of_getElem? (i := 921) (by decide +kernel), List.mem_of_getElem? (i := 1116) (by decide +kernel), List.mem_of_getElem? (i := 1117) (by decide +kernel)⟩
theorem lw_p28 : lw_okq (⟨"WharfQueryModel", "renews", "(II)V"⟩, 43) := ⟨⟨by decide +kernel, by decide +kernel⟩, List.mem_of_getElem? (i := 921) (by decide +kernel), List.mem_of_getElem? (i := 1124) (by decide +kernel), List.mem_of_getElem? (i := 1125) (by decide +kernel)⟩
theorem lw_p29 : lw_okq (⟨"WharfQueryModel", "isSampled", "(III)Z"⟩, 43) := ⟨⟨by decide +kernel, by decide +kernel⟩, List.mem_of_getElem? (i := 921) (by decide +kernel), List.mem_of_getElem? (i := 1128) (by decide +kernel), List.mem_of_getElem? (i := 1129) (by decide +kernel)⟩
theorem lw_p30 : lw_okq (⟨"WharfQueryModel", "sample", "(II)I"⟩, 43) := ⟨⟨by decide +kernel, by decide +kernel⟩, List.mem_of_getElem? (i := 921) (by decide +kernel), List.mem_of_getElem? (i := 1132) (by decide +kernel), List.mem_of_getElem? (i := 1133) (by decide +kernel)⟩
theorem lw_p31 : lw_okq (⟨"WharfQueryModel", "isReport", "(I)Z"⟩, 43) := ⟨⟨by decide +kernel, by decide +kernel⟩, List.mem_of_getElem? (i := 921) (by decide +kernel), List.mem_of_getElem? (i := 1168) (by decide +kernel), List.mem_of_getElem? (i := 1169) (by decide +kernel)⟩
def lw_privs_2 : List (MethodName × Nat) := [(⟨"WharfQuery", "runPlainPlan", "(LWharfQuery$Report;)V"⟩, 8), (⟨"WharfQuery$Crew", "lineUpDueReports", "()I"⟩, 10), (⟨"WharfQuery$Crew", "keep", "(LWharfQuery$Report;I)V"⟩, 10), (⟨"WharfQuery$Crew", "markTables", "(LWharfQuery$Report;)V"⟩, 10), (⟨"WharfQueryModel", "asked", "(ZZ)Z"⟩, 43), (⟨"WharfQueryModel", "isTable", "(I)Z"⟩, 43), (⟨"WharfQueryModel", "asked", "(ZZZ)Z"⟩, 43), (⟨"WharfQueryModel", "isRow", "(II)Z"⟩, 43), (⟨"WharfQueryModel", "asked", "(Z)Z"⟩, 43), (⟨"WharfQueryModel", "rowsOf", "(I)I"⟩, 43), (⟨"WharfQueryModel", "isColumn", "(II)Z"⟩, 43), (⟨"WharfQueryModel", "valueAt", "(III)I"⟩, 43), (⟨"WharfQueryModel", "renews", "(II)V"⟩, 43), (⟨"WharfQueryModel", "isSampled", "(III)Z"⟩, 43), (⟨"WharfQueryModel", "sample", "(II)I"⟩, 43), (⟨"WharfQueryModel", "isReport", "(I)Z"⟩, 43)]
theorem lw_r2 : ∀ q ∈ lw_privs_2, lw_okq q := List.forall_mem_cons.mpr ⟨lw_p16, List.forall_mem_cons.mpr ⟨lw_p17, List.forall_mem_cons.mpr ⟨lw_p18, List.forall_mem_cons.mpr ⟨lw_p19, List.forall_mem_cons.mpr ⟨lw_p20, List.forall_mem_cons.mpr ⟨lw_p21, List.forall_mem_cons.mpr ⟨lw_p22, List.forall_mem_cons.mpr ⟨lw_p23, List.forall_mem_cons.mpr ⟨lw_p24, List.forall_mem_cons.mpr ⟨lw_p25, List.forall_mem_cons.mpr ⟨lw_p26, List.forall_mem_cons.mpr ⟨lw_p27, List.forall_mem_cons.mpr ⟨lw_p28, List.forall_mem_cons.mpr ⟨lw_p29, List.forall_mem_cons.mpr ⟨lw_p30, List.forall_mem_cons.mpr ⟨lw_p31, fun _ h => absurd h List.not_mem_nil⟩⟩⟩⟩⟩⟩⟩⟩⟩⟩⟩⟩⟩⟩⟩⟩
theorem lw_p32 : lw_okq (⟨"WharfQueryModel", "isColumnOf", "(III)Z"⟩, 43) := ⟨⟨by decide +kernel, by decide +kernel⟩, List.mem_of_getElem? (i := 921) (by decide +kernel), List.mem_of_getElem? (i := 1176) (by decide +kernel), List.mem_of_getElem? (i := 1177) (by decide +kernel)⟩
theorem lw_p33 : lw_okq (⟨"WharfQueryModel", "isSource", "(II)Z"⟩, 43) := ⟨⟨by decide +kernel, by decide +kernel⟩, List.mem_of_getElem? (i := 921) (by decide +kernel), List.mem_of_getElem? (i := 1180) (by decide +kernel), List.mem_of_getElem? (i := 1181) (by decide +kernel)⟩
theorem lw_p34 : lw_okq (⟨"WharfQueryModel", "adds", "(IIII)I"⟩, 43) := ⟨⟨by decide +kernel, by decide +kernel⟩, List.mem_of_getElem? (i := 921) (by decide +kernel), List.mem_of_getElem? (i := 1184) (by decide +kernel), List.mem_of_getElem? (i := 1185) (by decide +kernel)⟩
theorem lw_p35 : lw_okq (⟨"WharfQueryModel", "plans", "(I)V"⟩, 43) := ⟨⟨by decide +kernel, by decide +kernel⟩, List.mem_of_getElem? (i := 921) (by decide +kernel), List.mem_of_getElem? (i := 1212) (by decide +kernel), List.mem_of_getElem? (i := 1213) (by decide +kernel)⟩
theorem lw_p36 : lw_okq (⟨"WharfQueryModel", "triesWays", "(I)V"⟩, 43) := ⟨⟨by decide +kernel, by decide +kernel⟩, List.mem_of_getElem? (i := 921) (by decide +kernel), List.mem_of_getElem? (i := 1217) (by decide +kernel), List.mem_of_getElem? (i := 1218) (by decide +kernel)⟩
theorem lw_p37 : lw_okq (⟨"WharfQueryModel", "cost", "(I)J"⟩, 43) := ⟨⟨by decide +kernel, by decide +kernel⟩, List.mem_of_getElem? (i := 921) (by decide +kernel), List.mem_of_getElem? (i := 1221) (by decide +kernel), List.mem_of_getElem? (i := 1222) (by decide +kernel)⟩
theorem lw_p38 : lw_okq (⟨"WharfQueryModel", "useOf", "(III)I"⟩, 43) := ⟨⟨by decide +kernel, by decide +kernel⟩, List.mem_of_getElem? (i := 921) (by decide +kernel), List.mem_of_getElem? (i := 1226) (by decide +kernel), List.mem_of_getElem? (i := 1227) (by decide +kernel)⟩
theorem lw_p39 : lw_okq (⟨"WharfQueryModel", "stepOfCondition", "(I)I"⟩, 43) := ⟨⟨by decide +kernel, by decide +kernel⟩, List.mem_of_getElem? (i := 921) (by decide +kernel), List.mem_of_getElem? (i := 1230) (by decide +kernel), List.mem_of_getElem? (i := 1231) (by decide +kernel)⟩
theorem lw_p40 : lw_okq (⟨"WharfQueryModel", "stepOf", "(I)I"⟩, 43) := ⟨⟨by decide +kernel, by decide +kernel⟩, List.mem_of_getElem? (i := 921) (by decide +kernel), List.mem_of_getElem? (i := 1234) (by decide +kernel), List.mem_of_getElem? (i := 1235) (by decide +kernel)⟩
theorem lw_p41 : lw_okq (⟨"WharfQueryModel", "columnAt", "(II)I"⟩, 43) := ⟨⟨by decide +kernel, by decide +kernel⟩, List.mem_of_getElem? (i := 921) (by decide +kernel), List.mem_of_getElem? (i := 1238) (by decide +kernel), List.mem_of_getElem? (i := 1239) (by decide +kernel)⟩
theorem lw_p42 : lw_okq (⟨"WharfQueryModel", "changed", "(IIJ)J"⟩, 43) := ⟨⟨by decide +kernel, by decide +kernel⟩, List.mem_of_getElem? (i := 921) (by decide +kernel), List.mem_of_getElem? (i := 1242) (by decide +kernel), List.mem_of_getElem? (i := 1243) (by decide +kernel)⟩
theorem lw_p43 : lw_okq (⟨"WharfQueryModel", "cellAt", "(III)I"⟩, 43) := ⟨⟨by decide +kernel, by decide +kernel⟩, List.mem_of_getElem? (i := 921) (by decide +kernel), List.mem_of_getElem? (i := 1246) (by decide +kernel), List.mem_of_getElem? (i := 1247) (by decide +kernel)⟩
theorem lw_p44 : lw_okq (⟨"WharfQueryModel", "foretells", "(I)I"⟩, 43) := ⟨⟨by decide +kernel, by decide +kernel⟩, List.mem_of_getElem? (i := 921) (by decide +kernel), List.mem_of_getElem? (i := 1258) (by decide +kernel), List.mem_of_getElem? (i := 1259) (by decide +kernel)⟩
theorem lw_p45 : lw_okq (⟨"WharfQueryModel", "isRun", "(I)Z"⟩, 43) := ⟨⟨by decide +kernel, by decide +kernel⟩, List.mem_of_getElem? (i := 921) (by decide +kernel), List.mem_of_getElem? (i := 1267) (by decide +kernel), List.mem_of_getElem? (i := 1268) (by decide +kernel)⟩
theorem lw_p46 : lw_okq (⟨"WharfQueryModel", "runs", "(I)V"⟩, 43) := ⟨⟨by decide +kernel, by decide +kernel⟩, List.mem_of_getElem? (i := 921) (by decide +kernel), List.mem_of_getElem? (i := 1271) (by decide +kernel), List.mem_of_getElem? (i := 1272) (by decide +kernel)⟩
theorem lw_p47 : lw_okq (⟨"WharfQueryModel", "minutesAt", "(II)I"⟩, 43) := ⟨⟨by decide +kernel, by decide +kernel⟩, List.mem_of_getElem? (i := 921) (by decide +kernel), List.mem_of_getElem? (i := 1275) (by decide +kernel), List.mem_of_getElem? (i := 1276) (by decide +kernel)⟩
def lw_privs_3 : List (MethodName × Nat) := [(⟨"WharfQueryModel", "isColumnOf", "(III)Z"⟩, 43), (⟨"WharfQueryModel", "isSource", "(II)Z"⟩, 43), (⟨"WharfQueryModel", "adds", "(IIII)I"⟩, 43), (⟨"WharfQueryModel", "plans", "(I)V"⟩, 43), (⟨"WharfQueryModel", "triesWays", "(I)V"⟩, 43), (⟨"WharfQueryModel", "cost", "(I)J"⟩, 43), (⟨"WharfQueryModel", "useOf", "(III)I"⟩, 43), (⟨"WharfQueryModel", "stepOfCondition", "(I)I"⟩, 43), (⟨"WharfQueryModel", "stepOf", "(I)I"⟩, 43), (⟨"WharfQueryModel", "columnAt", "(II)I"⟩, 43), (⟨"WharfQueryModel", "changed", "(IIJ)J"⟩, 43), (⟨"WharfQueryModel", "cellAt", "(III)I"⟩, 43), (⟨"WharfQueryModel", "foretells", "(I)I"⟩, 43), (⟨"WharfQueryModel", "isRun", "(I)Z"⟩, 43), (⟨"WharfQueryModel", "runs", "(I)V"⟩, 43), (⟨"WharfQueryModel", "minutesAt", "(II)I"⟩, 43)]
theorem lw_r3 : ∀ q ∈ lw_privs_3, lw_okq q := List.forall_mem_cons.mpr ⟨lw_p32, List.forall_mem_cons.mpr ⟨lw_p33, List.forall_mem_cons.mpr ⟨lw_p34, List.forall_mem_cons.mpr ⟨lw_p35, List.forall_mem_cons.mpr ⟨lw_p36, List.forall_mem_cons.mpr ⟨lw_p37, List.forall_mem_cons.mpr ⟨lw_p38, List.forall_mem_cons.mpr ⟨lw_p39, List.forall_mem_cons.mpr ⟨lw_p40, List.forall_mem_cons.mpr ⟨lw_p41, List.forall_mem_cons.mpr ⟨lw_p42, List.forall_mem_cons.mpr ⟨lw_p43, List.forall_mem_cons.mpr ⟨lw_p44, List.forall_mem_cons.mpr ⟨lw_p45, List.forall_mem_cons.mpr ⟨lw_p46, List.forall_mem_cons.mpr ⟨lw_p47, fun _ h => absurd h List.not_mem_nil⟩⟩⟩⟩⟩⟩⟩⟩⟩⟩⟩⟩⟩⟩⟩⟩
theorem lw_p48 : lw_okq (⟨"WharfQueryModel", "pickedAt", "(III)I"⟩, 43) := ⟨⟨by decide +kernel, by decide +kernel⟩, List.mem_of_getElem? (i := 921) (by decide +kernel), List.mem_of_getElem? (i := 1279) (by decide +kernel), List.mem_of_getElem? (i := 1280) (by decide +kernel)⟩
theorem lw_p49 : lw_okq (⟨"WharfQueryModel", "holdsAt", "(II)Z"⟩, 43) := ⟨⟨by decide +kernel, by decide +kernel⟩, List.mem_of_getElem? (i := 921) (by decide +kernel), List.mem_of_getElem? (i := 1283) (by decide +kernel), List.mem_of_getElem? (i := 1284) (by decide +kernel)⟩
theorem lw_p50 : lw_okq (⟨"WharfQueryModel", "holds", "(II)Z"⟩, 43) := ⟨⟨by decide +kernel, by decide +kernel⟩, List.mem_of_getElem? (i := 921) (by decide +kernel), List.mem_of_getElem? (i := 1287) (by decide +kernel), List.mem_of_getElem? (i := 1288) (by decide +kernel)⟩
theorem lw_p51 : lw_okq (⟨"WharfQueryModel", "dusk", "()I"⟩, 43) := ⟨⟨by decide +kernel, by decide +kernel⟩, List.mem_of_getElem? (i := 921) (by decide +kernel), List.mem_of_getElem? (i := 1313) (by decide +kernel), List.mem_of_getElem? (i := 1314) (by decide +kernel)⟩
theorem lw_p52 : lw_okq (⟨"WharfQueryModel", "dueBehind", "(I)I"⟩, 43) := ⟨⟨by decide +kernel, by decide +kernel⟩, List.mem_of_getElem? (i := 921) (by decide +kernel), List.mem_of_getElem? (i := 1317) (by decide +kernel), List.mem_of_getElem? (i := 1318) (by decide +kernel)⟩
theorem lw_p53 : lw_okq (⟨"WharfQueryModel", "marks", "(I)V"⟩, 43) := ⟨⟨by decide +kernel, by decide +kernel⟩, List.mem_of_getElem? (i := 921) (by decide +kernel), List.mem_of_getElem? (i := 1321) (by decide +kernel), List.mem_of_getElem? (i := 1322) (by decide +kernel)⟩
theorem lw_p54 : lw_okq (⟨"WharfQueryModel", "told", "(I)I"⟩, 43) := ⟨⟨by decide +kernel, by decide +kernel⟩, List.mem_of_getElem? (i := 921) (by decide +kernel), List.mem_of_getElem? (i := 1329) (by decide +kernel), List.mem_of_getElem? (i := 1330) (by decide +kernel)⟩
def lw_privs_4 : List (MethodName × Nat) := [(⟨"WharfQueryModel", "pickedAt", "(III)I"⟩, 43), (⟨"WharfQueryModel", "holdsAt", "(II)Z"⟩, 43), (⟨"WharfQueryModel", "holds", "(II)Z"⟩, 43), (⟨"WharfQueryModel", "dusk", "()I"⟩, 43), (⟨"WharfQueryModel", "dueBehind", "(I)I"⟩, 43), (⟨"WharfQueryModel", "marks", "(I)V"⟩, 43), (⟨"WharfQueryModel", "told", "(I)I"⟩, 43)]
theorem lw_r4 : ∀ q ∈ lw_privs_4, lw_okq q := List.forall_mem_cons.mpr ⟨lw_p48, List.forall_mem_cons.mpr ⟨lw_p49, List.forall_mem_cons.mpr ⟨lw_p50, List.forall_mem_cons.mpr ⟨lw_p51, List.forall_mem_cons.mpr ⟨lw_p52, List.forall_mem_cons.mpr ⟨lw_p53, List.forall_mem_cons.mpr ⟨lw_p54, fun _ h => absurd h List.not_mem_nil⟩⟩⟩⟩⟩⟩⟩
def lw_privs : List (MethodName × Nat) := lw_privs_1 ++ (lw_privs_2 ++ (lw_privs_3 ++ (lw_privs_4)))
def lw_tbl : List Cond := k2_sels lw_privs ++ tables_1
theorem lw_privs_ok : ∀ q ∈ lw_privs, lw_okq q := by
  show ∀ q ∈ lw_privs_1 ++ (lw_privs_2 ++ (lw_privs_3 ++ (lw_privs_4))), lw_okq q
  exact List.forall_mem_append.mpr ⟨lw_r1, List.forall_mem_append.mpr ⟨lw_r2, List.forall_mem_append.mpr ⟨lw_r3, lw_r4⟩⟩⟩

/-! ===== BEGIN words of one list among another's, by their places ===== -/
theorem goodIn_r {big : List Cond} (ws : List Cond) (ps : List Nat) (hp : ws = ps.filterMap (fun i => big[i]?)) (h : ws.all goodWord = true) : GoodIn big ws := by
  intro w hw
  have h1 := List.all_eq_true.mp h w hw
  rw [hp] at hw
  obtain ⟨i, -, hi⟩ := List.mem_filterMap.mp hw
  have hm : w ∈ big := by first | exact List.mem_of_getElem? hi | exact List.getElem?_mem hi
  exact ⟨hm, good_of_word h1⟩
theorem goodIn_app {big a b : List Cond} (ha : GoodIn big a) (hb : GoodIn big b) : GoodIn big (a ++ b) := fun w h => (List.mem_append.mp h).elim (ha w) (hb w)
theorem goodIn_ca {big a b : List Cond} {c : Cond} (ha : GoodIn big (c :: a)) (hb : GoodIn big b) : GoodIn big (c :: (a ++ b)) := fun w h => (List.mem_cons.mp h).elim (fun e => ha w (List.mem_cons.mpr (Or.inl e))) (fun h => (List.mem_append.mp h).elim (fun h => ha w (List.mem_cons.mpr (Or.inr h))) (hb w))
theorem goodIn_sub {big ws : List Cond} (hm : ∀ w ∈ ws, w ∈ big) (h : ws.all goodWord = true) : GoodIn big ws := fun w hw => ⟨hm w hw, good_of_word (List.all_eq_true.mp h w hw)⟩
/-! ===== END ===== -/

/-! ===== BEGIN exceptions that leave a method, and their catching by the caller (launches without stack traces) ===== -/
section VXA
/-! The laws vx_back, vx_callV, vx_callS, vx_callSW, vx_throw0, vx_throwS follow proofs of the library, with one case more: JvmDerived/Free/Laws.lean (Back.of_free), Shelf42/LK1.lean (callV, callS), Shelf/KitTraced.lean (throwNew0V, throwNewS). -/
/-- where a method has thrown q: the class by its name, the cell, what was written, the world -/
def vx_T (XC : String → State → State → Prop) (st : State) (q : Addr) (t : State) (mc ms : Nat) (free : Addr → Prop) : Prop :=
  ∃ (E : String) (ce : Cell) (L : List Loc), XC E st t ∧ t.heap[q]? = some ce ∧ ce.vm = .none ∧ st.vm.findClass E = some ce.cls ∧ st.WarmedH t.vm ∧ st.sameButNew ({ t with vm := st.vm } : State) L mc ms ∧ ∀ z ∈ L, free z.base
def vx_Q (Qc : Array Value → State → Outcome → State → Prop) (XC : String → State → State → Prop) (mc ms : Nat) (free : Addr → Prop) : Array Value → State → Outcome → State → Prop := fun a st o t =>
  (Qc a st o t ∧ ∃ L, FrameEnd st o t L mc ms ∧ ∀ q ∈ L, free q.base) ∨ ∃ q, o = .threw q ∧ vx_T XC st q t mc ms free
/-- a callee that returns or throws -/
def vx_Met (l : Launch) (y : MethodName) (ws : List Cond) (rm : Room) (Pc : Array Value → State → Prop) (Qc : Array Value → State → Outcome → State → Prop) (XC : String → State → State → Prop) (mc ms : Nat) (free : Addr → Prop) : Prop :=
  MetFree l y (headSpec ws rm) Pc (fun _ _ _ _ _ => True) (vx_Q Qc XC mc ms free)
def vx_Post (XC : String → State → State → Prop) (mc ms : Nat) (free : Addr → Prop) : Pt → Array Value → Addr → Pt → Prop := fun A a q B =>
  ∃ (g : JFrame) (mk : MethodId) (t : State) (L : List Loc) (E : String) (ce : Cell), B.U.heap = t.heap ∧ B.U.vm = t.vm ∧ XC E (A.U.calling g mk a) t ∧ t.heap[q]? = some ce ∧ ce.vm = .none ∧ A.U.vm.findClass E = some ce.cls ∧ B.locs = A.locs ++ L ∧ (∀ z ∈ L, free z.base) ∧ B.cells = A.cells + mc ∧ B.slots = A.slots + ms
def vx_Back (l : Launch) (R : Room) (p : Program) (e : Env) (below : List Frame) (s : State) (sargs : Array Value) (y : MethodName) (len W9 : Nat)
    (Pre : Pt → Array Value → Prop) (Post : Pt → Array Value → Option Value → Pt → Prop) (PostX : Pt → Array Value → Addr → Pt → Prop) : Prop :=
  ∀ (m : MethodId) (meth : Method) (c : Code) (A : Pt) (g : JFrame) (ig : Instr) (mk : MethodId) (a : Array Value),
    Stand p l e R s m sargs below meth c A.U A.locs A.cells A.slots → g.method = m → g.locals.size = c.maxLocals → decode c.code g.pc = .ok (ig, len) →
    2 * g.monitorRoom + (g.stack.map fun v => v.category).sum ≤ W9 → A.U.methodNamed? y = some mk → Pre A a →
    (∃ (v : Option Value) (B : Pt), Stand p l e R s m sargs below meth c B.U B.locs B.cells B.slots ∧ Post A a v B ∧
      Steps p.tables e below (doInvoke e (A.U.setTop g) [] mk a).1 (B.U.setTop { g with pc := g.pc + len, stack := v.toList ++ g.stack })) ∨
    (∃ (q : Addr) (B : Pt), Stand p l e R s m sargs below meth c B.U B.locs B.cells B.slots ∧ PostX A a q B ∧
      Steps p.tables e below (doInvoke e (A.U.setTop g) [] mk a).1 ((B.U.setTop g).pushFrame (.throwing q)))
section Payer
variable {l : Launch} {R : Room} {p : Program} {e : Env} {below : List Frame} {s : State} {sargs : Array Value} {y : MethodName} {len W9 : Nat}
theorem vx_back {ws : List Cond} {rm : Room} {Pc : Array Value → State → Prop} {Qc : Array Value → State → Outcome → State → Prop} {XC : String → State → State → Prop} {mc ms : Nat} {free : Addr → Prop} {bytes : ByteArray} {maxL : Nat} {ret : Option FieldType}
    (hM : vx_Met l y ws rm Pc Qc XC mc ms free) (hblind : FrameBlind Pc) (hrc : rm.cells = mc) (hrs : rm.slots = ms)
    (hframes : rm.frames + 1 ≤ R.frames) (hlocals : W9 + (maxL + 11) + rm.locals ≤ R.locals)
    (hws : ∀ w ∈ ws, ∀ a' U, s.WarmedH U.vm → w.before a' U = true) (hcode : Cond.code y bytes maxL ret ∈ ws) (hinit : ∀ a' U, s.WarmedH U.vm → (Cond.initialized y.cls).before a' U = true) :
    vx_Back l R p e below s sargs y len W9 (PreOf R mc ms Pc) (PostOf Qc mc ms free) (vx_Post XC mc ms free) := by
  intro m meth c A g ig mk a X hg hsize hdg hW hn hp
  have h1 : (headSpec ws rm).pre.before a A.U = true := atoms_intro fun w hw => hws w hw _ _ X.warmed
  have h2 : (Cond.code y bytes maxL ret).before a A.U = true := hws _ hcode _ _ X.warmed
  have h3 : (Cond.initialized y.cls).before a A.U = true := hinit _ _ X.warmed
  have h4 : A.cells + (headSpec ws rm).room.cells ≤ R.cells := by rw [show (headSpec ws rm).room.cells = mc from hrc]; exact hp.1
  have h5 : A.slots + (headSpec ws rm).room.slots ≤ R.slots := by rw [show (headSpec ws rm).room.slots = ms from hrs]; exact hp.2.1
  have hPc : Pc a (A.U.calling g mk a) := hblind _ _ _ _ hp.2.2
  obtain ⟨U, Ls, c0, s0⟩ := A
  dsimp only [Pt.U, Pt.locs, Pt.cells, Pt.slots] at h1 h2 h3 h4 h5 X hn hPc ⊢
  obtain ⟨methY, cY, hmY, hcY, -, hlY, -, -, -, -⟩ := Cond.code_spec hn h2
  obtain ⟨kY, hkY, -⟩ := className_of_methodNamed hn
  have hinitY : kY.init = .initialized := Cond.initialized_spec (findClass_of_methodNamed hn) hkY h3
  have h : At U g.method c below := by rw [hg]; exact X.here
  have hlocals9 : W9 + (maxL + 11) + (headSpec ws rm).room.locals ≤ R.locals := hlocals
  have happ : (headSpec ws rm).appliesLoose y e.platform (U.calling g mk a) = true :=
    Spec.appliesLoose_calling (g := g) h hdg hn hkY hinitY
      (X.room_calling (g := g) (R' := (headSpec ws rm).room) hsize hmY hcY hframes (by rw [hlY]; omega) h4 h5) h1
  obtain ⟨mid, hmid⟩ := h.above
  have hfr : (U.setTop g).frames = (.java g :: mid) ++ below := by rw [State.frames_setTop' g h.top, hmid]; rfl
  obtain ⟨o, s₂, hsteps, -, hend, hq⟩ := Steps.callFree hM p X.admits X.cas X.clock (acts := []) hfr happ hPc trivial
  have hq' : vx_Q Qc XC mc ms free a (U.calling g mk a) o s₂ := hq
  rw [State.frames_setTop' g h.top] at hend
  obtain ⟨g₀, hg0⟩ := Option.isSome_iff_exists.mp h.top
  obtain ⟨r, hr⟩ := State.topJava?_eq_some.mp hg0
  have hr' : (({ U with heap := s₂.heap, slotsUsed := s₂.slotsUsed } : State).setVm s₂.vm).frames = .java g₀ :: r := hr
  rcases hq' with ⟨hqc, L, hfe, hL⟩ | ⟨q, rfl, E, ce, L, hx, hce, hcv, hcl, hW₂, hsm, hL⟩
  · obtain ⟨⟨v, rfl⟩, hW₂, e2, q2, q3, q4, q5, q6⟩ := id hfe
    have e3 : s₂ = ({ (U.calling g mk a).setFrames s₂.frames with heap := s₂.heap, slotsUsed := s₂.slotsUsed } : State).setVm s₂.vm := by
      have : s₂ = ({ s₂ with vm := (U.calling g mk a).vm } : State).setVm s₂.vm := rfl
      rw [e2] at this
      exact this
    obtain ⟨c₂, i₂, len₂, hc₂, hd₂, hf₂⟩ := hend
    have hW' : U.WarmedH s₂.vm := hW₂
    have hcc : c₂ = c := by
      have h1 : s₂.code? g.method = U.code? g.method := by
        rw [State.code?_eq, State.code?_eq, hW'.alike.method?]
      exact Option.some.inj (hc₂.symm.trans (h1.trans h.code))
    subst hcc
    have hlen : len₂ = len := by rw [hdg] at hd₂; cases hd₂; rfl
    subst hlen
    have hs₂ : s₂ = (({ U with heap := s₂.heap, slotsUsed := s₂.slotsUsed } : State).setVm s₂.vm).setTop { g with pc := g.pc + len₂, stack := v.toList ++ g.stack } := by
      refine e3.trans ?_
      rw [hf₂, State.calling_eq h.top, State.setFrames_setFrames, State.setTop_of_frames _ hr', hr]
      rfl
    have hsame : U.sameButNew ({ U with heap := s₂.heap, slotsUsed := s₂.slotsUsed } : State) L mc ms := by
      refine ⟨?_, q2, q3, q4, q5, q6⟩
      obtain ⟨t, ht, -⟩ := State.frames_cons hr
      show ({ U with heap := s₂.heap, slotsUsed := s₂.slotsUsed } : State) = { U.setFrames U.frames with heap := s₂.heap, slotsUsed := s₂.slotsUsed }
      rw [State.setFrames_self ht]
    subst hg
    refine Or.inl ⟨v, ⟨(({ U with heap := s₂.heap, slotsUsed := s₂.slotsUsed } : State).setVm s₂.vm), Ls ++ L, c0 + mc, s0 + ms⟩,
      ⟨X.admits, X.cas, X.clock, X.frames, X.room, X.hears, X.method, X.code, (X.here.setHeapUsed s₂.heap s₂.slotsUsed).setVm hW'.alike, X.tail, State.WarmedH.trans X.warmed hW', X.limits, X.bytes, X.same.trans (hsame.setVm s.vm)⟩,
      ⟨g, mk, s₂, L, rfl, rfl, hqc, rfl, hL, rfl, rfl⟩, ?_⟩
    show Steps p.tables e below _ ((({ U with heap := s₂.heap, slotsUsed := s₂.slotsUsed } : State).setVm s₂.vm).setTop { g with pc := g.pc + len₂, stack := v.toList ++ g.stack })
    rw [← hs₂]
    exact hsteps
  · obtain ⟨e2, q2, q3, q4, q5, q6⟩ := id hsm
    have e3 : s₂ = ({ (U.calling g mk a).setFrames s₂.frames with heap := s₂.heap, slotsUsed := s₂.slotsUsed } : State).setVm s₂.vm := by
      have : s₂ = ({ s₂ with vm := (U.calling g mk a).vm } : State).setVm s₂.vm := rfl
      rw [e2] at this
      exact this
    have hf₂ : s₂.frames = .throwing q :: .java g :: U.frames.tail := hend
    have hW' : U.WarmedH s₂.vm := hW₂
    have hs₂ : s₂ = ((({ U with heap := s₂.heap, slotsUsed := s₂.slotsUsed } : State).setVm s₂.vm).setTop g).pushFrame (.throwing q) := by
      refine e3.trans ?_
      rw [hf₂, State.calling_eq h.top, State.setFrames_setFrames, State.pushFrame, State.frames_setTop _ hr', State.setTop_of_frames _ hr', State.setFrames_setFrames, hr]
      rfl
    have hsame : U.sameButNew ({ U with heap := s₂.heap, slotsUsed := s₂.slotsUsed } : State) L mc ms := by
      refine ⟨?_, q2, q3, q4, q5, q6⟩
      obtain ⟨t, ht, -⟩ := State.frames_cons hr
      show ({ U with heap := s₂.heap, slotsUsed := s₂.slotsUsed } : State) = { U.setFrames U.frames with heap := s₂.heap, slotsUsed := s₂.slotsUsed }
      rw [State.setFrames_self ht]
    subst hg
    refine Or.inr ⟨q, ⟨(({ U with heap := s₂.heap, slotsUsed := s₂.slotsUsed } : State).setVm s₂.vm), Ls ++ L, c0 + mc, s0 + ms⟩,
      ⟨X.admits, X.cas, X.clock, X.frames, X.room, X.hears, X.method, X.code, (X.here.setHeapUsed s₂.heap s₂.slotsUsed).setVm hW'.alike, X.tail, State.WarmedH.trans X.warmed hW', X.limits, X.bytes, X.same.trans (hsame.setVm s.vm)⟩,
      ⟨g, mk, s₂, L, E, ce, rfl, rfl, hx, hce, hcv, hcl, rfl, hL, rfl, rfl⟩, ?_⟩
    show Steps p.tables e below _ (((({ U with heap := s₂.heap, slotsUsed := s₂.slotsUsed } : State).setVm s₂.vm).setTop g).pushFrame (.throwing q))
    rw [← hs₂]
    exact hsteps
end Payer
section Calls
variable {p : Program} {l : Launch} {e : Env} {R : Room} {s : State} {m : MethodId} {args : Array Value} {below : List Frame} {meth : Method} {c : Code} {T : State} {locs : List Loc} {cells slots : Nat}
theorem vx_callV (X : Stand p l e R s m args below meth c T locs cells slots) (hexec : p.tables.exec = Jvm.exec) {own C : String} {index : Nat} {y : MethodName} {bytes : ByteArray} {maxL : Nat} {ret : Option FieldType}
    (hown : s.vm.findClass own = some m.cls) (hlink : (Cond.methodLink own index y).before args s = true) (hinst : (Cond.instanceMethod y).before args s = true) (hsel : (Cond.selects C y y).before args s = true)
    (hcode : (Cond.code y bytes maxL ret).before args s = true) (hy : y.cls ≠ "java/lang/invoke/MethodHandle" ∧ y.cls ≠ "java/lang/invoke/VarHandle")
    {W9 : Nat} {Pre : Pt → Array Value → Prop} {Post : Pt → Array Value → Option Value → Pt → Prop} {PostX : Pt → Array Value → Addr → Pt → Prop} (hK : vx_Back l R p e below s args y 3 W9 Pre Post PostX)
    {b : Addr} {cellB : Cell} (hcell : T.heap[b]? = some cellB) (hobj : cellB.vm.isStatics = false) (hcls : s.vm.findClass C = some cellB.cls)
    {g : JFrame} (hg : g.method = m) (hsize : g.locals.size = c.maxLocals) {argsL rest : List Value} (hlen : ∀ sig, parseMethodDescriptor y.desc = some sig → argsL.length = sig.parameters.length)
    (hstack : g.stack = argsL.reverse ++ .ref b :: rest) (hW : 2 * g.monitorRoom + (rest.map fun v => v.category).sum ≤ W9) (hdg : decode c.code g.pc = .ok (.invokevirtual index, 3))
    (hpre : ∀ vm₁, s.WarmedH vm₁ → Pre ⟨T.setVm vm₁, locs, cells, slots⟩ (Value.ref b :: argsL).toArray) :
    (∃ (v : Option Value) (vm₁ : Vm) (B : Pt), s.WarmedH vm₁ ∧ Stand p l e R s m args below meth c B.U B.locs B.cells B.slots ∧ Post ⟨T.setVm vm₁, locs, cells, slots⟩ (Value.ref b :: argsL).toArray v B ∧
      ∀ target, Steps p.tables e below (B.U.setTop { g with pc := g.pc + 3, stack := v.toList ++ rest }) target → Steps p.tables e below (T.setTop g) target) ∨
    (∃ (q : Addr) (vm₁ : Vm) (B : Pt), s.WarmedH vm₁ ∧ Stand p l e R s m args below meth c B.U B.locs B.cells B.slots ∧ PostX ⟨T.setVm vm₁, locs, cells, slots⟩ (Value.ref b :: argsL).toArray q B ∧
      Steps p.tables e below (T.setTop g) ((B.U.setTop { g with stack := rest }).pushFrame (.throwing q))) := by
  obtain ⟨mk, methM, hnamed, hmethM, hstM, habM⟩ := Cond.instanceMethod_spec hinst
  obtain ⟨methM', cM, hmethM', -, -, -, -, -, -, hsigM⟩ := Cond.code_spec hnamed hcode
  cases hmethM.symm.trans hmethM'
  obtain ⟨c2, r2, m2, q1, q2, q3, q4, kP, hkP, hkPi⟩ := Cond.selects_spec hsel
  cases hcls.symm.trans q1
  cases (State.methodFound?_of_named hnamed hy).symm.trans q2
  cases hnamed.symm.trans q3
  have hselP : selectMethod e.platform s.vm cellB.cls mk = .method mk := by rw [Launch.admits_selectMethod X.admits]; exact q4
  obtain ⟨vm₁, X₁, hstep₁⟩ := X.invokevirtual hexec hown hlink hnamed hmethM hstM hkP hkPi hy (a := b) (cell := cellB) hcell
    (fun z h => by rw [h] at hobj; cases hobj) hselP hmethM habM hkP hkPi (g := g) hg (argsL := argsL) (rest := rest) (hlen _ hsigM) hstack hdg
  rcases hK m meth c ⟨T.setVm vm₁, locs, cells, slots⟩ { g with stack := rest } (.invokevirtual index) mk (Value.ref b :: argsL).toArray X₁ hg hsize hdg hW (X₁.named hnamed) (hpre vm₁ X₁.warmed) with ⟨v, B, X', hpost, hsteps⟩ | ⟨q, B, X', hpost, hsteps⟩
  · exact Or.inl ⟨v, vm₁, B, X₁.warmed, X', hpost, fun target h => hstep₁ _ fun acts => by rw [doInvoke_state]; exact hsteps.trans h⟩
  · exact Or.inr ⟨q, vm₁, B, X₁.warmed, X', hpost, hstep₁ _ fun acts => by rw [doInvoke_state]; exact hsteps⟩
theorem vx_callS (X : Stand p l e R s m args below meth c T locs cells slots) (hexec : p.tables.exec = Jvm.exec) {own : String} {index : Nat} {y : MethodName} {bytes : ByteArray} {maxL : Nat} {ret : Option FieldType}
    (hown : s.vm.findClass own = some m.cls) (hlink : (Cond.methodLink own index y).before args s = true) (hstat : (Cond.static y).before args s = true) (hinit : (Cond.initialized y.cls).before args s = true)
    (hcode : (Cond.code y bytes maxL ret).before args s = true) (hy : y.cls ≠ "java/lang/invoke/MethodHandle" ∧ y.cls ≠ "java/lang/invoke/VarHandle")
    {W9 : Nat} {Pre : Pt → Array Value → Prop} {Post : Pt → Array Value → Option Value → Pt → Prop} {PostX : Pt → Array Value → Addr → Pt → Prop} (hK : vx_Back l R p e below s args y 3 W9 Pre Post PostX)
    {g : JFrame} (hg : g.method = m) (hsize : g.locals.size = c.maxLocals) {argsL rest : List Value} (hlen : ∀ sig, parseMethodDescriptor y.desc = some sig → argsL.length = sig.parameters.length)
    (hstack : g.stack = argsL.reverse ++ rest) (hW : 2 * g.monitorRoom + (rest.map fun v => v.category).sum ≤ W9) (hdg : decode c.code g.pc = .ok (.invokestatic index, 3))
    (hpre : ∀ vm₁, s.WarmedH vm₁ → Pre ⟨T.setVm vm₁, locs, cells, slots⟩ argsL.toArray) :
    (∃ (v : Option Value) (vm₁ : Vm) (B : Pt), s.WarmedH vm₁ ∧ Stand p l e R s m args below meth c B.U B.locs B.cells B.slots ∧ Post ⟨T.setVm vm₁, locs, cells, slots⟩ argsL.toArray v B ∧
      ∀ target, Steps p.tables e below (B.U.setTop { g with pc := g.pc + 3, stack := v.toList ++ rest }) target → Steps p.tables e below (T.setTop g) target) ∨
    (∃ (q : Addr) (vm₁ : Vm) (B : Pt), s.WarmedH vm₁ ∧ Stand p l e R s m args below meth c B.U B.locs B.cells B.slots ∧ PostX ⟨T.setVm vm₁, locs, cells, slots⟩ argsL.toArray q B ∧
      Steps p.tables e below (T.setTop g) ((B.U.setTop { g with stack := rest }).pushFrame (.throwing q))) := by
  obtain ⟨mk, hnamed⟩ := Cond.code_named hcode
  obtain ⟨methM, cM, hmethM, -, -, -, -, -, -, hsigM⟩ := Cond.code_spec hnamed hcode
  have hstatic : methM.isStatic = true := Cond.static_spec hnamed hmethM hstat
  obtain ⟨kP, hkP, -⟩ := className_of_methodNamed hnamed
  have hinitP : kP.init = .initialized := Cond.initialized_spec (findClass_of_methodNamed hnamed) hkP hinit
  obtain ⟨vm₁, X₁, hstep₁⟩ := X.invokestatic hexec hown hlink hnamed hmethM hstatic hkP hinitP hy (g := g) hg (argsL := argsL) (rest := rest) (hlen _ hsigM) hstack hdg
  rcases hK m meth c ⟨T.setVm vm₁, locs, cells, slots⟩ { g with stack := rest } (.invokestatic index) mk argsL.toArray X₁ hg hsize hdg hW (X₁.named hnamed) (hpre vm₁ X₁.warmed) with ⟨v, B, X', hpost, hsteps⟩ | ⟨q, B, X', hpost, hsteps⟩
  · exact Or.inl ⟨v, vm₁, B, X₁.warmed, X', hpost, fun target h => hstep₁ _ fun acts => by rw [doInvoke_state]; exact hsteps.trans h⟩
  · exact Or.inr ⟨q, vm₁, B, X₁.warmed, X', hpost, hstep₁ _ fun acts => by rw [doInvoke_state]; exact hsteps⟩
end Calls
theorem vx_cls {s : State} {T : State} {vm₁ : Vm} {E : String} {k : ClassId} (hW : s.WarmedH vm₁) (h : (T.setVm vm₁).vm.findClass E = some k) : s.vm.findClass E = some k := by
  have h1 : vm₁.findClass E = some k := h
  rw [hW.alike.findClass] at h1
  exact h1
/-- the method's frame g, with q thrown over it -/
def vx_W (p : Program) (l : Launch) (e : Env) (R : Room) (s : State) (m : MethodId) (args : Array Value) (below : List Frame) (meth : Method) (c : Code) (H : Heap) (locs : List Loc) (cells slots : Nat) (Q : State → Prop) (g : JFrame) (q : Addr) : Prop :=
  ∀ T : State, T.heap = H → Stand p l e R s m args below meth c T locs cells slots → ∃ t, Steps p.tables e below ((T.setTop g).pushFrame (.throwing q)) t ∧ Q t
def vx_Run (p : Program) (l : Launch) (e : Env) (R : Room) (s : State) (m : MethodId) (args : Array Value) (below : List Frame) (meth : Method) (c : Code) (H : Heap) (locs : List Loc) (cells slots mc ms : Nat) (g : JFrame) (rest : List Value) (Qa : State → Outcome → State → Prop) (XC : String → State → State → Prop) (free : Addr → Prop) : Prop :=
  ∀ T : State, T.heap = H → Stand p l e R s m args below meth c T locs cells slots →
    (∃ (v : Option Value) (st₀ t T' : State) (L : List Loc), st₀.heap = H ∧ Stand p l e R s m args below meth c T' (locs ++ L) (cells + mc) (slots + ms) ∧ (∀ q ∈ L, free q.base) ∧ T'.heap = t.heap ∧ T'.vm = t.vm ∧ Qa st₀ (.returned v) t ∧
      Goes p e below T g T' { g with pc := g.pc + 3, stack := v.toList ++ rest }) ∨
    (∃ (q : Addr) (st₀ t T' : State) (L : List Loc) (E : String) (ce : Cell), st₀.heap = H ∧ Stand p l e R s m args below meth c T' (locs ++ L) (cells + mc) (slots + ms) ∧ (∀ z ∈ L, free z.base) ∧ T'.heap = t.heap ∧ T'.vm = t.vm ∧ XC E st₀ t ∧ t.heap[q]? = some ce ∧ ce.vm = .none ∧ s.vm.findClass E = some ce.cls ∧
      Steps p.tables e below (T.setTop g) ((T'.setTop { g with stack := rest }).pushFrame (.throwing q)))
def vx_X {S : Type} (px : S → Prop) (B : String → S → State → Prop) (A : Nat → Prop) : String → State → State → Prop := fun E st t => ∃ u : S, px u ∧ B E u t ∧ va_F A st t
section Runs
variable {p : Program} {l : Launch} {e : Env} {R : Room} {s : State} {m : MethodId} {args : Array Value} {below : List Frame} {meth : Method} {c : Code} {H : Heap} {locs : List Loc} {cells slots : Nat}
variable {y : MethodName} {bytes cc : ByteArray} {maxL nL mc ms n index : Nat} {ret : Option FieldType} {ws : List Cond} {rm : Room} {Pc : Array Value → State → Prop} {Qc : Array Value → State → Outcome → State → Prop} {XC : String → State → State → Prop} {free : Addr → Prop} {Ts : List Cond} {own C : String} {b : Addr} {As rest : List Value} {g : JFrame}
theorem vx_callBack (cb : CallB R s args own index y bytes maxL ret ws rm mc ms n) (hM : vx_Met l y ws rm Pc Qc XC mc ms free) (hbl : FrameBlind Pc) : vx_Back l R p e below s args y 3 8 (PreOf R mc ms Pc) (PostOf Qc mc ms free) (vx_Post XC mc ms free) := by
  obtain ⟨hrc, hrs, hfr, hlo, hws, hcw, -, hini, -⟩ := cb
  exact vx_back (bytes := bytes) (maxL := maxL) (ret := ret) hM hbl hrc hrs hfr hlo hws hcw (fun a' U hW => word_at hW (Or.inl (by first | rfl | simp [Cond.onTables, Cond.keeps, Cond.steady])) hini)
theorem vx_runV (S : CallFix p m c cc nL s args Ts own) (hM : vx_Met l y ws rm Pc Qc XC mc ms free) (cw : CallW R s args own C index y bytes maxL ret ws rm mc ms n) (hp : PreV s H C b Pc As)
    (hg : g.method = m) (hn : As.length = n) (hsize : g.locals.size = nL) (hstack : g.stack = As.reverse ++ .ref b :: rest) (hW : 2 * g.monitorRoom + (rest.map fun v => v.category).sum ≤ 8) (hdg : decode cc g.pc = .ok (.invokevirtual index, 3)) (hf : cells + mc ≤ R.cells ∧ slots + ms ≤ R.slots) :
    vx_Run p l e R s m args below meth c H locs cells slots mc ms g rest (Qc (Value.ref b :: As).toArray) XC free := by
  have hK : vx_Back l R p e below s args y 3 8 (PreOf R mc ms Pc) (PostOf Qc mc ms free) (vx_Post XC mc ms free) := vx_callBack cw.1 hM hp.1
  obtain ⟨⟨-, -, -, -, -, -, hcode, -, hy, hlen, hl⟩, hin, hse⟩ := cw
  obtain ⟨hx, hb, hml, ho, -⟩ := S
  obtain ⟨-, ⟨cellB, hcB, hoB, hclB⟩, hPc⟩ := hp
  intro T hT X
  rcases vx_callV X hx (C := C) (bytes := bytes) (maxL := maxL) (ret := ret) ho hl hin hse hcode hy hK (by rw [hT]; exact hcB) hoB hclB hg (hsize.trans hml.symm) (argsL := As) (rest := rest) (fun sig h => hn.trans (hlen sig h)) hstack hW (by rw [hb]; exact hdg)
    (fun vm₁ hW₁ => ⟨hf.1, hf.2, hPc (T.setVm vm₁) hT hW₁⟩) with ⟨v, vm₁, ⟨U', l2, c2, s2⟩, hW₁, X', ⟨g', mk, t, L, e1, e2, hq, h1, hL, h2, h3⟩, st⟩ | ⟨q, vm₁, ⟨U', l2, c2, s2⟩, hW₁, X', ⟨g', mk, t, L, E, ce, e1, e2, hq, hce, hcv, hcl, h1, hL, h2, h3⟩, st⟩
  · dsimp only [Pt.U, Pt.locs, Pt.cells, Pt.slots] at X' e1 e2 h1 h2 h3 st
    subst h1; subst h2; subst h3
    exact Or.inl ⟨v, (T.setVm vm₁).calling g' mk (Value.ref b :: As).toArray, t, U', L, hT, X', hL, e1, e2, hq, st⟩
  · dsimp only [Pt.U, Pt.locs, Pt.cells, Pt.slots] at X' e1 e2 h1 h2 h3 st hcl
    subst h1; subst h2; subst h3
    exact Or.inr ⟨q, (T.setVm vm₁).calling g' mk (Value.ref b :: As).toArray, t, U', L, E, ce, hT, X', hL, e1, e2, hq, hce, hcv, vx_cls hW₁ hcl, st⟩
theorem vx_runS (S : CallFix p m c cc nL s args Ts own) (hM : vx_Met l y ws rm Pc Qc XC mc ms free) (cw : CallB R s args own index y bytes maxL ret ws rm mc ms n ∧ (Cond.static y).before args s = true) (hp : PreS s H Pc As)
    (hg : g.method = m) (hn : As.length = n) (hsize : g.locals.size = nL) (hstack : g.stack = As.reverse ++ rest) (hW : 2 * g.monitorRoom + (rest.map fun v => v.category).sum ≤ 8) (hdg : decode cc g.pc = .ok (.invokestatic index, 3)) (hf : cells + mc ≤ R.cells ∧ slots + ms ≤ R.slots) :
    vx_Run p l e R s m args below meth c H locs cells slots mc ms g rest (Qc As.toArray) XC free := by
  have hK : vx_Back l R p e below s args y 3 8 (PreOf R mc ms Pc) (PostOf Qc mc ms free) (vx_Post XC mc ms free) := vx_callBack cw.1 hM hp.1
  obtain ⟨⟨-, -, -, -, -, -, hcode, hini, hy, hlen, hl⟩, hstt⟩ := cw
  obtain ⟨hx, hb, hml, ho, -⟩ := S
  intro T hT X
  rcases vx_callS X hx (bytes := bytes) (maxL := maxL) (ret := ret) ho hl hstt hini hcode hy hK hg (hsize.trans hml.symm) (argsL := As) (rest := rest) (fun sig h => hn.trans (hlen sig h)) hstack hW (by rw [hb]; exact hdg)
    (fun vm₁ hW₁ => ⟨hf.1, hf.2, hp.2 (T.setVm vm₁) hT hW₁⟩) with ⟨v, vm₁, ⟨U', l2, c2, s2⟩, hW₁, X', ⟨g', mk, t, L, e1, e2, hq, h1, hL, h2, h3⟩, st⟩ | ⟨q, vm₁, ⟨U', l2, c2, s2⟩, hW₁, X', ⟨g', mk, t, L, E, ce, e1, e2, hq, hce, hcv, hcl, h1, hL, h2, h3⟩, st⟩
  · dsimp only [Pt.U, Pt.locs, Pt.cells, Pt.slots] at X' e1 e2 h1 h2 h3 st
    subst h1; subst h2; subst h3
    exact Or.inl ⟨v, (T.setVm vm₁).calling g' mk As.toArray, t, U', L, hT, X', hL, e1, e2, hq, st⟩
  · dsimp only [Pt.U, Pt.locs, Pt.cells, Pt.slots] at X' e1 e2 h1 h2 h3 st hcl
    subst h1; subst h2; subst h3
    exact Or.inr ⟨q, (T.setVm vm₁).calling g' mk As.toArray, t, U', L, E, ce, hT, X', hL, e1, e2, hq, hce, hcv, vx_cls hW₁ hcl, st⟩
end Runs
section Rows
variable {p : Program} {l : Launch} {e : Env} {R : Room} {s : State} {m : MethodId} {args : Array Value} {below : List Frame} {meth : Method} {c : Code} {H : Heap} {locs : List Loc} {cells slots : Nat} {Q : State → Prop}
variable {mc ms : Nat} {free : Addr → Prop} {A0 A1 : Nat → Prop} {H0 : Heap} {a : Array Value} {pc : Nat} {ls : Array Slot} {st0 rest : List Value}
theorem vx_keep {st₀ t T' : State} {L : List Loc} (h0 : st₀.heap = H) (e1 : T'.heap = t.heap) (hS : va_S A0 H0 H locs) (hA : ∀ q, q < H.size → A1 q → A0 q) (hf : ∀ q, free q → A0 q) (hL : ∀ q ∈ L, free q.base) (hF : va_F A1 st₀ t) :
    H.size ≤ T'.heap.size ∧ (∀ q : Nat, q < H.size → ¬ A1 q → T'.heap[q]? = H[q]?) ∧ va_S A0 H0 T'.heap (locs ++ L) := by
  obtain ⟨hz, hk⟩ := hF
  rw [h0] at hz hk
  exact ⟨by rw [e1]; exact hz, fun q h1 h2 => by rw [e1]; exact hk q h1 h2,
    ⟨Nat.le_trans hS.1 (by rw [e1]; exact hz), fun q h1 h2 => by rw [e1, hk q (Nat.lt_of_lt_of_le h1 hS.1) (fun z => h2 (hA q (Nat.lt_of_lt_of_le h1 hS.1) z))]; exact hS.2.1 q h1 h2, fun q hq => by
      rcases List.mem_append.mp hq with h | h
      · exact hS.2.2 q h
      · exact hf _ (hL q h)⟩⟩
theorem vx_calli {S SX : Type} {post : Int32 → S → Prop} {px : SX → Prop} {B : S → State → Prop} {BX : String → SX → State → Prop} {AX : Nat → Prop} (hr : vx_Run p l e R s m args below meth c H locs cells slots mc ms (F0 m pc ls st0) rest (va_Qi post B A1 a) (vx_X px BX AX) free) (hS : va_S A0 H0 H locs) (hA : ∀ q, q < H.size → A1 q → A0 q) (hf : ∀ q, free q → A0 q) (hAX : ∀ q, q < H.size → AX q → A0 q)
    (kx : ∀ (E : String) (ce : Cell) (q9 : Addr) (u : SX) (t : State) (H1 : Heap) (locs1 : List Loc), t.heap = H1 → s.vm.Alike t.vm → px u → BX E u t → H.size ≤ H1.size → (∀ q : Nat, q < H.size → ¬ AX q → H1[q]? = H[q]?) → va_S A0 H0 H1 locs1 → H1[q9]? = some ce → ce.vm = .none → s.vm.findClass E = some ce.cls → vx_W p l e R s m args below meth c H1 locs1 (cells + mc) (slots + ms) Q (F0 m pc ls rest) q9)
    (kk : ∀ (r : Int32) (u : S) (t : State) (H1 : Heap) (locs1 : List Loc), t.heap = H1 → s.vm.Alike t.vm → post r u → B u t → H.size ≤ H1.size → (∀ q : Nat, q < H.size → ¬ A1 q → H1[q]? = H[q]?) → va_S A0 H0 H1 locs1 → W p l e R s m args below meth c H1 locs1 (cells + mc) (slots + ms) Q (F0 m (pc + 3) ls (.int r :: rest))) : W p l e R s m args below meth c H locs cells slots Q (F0 m pc ls st0) := by
  intro T hT X
  rcases hr T hT X with ⟨v, st₀, t, T', L, h0, X', hL, e1, e2, ⟨⟨r, u, hv, hp, hb⟩, hF⟩, st⟩ | ⟨q, st₀, t, T', L, E, ce, h0, X', hL, e1, e2, ⟨u, hp, hb, hF⟩, hce, hcv, hcl, st⟩
  · cases hv
    obtain ⟨k1, k2, k3⟩ := vx_keep h0 e1 hS hA hf hL hF
    obtain ⟨t2, a1, b1⟩ := kk r u t T'.heap (locs ++ L) e1.symm (by rw [← e2]; exact X'.warmed.alike) hp hb k1 k2 k3 T' rfl X'
    exact ⟨t2, st t2 a1, b1⟩
  · obtain ⟨k1, k2, k3⟩ := vx_keep h0 e1 hS hAX hf hL hF
    obtain ⟨t2, a1, b1⟩ := kx E ce q u t T'.heap (locs ++ L) e1.symm (by rw [← e2]; exact X'.warmed.alike) hp hb k1 k2 k3 (by rw [e1]; exact hce) hcv hcl T' rfl X'
    exact ⟨t2, st.trans a1, b1⟩
theorem vx_calll {S SX : Type} {post : Int64 → S → Prop} {px : SX → Prop} {B : S → State → Prop} {BX : String → SX → State → Prop} {AX : Nat → Prop} (hr : vx_Run p l e R s m args below meth c H locs cells slots mc ms (F0 m pc ls st0) rest (va_Ql post B A1 a) (vx_X px BX AX) free) (hS : va_S A0 H0 H locs) (hA : ∀ q, q < H.size → A1 q → A0 q) (hf : ∀ q, free q → A0 q) (hAX : ∀ q, q < H.size → AX q → A0 q)
    (kx : ∀ (E : String) (ce : Cell) (q9 : Addr) (u : SX) (t : State) (H1 : Heap) (locs1 : List Loc), t.heap = H1 → s.vm.Alike t.vm → px u → BX E u t → H.size ≤ H1.size → (∀ q : Nat, q < H.size → ¬ AX q → H1[q]? = H[q]?) → va_S A0 H0 H1 locs1 → H1[q9]? = some ce → ce.vm = .none → s.vm.findClass E = some ce.cls → vx_W p l e R s m args below meth c H1 locs1 (cells + mc) (slots + ms) Q (F0 m pc ls rest) q9)
    (kk : ∀ (r : Int64) (u : S) (t : State) (H1 : Heap) (locs1 : List Loc), t.heap = H1 → s.vm.Alike t.vm → post r u → B u t → H.size ≤ H1.size → (∀ q : Nat, q < H.size → ¬ A1 q → H1[q]? = H[q]?) → va_S A0 H0 H1 locs1 → W p l e R s m args below meth c H1 locs1 (cells + mc) (slots + ms) Q (F0 m (pc + 3) ls (.long r :: rest))) : W p l e R s m args below meth c H locs cells slots Q (F0 m pc ls st0) := by
  intro T hT X
  rcases hr T hT X with ⟨v, st₀, t, T', L, h0, X', hL, e1, e2, ⟨⟨r, u, hv, hp, hb⟩, hF⟩, st⟩ | ⟨q, st₀, t, T', L, E, ce, h0, X', hL, e1, e2, ⟨u, hp, hb, hF⟩, hce, hcv, hcl, st⟩
  · cases hv
    obtain ⟨k1, k2, k3⟩ := vx_keep h0 e1 hS hA hf hL hF
    obtain ⟨t2, a1, b1⟩ := kk r u t T'.heap (locs ++ L) e1.symm (by rw [← e2]; exact X'.warmed.alike) hp hb k1 k2 k3 T' rfl X'
    exact ⟨t2, st t2 a1, b1⟩
  · obtain ⟨k1, k2, k3⟩ := vx_keep h0 e1 hS hAX hf hL hF
    obtain ⟨t2, a1, b1⟩ := kx E ce q u t T'.heap (locs ++ L) e1.symm (by rw [← e2]; exact X'.warmed.alike) hp hb k1 k2 k3 (by rw [e1]; exact hce) hcv hcl T' rfl X'
    exact ⟨t2, st.trans a1, b1⟩
theorem vx_callf {S SX : Type} {post : UInt32 → S → Prop} {px : SX → Prop} {B : S → State → Prop} {BX : String → SX → State → Prop} {AX : Nat → Prop} (hr : vx_Run p l e R s m args below meth c H locs cells slots mc ms (F0 m pc ls st0) rest (va_Qf post B A1 a) (vx_X px BX AX) free) (hS : va_S A0 H0 H locs) (hA : ∀ q, q < H.size → A1 q → A0 q) (hf : ∀ q, free q → A0 q) (hAX : ∀ q, q < H.size → AX q → A0 q)
    (kx : ∀ (E : String) (ce : Cell) (q9 : Addr) (u : SX) (t : State) (H1 : Heap) (locs1 : List Loc), t.heap = H1 → s.vm.Alike t.vm → px u → BX E u t → H.size ≤ H1.size → (∀ q : Nat, q < H.size → ¬ AX q → H1[q]? = H[q]?) → va_S A0 H0 H1 locs1 → H1[q9]? = some ce → ce.vm = .none → s.vm.findClass E = some ce.cls → vx_W p l e R s m args below meth c H1 locs1 (cells + mc) (slots + ms) Q (F0 m pc ls rest) q9)
    (kk : ∀ (r : UInt32) (u : S) (t : State) (H1 : Heap) (locs1 : List Loc), t.heap = H1 → s.vm.Alike t.vm → post r u → B u t → H.size ≤ H1.size → (∀ q : Nat, q < H.size → ¬ A1 q → H1[q]? = H[q]?) → va_S A0 H0 H1 locs1 → W p l e R s m args below meth c H1 locs1 (cells + mc) (slots + ms) Q (F0 m (pc + 3) ls (.float r :: rest))) : W p l e R s m args below meth c H locs cells slots Q (F0 m pc ls st0) := by
  intro T hT X
  rcases hr T hT X with ⟨v, st₀, t, T', L, h0, X', hL, e1, e2, ⟨⟨r, u, hv, hp, hb⟩, hF⟩, st⟩ | ⟨q, st₀, t, T', L, E, ce, h0, X', hL, e1, e2, ⟨u, hp, hb, hF⟩, hce, hcv, hcl, st⟩
  · cases hv
    obtain ⟨k1, k2, k3⟩ := vx_keep h0 e1 hS hA hf hL hF
    obtain ⟨t2, a1, b1⟩ := kk r u t T'.heap (locs ++ L) e1.symm (by rw [← e2]; exact X'.warmed.alike) hp hb k1 k2 k3 T' rfl X'
    exact ⟨t2, st t2 a1, b1⟩
  · obtain ⟨k1, k2, k3⟩ := vx_keep h0 e1 hS hAX hf hL hF
    obtain ⟨t2, a1, b1⟩ := kx E ce q u t T'.heap (locs ++ L) e1.symm (by rw [← e2]; exact X'.warmed.alike) hp hb k1 k2 k3 (by rw [e1]; exact hce) hcv hcl T' rfl X'
    exact ⟨t2, st.trans a1, b1⟩
theorem vx_calld {S SX : Type} {post : UInt64 → S → Prop} {px : SX → Prop} {B : S → State → Prop} {BX : String → SX → State → Prop} {AX : Nat → Prop} (hr : vx_Run p l e R s m args below meth c H locs cells slots mc ms (F0 m pc ls st0) rest (va_Qd post B A1 a) (vx_X px BX AX) free) (hS : va_S A0 H0 H locs) (hA : ∀ q, q < H.size → A1 q → A0 q) (hf : ∀ q, free q → A0 q) (hAX : ∀ q, q < H.size → AX q → A0 q)
    (kx : ∀ (E : String) (ce : Cell) (q9 : Addr) (u : SX) (t : State) (H1 : Heap) (locs1 : List Loc), t.heap = H1 → s.vm.Alike t.vm → px u → BX E u t → H.size ≤ H1.size → (∀ q : Nat, q < H.size → ¬ AX q → H1[q]? = H[q]?) → va_S A0 H0 H1 locs1 → H1[q9]? = some ce → ce.vm = .none → s.vm.findClass E = some ce.cls → vx_W p l e R s m args below meth c H1 locs1 (cells + mc) (slots + ms) Q (F0 m pc ls rest) q9)
    (kk : ∀ (r : UInt64) (u : S) (t : State) (H1 : Heap) (locs1 : List Loc), t.heap = H1 → s.vm.Alike t.vm → post r u → B u t → H.size ≤ H1.size → (∀ q : Nat, q < H.size → ¬ A1 q → H1[q]? = H[q]?) → va_S A0 H0 H1 locs1 → W p l e R s m args below meth c H1 locs1 (cells + mc) (slots + ms) Q (F0 m (pc + 3) ls (.double r :: rest))) : W p l e R s m args below meth c H locs cells slots Q (F0 m pc ls st0) := by
  intro T hT X
  rcases hr T hT X with ⟨v, st₀, t, T', L, h0, X', hL, e1, e2, ⟨⟨r, u, hv, hp, hb⟩, hF⟩, st⟩ | ⟨q, st₀, t, T', L, E, ce, h0, X', hL, e1, e2, ⟨u, hp, hb, hF⟩, hce, hcv, hcl, st⟩
  · cases hv
    obtain ⟨k1, k2, k3⟩ := vx_keep h0 e1 hS hA hf hL hF
    obtain ⟨t2, a1, b1⟩ := kk r u t T'.heap (locs ++ L) e1.symm (by rw [← e2]; exact X'.warmed.alike) hp hb k1 k2 k3 T' rfl X'
    exact ⟨t2, st t2 a1, b1⟩
  · obtain ⟨k1, k2, k3⟩ := vx_keep h0 e1 hS hAX hf hL hF
    obtain ⟨t2, a1, b1⟩ := kx E ce q u t T'.heap (locs ++ L) e1.symm (by rw [← e2]; exact X'.warmed.alike) hp hb k1 k2 k3 (by rw [e1]; exact hce) hcv hcl T' rfl X'
    exact ⟨t2, st.trans a1, b1⟩
theorem vx_callv {S SX : Type} {post : S → Prop} {px : SX → Prop} {B : S → State → Prop} {BX : String → SX → State → Prop} {AX : Nat → Prop} (hr : vx_Run p l e R s m args below meth c H locs cells slots mc ms (F0 m pc ls st0) rest (va_Qv post B A1 a) (vx_X px BX AX) free) (hS : va_S A0 H0 H locs) (hA : ∀ q, q < H.size → A1 q → A0 q) (hf : ∀ q, free q → A0 q) (hAX : ∀ q, q < H.size → AX q → A0 q)
    (kx : ∀ (E : String) (ce : Cell) (q9 : Addr) (u : SX) (t : State) (H1 : Heap) (locs1 : List Loc), t.heap = H1 → s.vm.Alike t.vm → px u → BX E u t → H.size ≤ H1.size → (∀ q : Nat, q < H.size → ¬ AX q → H1[q]? = H[q]?) → va_S A0 H0 H1 locs1 → H1[q9]? = some ce → ce.vm = .none → s.vm.findClass E = some ce.cls → vx_W p l e R s m args below meth c H1 locs1 (cells + mc) (slots + ms) Q (F0 m pc ls rest) q9)
    (kk : ∀ (u : S) (t : State) (H1 : Heap) (locs1 : List Loc), t.heap = H1 → s.vm.Alike t.vm → post u → B u t → H.size ≤ H1.size → (∀ q : Nat, q < H.size → ¬ A1 q → H1[q]? = H[q]?) → va_S A0 H0 H1 locs1 → W p l e R s m args below meth c H1 locs1 (cells + mc) (slots + ms) Q (F0 m (pc + 3) ls (rest))) : W p l e R s m args below meth c H locs cells slots Q (F0 m pc ls st0) := by
  intro T hT X
  rcases hr T hT X with ⟨v, st₀, t, T', L, h0, X', hL, e1, e2, ⟨⟨u, hv, hp, hb⟩, hF⟩, st⟩ | ⟨q, st₀, t, T', L, E, ce, h0, X', hL, e1, e2, ⟨u, hp, hb, hF⟩, hce, hcv, hcl, st⟩
  · cases hv
    obtain ⟨k1, k2, k3⟩ := vx_keep h0 e1 hS hA hf hL hF
    obtain ⟨t2, a1, b1⟩ := kk u t T'.heap (locs ++ L) e1.symm (by rw [← e2]; exact X'.warmed.alike) hp hb k1 k2 k3 T' rfl X'
    exact ⟨t2, st t2 a1, b1⟩
  · obtain ⟨k1, k2, k3⟩ := vx_keep h0 e1 hS hAX hf hL hF
    obtain ⟨t2, a1, b1⟩ := kx E ce q u t T'.heap (locs ++ L) e1.symm (by rw [← e2]; exact X'.warmed.alike) hp hb k1 k2 k3 (by rw [e1]; exact hce) hcv hcl T' rfl X'
    exact ⟨t2, st.trans a1, b1⟩
/-- caught by the row x of this method's table; the rows ahead don't take it -/
theorem vx_catch {own name : String} {E : String} {ce : Cell} {q : Addr} (hown : s.vm.findClass own = some m.cls) (pre : List ExceptionTableEntry) (x : ExceptionTableEntry) (suf : List ExceptionTableEntry) (hsplit : c.exceptionTable.toList = pre ++ x :: suf)
    (hpass : ∀ z ∈ pre, covers z pc = false ∨ (z.catchType ≠ 0 ∧ ∃ nm : String, (Cond.classLink own z.catchType nm).before args s = true ∧ va_Nc E nm s)) (hx : covers x pc = true) (h0 : x.catchType ≠ 0)
    (hlink : (Cond.classLink own x.catchType name).before args s = true) (hcast : (Cond.castable E name).before args s = true) (hcell : H[q]? = some ce) (hv : ce.vm = .none) (hcl : s.vm.findClass E = some ce.cls)
    (kk : W p l e R s m args below meth c H locs cells slots Q (F0 m x.handlerPc ls [.ref q])) : vx_W p l e R s m args below meth c H locs cells slots Q (F0 m pc ls rest) q := by
  intro T hT X
  have hpl : e.platform.magicAccessors = ({} : Platform).magicAccessors := by rw [X.admits.platform]
  obtain ⟨c3, c4, hc3, hc4, hasg⟩ := Cond.castable_spec hcast
  cases Option.some.inj (hc3.symm.trans hcl)
  obtain ⟨c5, hc5, hcl5⟩ := Cond.classLink_spec hown hlink e.platform hpl
  cases Option.some.inj (hc4.symm.trans hc5)
  obtain ⟨vm', X', st⟩ := X.thenCaughtThrough q (g := F0 m pc ls rest) rfl (Steps.refl _) (by rw [hT]; exact hcell) (by rw [hv]; rfl) (by obtain ⟨k9, h9, -⟩ := Vm.findClass_spec hcl; exact ⟨k9, h9⟩) pre x suf hsplit
    (fun z hz => by
      rcases hpass z hz with h | ⟨hz0, nm, hl1, hn1⟩
      · exact Or.inl h
      · obtain ⟨c6, hc6, hcl6⟩ := Cond.classLink_spec hown hl1 e.platform hpl
        obtain ⟨a8, b8, h1, h2, h3⟩ := hn1
        cases Option.some.inj (h1.symm.trans hcl)
        cases Option.some.inj (h2.symm.trans hc6)
        exact Or.inr ⟨hz0, _, hcl6, h3⟩) hx (Or.inr ⟨h0, c4, hcl5, hasg⟩)
  obtain ⟨t, a1, b1⟩ := kk (T.setVm vm') hT X'
  exact ⟨t, st.trans a1, b1⟩
end Rows
section Ends
variable {p : Program} {l : Launch} {e : Env} {R : Room} {s : State} {m : MethodId} {args : Array Value} {below : List Frame} {meth : Method} {c : Code} {H : Heap} {locs : List Loc} {cells slots : Nat} {Q : State → Prop}
variable {mc ms : Nat} {free : Addr → Prop} {A0 A1 : Nat → Prop} {H0 : Heap} {a : Array Value} {ls : Array Slot} {st0 rest : List Value}
variable {Qc : Array Value → State → Outcome → State → Prop} {XC : String → State → State → Prop}
/-- what a body that may throw owes at its end -/
def vx_MQ (below : List Frame) (Qc : Array Value → State → Outcome → State → Prop) (XC : String → State → State → Prop) (a : Array Value) (s : State) (mc ms : Nat) (free : Addr → Prop) : State → Prop := fun t =>
  ∃ o, t.status = .running ∧ Ended t below o ∧ vx_Q Qc XC mc ms free a s o t
theorem vx_ret {g : JFrame} {mc ms : Nat} (k : W p l e R s m args below meth c H locs cells slots (MQ below Qc args s mc ms free) g) : W p l e R s m args below meth c H locs cells slots (vx_MQ below Qc XC args s mc ms free) g := by
  intro T hT X
  obtain ⟨t, a1, o, b1, b2, b3, b4⟩ := k T hT X
  exact ⟨t, a1, o, b1, b2, Or.inl ⟨b3, b4⟩⟩
/-- not caught here: it goes on to the caller -/
theorem vx_widen {g : JFrame} {q : Addr} {k n : Nat} (h1 : cells ≤ k) (h2 : slots ≤ n) (kk : vx_W p l e R s m args below meth c H locs k n Q g q) : vx_W p l e R s m args below meth c H locs cells slots Q g q := fun T hT X => kk T hT (stand_widen X h1 h2)
theorem vx_out {pc : Nat} {E : String} {ce : Cell} {q : Addr} {mc ms : Nat} (hout : ∀ x ∈ c.exceptionTable.toList, covers x pc = false) (hlocks : meth.locks = false) (hcell : H[q]? = some ce) (hv : ce.vm = .none) (hcl : s.vm.findClass E = some ce.cls)
    (hx : ∀ t : State, t.heap = H → s.vm.Alike t.vm → XC E s t) (hf : ∀ z ∈ locs, free z.base) (hc : cells ≤ mc) (hs : slots ≤ ms) :
    vx_W p l e R s m args below meth c H locs cells slots (vx_MQ below Qc XC args s mc ms free) (F0 m pc ls rest) q := by
  intro T hT X
  obtain ⟨st1, hrun, hend, hW, hsm⟩ := X.leaveThrown q (g := F0 m pc ls rest) rfl rfl rfl hout hlocks
  have hcell9 : (T.setFrames (.throwing q :: below)).heap[q]? = some ce := by
    show T.heap[q]? = some ce
    rw [hT]; exact hcell
  exact ⟨_, st1, .threw q, hrun, hend, Or.inr ⟨q, rfl, E, ce, locs, hx _ hT hW.alike, hcell9, hv, hcl, hW, hsm.mono hc hs, hf⟩⟩
theorem vx_frame {U : State} {k n : Nat} (h : s.sameButNew ({ U with vm := s.vm } : State) locs k n) : s.heap.size ≤ U.heap.size ∧ ∀ q : Nat, q < s.heap.size → (∀ z ∈ locs, z.base ≠ q) → U.heap[q]? = s.heap[q]? := by
  obtain ⟨-, h2, -, -, -, h6⟩ := h
  refine ⟨h2, fun q hq hz => ?_⟩
  obtain ⟨c9, e1, e2, e3, e4⟩ := h6 q _ (Array.getElem?_eq_getElem hq)
  have hs : c9.slots = (s.heap[q]).slots := Array.ext_getElem? fun i => e4 i fun hm => hz _ hm rfl
  have h9 : c9 = s.heap[q] := by
    rw [hs] at e2
    exact e2
  have e5 : U.heap[q]? = some c9 := e1
  rw [e5, h9, Array.getElem?_eq_getElem hq]
/-- the words of a throw but the four that speak of the heap -/
def vx_no (w : Cond) : Bool := decide (w ≠ .isRef (.static Bundle.tN "UNASSIGNED_STACK" Bundle.steD)) && decide (w ≠ .isRef (.static Bundle.tN "SUPPRESSED_SENTINEL" Bundle.listD)) && decide (w ≠ .laysStatic Bundle.tN "UNASSIGNED_STACK" Bundle.steD) && decide (w ≠ .laysStatic Bundle.tN "SUPPRESSED_SENTINEL" Bundle.listD)
def vx_at0 (own : String) (ic : Nat) (X : String) (names : List String) : List Cond := (Bundle.ownAtoms0 own ic X names).filter vx_no
def vx_atS (own : String) (ic : Nat) (X : String) (names : List String) : List Cond := (Bundle.ownAtoms own ic X names).filter vx_no
/-- a word that the tables alone decide, or a good one -/
def vx_ot (w : Cond) : Bool := w.onTables || goodWord w
theorem vx_ot_at {args a' : Array Value} {s U : State} {w : Cond} (hW : s.WarmedH U.vm) (hvm : s.vm = U.vm) (hg : vx_ot w = true) (h : w.before args s = true) : w.before a' U = true := by
  simp only [vx_ot, Bool.or_eq_true] at hg
  rcases hg with hg | hg
  · exact va_tabs hg hvm h
  · exact word_at hW (good_of_word hg) h
/-- a list's words: the good ones out of the method's own list, the others by premises of their own -/
theorem vx_hat {args : Array Value} {s : State} {L B : List Cond} (h1 : ∀ w ∈ L.filter goodWord, w.before args s = true) (h2 : ∀ w ∈ L.filter (fun w => !goodWord w), w ∈ B) (h3 : ∀ w ∈ B, w.before args s = true) : ∀ w ∈ L, w.before args s = true := by
  intro w hw
  by_cases g : goodWord w = true
  · exact h1 w (List.mem_filter.mpr ⟨hw, g⟩)
  · refine h3 w (h2 w (List.mem_filter.mpr ⟨hw, ?_⟩))
    show (!goodWord w) = true
    cases hgw : goodWord w
    · rfl
    · exact absurd hgw g
theorem vx_c {args : Array Value} {s : State} {w : Cond} {B : List Cond} (h : w.before args s = true) (t : ∀ w ∈ B, w.before args s = true) : ∀ w' ∈ w :: B, w'.before args s = true := fun w' h' => (List.mem_cons.mp h').elim (fun e => by rw [e]; exact h) (t w')
theorem vx_n {args : Array Value} {s : State} : ∀ w ∈ ([] : List Cond), w.before args s = true := fun _ h => nomatch h
theorem vx_own {args : Array Value} {s : State} {L : List Cond} (h1 : ∀ w ∈ L.filter vx_no, w.before args s = true)
    (hU : (Cond.isRef (.static Bundle.tN "UNASSIGNED_STACK" Bundle.steD)).before args s = true) (hN : (Cond.isRef (.static Bundle.tN "SUPPRESSED_SENTINEL" Bundle.listD)).before args s = true)
    (lU : (Cond.laysStatic Bundle.tN "UNASSIGNED_STACK" Bundle.steD).before args s = true) (lN : (Cond.laysStatic Bundle.tN "SUPPRESSED_SENTINEL" Bundle.listD).before args s = true) : ∀ w ∈ L, w.before args s = true := by
  intro w hw
  by_cases e1 : w = .isRef (.static Bundle.tN "UNASSIGNED_STACK" Bundle.steD)
  · rw [e1]; exact hU
  · by_cases e2 : w = .isRef (.static Bundle.tN "SUPPRESSED_SENTINEL" Bundle.listD)
    · rw [e2]; exact hN
    · by_cases e3 : w = .laysStatic Bundle.tN "UNASSIGNED_STACK" Bundle.steD
      · rw [e3]; exact lU
      · by_cases e4 : w = .laysStatic Bundle.tN "SUPPRESSED_SENTINEL" Bundle.listD
        · rw [e4]; exact lN
        · exact h1 w (List.mem_filter.mpr ⟨hw, by unfold vx_no; rw [decide_eq_true e1, decide_eq_true e2, decide_eq_true e3, decide_eq_true e4]; rfl⟩)
/-- where a static field lies, its class's statics cell in H -/
def vx_L (C n d : String) (A : Nat → Prop) (U : State) (H : Heap) : Prop := ∃ (c : ClassId) (k : Class) (i : Nat) (f : Field) (a : Nat) (cell : Cell), U.vm.findClass C = some c ∧ U.fieldFound? C n d = some (c, k, i, f) ∧ f.isStatic = true ∧ k.statics = some a ∧ H[a]? = some cell ∧ cell.vm.isStatics = true ∧ cell.cls = c ∧ f.slot < cell.slots.size ∧ k.staticTypes[f.slot]? = some f.type ∧ ¬ A a
theorem vx_L.moved {C n d : String} {A : Nat → Prop} {u U : State} {H : Heap} (hvm : u.vm.Alike U.vm) (h : vx_L C n d A u H) : vx_L C n d A U H := by
  obtain ⟨c, k, i, f, a, cell, h1, h2, h3, h4, h5, h6, h7, h8, h9, h10⟩ := h
  obtain ⟨k', hi', he⟩ := State.fieldFound?_setVm hvm h2
  exact ⟨c, k', i, f, a, cell, by rw [hvm.findClass]; exact h1, hi', h3, by rw [he]; exact h4, h5, h6, h7, h8, by rw [he]; exact h9, h10⟩
theorem vx_L.kept {C n d : String} {A : Nat → Prop} {U : State} {H H1 : Heap} (h : vx_L C n d A U H) (hq : ∀ a : Nat, a < H.size → ¬ A a → H1[a]? = H[a]?) : vx_L C n d A U H1 := by
  obtain ⟨c, k, i, f, a, cell, h1, h2, h3, h4, h5, h6, h7, h8, h9, h10⟩ := h
  exact ⟨c, k, i, f, a, cell, h1, h2, h3, h4, by rw [hq a (Array.getElem?_eq_some_iff.mp h5).1 h10]; exact h5, h6, h7, h8, h9, h10⟩
theorem vx_L.narrow {C n d : String} {A B : Nat → Prop} {U : State} {H : Heap} (h : vx_L C n d A U H) (hAB : ∀ q, B q → A q) : vx_L C n d B U H := by
  obtain ⟨c, k, i, f, a, cell, h1, h2, h3, h4, h5, h6, h7, h8, h9, h10⟩ := h
  exact ⟨c, k, i, f, a, cell, h1, h2, h3, h4, h5, h6, h7, h8, h9, fun z => h10 (hAB _ z)⟩
theorem vx_L.word {C n d : String} {A : Nat → Prop} {s : State} {args : Array Value} (h : vx_L C n d A s s.heap) : (Cond.laysStatic C n d).before args s = true := by
  obtain ⟨c, k, i, f, a, cell, h1, h2, h3, h4, h5, h6, h7, h8, h9, -⟩ := h
  show (Cond.laysStatic C n d).holds args s none s [] = true
  exact Cond.laysStatic_of h1 h2 h3 h4 h5 h6 h7 h8 h9
/-- .. and what it holds: null or some reference -/
def vx_Zq (C n d : String) (A : Nat → Prop) (U : State) (H : Heap) : Prop := va_Zq C n d A U H ∧ vx_L C n d A U H
theorem vx_Zq.moved {C n d : String} {A : Nat → Prop} {u U : State} {H : Heap} (hvm : u.vm.Alike U.vm) (h : vx_Zq C n d A u H) : vx_Zq C n d A U H := ⟨va_Zq.moved hvm h.1, vx_L.moved hvm h.2⟩
theorem vx_Zq.kept {C n d : String} {A : Nat → Prop} {U : State} {H H1 : Heap} (h : vx_Zq C n d A U H) (hq : ∀ a : Nat, a < H.size → ¬ A a → H1[a]? = H[a]?) : vx_Zq C n d A U H1 := ⟨va_Zq.kept h.1 hq, vx_L.kept h.2 hq⟩
theorem vx_Zq.narrow {C n d : String} {A B : Nat → Prop} {U : State} {H : Heap} (h : vx_Zq C n d A U H) (hAB : ∀ q, B q → A q) : vx_Zq C n d B U H := ⟨va_Zq.narrow h.1 hAB, vx_L.narrow h.2 hAB⟩
theorem vx_Zqof {args : Array Value} {s : State} {C n d : String} {A : Nat → Prop} (hl : (Cond.laysStatic C n d).before args s = true) (hini : (Cond.initialized C).before args s = true) (h : (Cond.isRef (.static C n d)).before args s = true) (hA : ∀ a : Nat, a < s.heap.size → ¬ A a) : vx_Zq C n d A s s.heap := by
  refine ⟨va_Zqof hl hini h hA, ?_⟩
  obtain ⟨c, k, i, f, a, cell, h1, h2, h3, h4, h5, h6, h7, h8, h9⟩ := Cond.laysStatic_spec hl
  exact ⟨c, k, i, f, a, cell, h1, h2, h3, h4, h5, h6, h7, h8, h9, hA a (Array.getElem?_eq_some_iff.mp h5).1⟩
theorem vx_isRef {C n d : String} {v : Value} {A : Nat → Prop} {s : State} {args : Array Value} (h : va_Z C n d v A s s.heap) (hv : v.isRef = true) : (Cond.isRef (.static C n d)).before args s = true := by
  obtain ⟨cf, kf, fi, f, a, cell, h1, h2, h3, h4, h5, h6, h7, -⟩ := h
  have he : (Term.static C n d).eval args s none [] s = some v := by
    simp [Term.eval, State.fieldNamed?, h1, h2, h4, h5, h6, h7]
  simp only [Cond.before, Cond.holds, Cond.value, he]
  cases v <;> simp_all [Value.isRef]
theorem vx_isRefq {C n d : String} {A : Nat → Prop} {s : State} {args : Array Value} (h : va_Zq C n d A s s.heap) : (Cond.isRef (.static C n d)).before args s = true := by
  rcases h with h | ⟨t, h⟩
  · exact vx_isRef h rfl
  · exact vx_isRef h rfl
/-- the same frame, seen from here: as if the method were called anew in this heap -/
theorem vx_rebase {T : State} (X : Stand p l e R s m args below meth c T locs cells slots) {R' : Room} (hf : R'.frames ≤ R.frames) (hl : R'.locals ≤ R.locals) (hc : cells + R'.cells ≤ R.cells) (hs : slots + R'.slots ≤ R.slots) :
    Stand p l e R' ((T.setVm s.vm).setFrames (.invoking m args :: below)) m args below meth c T [] 0 0 := by
  have htop : (T.setVm s.vm).topJava?.isSome := X.here.top
  have hF : ((T.setVm s.vm).setFrames (.invoking m args :: below)).frames = .invoking m args :: below := State.frames_setFrames _ (State.cur_lt_of_top htop)
  obtain ⟨g₀, hg0⟩ := Option.isSome_iff_exists.mp htop
  obtain ⟨r, hr⟩ := State.topJava?_eq_some.mp hg0
  have hl9 : e.platform.stackLimits (T.setVm s.vm).me = e.platform.stackLimits s.me := X.limits
  have hb9 : (T.setVm s.vm).me.stackBytes = s.me.stackBytes := X.bytes
  refine ⟨X.admits, X.cas, X.clock, hF, ?_, X.hears, X.method, X.code, X.here, X.tail, X.warmed, ?_, ?_, ?_⟩
  · have h := X.room
    have hU : ((T.setVm s.vm).setFrames (.invoking m args :: below)).localsInUse = s.localsInUse := by
      rw [State.localsInUse_invoking hF (meth := meth) (c := c) X.method X.code, State.localsInUse_invoking X.frames X.method X.code]
    simp only [State.hasRoom, Bool.and_eq_true, decide_eq_true_eq] at h ⊢
    obtain ⟨⟨⟨⟨h1, h2, h3, h4, h5, h6⟩, h7⟩, h8⟩, h9⟩ := h
    rw [X.frames, List.length_cons] at h2 h3
    have q1 := X.heapSize
    have q2 := X.used
    simp only [hF, hU, List.length_cons, State.stackLimits_setFrames, State.stackBytes_setFrames, hl9, hb9]
    refine ⟨⟨⟨⟨by omega, by omega, by omega, by omega, by omega, h6⟩, ?_⟩, ?_⟩, X.book⟩
    · show T.heap.size + R'.cells ≤ e.platform.maxCells
      omega
    · show T.slotsUsed + R'.slots ≤ e.platform.maxSlots
      omega
  · rw [State.stackLimits_setFrames]; rfl
  · rw [State.stackBytes_setFrames]; rfl
  · refine ⟨?_, Nat.le_refl _, Nat.le_refl _, ?_, ?_, fun a c9 h9 => ⟨c9, h9, rfl, rfl, fun _ _ => rfl⟩⟩
    · obtain ⟨t, ht, -⟩ := State.frames_cons hr
      show T.setVm s.vm = { ((T.setVm s.vm).setFrames (.invoking m args :: below)).setFrames (T.setVm s.vm).frames with heap := T.heap, slotsUsed := T.slotsUsed }
      rw [State.setFrames_setFrames, State.setFrames_self ht]
      rfl
    · show T.slotsUsed = T.slotsUsed + ((T.heap.toList.drop T.heap.size).map (·.slots.size)).sum
      rw [List.drop_eq_nil_of_le (Nat.le_of_eq Array.length_toList)]
      rfl
    · show ((T.heap.toList.drop T.heap.size).map (·.slots.size)).sum ≤ 0
      rw [List.drop_eq_nil_of_le (Nat.le_of_eq Array.length_toList)]
      exact Nat.le_refl _
/-- 'throw new E()': new; dup; invokespecial; athrow -/
theorem vx_throw0 {cc : ByteArray} {pc : Nat} (hexec : p.tables.exec = Jvm.exec) (hb : c.code = cc) (hl : l.stackTraces = false) {own cls : String} {names : List String} {ik ic mc ms : Nat} {A : Nat → Prop}
    (hown : s.vm.findClass own = some m.cls) (hcls : Bundle.fit cls = true) (hnames : ∀ n ∈ names, Bundle.fit n = true)
    (hk : (Cond.classLink own ik cls).before args s = true) (hini : (Cond.initialized cls).before args s = true) (hat : ∀ w ∈ vx_at0 own ic cls names, w.before args s = true)
    (hgood : ∀ w ∈ Cond.classLink own ik cls :: Cond.initialized cls :: vx_at0 own ic cls names, vx_ot w = true)
    (hU : vx_Zq Bundle.tN "UNASSIGNED_STACK" Bundle.steD A s s.heap) (hN : vx_Zq Bundle.tN "SUPPRESSED_SENTINEL" Bundle.listD A s s.heap) (hS : va_S A s.heap H locs) (hsize : ls.size = c.maxLocals)
    (d0 : decode cc pc = .ok (.new ik, 3)) (d3 : decode cc (pc + 3) = .ok (.dup, 1)) (d4 : decode cc (pc + 4) = .ok (.invokespecial ic, 3)) (d7 : decode cc (pc + 7) = .ok (.athrow, 1))
    (hout : ∀ x ∈ c.exceptionTable.toList, covers x (pc + 7) = false)
    (hRframes : names.length + 3 < R.frames) (hRlocals : (rest.map fun v => v.category).sum + (13 * (names.length + 1) + 42) ≤ R.locals) (hRcells : cells + 1 ≤ R.cells) (hRslots : slots + 6 ≤ R.slots) (hlocks : meth.locks = false)
    (hx : ∀ t : State, s.vm.Alike t.vm → H.size ≤ t.heap.size → (∀ q : Nat, q < H.size → t.heap[q]? = H[q]?) → XC cls s t)
    (hf : ∀ z ∈ locs, free z.base) (hc : cells + 1 ≤ mc) (hs : slots + 6 ≤ ms) :
    W p l e R s m args below meth c H locs cells slots (vx_MQ below Qc XC args s mc ms free) (F0 m pc ls rest) := by
  intro T hT X
  have htr : e.platform.stackTraces = false := (show e.platform.stackTraces = l.stackTraces by rw [X.admits.platform]).trans hl
  have Y := vx_rebase X (R' := { frames := R.frames, locals := R.locals, cells := 1, slots := 6 }) (Nat.le_refl _) (Nat.le_refl _) hRcells hRslots
  obtain ⟨s', hA⟩ : ∃ z, z = (T.setVm s.vm).setFrames (.invoking m args :: below) := ⟨_, rfl⟩
  rw [← hA] at Y
  have hvm : s'.vm = s.vm := by rw [hA]; rfl
  have hhp : s'.heap = H := by rw [hA]; exact hT
  have hW0 : s.WarmedH s'.vm := by rw [hvm]; exact State.WarmedH.refl s
  have hat' : ∀ w ∈ vx_at0 own ic cls names, w.before args s' = true := fun w hw => vx_ot_at hW0 hvm.symm (hgood w (List.mem_cons_of_mem _ (List.mem_cons_of_mem _ hw))) (hat w hw)
  have hk' : (Cond.classLink own ik cls).before args s' = true := vx_ot_at hW0 hvm.symm (hgood _ List.mem_cons_self) hk
  have hini' : (Cond.initialized cls).before args s' = true := vx_ot_at hW0 hvm.symm (hgood _ (List.mem_cons_of_mem _ List.mem_cons_self)) hini
  have hU' : vx_Zq Bundle.tN "UNASSIGNED_STACK" Bundle.steD A s' s'.heap := by rw [hhp]; exact vx_Zq.moved hW0.alike (hU.kept hS.2.1)
  have hN' : vx_Zq Bundle.tN "SUPPRESSED_SENTINEL" Bundle.listD A s' s'.heap := by rw [hhp]; exact vx_Zq.moved hW0.alike (hN.kept hS.2.1)
  have h : ∀ w ∈ Bundle.ownAtoms0 own ic cls names, w.before args s' = true := vx_own hat' (vx_isRefq hU'.1) (vx_isRefq hN'.1) hU'.2.word hN'.2.word
  have hown' : s'.vm.findClass own = some m.cls := by rw [hvm]; exact hown
  have hins : (Cond.instantiable cls 6).before args s' = true := h _ (by simp [Bundle.ownAtoms0])
  obtain ⟨vm₁, cX, kX, hfX, hkX, -, -, X₁, st1⟩ := Y.newCold hexec (own := own) (C := cls) (index := ik) (n := 6) hown' hk' hins hini'
    (g := F0 m pc ls rest) rfl (by rw [hb]; exact d0) (Nat.le_refl _) (Nat.le_refl _)
  generalize hT1 : (T.setVm vm₁).pushCell { cls := cX, slots := kX.instanceTypes.map defaultValue, vm := .none } = T1 at X₁ st1
  have hcat : (Value.ref T.heap.size).category = 1 := rfl
  have hcellA : T1.heap[T.heap.size]? = some (freshCell cX kX) := by rw [← hT1]; exact State.heap_pushCell_size _ _
  have d3' : decode c.code (pc + 3) = .ok (.dup, 1) := by rw [hb]; exact d3
  obtain ⟨U, hsteps, hrun, hend, hW, hsame, ce, hce, hO⟩ := X₁.ctorThrow0 hexec htr (own := own) (cls := cls) (names := names) (ic := ic) hown' hcls hnames h (fun x hx => nomatch hx) hfX hkX hcellA (by rw [hhp, hT]; exact Nat.le_refl _)
    (g := { method := m, pc := pc + 4, locals := ls, stack := .ref T.heap.size :: .ref T.heap.size :: rest, locked := none }) rfl hsize rfl rfl (rest := rest) rfl
    (by rw [hb]; exact d4) (by rw [hb]; exact d7) hout hRframes (by simp only [List.map_cons, List.sum_cons, hcat]; omega) hlocks
  obtain ⟨f1, f2⟩ := vx_frame hsame
  rw [hhp] at f1 f2
  have hWs : s.WarmedH U.vm := State.WarmedH.trans hW0 hW
  have hcl : s.vm.findClass cls = some ce.cls := by
    have h9 := hO.cls
    rw [hvm] at h9
    exact h9
  have hall : s.sameButNew ({ U with vm := s.vm } : State) locs mc ms := by
    subst hA
    obtain ⟨e1, e2⟩ := hsame
    rw [State.setFrames_setFrames] at e1
    have h2 : (T.setVm s.vm).sameButNew ({ U with vm := s.vm } : State) [] (0 + 1) (0 + 6) := ⟨e1, e2⟩
    have h3 := X.same.trans h2
    rw [List.append_nil] at h3
    exact h3.mono hc hs
  refine ⟨U, ?_, .threw T.heap.size, hrun, hend, Or.inr ⟨T.heap.size, rfl, cls, ce, locs, hx U hWs.alike f1 (fun q hq => f2 q hq (fun z hz => nomatch hz)), hce, hO.vm, hcl, hWs, hall, hf⟩⟩
  refine st1 _ ?_
  show Steps p.tables e below (T1.setTop { method := m, pc := pc + 3, locals := ls, stack := .ref T.heap.size :: rest, locked := none }) _
  jvm_step X₁.here [X₁.here.top, hexec, d3', Value.category]
  exact hsteps
/-- 'throw new E("text")': new; dup; ldc; invokespecial; athrow -/
theorem vx_throwS {cc : ByteArray} {pc : Nat} (hexec : p.tables.exec = Jvm.exec) (hb : c.code = cc) (hl : l.stackTraces = false) {own cls text : String} {names : List String} {ik is ic mc ms sa : Nat} {A : Nat → Prop}
    (hown : s.vm.findClass own = some m.cls) (hcls : Bundle.fit cls = true) (hnames : ∀ n ∈ names, Bundle.fit n = true)
    (hk : (Cond.classLink own ik cls).before args s = true) (hini : (Cond.initialized cls).before args s = true) (hstr : vk_R own is text sa s) (hat : ∀ w ∈ vx_atS own ic cls names, w.before args s = true)
    (hgood : ∀ w ∈ Cond.classLink own ik cls :: Cond.initialized cls :: vx_atS own ic cls names, vx_ot w = true)
    (hU : vx_Zq Bundle.tN "UNASSIGNED_STACK" Bundle.steD A s s.heap) (hN : vx_Zq Bundle.tN "SUPPRESSED_SENTINEL" Bundle.listD A s s.heap) (hS : va_S A s.heap H locs) (hsize : ls.size = c.maxLocals)
    (d0 : decode cc pc = .ok (.new ik, 3)) (d3 : decode cc (pc + 3) = .ok (.dup, 1)) (d4 : decode cc (pc + 4) = .ok (.ldc is, 2)) (d6 : decode cc (pc + 6) = .ok (.invokespecial ic, 3)) (d9 : decode cc (pc + 9) = .ok (.athrow, 1))
    (hout : ∀ x ∈ c.exceptionTable.toList, covers x (pc + 9) = false)
    (hRframes : names.length + 3 < R.frames) (hRlocals : (rest.map fun v => v.category).sum + (13 * (names.length + 1) + 43) ≤ R.locals) (hRcells : cells + 1 ≤ R.cells) (hRslots : slots + 6 ≤ R.slots) (hlocks : meth.locks = false)
    (hx : ∀ t : State, s.vm.Alike t.vm → H.size ≤ t.heap.size → (∀ q : Nat, q < H.size → t.heap[q]? = H[q]?) → XC cls s t)
    (hf : ∀ z ∈ locs, free z.base) (hc : cells + 1 ≤ mc) (hs : slots + 6 ≤ ms) :
    W p l e R s m args below meth c H locs cells slots (vx_MQ below Qc XC args s mc ms free) (F0 m pc ls rest) := by
  intro T hT X
  have htr : e.platform.stackTraces = false := (show e.platform.stackTraces = l.stackTraces by rw [X.admits.platform]).trans hl
  have Y := vx_rebase X (R' := { frames := R.frames, locals := R.locals, cells := 1, slots := 6 }) (Nat.le_refl _) (Nat.le_refl _) hRcells hRslots
  obtain ⟨s', hA⟩ : ∃ z, z = (T.setVm s.vm).setFrames (.invoking m args :: below) := ⟨_, rfl⟩
  rw [← hA] at Y
  have hvm : s'.vm = s.vm := by rw [hA]; rfl
  have hhp : s'.heap = H := by rw [hA]; exact hT
  have hW0 : s.WarmedH s'.vm := by rw [hvm]; exact State.WarmedH.refl s
  have hat' : ∀ w ∈ vx_atS own ic cls names, w.before args s' = true := fun w hw => vx_ot_at hW0 hvm.symm (hgood w (List.mem_cons_of_mem _ (List.mem_cons_of_mem _ hw))) (hat w hw)
  have hk' : (Cond.classLink own ik cls).before args s' = true := vx_ot_at hW0 hvm.symm (hgood _ List.mem_cons_self) hk
  have hini' : (Cond.initialized cls).before args s' = true := vx_ot_at hW0 hvm.symm (hgood _ (List.mem_cons_of_mem _ List.mem_cons_self)) hini
  have hU' : vx_Zq Bundle.tN "UNASSIGNED_STACK" Bundle.steD A s' s'.heap := by rw [hhp]; exact vx_Zq.moved hW0.alike (hU.kept hS.2.1)
  have hN' : vx_Zq Bundle.tN "SUPPRESSED_SENTINEL" Bundle.listD A s' s'.heap := by rw [hhp]; exact vx_Zq.moved hW0.alike (hN.kept hS.2.1)
  have h : ∀ w ∈ Bundle.ownAtoms own ic cls names, w.before args s' = true := vx_own hat' (vx_isRefq hU'.1) (vx_isRefq hN'.1) hU'.2.word hN'.2.word
  have hown' : s'.vm.findClass own = some m.cls := by rw [hvm]; exact hown
  have hins : (Cond.instantiable cls 6).before args s' = true := h _ (by simp [Bundle.ownAtoms])
  obtain ⟨vm₁, cX, kX, hfX, hkX, -, -, X₁, st1⟩ := Y.newCold hexec (own := own) (C := cls) (index := ik) (n := 6) hown' hk' hins hini'
    (g := F0 m pc ls rest) rfl (by rw [hb]; exact d0) (Nat.le_refl _) (Nat.le_refl _)
  generalize hT1 : (T.setVm vm₁).pushCell { cls := cX, slots := kX.instanceTypes.map defaultValue, vm := .none } = T1 at X₁ st1
  have hcat : (Value.ref T.heap.size).category = 1 := rfl
  have hcellA : T1.heap[T.heap.size]? = some (freshCell cX kX) := by rw [← hT1]; exact State.heap_pushCell_size _ _
  have d3' : decode c.code (pc + 3) = .ok (.dup, 1) := by rw [hb]; exact d3
  have d4' : decode c.code (pc + 4) = .ok (.ldc is, 2) := by rw [hb]; exact d4
  have hstr' : vk_R own is text sa s' := vk_R.warm hW0 hstr
  obtain ⟨U, hsteps, hrun, hend, hW, hsame, ce, hce, hO⟩ := X₁.ctorThrowS hexec htr (own := own) (cls := cls) (names := names) (ic := ic) hown' hcls hnames h (fun x hx => nomatch hx) hfX hkX hcellA (by rw [hhp, hT]; exact Nat.le_refl _) (msg := .ref sa) rfl
    (g := { method := m, pc := pc + 6, locals := ls, stack := .ref sa :: .ref T.heap.size :: .ref T.heap.size :: rest, locked := none }) rfl hsize rfl rfl (rest := rest) rfl
    (by rw [hb]; exact d6) (by rw [hb]; exact d9) hout hRframes (by simp only [List.map_cons, List.sum_cons, hcat]; omega) hlocks
  obtain ⟨f1, f2⟩ := vx_frame hsame
  rw [hhp] at f1 f2
  have hWs : s.WarmedH U.vm := State.WarmedH.trans hW0 hW
  have hcl : s.vm.findClass cls = some ce.cls := by
    have h9 := hO.cls
    rw [hvm] at h9
    exact h9
  have hall : s.sameButNew ({ U with vm := s.vm } : State) locs mc ms := by
    subst hA
    obtain ⟨e1, e2⟩ := hsame
    rw [State.setFrames_setFrames] at e1
    have h2 : (T.setVm s.vm).sameButNew ({ U with vm := s.vm } : State) [] (0 + 1) (0 + 6) := ⟨e1, e2⟩
    have h3 := X.same.trans h2
    rw [List.append_nil] at h3
    exact h3.mono hc hs
  refine ⟨U, ?_, .threw T.heap.size, hrun, hend, Or.inr ⟨T.heap.size, rfl, cls, ce, locs, hx U hWs.alike f1 (fun q hq => f2 q hq (fun z hz => nomatch hz)), hce, hO.vm, hcl, hWs, hall, hf⟩⟩
  refine st1 _ ?_
  show Steps p.tables e below (T1.setTop { method := m, pc := pc + 3, locals := ls, stack := .ref T.heap.size :: rest, locked := none }) _
  jvm_step X₁.here [X₁.here.top, hexec, d3', Value.category]
  exact X₁.ldcString hexec (own := own) (text := text) (index := is) (a := sa) hown' hstr'.1 hstr'.2
    (g := { method := m, pc := pc + 4, locals := ls, stack := .ref T.heap.size :: .ref T.heap.size :: rest, locked := none }) rfl d4' _ hsteps
/-- 'throw new E("text")', the text by a wide index -/
theorem vx_throwSW {cc : ByteArray} {pc : Nat} (hexec : p.tables.exec = Jvm.exec) (hb : c.code = cc) (hl : l.stackTraces = false) {own cls text : String} {names : List String} {ik is ic mc ms sa : Nat} {A : Nat → Prop}
    (hown : s.vm.findClass own = some m.cls) (hcls : Bundle.fit cls = true) (hnames : ∀ n ∈ names, Bundle.fit n = true)
    (hk : (Cond.classLink own ik cls).before args s = true) (hini : (Cond.initialized cls).before args s = true) (hstr : vk_R own is text sa s) (hat : ∀ w ∈ vx_atS own ic cls names, w.before args s = true)
    (hgood : ∀ w ∈ Cond.classLink own ik cls :: Cond.initialized cls :: vx_atS own ic cls names, vx_ot w = true)
    (hU : vx_Zq Bundle.tN "UNASSIGNED_STACK" Bundle.steD A s s.heap) (hN : vx_Zq Bundle.tN "SUPPRESSED_SENTINEL" Bundle.listD A s s.heap) (hS : va_S A s.heap H locs) (hsize : ls.size = c.maxLocals)
    (d0 : decode cc pc = .ok (.new ik, 3)) (d3 : decode cc (pc + 3) = .ok (.dup, 1)) (d4 : decode cc (pc + 4) = .ok (.ldc_w is, 3)) (d7 : decode cc (pc + 7) = .ok (.invokespecial ic, 3)) (d10 : decode cc (pc + 10) = .ok (.athrow, 1))
    (hout : ∀ x ∈ c.exceptionTable.toList, covers x (pc + 10) = false)
    (hRframes : names.length + 3 < R.frames) (hRlocals : (rest.map fun v => v.category).sum + (13 * (names.length + 1) + 43) ≤ R.locals) (hRcells : cells + 1 ≤ R.cells) (hRslots : slots + 6 ≤ R.slots) (hlocks : meth.locks = false)
    (hx : ∀ t : State, s.vm.Alike t.vm → H.size ≤ t.heap.size → (∀ q : Nat, q < H.size → t.heap[q]? = H[q]?) → XC cls s t)
    (hf : ∀ z ∈ locs, free z.base) (hc : cells + 1 ≤ mc) (hs : slots + 6 ≤ ms) :
    W p l e R s m args below meth c H locs cells slots (vx_MQ below Qc XC args s mc ms free) (F0 m pc ls rest) := by
  intro T hT X
  have htr : e.platform.stackTraces = false := (show e.platform.stackTraces = l.stackTraces by rw [X.admits.platform]).trans hl
  have Y := vx_rebase X (R' := { frames := R.frames, locals := R.locals, cells := 1, slots := 6 }) (Nat.le_refl _) (Nat.le_refl _) hRcells hRslots
  obtain ⟨s', hA⟩ : ∃ z, z = (T.setVm s.vm).setFrames (.invoking m args :: below) := ⟨_, rfl⟩
  rw [← hA] at Y
  have hvm : s'.vm = s.vm := by rw [hA]; rfl
  have hhp : s'.heap = H := by rw [hA]; exact hT
  have hW0 : s.WarmedH s'.vm := by rw [hvm]; exact State.WarmedH.refl s
  have hat' : ∀ w ∈ vx_atS own ic cls names, w.before args s' = true := fun w hw => vx_ot_at hW0 hvm.symm (hgood w (List.mem_cons_of_mem _ (List.mem_cons_of_mem _ hw))) (hat w hw)
  have hk' : (Cond.classLink own ik cls).before args s' = true := vx_ot_at hW0 hvm.symm (hgood _ List.mem_cons_self) hk
  have hini' : (Cond.initialized cls).before args s' = true := vx_ot_at hW0 hvm.symm (hgood _ (List.mem_cons_of_mem _ List.mem_cons_self)) hini
  have hU' : vx_Zq Bundle.tN "UNASSIGNED_STACK" Bundle.steD A s' s'.heap := by rw [hhp]; exact vx_Zq.moved hW0.alike (hU.kept hS.2.1)
  have hN' : vx_Zq Bundle.tN "SUPPRESSED_SENTINEL" Bundle.listD A s' s'.heap := by rw [hhp]; exact vx_Zq.moved hW0.alike (hN.kept hS.2.1)
  have h : ∀ w ∈ Bundle.ownAtoms own ic cls names, w.before args s' = true := vx_own hat' (vx_isRefq hU'.1) (vx_isRefq hN'.1) hU'.2.word hN'.2.word
  have hown' : s'.vm.findClass own = some m.cls := by rw [hvm]; exact hown
  have hins : (Cond.instantiable cls 6).before args s' = true := h _ (by simp [Bundle.ownAtoms])
  obtain ⟨vm₁, cX, kX, hfX, hkX, -, -, X₁, st1⟩ := Y.newCold hexec (own := own) (C := cls) (index := ik) (n := 6) hown' hk' hins hini'
    (g := F0 m pc ls rest) rfl (by rw [hb]; exact d0) (Nat.le_refl _) (Nat.le_refl _)
  generalize hT1 : (T.setVm vm₁).pushCell { cls := cX, slots := kX.instanceTypes.map defaultValue, vm := .none } = T1 at X₁ st1
  have hcat : (Value.ref T.heap.size).category = 1 := rfl
  have hcellA : T1.heap[T.heap.size]? = some (freshCell cX kX) := by rw [← hT1]; exact State.heap_pushCell_size _ _
  have d3' : decode c.code (pc + 3) = .ok (.dup, 1) := by rw [hb]; exact d3
  have d4' : decode c.code (pc + 4) = .ok (.ldc_w is, 3) := by rw [hb]; exact d4
  have hstr' : vk_R own is text sa s' := vk_R.warm hW0 hstr
  obtain ⟨U, hsteps, hrun, hend, hW, hsame, ce, hce, hO⟩ := X₁.ctorThrowS hexec htr (own := own) (cls := cls) (names := names) (ic := ic) hown' hcls hnames h (fun x hx => nomatch hx) hfX hkX hcellA (by rw [hhp, hT]; exact Nat.le_refl _) (msg := .ref sa) rfl
    (g := { method := m, pc := pc + 7, locals := ls, stack := .ref sa :: .ref T.heap.size :: .ref T.heap.size :: rest, locked := none }) rfl hsize rfl rfl (rest := rest) rfl
    (by rw [hb]; exact d7) (by rw [hb]; exact d10) hout hRframes (by simp only [List.map_cons, List.sum_cons, hcat]; omega) hlocks
  obtain ⟨f1, f2⟩ := vx_frame hsame
  rw [hhp] at f1 f2
  have hWs : s.WarmedH U.vm := State.WarmedH.trans hW0 hW
  have hcl : s.vm.findClass cls = some ce.cls := by
    have h9 := hO.cls
    rw [hvm] at h9
    exact h9
  have hall : s.sameButNew ({ U with vm := s.vm } : State) locs mc ms := by
    subst hA
    obtain ⟨e1, e2⟩ := hsame
    rw [State.setFrames_setFrames] at e1
    have h2 : (T.setVm s.vm).sameButNew ({ U with vm := s.vm } : State) [] (0 + 1) (0 + 6) := ⟨e1, e2⟩
    have h3 := X.same.trans h2
    rw [List.append_nil] at h3
    exact h3.mono hc hs
  refine ⟨U, ?_, .threw T.heap.size, hrun, hend, Or.inr ⟨T.heap.size, rfl, cls, ce, locs, hx U hWs.alike f1 (fun q hq => f2 q hq (fun z hz => nomatch hz)), hce, hO.vm, hcl, hWs, hall, hf⟩⟩
  refine st1 _ ?_
  show Steps p.tables e below (T1.setTop { method := m, pc := pc + 3, locals := ls, stack := .ref T.heap.size :: rest, locked := none }) _
  jvm_step X₁.here [X₁.here.top, hexec, d3', Value.category]
  exact X₁.ldcStringW hexec (own := own) (text := text) (index := is) (a := sa) hown' hstr'.1 hstr'.2
    (g := { method := m, pc := pc + 4, locals := ls, stack := .ref T.heap.size :: .ref T.heap.size :: rest, locked := none }) rfl d4' _ hsteps
end Ends
section Bodies
variable {l : Launch}
theorem vx_ofW {y : MethodName} {ws ws' : List Cond} {rm : Room} {Pc : Array Value → State → Prop} {Qc : Array Value → State → Outcome → State → Prop} {XC : String → State → State → Prop} {mc ms : Nat} {free : Addr → Prop} {cc : ByteArray} {maxL : Nat} {ret : Option FieldType}
    (hy : plainName y.cls = true) (hw : ws = Cond.code y cc maxL ret :: ws')
    (body : ∀ p e s m args below meth c s₁, BodyLoose p l y (headSpec ws rm) cc maxL ret e s m args below meth c s₁ → c.maxLocals = maxL → (∀ x ∈ c.exceptionTable.toList, False) → Pc args s →
      W p l e (headSpec ws rm).room s m args below meth c s.heap [] 0 0 (vx_MQ below Qc XC args s mc ms free) (entryFrame m args maxL)) : vx_Met l y ws rm Pc Qc XC mc ms free := by
  refine MetFree.of_bodyS (code := cc) (maxLocals := maxL) (ret := ret) hy ?_ ?_
  · intro args s m h hn
    obtain ⟨meth, c, h1, h2, h3, h4, h5, h6, -, -⟩ := Cond.code_spec hn (atoms_spec (ws := ws) h _ (by rw [hw]; exact List.mem_cons_self))
    exact ⟨meth, c, h1, h2, h3, h4, h5, h6⟩
  · intro p e s m args below meth c s₁ B hml hP _
    have hh0 : s₁.heap = s.heap := by rw [B.state]; rfl
    have ht : ∀ x ∈ c.exceptionTable.toList, False := by
      obtain ⟨meth9, c9, h1, h2, -, -, -, -, h7, -⟩ := Cond.code_spec B.named (atoms_spec (ws := ws) B.pre _ (by rw [hw]; exact List.mem_cons_self))
      cases Option.some.inj (h1.symm.trans B.method)
      cases Option.some.inj (h2.symm.trans (Stand.of_body B).code)
      intro x hx
      rw [Array.isEmpty_iff.mp h7] at hx
      cases hx
    obtain ⟨t, a1, o, b1, b2, b3⟩ := body p e s m args below meth c s₁ B hml ht hP s₁ hh0 (Stand.of_body B)
    exact ⟨t, o, a1, b1, b2, b3⟩
/-- the table of a body with handlers -/
theorem vx_table {p : Program} {x y : MethodName} {S : Spec} {cc bytes : ByteArray} {maxL maxL' : Nat} {ret ret' : Option FieldType} {e : Env} {s s₁ : State} {m : MethodId} {args : Array Value} {below : List Frame} {meth : Method} {c : Code} {hh : List (Nat × Nat × Nat × Nat)}
    (B : BodyLoose p l y S cc maxL ret e s m args below meth c s₁) (h : (Cond.codeWith y bytes maxL' ret' hh).before args s = true) : c.exceptionTable.toList = tableOf hh := by
  obtain ⟨m9, meth9, c9, hn9, h1, h2, -, -, h6, -⟩ := Cond.codeWith_spec h
  cases Option.some.inj (hn9.symm.trans B.named)
  cases Option.some.inj (h1.symm.trans B.method)
  cases Option.some.inj (h2.symm.trans (Stand.of_body B).code)
  rw [← h6, table_eq]
end Bodies
end VXA
/-! ===== END ===== -/
/-! ===== BEGIN a static call of a method with an exception table ===== -/
section VXS
variable {p : Program} {l : Launch} {e : Env} {R : Room} {s : State} {m : MethodId} {args : Array Value} {below : List Frame} {meth : Method} {c : Code} {T : State} {H : Heap} {locs : List Loc} {cells slots : Nat}
abbrev vx_CSW (R : Room) (s : State) (args : Array Value) (own : String) (index : Nat) (y : MethodName) (bytes : ByteArray) (maxL : Nat) (ret : Option FieldType) (hh : List (Nat × Nat × Nat × Nat)) (ws : List Cond) (rm : Room) (mc ms n : Nat) : Prop :=
  (rm.cells = mc ∧ rm.slots = ms ∧ rm.frames + 1 ≤ R.frames ∧ 8 + (maxL + 11) + rm.locals ≤ R.locals ∧ (∀ w ∈ ws, ∀ (a' : Array Value) (U : State), s.WarmedH U.vm → w.before a' U = true) ∧ Cond.codeWith y bytes maxL ret hh ∈ ws) ∧
  (Cond.codeWith y bytes maxL ret hh).before args s = true ∧ (Cond.initialized y.cls).before args s = true ∧ (y.cls ≠ "java/lang/invoke/MethodHandle" ∧ y.cls ≠ "java/lang/invoke/VarHandle") ∧
  (∀ sig, parseMethodDescriptor y.desc = some sig → n = sig.parameters.length) ∧ (Cond.methodLink own index y).before args s = true ∧ (Cond.static y).before args s = true
theorem vx_cwSW {own : String} {index maxL mc ms : Nat} {y : MethodName} {bytes : ByteArray} {ret : Option FieldType} {hh : List (Nat × Nat × Nat × Nat)} {Ts ws ws' : List Cond} {rm : Room} (n : Nat) (ht : ∀ w ∈ Ts, w.before args s = true) (hT : GoodIn Ts (va_wsS own index y ws)) (hw : ws = Cond.codeWith y bytes maxL ret hh :: ws') (hrc : rm.cells = mc) (hrs : rm.slots = ms)
    (hd : y.cls ≠ "java/lang/invoke/MethodHandle" ∧ y.cls ≠ "java/lang/invoke/VarHandle" ∧ (parseMethodDescriptor y.desc).map (fun d => d.parameters.length) = some n) (hR : rm.frames + 1 ≤ R.frames ∧ 8 + (maxL + 11) + rm.locals ≤ R.locals) :
    vx_CSW R s args own index y bytes maxL ret hh ws rm mc ms n := by
  have ok : ∀ w ∈ va_wsS own index y ws, w.before args s = true := fun w h => ht w (hT w h).1
  have hG : GoodIn Ts ws := fun w h => hT w (by unfold va_wsS; exact List.mem_append_right _ h)
  have hc : Cond.codeWith y bytes maxL ret hh ∈ ws := by rw [hw]; exact List.mem_cons_self
  refine ⟨⟨hrc, hrs, hR.1, hR.2, pay_in ht hG, hc⟩, ht _ (hG _ hc).1, ok _ (by simp [va_wsS]), ⟨hd.1, hd.2.1⟩, fun sig h => ?_, ok _ (by simp [va_wsS]), ok _ (by simp [va_wsS])⟩
  have h2 := hd.2.2
  rw [h] at h2
  exact (Option.some.inj h2).symm
theorem vx_callSW (X : Stand p l e R s m args below meth c T locs cells slots) (hexec : p.tables.exec = Jvm.exec) {own : String} {index : Nat} {y : MethodName} {bytes : ByteArray} {maxL : Nat} {ret : Option FieldType} {hh : List (Nat × Nat × Nat × Nat)}
    (hown : s.vm.findClass own = some m.cls) (hlink : (Cond.methodLink own index y).before args s = true) (hstat : (Cond.static y).before args s = true) (hinit : (Cond.initialized y.cls).before args s = true)
    (hcode : (Cond.codeWith y bytes maxL ret hh).before args s = true) (hy : y.cls ≠ "java/lang/invoke/MethodHandle" ∧ y.cls ≠ "java/lang/invoke/VarHandle")
    {W9 : Nat} {Pre : Pt → Array Value → Prop} {Post : Pt → Array Value → Option Value → Pt → Prop} (hK : Back l R p e below s args y 3 W9 Pre Post)
    {g : JFrame} (hg : g.method = m) (hsize : g.locals.size = c.maxLocals) {argsL rest : List Value} (hlen : ∀ sig, parseMethodDescriptor y.desc = some sig → argsL.length = sig.parameters.length)
    (hstack : g.stack = argsL.reverse ++ rest) (hW : 2 * g.monitorRoom + (rest.map fun v => v.category).sum ≤ W9) (hdg : decode c.code g.pc = .ok (.invokestatic index, 3))
    (hpre : ∀ vm₁, s.WarmedH vm₁ → Pre ⟨T.setVm vm₁, locs, cells, slots⟩ argsL.toArray) :
    ∃ (v : Option Value) (vm₁ : Vm) (B : Pt), s.WarmedH vm₁ ∧ Stand p l e R s m args below meth c B.U B.locs B.cells B.slots ∧ Post ⟨T.setVm vm₁, locs, cells, slots⟩ argsL.toArray v B ∧
      ∀ target, Steps p.tables e below (B.U.setTop { g with pc := g.pc + 3, stack := v.toList ++ rest }) target → Steps p.tables e below (T.setTop g) target := by
  obtain ⟨mk, methM, cM, hnamed, hmethM, -, -, -, -, -, -, hsigM⟩ := Cond.codeWith_spec hcode
  have hstatic : methM.isStatic = true := Cond.static_spec hnamed hmethM hstat
  obtain ⟨kP, hkP, -⟩ := className_of_methodNamed hnamed
  have hinitP : kP.init = .initialized := Cond.initialized_spec (findClass_of_methodNamed hnamed) hkP hinit
  obtain ⟨vm₁, X₁, hstep₁⟩ := X.invokestatic hexec hown hlink hnamed hmethM hstatic hkP hinitP hy (g := g) hg (argsL := argsL) (rest := rest) (hlen _ hsigM) hstack hdg
  obtain ⟨v, B, X', hpost, hsteps⟩ := hK m meth c ⟨T.setVm vm₁, locs, cells, slots⟩ { g with stack := rest } (.invokestatic index) mk argsL.toArray X₁ hg hsize hdg hW (X₁.named hnamed) (hpre vm₁ X₁.warmed)
  exact ⟨v, vm₁, B, X₁.warmed, X', hpost, fun target h => hstep₁ _ fun acts => by rw [doInvoke_state]; exact hsteps.trans h⟩
theorem vx_runSW {y : MethodName} {bytes cc : ByteArray} {maxL nL mc ms n index : Nat} {ret : Option FieldType} {hh : List (Nat × Nat × Nat × Nat)} {ws : List Cond} {rm : Room} {Pc : Array Value → State → Prop} {Qc : Array Value → State → Outcome → State → Prop} {free : Addr → Prop} {Ts : List Cond} {own : String} {As rest : List Value} {g : JFrame}
    (S : CallFix p m c cc nL s args Ts own) (hM : Met l y ws rm Pc Qc mc ms free) (cw : vx_CSW R s args own index y bytes maxL ret hh ws rm mc ms n) (hp : PreS s H Pc As)
    (hg : g.method = m) (hn : As.length = n) (hsize : g.locals.size = nL) (hstack : g.stack = As.reverse ++ rest) (hW : 2 * g.monitorRoom + (rest.map fun v => v.category).sum ≤ 8) (hdg : decode cc g.pc = .ok (.invokestatic index, 3)) (hf : cells + mc ≤ R.cells ∧ slots + ms ≤ R.slots) :
    va_Run p l e R s m args below meth c H locs cells slots mc ms g rest (Qc As.toArray) (free) := by
  obtain ⟨⟨hrc, hrs, hfr, hlo, hws, hcw⟩, hcode, hini, hy, hlen, hl, hstt⟩ := cw
  have hK : Back l R p e below s args y 3 8 (PreOf R mc ms Pc) (PostOf Qc mc ms free) := va_backW (hh := hh) (bytes := bytes) (maxL := maxL) (ret := ret) hM hp.1 hrc hrs hfr hlo hws hcw (fun a' U hW => word_at hW (Or.inl (by first | rfl | simp [Cond.onTables, Cond.keeps, Cond.steady])) hini)
  obtain ⟨hx, hb, hml, ho, -⟩ := S
  intro T hT X
  obtain ⟨v, vm₁, ⟨U', l2, c2, s2⟩, hW₁, X', ⟨g', mk, t, L, e1, e2, hq, h1, hL, h2, h3⟩, st⟩ := vx_callSW X hx (hh := hh) (bytes := bytes) (maxL := maxL) (ret := ret) ho hl hstt hini hcode hy hK hg (hsize.trans hml.symm) (argsL := As) (rest := rest) (fun sig h => hn.trans (hlen sig h)) hstack hW (by rw [hb]; exact hdg)
    (fun vm₁ hW₁ => ⟨hf.1, hf.2, hp.2 (T.setVm vm₁) hT hW₁⟩)
  dsimp only [Pt.U, Pt.locs, Pt.cells, Pt.slots] at X' e1 e2 h1 h2 h3 st
  subst h1; subst h2; subst h3
  exact ⟨v, (T.setVm vm₁).calling g' mk As.toArray, t, U', L, hT, X', hL, e1, e2, hq, st⟩
/-- not caught here, past rows that name other classes: it goes on to the caller -/
theorem vx_outP {p : Program} {l : Launch} {e : Env} {R : Room} {s : State} {m : MethodId} {args : Array Value} {below : List Frame} {meth : Method} {c : Code} {H : Heap} {locs : List Loc} {cells slots : Nat} {free : Addr → Prop} {ls : Array Slot} {rest : List Value} {Qc : Array Value → State → Outcome → State → Prop} {XC : String → State → State → Prop}
    {pc : Nat} {own E : String} {ce : Cell} {q : Addr} {mc ms : Nat} (hown : s.vm.findClass own = some m.cls) (hlocks : meth.locks = false)
    (hpass : ∀ z ∈ c.exceptionTable.toList, covers z pc = false ∨ (z.catchType ≠ 0 ∧ ∃ nm : String, (Cond.classLink own z.catchType nm).before args s = true ∧ va_Nc E nm s)) (hcell : H[q]? = some ce) (hv : ce.vm = .none) (hcl : s.vm.findClass E = some ce.cls)
    (hx : ∀ t : State, t.heap = H → s.vm.Alike t.vm → XC E s t) (hf : ∀ z ∈ locs, free z.base) (hc : cells ≤ mc) (hs : slots ≤ ms) :
    vx_W p l e R s m args below meth c H locs cells slots (vx_MQ below Qc XC args s mc ms free) (F0 m pc ls rest) q := by
  intro T hT X
  have hpl : e.platform.magicAccessors = ({} : Platform).magicAccessors := by rw [X.admits.platform]
  obtain ⟨vm', hW', X', st⟩ := X.outThrough hlocks q (g := F0 m pc ls rest) rfl rfl rfl (cell := ce) (by rw [hT]; exact hcell) (by rw [hv]; rfl)
    (by obtain ⟨k9, h9, -⟩ := Vm.findClass_spec hcl; exact ⟨k9, h9⟩) (fun z hz => by
      rcases hpass z hz with h | ⟨hz0, nm, hl1, hn1⟩
      · exact Or.inl h
      · obtain ⟨c6, hc6, hcl6⟩ := Cond.classLink_spec hown hl1 e.platform hpl
        obtain ⟨a8, b8, h1, h2, h3⟩ := hn1
        cases Option.some.inj (h1.symm.trans hcl)
        cases Option.some.inj (h2.symm.trans hc6)
        exact Or.inr ⟨hz0, _, hcl6, h3⟩)
  obtain ⟨g₀, hfr⟩ := X'.frames_eq
  have hcell9 : ((T.setVm vm').setFrames (.throwing q :: below)).heap[q]? = some ce := by
    show T.heap[q]? = some ce
    rw [hT]; exact hcell
  have hend : Ended ((T.setVm vm').setFrames (.throwing q :: below)) below (.threw q) := State.frames_setFrames _ (State.cur_lt_of_frames hfr)
  refine ⟨(T.setVm vm').setFrames (.throwing q :: below), ?_, .threw q, X'.here.running, hend, Or.inr ⟨q, rfl, E, ce, locs, hx _ hT (X'.ends _).1.alike, hcell9, hv, hcl, (X'.ends _).1, (X'.ends _).2.mono hc hs, hf⟩⟩
  rw [X.pushThrowing_eq]
  exact st
/-- a thing of a world lies in the heap -/
theorem vx_lt {D : va_G} {cl : List vw_C} {ws : va_W} {H1 : Heap} (h : va_P D cl ws H1) {k : Nat} {q : Nat × va_E} (hk : ws[k]? = some q) : q.1 < H1.size := (h k q hk).lt
end VXS
/-! ===== END ===== -/
/-! ===== BEGIN methods with a table of their own: called by a name, returning or throwing ===== -/
section VXH
/-! vx_backW, vx_callVX, vx_callSX, vx_callVW, vx_runVW, vx_runVX, vx_runSX, vx_ofWH follow the same proofs as their sisters above (Free/Laws.lean, Shelf42/LK1.lean); vx_outP calls Shelf42/NT130.lean (outThrough). -/
section
variable {l : Launch} {R : Room} {p : Program} {e : Env} {below : List Frame} {s : State} {sargs : Array Value} {y : MethodName} {len W9 : Nat}
theorem vx_backW {ws : List Cond} {rm : Room} {Pc : Array Value → State → Prop} {Qc : Array Value → State → Outcome → State → Prop} {XC : String → State → State → Prop} {mc ms : Nat} {free : Addr → Prop} {bytes : ByteArray} {maxL : Nat} {ret : Option FieldType} {hh : List (Nat × Nat × Nat × Nat)}
    (hM : vx_Met l y ws rm Pc Qc XC mc ms free) (hblind : FrameBlind Pc) (hrc : rm.cells = mc) (hrs : rm.slots = ms)
    (hframes : rm.frames + 1 ≤ R.frames) (hlocals : W9 + (maxL + 11) + rm.locals ≤ R.locals)
    (hws : ∀ w ∈ ws, ∀ a' U, s.WarmedH U.vm → w.before a' U = true) (hcode : Cond.codeWith y bytes maxL ret hh ∈ ws) (hinit : ∀ a' U, s.WarmedH U.vm → (Cond.initialized y.cls).before a' U = true) :
    vx_Back l R p e below s sargs y len W9 (PreOf R mc ms Pc) (PostOf Qc mc ms free) (vx_Post XC mc ms free) := by
  intro m meth c A g ig mk a X hg hsize hdg hW hn hp
  have h1 : (headSpec ws rm).pre.before a A.U = true := atoms_intro fun w hw => hws w hw _ _ X.warmed
  have h2 : (Cond.codeWith y bytes maxL ret hh).before a A.U = true := hws _ hcode _ _ X.warmed
  have h3 : (Cond.initialized y.cls).before a A.U = true := hinit _ _ X.warmed
  have h4 : A.cells + (headSpec ws rm).room.cells ≤ R.cells := by rw [show (headSpec ws rm).room.cells = mc from hrc]; exact hp.1
  have h5 : A.slots + (headSpec ws rm).room.slots ≤ R.slots := by rw [show (headSpec ws rm).room.slots = ms from hrs]; exact hp.2.1
  have hPc : Pc a (A.U.calling g mk a) := hblind _ _ _ _ hp.2.2
  obtain ⟨U, Ls, c0, s0⟩ := A
  dsimp only [Pt.U, Pt.locs, Pt.cells, Pt.slots] at h1 h2 h3 h4 h5 X hn hPc ⊢
  obtain ⟨m9, methY, cY, hn9, hmY, hcY, -, hlY, -⟩ := Cond.codeWith_spec h2
  cases Option.some.inj (hn9.symm.trans hn)
  obtain ⟨kY, hkY, -⟩ := className_of_methodNamed hn
  have hinitY : kY.init = .initialized := Cond.initialized_spec (findClass_of_methodNamed hn) hkY h3
  have h : At U g.method c below := by rw [hg]; exact X.here
  have hlocals9 : W9 + (maxL + 11) + (headSpec ws rm).room.locals ≤ R.locals := hlocals
  have happ : (headSpec ws rm).appliesLoose y e.platform (U.calling g mk a) = true :=
    Spec.appliesLoose_calling (g := g) h hdg hn hkY hinitY
      (X.room_calling (g := g) (R' := (headSpec ws rm).room) hsize hmY hcY hframes (by rw [hlY]; omega) h4 h5) h1
  obtain ⟨mid, hmid⟩ := h.above
  have hfr : (U.setTop g).frames = (.java g :: mid) ++ below := by rw [State.frames_setTop' g h.top, hmid]; rfl
  obtain ⟨o, s₂, hsteps, -, hend, hq⟩ := Steps.callFree hM p X.admits X.cas X.clock (acts := []) hfr happ hPc trivial
  have hq' : vx_Q Qc XC mc ms free a (U.calling g mk a) o s₂ := hq
  rw [State.frames_setTop' g h.top] at hend
  obtain ⟨g₀, hg0⟩ := Option.isSome_iff_exists.mp h.top
  obtain ⟨r, hr⟩ := State.topJava?_eq_some.mp hg0
  have hr' : (({ U with heap := s₂.heap, slotsUsed := s₂.slotsUsed } : State).setVm s₂.vm).frames = .java g₀ :: r := hr
  rcases hq' with ⟨hqc, L, hfe, hL⟩ | ⟨q, rfl, E, ce, L, hx, hce, hcv, hcl, hW₂, hsm, hL⟩
  · obtain ⟨⟨v, rfl⟩, hW₂, e2, q2, q3, q4, q5, q6⟩ := id hfe
    have e3 : s₂ = ({ (U.calling g mk a).setFrames s₂.frames with heap := s₂.heap, slotsUsed := s₂.slotsUsed } : State).setVm s₂.vm := by
      have : s₂ = ({ s₂ with vm := (U.calling g mk a).vm } : State).setVm s₂.vm := rfl
      rw [e2] at this
      exact this
    obtain ⟨c₂, i₂, len₂, hc₂, hd₂, hf₂⟩ := hend
    have hW' : U.WarmedH s₂.vm := hW₂
    have hcc : c₂ = c := by
      have h1 : s₂.code? g.method = U.code? g.method := by
        rw [State.code?_eq, State.code?_eq, hW'.alike.method?]
      exact Option.some.inj (hc₂.symm.trans (h1.trans h.code))
    subst hcc
    have hlen : len₂ = len := by rw [hdg] at hd₂; cases hd₂; rfl
    subst hlen
    have hs₂ : s₂ = (({ U with heap := s₂.heap, slotsUsed := s₂.slotsUsed } : State).setVm s₂.vm).setTop { g with pc := g.pc + len₂, stack := v.toList ++ g.stack } := by
      refine e3.trans ?_
      rw [hf₂, State.calling_eq h.top, State.setFrames_setFrames, State.setTop_of_frames _ hr', hr]
      rfl
    have hsame : U.sameButNew ({ U with heap := s₂.heap, slotsUsed := s₂.slotsUsed } : State) L mc ms := by
      refine ⟨?_, q2, q3, q4, q5, q6⟩
      obtain ⟨t, ht, -⟩ := State.frames_cons hr
      show ({ U with heap := s₂.heap, slotsUsed := s₂.slotsUsed } : State) = { U.setFrames U.frames with heap := s₂.heap, slotsUsed := s₂.slotsUsed }
      rw [State.setFrames_self ht]
    subst hg
    refine Or.inl ⟨v, ⟨(({ U with heap := s₂.heap, slotsUsed := s₂.slotsUsed } : State).setVm s₂.vm), Ls ++ L, c0 + mc, s0 + ms⟩,
      ⟨X.admits, X.cas, X.clock, X.frames, X.room, X.hears, X.method, X.code, (X.here.setHeapUsed s₂.heap s₂.slotsUsed).setVm hW'.alike, X.tail, State.WarmedH.trans X.warmed hW', X.limits, X.bytes, X.same.trans (hsame.setVm s.vm)⟩,
      ⟨g, mk, s₂, L, rfl, rfl, hqc, rfl, hL, rfl, rfl⟩, ?_⟩
    show Steps p.tables e below _ ((({ U with heap := s₂.heap, slotsUsed := s₂.slotsUsed } : State).setVm s₂.vm).setTop { g with pc := g.pc + len₂, stack := v.toList ++ g.stack })
    rw [← hs₂]
    exact hsteps
  · obtain ⟨e2, q2, q3, q4, q5, q6⟩ := id hsm
    have e3 : s₂ = ({ (U.calling g mk a).setFrames s₂.frames with heap := s₂.heap, slotsUsed := s₂.slotsUsed } : State).setVm s₂.vm := by
      have : s₂ = ({ s₂ with vm := (U.calling g mk a).vm } : State).setVm s₂.vm := rfl
      rw [e2] at this
      exact this
    have hf₂ : s₂.frames = .throwing q :: .java g :: U.frames.tail := hend
    have hW' : U.WarmedH s₂.vm := hW₂
    have hs₂ : s₂ = ((({ U with heap := s₂.heap, slotsUsed := s₂.slotsUsed } : State).setVm s₂.vm).setTop g).pushFrame (.throwing q) := by
      refine e3.trans ?_
      rw [hf₂, State.calling_eq h.top, State.setFrames_setFrames, State.pushFrame, State.frames_setTop _ hr', State.setTop_of_frames _ hr', State.setFrames_setFrames, hr]
      rfl
    have hsame : U.sameButNew ({ U with heap := s₂.heap, slotsUsed := s₂.slotsUsed } : State) L mc ms := by
      refine ⟨?_, q2, q3, q4, q5, q6⟩
      obtain ⟨t, ht, -⟩ := State.frames_cons hr
      show ({ U with heap := s₂.heap, slotsUsed := s₂.slotsUsed } : State) = { U.setFrames U.frames with heap := s₂.heap, slotsUsed := s₂.slotsUsed }
      rw [State.setFrames_self ht]
    subst hg
    refine Or.inr ⟨q, ⟨(({ U with heap := s₂.heap, slotsUsed := s₂.slotsUsed } : State).setVm s₂.vm), Ls ++ L, c0 + mc, s0 + ms⟩,
      ⟨X.admits, X.cas, X.clock, X.frames, X.room, X.hears, X.method, X.code, (X.here.setHeapUsed s₂.heap s₂.slotsUsed).setVm hW'.alike, X.tail, State.WarmedH.trans X.warmed hW', X.limits, X.bytes, X.same.trans (hsame.setVm s.vm)⟩,
      ⟨g, mk, s₂, L, E, ce, rfl, rfl, hx, hce, hcv, hcl, rfl, hL, rfl, rfl⟩, ?_⟩
    show Steps p.tables e below _ (((({ U with heap := s₂.heap, slotsUsed := s₂.slotsUsed } : State).setVm s₂.vm).setTop g).pushFrame (.throwing q))
    rw [← hs₂]
    exact hsteps
end
variable {p : Program} {l : Launch} {e : Env} {R : Room} {s : State} {m : MethodId} {args : Array Value} {below : List Frame} {meth : Method} {c : Code} {T : State} {H : Heap} {locs : List Loc} {cells slots : Nat}
theorem vx_callVX (X : Stand p l e R s m args below meth c T locs cells slots) (hexec : p.tables.exec = Jvm.exec) {own C : String} {index : Nat} {y : MethodName} {bytes : ByteArray} {maxL : Nat} {ret : Option FieldType} {hh : List (Nat × Nat × Nat × Nat)}
    (hown : s.vm.findClass own = some m.cls) (hlink : (Cond.methodLink own index y).before args s = true) (hinst : (Cond.instanceMethod y).before args s = true) (hsel : (Cond.selects C y y).before args s = true)
    (hcode : (Cond.codeWith y bytes maxL ret hh).before args s = true) (hy : y.cls ≠ "java/lang/invoke/MethodHandle" ∧ y.cls ≠ "java/lang/invoke/VarHandle")
    {W9 : Nat} {Pre : Pt → Array Value → Prop} {Post : Pt → Array Value → Option Value → Pt → Prop} {PostX : Pt → Array Value → Addr → Pt → Prop} (hK : vx_Back l R p e below s args y 3 W9 Pre Post PostX)
    {b : Addr} {cellB : Cell} (hcell : T.heap[b]? = some cellB) (hobj : cellB.vm.isStatics = false) (hcls : s.vm.findClass C = some cellB.cls)
    {g : JFrame} (hg : g.method = m) (hsize : g.locals.size = c.maxLocals) {argsL rest : List Value} (hlen : ∀ sig, parseMethodDescriptor y.desc = some sig → argsL.length = sig.parameters.length)
    (hstack : g.stack = argsL.reverse ++ .ref b :: rest) (hW : 2 * g.monitorRoom + (rest.map fun v => v.category).sum ≤ W9) (hdg : decode c.code g.pc = .ok (.invokevirtual index, 3))
    (hpre : ∀ vm₁, s.WarmedH vm₁ → Pre ⟨T.setVm vm₁, locs, cells, slots⟩ (Value.ref b :: argsL).toArray) :
    (∃ (v : Option Value) (vm₁ : Vm) (B : Pt), s.WarmedH vm₁ ∧ Stand p l e R s m args below meth c B.U B.locs B.cells B.slots ∧ Post ⟨T.setVm vm₁, locs, cells, slots⟩ (Value.ref b :: argsL).toArray v B ∧
      ∀ target, Steps p.tables e below (B.U.setTop { g with pc := g.pc + 3, stack := v.toList ++ rest }) target → Steps p.tables e below (T.setTop g) target) ∨
    (∃ (q : Addr) (vm₁ : Vm) (B : Pt), s.WarmedH vm₁ ∧ Stand p l e R s m args below meth c B.U B.locs B.cells B.slots ∧ PostX ⟨T.setVm vm₁, locs, cells, slots⟩ (Value.ref b :: argsL).toArray q B ∧
      Steps p.tables e below (T.setTop g) ((B.U.setTop { g with stack := rest }).pushFrame (.throwing q))) := by
  obtain ⟨mk, methM, hnamed, hmethM, hstM, habM⟩ := Cond.instanceMethod_spec hinst
  obtain ⟨m8, methM', cM, hn8, hmethM', -, -, -, -, -, -, hsigM⟩ := Cond.codeWith_spec hcode
  cases Option.some.inj (hn8.symm.trans hnamed)
  cases hmethM.symm.trans hmethM'
  obtain ⟨c2, r2, m2, q1, q2, q3, q4, kP, hkP, hkPi⟩ := Cond.selects_spec hsel
  cases hcls.symm.trans q1
  cases (State.methodFound?_of_named hnamed hy).symm.trans q2
  cases hnamed.symm.trans q3
  have hselP : selectMethod e.platform s.vm cellB.cls mk = .method mk := by rw [Launch.admits_selectMethod X.admits]; exact q4
  obtain ⟨vm₁, X₁, hstep₁⟩ := X.invokevirtual hexec hown hlink hnamed hmethM hstM hkP hkPi hy (a := b) (cell := cellB) hcell
    (fun z h => by rw [h] at hobj; cases hobj) hselP hmethM habM hkP hkPi (g := g) hg (argsL := argsL) (rest := rest) (hlen _ hsigM) hstack hdg
  rcases hK m meth c ⟨T.setVm vm₁, locs, cells, slots⟩ { g with stack := rest } (.invokevirtual index) mk (Value.ref b :: argsL).toArray X₁ hg hsize hdg hW (X₁.named hnamed) (hpre vm₁ X₁.warmed) with ⟨v, B, X', hpost, hsteps⟩ | ⟨q, B, X', hpost, hsteps⟩
  · exact Or.inl ⟨v, vm₁, B, X₁.warmed, X', hpost, fun target h => hstep₁ _ fun acts => by rw [doInvoke_state]; exact hsteps.trans h⟩
  · exact Or.inr ⟨q, vm₁, B, X₁.warmed, X', hpost, hstep₁ _ fun acts => by rw [doInvoke_state]; exact hsteps⟩
theorem vx_callSX (X : Stand p l e R s m args below meth c T locs cells slots) (hexec : p.tables.exec = Jvm.exec) {own : String} {index : Nat} {y : MethodName} {bytes : ByteArray} {maxL : Nat} {ret : Option FieldType} {hh : List (Nat × Nat × Nat × Nat)}
    (hown : s.vm.findClass own = some m.cls) (hlink : (Cond.methodLink own index y).before args s = true) (hstat : (Cond.static y).before args s = true) (hinit : (Cond.initialized y.cls).before args s = true)
    (hcode : (Cond.codeWith y bytes maxL ret hh).before args s = true) (hy : y.cls ≠ "java/lang/invoke/MethodHandle" ∧ y.cls ≠ "java/lang/invoke/VarHandle")
    {W9 : Nat} {Pre : Pt → Array Value → Prop} {Post : Pt → Array Value → Option Value → Pt → Prop} {PostX : Pt → Array Value → Addr → Pt → Prop} (hK : vx_Back l R p e below s args y 3 W9 Pre Post PostX)
    {g : JFrame} (hg : g.method = m) (hsize : g.locals.size = c.maxLocals) {argsL rest : List Value} (hlen : ∀ sig, parseMethodDescriptor y.desc = some sig → argsL.length = sig.parameters.length)
    (hstack : g.stack = argsL.reverse ++ rest) (hW : 2 * g.monitorRoom + (rest.map fun v => v.category).sum ≤ W9) (hdg : decode c.code g.pc = .ok (.invokestatic index, 3))
    (hpre : ∀ vm₁, s.WarmedH vm₁ → Pre ⟨T.setVm vm₁, locs, cells, slots⟩ argsL.toArray) :
    (∃ (v : Option Value) (vm₁ : Vm) (B : Pt), s.WarmedH vm₁ ∧ Stand p l e R s m args below meth c B.U B.locs B.cells B.slots ∧ Post ⟨T.setVm vm₁, locs, cells, slots⟩ argsL.toArray v B ∧
      ∀ target, Steps p.tables e below (B.U.setTop { g with pc := g.pc + 3, stack := v.toList ++ rest }) target → Steps p.tables e below (T.setTop g) target) ∨
    (∃ (q : Addr) (vm₁ : Vm) (B : Pt), s.WarmedH vm₁ ∧ Stand p l e R s m args below meth c B.U B.locs B.cells B.slots ∧ PostX ⟨T.setVm vm₁, locs, cells, slots⟩ argsL.toArray q B ∧
      Steps p.tables e below (T.setTop g) ((B.U.setTop { g with stack := rest }).pushFrame (.throwing q))) := by
  obtain ⟨mk, methM, cM, hnamed, hmethM, -, -, -, -, -, -, hsigM⟩ := Cond.codeWith_spec hcode
  have hstatic : methM.isStatic = true := Cond.static_spec hnamed hmethM hstat
  obtain ⟨kP, hkP, -⟩ := className_of_methodNamed hnamed
  have hinitP : kP.init = .initialized := Cond.initialized_spec (findClass_of_methodNamed hnamed) hkP hinit
  obtain ⟨vm₁, X₁, hstep₁⟩ := X.invokestatic hexec hown hlink hnamed hmethM hstatic hkP hinitP hy (g := g) hg (argsL := argsL) (rest := rest) (hlen _ hsigM) hstack hdg
  rcases hK m meth c ⟨T.setVm vm₁, locs, cells, slots⟩ { g with stack := rest } (.invokestatic index) mk argsL.toArray X₁ hg hsize hdg hW (X₁.named hnamed) (hpre vm₁ X₁.warmed) with ⟨v, B, X', hpost, hsteps⟩ | ⟨q, B, X', hpost, hsteps⟩
  · exact Or.inl ⟨v, vm₁, B, X₁.warmed, X', hpost, fun target h => hstep₁ _ fun acts => by rw [doInvoke_state]; exact hsteps.trans h⟩
  · exact Or.inr ⟨q, vm₁, B, X₁.warmed, X', hpost, hstep₁ _ fun acts => by rw [doInvoke_state]; exact hsteps⟩
theorem vx_callVW (X : Stand p l e R s m args below meth c T locs cells slots) (hexec : p.tables.exec = Jvm.exec) {own C : String} {index : Nat} {y : MethodName} {bytes : ByteArray} {maxL : Nat} {ret : Option FieldType} {hh : List (Nat × Nat × Nat × Nat)}
    (hown : s.vm.findClass own = some m.cls) (hlink : (Cond.methodLink own index y).before args s = true) (hinst : (Cond.instanceMethod y).before args s = true) (hsel : (Cond.selects C y y).before args s = true)
    (hcode : (Cond.codeWith y bytes maxL ret hh).before args s = true) (hy : y.cls ≠ "java/lang/invoke/MethodHandle" ∧ y.cls ≠ "java/lang/invoke/VarHandle")
    {W9 : Nat} {Pre : Pt → Array Value → Prop} {Post : Pt → Array Value → Option Value → Pt → Prop} (hK : Back l R p e below s args y 3 W9 Pre Post)
    {b : Addr} {cellB : Cell} (hcell : T.heap[b]? = some cellB) (hobj : cellB.vm.isStatics = false) (hcls : s.vm.findClass C = some cellB.cls)
    {g : JFrame} (hg : g.method = m) (hsize : g.locals.size = c.maxLocals) {argsL rest : List Value} (hlen : ∀ sig, parseMethodDescriptor y.desc = some sig → argsL.length = sig.parameters.length)
    (hstack : g.stack = argsL.reverse ++ .ref b :: rest) (hW : 2 * g.monitorRoom + (rest.map fun v => v.category).sum ≤ W9) (hdg : decode c.code g.pc = .ok (.invokevirtual index, 3))
    (hpre : ∀ vm₁, s.WarmedH vm₁ → Pre ⟨T.setVm vm₁, locs, cells, slots⟩ (Value.ref b :: argsL).toArray) :
    ∃ (v : Option Value) (vm₁ : Vm) (B : Pt), s.WarmedH vm₁ ∧ Stand p l e R s m args below meth c B.U B.locs B.cells B.slots ∧ Post ⟨T.setVm vm₁, locs, cells, slots⟩ (Value.ref b :: argsL).toArray v B ∧
      ∀ target, Steps p.tables e below (B.U.setTop { g with pc := g.pc + 3, stack := v.toList ++ rest }) target → Steps p.tables e below (T.setTop g) target := by
  obtain ⟨mk, methM, hnamed, hmethM, hstM, habM⟩ := Cond.instanceMethod_spec hinst
  obtain ⟨m8, methM', cM, hn8, hmethM', -, -, -, -, -, -, hsigM⟩ := Cond.codeWith_spec hcode
  cases Option.some.inj (hn8.symm.trans hnamed)
  cases hmethM.symm.trans hmethM'
  obtain ⟨c2, r2, m2, q1, q2, q3, q4, kP, hkP, hkPi⟩ := Cond.selects_spec hsel
  cases hcls.symm.trans q1
  cases (State.methodFound?_of_named hnamed hy).symm.trans q2
  cases hnamed.symm.trans q3
  have hselP : selectMethod e.platform s.vm cellB.cls mk = .method mk := by rw [Launch.admits_selectMethod X.admits]; exact q4
  obtain ⟨vm₁, X₁, hstep₁⟩ := X.invokevirtual hexec hown hlink hnamed hmethM hstM hkP hkPi hy (a := b) (cell := cellB) hcell
    (fun z h => by rw [h] at hobj; cases hobj) hselP hmethM habM hkP hkPi (g := g) hg (argsL := argsL) (rest := rest) (hlen _ hsigM) hstack hdg
  obtain ⟨v, B, X', hpost, hsteps⟩ := hK m meth c ⟨T.setVm vm₁, locs, cells, slots⟩ { g with stack := rest } (.invokevirtual index) mk (Value.ref b :: argsL).toArray X₁ hg hsize hdg hW (X₁.named hnamed) (hpre vm₁ X₁.warmed)
  exact ⟨v, vm₁, B, X₁.warmed, X', hpost, fun target h => hstep₁ _ fun acts => by rw [doInvoke_state]; exact hsteps.trans h⟩
abbrev vx_CVW (R : Room) (s : State) (args : Array Value) (own C : String) (index : Nat) (y : MethodName) (bytes : ByteArray) (maxL : Nat) (ret : Option FieldType) (hh : List (Nat × Nat × Nat × Nat)) (ws : List Cond) (rm : Room) (mc ms n : Nat) : Prop :=
  (rm.cells = mc ∧ rm.slots = ms ∧ rm.frames + 1 ≤ R.frames ∧ 8 + (maxL + 11) + rm.locals ≤ R.locals ∧ (∀ w ∈ ws, ∀ (a' : Array Value) (U : State), s.WarmedH U.vm → w.before a' U = true) ∧ Cond.codeWith y bytes maxL ret hh ∈ ws) ∧
  (Cond.codeWith y bytes maxL ret hh).before args s = true ∧ (Cond.initialized y.cls).before args s = true ∧ (y.cls ≠ "java/lang/invoke/MethodHandle" ∧ y.cls ≠ "java/lang/invoke/VarHandle") ∧
  (∀ sig, parseMethodDescriptor y.desc = some sig → n = sig.parameters.length) ∧ (Cond.methodLink own index y).before args s = true ∧ (Cond.instanceMethod y).before args s = true ∧ (Cond.selects C y y).before args s = true
theorem vx_cwVW {own C : String} {index maxL mc ms : Nat} {y : MethodName} {bytes : ByteArray} {ret : Option FieldType} {hh : List (Nat × Nat × Nat × Nat)} {Ts ws ws' : List Cond} {rm : Room} (n : Nat) (ht : ∀ w ∈ Ts, w.before args s = true) (hT : GoodIn Ts (wsV own index C y ws)) (hw : ws = Cond.codeWith y bytes maxL ret hh :: ws') (hrc : rm.cells = mc) (hrs : rm.slots = ms)
    (hd : y.cls = C ∧ y.cls ≠ "java/lang/invoke/MethodHandle" ∧ y.cls ≠ "java/lang/invoke/VarHandle" ∧ (parseMethodDescriptor y.desc).map (fun d => d.parameters.length) = some n) (hR : rm.frames + 1 ≤ R.frames ∧ 8 + (maxL + 11) + rm.locals ≤ R.locals) :
    vx_CVW R s args own C index y bytes maxL ret hh ws rm mc ms n := by
  obtain ⟨hC, hd⟩ := hd
  subst hC
  have ok : ∀ w ∈ wsV own index y.cls y ws, w.before args s = true := fun w h => ht w (hT w h).1
  have hG : GoodIn Ts ws := fun w h => hT w (by unfold wsV; exact List.mem_append_right _ h)
  have hc : Cond.codeWith y bytes maxL ret hh ∈ ws := by rw [hw]; exact List.mem_cons_self
  refine ⟨⟨hrc, hrs, hR.1, hR.2, pay_in ht hG, hc⟩, ht _ (hG _ hc).1, ok _ (by simp [wsV]), ⟨hd.1, hd.2.1⟩, fun sig h => ?_, ok _ (by simp [wsV]), ok _ (by simp [wsV]), ok _ (by simp [wsV])⟩
  have h2 := hd.2.2
  rw [h] at h2
  exact (Option.some.inj h2).symm
theorem vx_runVW {y : MethodName} {bytes cc : ByteArray} {maxL nL mc ms n index : Nat} {ret : Option FieldType} {hh : List (Nat × Nat × Nat × Nat)} {ws : List Cond} {rm : Room} {Pc : Array Value → State → Prop} {Qc : Array Value → State → Outcome → State → Prop} {free : Addr → Prop} {Ts : List Cond} {own C : String} {b : Addr} {As rest : List Value} {g : JFrame}
    (S : CallFix p m c cc nL s args Ts own) (hM : Met l y ws rm Pc Qc mc ms free) (cw : vx_CVW R s args own C index y bytes maxL ret hh ws rm mc ms n) (hp : PreV s H C b Pc As)
    (hg : g.method = m) (hn : As.length = n) (hsize : g.locals.size = nL) (hstack : g.stack = As.reverse ++ .ref b :: rest) (hW : 2 * g.monitorRoom + (rest.map fun v => v.category).sum ≤ 8) (hdg : decode cc g.pc = .ok (.invokevirtual index, 3)) (hf : cells + mc ≤ R.cells ∧ slots + ms ≤ R.slots) :
    va_Run p l e R s m args below meth c H locs cells slots mc ms g rest (Qc (Value.ref b :: As).toArray) free := by
  obtain ⟨⟨hrc, hrs, hfr, hlo, hws, hcw⟩, hcode, hini, hy, hlen, hl, hin, hse⟩ := cw
  have hK : Back l R p e below s args y 3 8 (PreOf R mc ms Pc) (PostOf Qc mc ms free) := va_backW (hh := hh) (bytes := bytes) (maxL := maxL) (ret := ret) hM hp.1 hrc hrs hfr hlo hws hcw (fun a' U hW => word_at hW (Or.inl (by first | rfl | simp [Cond.onTables, Cond.keeps, Cond.steady])) hini)
  obtain ⟨hx, hb, hml, ho, -⟩ := S
  obtain ⟨-, ⟨cellB, hcB, hoB, hclB⟩, hPc⟩ := hp
  intro T hT X
  obtain ⟨v, vm₁, ⟨U', l2, c2, s2⟩, hW₁, X', ⟨g', mk, t, L, e1, e2, hq, h1, hL, h2, h3⟩, st⟩ := vx_callVW X hx (C := C) (hh := hh) (bytes := bytes) (maxL := maxL) (ret := ret) ho hl hin hse hcode hy hK (by rw [hT]; exact hcB) hoB hclB hg (hsize.trans hml.symm) (argsL := As) (rest := rest) (fun sig h => hn.trans (hlen sig h)) hstack hW (by rw [hb]; exact hdg)
    (fun vm₁ hW₁ => ⟨hf.1, hf.2, hPc (T.setVm vm₁) hT hW₁⟩)
  dsimp only [Pt.U, Pt.locs, Pt.cells, Pt.slots] at X' e1 e2 h1 h2 h3 st
  subst h1; subst h2; subst h3
  exact ⟨v, (T.setVm vm₁).calling g' mk (Value.ref b :: As).toArray, t, U', L, hT, X', hL, e1, e2, hq, st⟩
section
variable {y : MethodName} {bytes cc : ByteArray} {maxL nL mc ms n index : Nat} {ret : Option FieldType} {ws : List Cond} {rm : Room} {Pc : Array Value → State → Prop} {Qc : Array Value → State → Outcome → State → Prop} {XC : String → State → State → Prop} {free : Addr → Prop} {Ts : List Cond} {own C : String} {b : Addr} {As rest : List Value} {g : JFrame}
theorem vx_runVX {hh : List (Nat × Nat × Nat × Nat)} (S : CallFix p m c cc nL s args Ts own) (hM : vx_Met l y ws rm Pc Qc XC mc ms free) (cw : vx_CVW R s args own C index y bytes maxL ret hh ws rm mc ms n) (hp : PreV s H C b Pc As)
    (hg : g.method = m) (hn : As.length = n) (hsize : g.locals.size = nL) (hstack : g.stack = As.reverse ++ .ref b :: rest) (hW : 2 * g.monitorRoom + (rest.map fun v => v.category).sum ≤ 8) (hdg : decode cc g.pc = .ok (.invokevirtual index, 3)) (hf : cells + mc ≤ R.cells ∧ slots + ms ≤ R.slots) :
    vx_Run p l e R s m args below meth c H locs cells slots mc ms g rest (Qc (Value.ref b :: As).toArray) XC free := by
  obtain ⟨⟨hrc, hrs, hfr, hlo, hws, hcw⟩, hcode, hini, hy, hlen, hl, hin, hse⟩ := cw
  have hK : vx_Back l R p e below s args y 3 8 (PreOf R mc ms Pc) (PostOf Qc mc ms free) (vx_Post XC mc ms free) := vx_backW (hh := hh) (bytes := bytes) (maxL := maxL) (ret := ret) hM hp.1 hrc hrs hfr hlo hws hcw (fun a' U hW => word_at hW (Or.inl (by first | rfl | simp [Cond.onTables, Cond.keeps, Cond.steady])) hini)
  obtain ⟨hx, hb, hml, ho, -⟩ := S
  obtain ⟨-, ⟨cellB, hcB, hoB, hclB⟩, hPc⟩ := hp
  intro T hT X
  rcases vx_callVX X hx (C := C) (hh := hh) (bytes := bytes) (maxL := maxL) (ret := ret) ho hl hin hse hcode hy hK (by rw [hT]; exact hcB) hoB hclB hg (hsize.trans hml.symm) (argsL := As) (rest := rest) (fun sig h => hn.trans (hlen sig h)) hstack hW (by rw [hb]; exact hdg)
    (fun vm₁ hW₁ => ⟨hf.1, hf.2, hPc (T.setVm vm₁) hT hW₁⟩) with ⟨v, vm₁, ⟨U', l2, c2, s2⟩, hW₁, X', ⟨g', mk, t, L, e1, e2, hq, h1, hL, h2, h3⟩, st⟩ | ⟨q, vm₁, ⟨U', l2, c2, s2⟩, hW₁, X', ⟨g', mk, t, L, E, ce, e1, e2, hq, hce, hcv, hcl, h1, hL, h2, h3⟩, st⟩
  · dsimp only [Pt.U, Pt.locs, Pt.cells, Pt.slots] at X' e1 e2 h1 h2 h3 st
    subst h1; subst h2; subst h3
    exact Or.inl ⟨v, (T.setVm vm₁).calling g' mk (Value.ref b :: As).toArray, t, U', L, hT, X', hL, e1, e2, hq, st⟩
  · dsimp only [Pt.U, Pt.locs, Pt.cells, Pt.slots] at X' e1 e2 h1 h2 h3 st hcl
    subst h1; subst h2; subst h3
    exact Or.inr ⟨q, (T.setVm vm₁).calling g' mk (Value.ref b :: As).toArray, t, U', L, E, ce, hT, X', hL, e1, e2, hq, hce, hcv, vx_cls hW₁ hcl, st⟩
theorem vx_runSX {hh : List (Nat × Nat × Nat × Nat)} (S : CallFix p m c cc nL s args Ts own) (hM : vx_Met l y ws rm Pc Qc XC mc ms free) (cw : vx_CSW R s args own index y bytes maxL ret hh ws rm mc ms n) (hp : PreS s H Pc As)
    (hg : g.method = m) (hn : As.length = n) (hsize : g.locals.size = nL) (hstack : g.stack = As.reverse ++ rest) (hW : 2 * g.monitorRoom + (rest.map fun v => v.category).sum ≤ 8) (hdg : decode cc g.pc = .ok (.invokestatic index, 3)) (hf : cells + mc ≤ R.cells ∧ slots + ms ≤ R.slots) :
    vx_Run p l e R s m args below meth c H locs cells slots mc ms g rest (Qc As.toArray) XC free := by
  obtain ⟨⟨hrc, hrs, hfr, hlo, hws, hcw⟩, hcode, hini, hy, hlen, hl, hstt⟩ := cw
  have hK : vx_Back l R p e below s args y 3 8 (PreOf R mc ms Pc) (PostOf Qc mc ms free) (vx_Post XC mc ms free) := vx_backW (hh := hh) (bytes := bytes) (maxL := maxL) (ret := ret) hM hp.1 hrc hrs hfr hlo hws hcw (fun a' U hW => word_at hW (Or.inl (by first | rfl | simp [Cond.onTables, Cond.keeps, Cond.steady])) hini)
  obtain ⟨hx, hb, hml, ho, -⟩ := S
  intro T hT X
  rcases vx_callSX X hx (hh := hh) (bytes := bytes) (maxL := maxL) (ret := ret) ho hl hstt hini hcode hy hK hg (hsize.trans hml.symm) (argsL := As) (rest := rest) (fun sig h => hn.trans (hlen sig h)) hstack hW (by rw [hb]; exact hdg)
    (fun vm₁ hW₁ => ⟨hf.1, hf.2, hp.2 (T.setVm vm₁) hT hW₁⟩) with ⟨v, vm₁, ⟨U', l2, c2, s2⟩, hW₁, X', ⟨g', mk, t, L, e1, e2, hq, h1, hL, h2, h3⟩, st⟩ | ⟨q, vm₁, ⟨U', l2, c2, s2⟩, hW₁, X', ⟨g', mk, t, L, E, ce, e1, e2, hq, hce, hcv, hcl, h1, hL, h2, h3⟩, st⟩
  · dsimp only [Pt.U, Pt.locs, Pt.cells, Pt.slots] at X' e1 e2 h1 h2 h3 st
    subst h1; subst h2; subst h3
    exact Or.inl ⟨v, (T.setVm vm₁).calling g' mk As.toArray, t, U', L, hT, X', hL, e1, e2, hq, st⟩
  · dsimp only [Pt.U, Pt.locs, Pt.cells, Pt.slots] at X' e1 e2 h1 h2 h3 st hcl
    subst h1; subst h2; subst h3
    exact Or.inr ⟨q, (T.setVm vm₁).calling g' mk As.toArray, t, U', L, E, ce, hT, X', hL, e1, e2, hq, hce, hcv, vx_cls hW₁ hcl, st⟩
end
end VXH
theorem vx_ofWH {l : Launch} {y : MethodName} {ws ws' : List Cond} {rm : Room} {Pc : Array Value → State → Prop} {Qc : Array Value → State → Outcome → State → Prop} {XC : String → State → State → Prop} {mc ms : Nat} {free : Addr → Prop} {cc : ByteArray} {maxL : Nat} {ret : Option FieldType} {hh : List (Nat × Nat × Nat × Nat)}
    (hy : plainName y.cls = true) (hw : ws = Cond.codeWith y cc maxL ret hh :: ws')
    (body : ∀ p e s m args below meth c s₁, BodyLoose p l y (headSpec ws rm) cc maxL ret e s m args below meth c s₁ → c.maxLocals = maxL → Pc args s →
      W p l e (headSpec ws rm).room s m args below meth c s.heap [] 0 0 (vx_MQ below Qc XC args s mc ms free) (entryFrame m args maxL)) : vx_Met l y ws rm Pc Qc XC mc ms free := by
  refine MetFree.of_bodyS (code := cc) (maxLocals := maxL) (ret := ret) hy ?_ ?_
  · intro args s m h hn
    obtain ⟨m9, meth, c, hn9, h1, h2, h3, h4, -, h5, h6, -⟩ := Cond.codeWith_spec (atoms_spec (ws := ws) h _ (by rw [hw]; exact List.mem_cons_self))
    cases hn.symm.trans hn9
    exact ⟨meth, c, h1, h2, h3, h4, h5, h6⟩
  · intro p e s m args below meth c s₁ B hml hP _
    have hh0 : s₁.heap = s.heap := by rw [B.state]; rfl
    obtain ⟨t, a1, o, b1, b2, b3⟩ := body p e s m args below meth c s₁ B hml hP s₁ hh0 (Stand.of_body B)
    exact ⟨t, o, a1, b1, b2, b3⟩
/-! ===== END ===== -/
end
section
def RX0 : String := "WharfQuery$Column"
def TX0 : u_T := fun k => match k with
  | 0 => ("WharfQuery$Column", "hasIndex", "Z", false)
  | 1 => ("WharfQuery$Column", "toldUnlike", "I", false)
  | 2 => ("WharfQuery$Column", "toldLeast", "I", false)
  | _ => ("WharfQuery$Column", "toldGreatest", "I", false)
def tyX0 : Nat → FieldType := fun k => match k with
  | 0 => .boolean
  | 1 => .int
  | 2 => .int
  | _ => .int
abbrev wsX00 : List Cond := u_ws RX0 TX0 4
theorem nmX0 : ∀ a, a < 4 → ∀ b, b < 4 → a ≠ b → (TX0 a).2.1 ≠ (TX0 b).2.1 := by decide +kernel
theorem tyX0_ok : ∀ k, k < 4 → parseFieldDescriptor (TX0 k).2.2.1 = some (tyX0 k) := by decide +kernel
abbrev cX0_init : ByteArray := prog_2_method_1_code
def yX0_init : MethodName := ⟨RX0, "<init>", "()V"⟩
def RX1 : String := "WharfQuery$Condition"
def TX1 : u_T := fun k => match k with
  | 0 => ("WharfQuery$Condition", "kind", "I", false)
  | 1 => ("WharfQuery$Condition", "source", "I", false)
  | 2 => ("WharfQuery$Condition", "column", "I", false)
  | 3 => ("WharfQuery$Condition", "number", "I", false)
  | 4 => ("WharfQuery$Condition", "other", "I", false)
  | _ => ("WharfQuery$Condition", "otherColumn", "I", false)
def tyX1 : Nat → FieldType := fun k => match k with
  | 0 => .int
  | 1 => .int
  | 2 => .int
  | 3 => .int
  | 4 => .int
  | _ => .int
abbrev wsX10 : List Cond := u_ws RX1 TX1 6
theorem nmX1 : ∀ a, a < 6 → ∀ b, b < 6 → a ≠ b → (TX1 a).2.1 ≠ (TX1 b).2.1 := by decide +kernel
theorem tyX1_ok : ∀ k, k < 6 → parseFieldDescriptor (TX1 k).2.2.1 = some (tyX1 k) := by decide +kernel
abbrev cX1_init : ByteArray := prog_3_method_1_code
def yX1_init : MethodName := ⟨RX1, "<init>", "()V"⟩
abbrev cX1_compare : ByteArray := prog_3_method_2_code
def yX1_compare : MethodName := ⟨RX1, "compare", "(IIII)V"⟩
abbrev cX1_join : ByteArray := prog_3_method_3_code
def yX1_join : MethodName := ⟨RX1, "join", "(IIII)V"⟩
abbrev cX1_stepIn : ByteArray := prog_3_method_4_code
def yX1_stepIn : MethodName := ⟨RX1, "stepIn", "(LWharfQuery$Plan;)I"⟩
abbrev cX1_asksForOneValueOf : ByteArray := prog_3_method_5_code
def yX1_asksForOneValueOf : MethodName := ⟨RX1, "asksForOneValueOf", "(II)Z"⟩
def RX2 : String := "WharfQuery$Crew"
def TX2 : u_T := fun k => match k with
  | 0 => ("WharfQuery$Crew", "tables", "[LWharfQuery$Table;", true)
  | 1 => ("WharfQuery$Crew", "reports", "[LWharfQuery$Report;", true)
  | 2 => ("WharfQuery$Crew", "planner", "LWharfQuery$Planner;", true)
  | 3 => ("WharfQuery$Crew", "run", "LWharfQuery$Run;", true)
  | 4 => ("WharfQuery$Crew", "line", "[I", true)
  | 5 => ("WharfQuery$Crew", "sampleStep", "I", false)
  | 6 => ("WharfQuery$Crew", "nightsPassed", "I", false)
  | 7 => ("WharfQuery$Crew", "allPay", "I", false)
  | 8 => ("WharfQuery$Crew", "minutesLeft", "I", false)
  | _ => ("WharfQuery$Crew", "allPenalties", "I", false)
def tyX2 : Nat → FieldType := fun k => match k with
  | 0 => .array (.object "WharfQuery$Table")
  | 1 => .array (.object "WharfQuery$Report")
  | 2 => .object "WharfQuery$Planner"
  | 3 => .object "WharfQuery$Run"
  | 4 => .array .int
  | 5 => .int
  | 6 => .int
  | 7 => .int
  | 8 => .int
  | _ => .int
abbrev wsX20 : List Cond := u_ws RX2 TX2 10
theorem nmX2 : ∀ a, a < 10 → ∀ b, b < 10 → a ≠ b → (TX2 a).2.1 ≠ (TX2 b).2.1 := by decide +kernel
theorem tyX2_ok : ∀ k, k < 10 → parseFieldDescriptor (TX2 k).2.2.1 = some (tyX2 k) := by decide +kernel
abbrev cX2_init : ByteArray := prog_4_method_1_code
def yX2_init : MethodName := ⟨RX2, "<init>", "([LWharfQuery$Table;[LWharfQuery$Report;LWharfQuery$Planner;LWharfQuery$Run;)V"⟩
abbrev cX2_takePay : ByteArray := prog_4_method_2_code
def yX2_takePay : MethodName := ⟨RX2, "takePay", "(I)V"⟩
abbrev cX2_renewMarkedTables : ByteArray := prog_4_method_3_code
def yX2_renewMarkedTables : MethodName := ⟨RX2, "renewMarkedTables", "()V"⟩
abbrev cX2_runDueReports : ByteArray := prog_4_method_4_code
def yX2_runDueReports : MethodName := ⟨RX2, "runDueReports", "()I"⟩
abbrev cX2_lineUpDueReports : ByteArray := prog_4_method_5_code
def yX2_lineUpDueReports : MethodName := ⟨RX2, "lineUpDueReports", "()I"⟩
abbrev cX2_keep : ByteArray := prog_4_method_6_code
def yX2_keep : MethodName := ⟨RX2, "keep", "(LWharfQuery$Report;I)V"⟩
abbrev cX2_markTables : ByteArray := prog_4_method_7_code
def yX2_markTables : MethodName := ⟨RX2, "markTables", "(LWharfQuery$Report;)V"⟩
def RX3 : String := "WharfQuery$Plan"
def TX3 : u_T := fun k => match k with
  | 0 => ("WharfQuery$Plan", "order", "[I", true)
  | 1 => ("WharfQuery$Plan", "ways", "[I", true)
  | 2 => ("WharfQuery$Plan", "stepOf", "[I", true)
  | _ => ("WharfQuery$Plan", "thousandths", "J", false)
def tyX3 : Nat → FieldType := fun k => match k with
  | 0 => .array .int
  | 1 => .array .int
  | 2 => .array .int
  | _ => .long
abbrev wsX30 : List Cond := u_ws RX3 TX3 4
theorem nmX3 : ∀ a, a < 4 → ∀ b, b < 4 → a ≠ b → (TX3 a).2.1 ≠ (TX3 b).2.1 := by decide +kernel
theorem tyX3_ok : ∀ k, k < 4 → parseFieldDescriptor (TX3 k).2.2.1 = some (tyX3 k) := by decide +kernel
abbrev cX3_init : ByteArray := prog_5_method_1_code
def yX3_init : MethodName := ⟨RX3, "<init>", "()V"⟩
abbrev cX3_clear : ByteArray := prog_5_method_2_code
def yX3_clear : MethodName := ⟨RX3, "clear", "()V"⟩
abbrev cX3_place : ByteArray := prog_5_method_3_code
def yX3_place : MethodName := ⟨RX3, "place", "(II)V"⟩
abbrev cX3_becomePlain : ByteArray := prog_5_method_4_code
def yX3_becomePlain : MethodName := ⟨RX3, "becomePlain", "(I)V"⟩
abbrev cX3_copyFrom : ByteArray := prog_5_method_5_code
def yX3_copyFrom : MethodName := ⟨RX3, "copyFrom", "(LWharfQuery$Plan;J)V"⟩
abbrev cX3_foretoldMinutes : ByteArray := prog_5_method_6_code
def yX3_foretoldMinutes : MethodName := ⟨RX3, "foretoldMinutes", "()I"⟩
def RX4 : String := "WharfQuery$Planner"
def TX4 : u_T := fun k => match k with
  | 0 => ("WharfQuery$Planner", "tables", "[LWharfQuery$Table;", true)
  | 1 => ("WharfQuery$Planner", "draft", "LWharfQuery$Plan;", true)
  | _ => ("WharfQuery$Planner", "best", "LWharfQuery$Plan;", true)
def tyX4 : Nat → FieldType := fun k => match k with
  | 0 => .array (.object "WharfQuery$Table")
  | 1 => .object "WharfQuery$Plan"
  | _ => .object "WharfQuery$Plan"
abbrev wsX40 : List Cond := u_ws RX4 TX4 3
theorem nmX4 : ∀ a, a < 3 → ∀ b, b < 3 → a ≠ b → (TX4 a).2.1 ≠ (TX4 b).2.1 := by decide +kernel
theorem tyX4_ok : ∀ k, k < 3 → parseFieldDescriptor (TX4 k).2.2.1 = some (tyX4 k) := by decide +kernel
abbrev cX4_init : ByteArray := prog_6_method_1_code
def yX4_init : MethodName := ⟨RX4, "<init>", "([LWharfQuery$Table;)V"⟩
abbrev cX4_choose : ByteArray := prog_6_method_2_code
def yX4_choose : MethodName := ⟨RX4, "choose", "(LWharfQuery$Report;)LWharfQuery$Plan;"⟩
abbrev cX4_extend : ByteArray := prog_6_method_3_code
def yX4_extend : MethodName := ⟨RX4, "extend", "(LWharfQuery$Planner;LWharfQuery$Report;IJJ)V"⟩
abbrev cX4_takeCheapestWay : ByteArray := prog_6_method_4_code
def yX4_takeCheapestWay : MethodName := ⟨RX4, "takeCheapestWay", "(LWharfQuery$Report;IJ)J"⟩
abbrev cX4_choicesBehind : ByteArray := prog_6_method_5_code
def yX4_choicesBehind : MethodName := ⟨RX4, "choicesBehind", "(LWharfQuery$Report;IJ)J"⟩
abbrev cX4_narrow : ByteArray := prog_6_method_6_code
def yX4_narrow : MethodName := ⟨RX4, "narrow", "(LWharfQuery$Report;LWharfQuery$Condition;J)J"⟩
abbrev cX4_share : ByteArray := prog_6_method_7_code
def yX4_share : MethodName := ⟨RX4, "share", "(JILWharfQuery$Column;)J"⟩
def RX5 : String := "WharfQuery$Report"
def TX5 : u_T := fun k => match k with
  | 0 => ("WharfQuery$Report", "sources", "[I", true)
  | 1 => ("WharfQuery$Report", "conditions", "[LWharfQuery$Condition;", true)
  | 2 => ("WharfQuery$Report", "penalty", "I", false)
  | 3 => ("WharfQuery$Report", "sourceCount", "I", false)
  | 4 => ("WharfQuery$Report", "conditionCount", "I", false)
  | 5 => ("WharfQuery$Report", "sumSource", "I", false)
  | 6 => ("WharfQuery$Report", "sumColumn", "I", false)
  | 7 => ("WharfQuery$Report", "due", "Z", false)
  | 8 => ("WharfQuery$Report", "keptChoices", "I", false)
  | 9 => ("WharfQuery$Report", "keptTotal", "I", false)
  | _ => ("WharfQuery$Report", "keptNight", "I", false)
def tyX5 : Nat → FieldType := fun k => match k with
  | 0 => .array .int
  | 1 => .array (.object "WharfQuery$Condition")
  | 2 => .int
  | 3 => .int
  | 4 => .int
  | 5 => .int
  | 6 => .int
  | 7 => .boolean
  | 8 => .int
  | 9 => .int
  | _ => .int
abbrev wsX50 : List Cond := u_ws RX5 TX5 11
theorem nmX5 : ∀ a, a < 11 → ∀ b, b < 11 → a ≠ b → (TX5 a).2.1 ≠ (TX5 b).2.1 := by decide +kernel
theorem tyX5_ok : ∀ k, k < 11 → parseFieldDescriptor (TX5 k).2.2.1 = some (tyX5 k) := by decide +kernel
abbrev cX5_init : ByteArray := prog_7_method_1_code
def yX5_init : MethodName := ⟨RX5, "<init>", "()V"⟩
abbrev cX5_conditionForIndex : ByteArray := prog_7_method_2_code
def yX5_conditionForIndex : MethodName := ⟨RX5, "conditionForIndex", "(LWharfQuery$Plan;II)I"⟩
def RX6 : String := "WharfQuery$Run"
def TX6 : u_T := fun k => match k with
  | 0 => ("WharfQuery$Run", "tables", "[LWharfQuery$Table;", true)
  | 1 => ("WharfQuery$Run", "chosenRows", "[I", true)
  | 2 => ("WharfQuery$Run", "minutesTaken", "I", false)
  | 3 => ("WharfQuery$Run", "choices", "I", false)
  | _ => ("WharfQuery$Run", "total", "I", false)
def tyX6 : Nat → FieldType := fun k => match k with
  | 0 => .array (.object "WharfQuery$Table")
  | 1 => .array .int
  | 2 => .int
  | 3 => .int
  | _ => .int
abbrev wsX60 : List Cond := u_ws RX6 TX6 5
theorem nmX6 : ∀ a, a < 5 → ∀ b, b < 5 → a ≠ b → (TX6 a).2.1 ≠ (TX6 b).2.1 := by decide +kernel
theorem tyX6_ok : ∀ k, k < 5 → parseFieldDescriptor (TX6 k).2.2.1 = some (tyX6 k) := by decide +kernel
abbrev cX6_init : ByteArray := prog_8_method_1_code
def yX6_init : MethodName := ⟨RX6, "<init>", "([LWharfQuery$Table;)V"⟩
abbrev cX6_goThrough : ByteArray := prog_8_method_2_code
def yX6_goThrough : MethodName := ⟨RX6, "goThrough", "(LWharfQuery$Report;LWharfQuery$Plan;)V"⟩
abbrev cX6_takeStep : ByteArray := prog_8_method_3_code
def yX6_takeStep : MethodName := ⟨RX6, "takeStep", "(LWharfQuery$Run;LWharfQuery$Report;LWharfQuery$Plan;I)V"⟩
abbrev cX6_countChoice : ByteArray := prog_8_method_4_code
def yX6_countChoice : MethodName := ⟨RX6, "countChoice", "(LWharfQuery$Report;)V"⟩
abbrev cX6_valueLookedFor : ByteArray := prog_8_method_5_code
def yX6_valueLookedFor : MethodName := ⟨RX6, "valueLookedFor", "(LWharfQuery$Report;LWharfQuery$Plan;I)I"⟩
abbrev cX6_conditionsHold : ByteArray := prog_8_method_6_code
def yX6_conditionsHold : MethodName := ⟨RX6, "conditionsHold", "(LWharfQuery$Report;LWharfQuery$Plan;I)Z"⟩
abbrev cX6_holds : ByteArray := prog_8_method_7_code
def yX6_holds : MethodName := ⟨RX6, "holds", "(LWharfQuery$Report;LWharfQuery$Condition;)Z"⟩
abbrev cX6_chosenValue : ByteArray := prog_8_method_8_code
def yX6_chosenValue : MethodName := ⟨RX6, "chosenValue", "(LWharfQuery$Report;II)I"⟩
def RX7 : String := "WharfQuery$Table"
def TX7 : u_T := fun k => match k with
  | 0 => ("WharfQuery$Table", "columns", "[LWharfQuery$Column;", true)
  | 1 => ("WharfQuery$Table", "values", "[[I", true)
  | 2 => ("WharfQuery$Table", "isThere", "[Z", true)
  | 3 => ("WharfQuery$Table", "sample", "[I", true)
  | 4 => ("WharfQuery$Table", "width", "I", false)
  | 5 => ("WharfQuery$Table", "inserted", "I", false)
  | 6 => ("WharfQuery$Table", "present", "I", false)
  | 7 => ("WharfQuery$Table", "toldPresent", "I", false)
  | _ => ("WharfQuery$Table", "marked", "Z", false)
def tyX7 : Nat → FieldType := fun k => match k with
  | 0 => .array (.object "WharfQuery$Column")
  | 1 => .array (.array .int)
  | 2 => .array .boolean
  | 3 => .array .int
  | 4 => .int
  | 5 => .int
  | 6 => .int
  | 7 => .int
  | _ => .boolean
abbrev wsX70 : List Cond := u_ws RX7 TX7 9
theorem nmX7 : ∀ a, a < 9 → ∀ b, b < 9 → a ≠ b → (TX7 a).2.1 ≠ (TX7 b).2.1 := by decide +kernel
theorem tyX7_ok : ∀ k, k < 9 → parseFieldDescriptor (TX7 k).2.2.1 = some (tyX7 k) := by decide +kernel
abbrev cX7_init : ByteArray := prog_9_method_1_code
def yX7_init : MethodName := ⟨RX7, "<init>", "()V"⟩
abbrev cX7_fits : ByteArray := prog_9_method_2_code
def yX7_fits : MethodName := ⟨RX7, "fits", "(II)Z"⟩
abbrev cX7_put : ByteArray := prog_9_method_3_code
def yX7_put : MethodName := ⟨RX7, "put", "(III)I"⟩
abbrev cX7_takeSample : ByteArray := prog_9_method_4_code
def yX7_takeSample : MethodName := ⟨RX7, "takeSample", "(I)I"⟩
abbrev cX7_renewCounts : ByteArray := prog_9_method_5_code
def yX7_renewCounts : MethodName := ⟨RX7, "renewCounts", "(I)I"⟩
abbrev cX7_tellColumn : ByteArray := prog_9_method_6_code
def yX7_tellColumn : MethodName := ⟨RX7, "tellColumn", "(III)V"⟩
abbrev cX7_isNewInSample : ByteArray := prog_9_method_7_code
def yX7_isNewInSample : MethodName := ⟨RX7, "isNewInSample", "(II)Z"⟩
def RX8 : String := "WharfQuery"
def TX8 : u_T := fun k => match k with
  | 0 => ("WharfQuery", "tables", "[LWharfQuery$Table;", true)
  | 1 => ("WharfQuery", "reports", "[LWharfQuery$Report;", true)
  | 2 => ("WharfQuery", "plainPlan", "LWharfQuery$Plan;", true)
  | 3 => ("WharfQuery", "planner", "LWharfQuery$Planner;", true)
  | 4 => ("WharfQuery", "run", "LWharfQuery$Run;", true)
  | 5 => ("WharfQuery", "crew", "LWharfQuery$Crew;", true)
  | 6 => ("WharfQuery", "tableCount", "I", false)
  | _ => ("WharfQuery", "reportCount", "I", false)
def tyX8 : Nat → FieldType := fun k => match k with
  | 0 => .array (.object "WharfQuery$Table")
  | 1 => .array (.object "WharfQuery$Report")
  | 2 => .object "WharfQuery$Plan"
  | 3 => .object "WharfQuery$Planner"
  | 4 => .object "WharfQuery$Run"
  | 5 => .object "WharfQuery$Crew"
  | 6 => .int
  | _ => .int
abbrev wsX80 : List Cond := u_ws RX8 TX8 8
theorem nmX8 : ∀ a, a < 8 → ∀ b, b < 8 → a ≠ b → (TX8 a).2.1 ≠ (TX8 b).2.1 := by decide +kernel
theorem tyX8_ok : ∀ k, k < 8 → parseFieldDescriptor (TX8 k).2.2.1 = some (tyX8 k) := by decide +kernel
abbrev cX8_init : ByteArray := prog_1_method_1_code
def yX8_init : MethodName := ⟨RX8, "<init>", "()V"⟩
abbrev cX8_makeTables : ByteArray := prog_1_method_2_code
def yX8_makeTables : MethodName := ⟨RX8, "makeTables", "()[LWharfQuery$Table;"⟩
abbrev cX8_makeReports : ByteArray := prog_1_method_3_code
def yX8_makeReports : MethodName := ⟨RX8, "makeReports", "()[LWharfQuery$Report;"⟩
abbrev cX8_addTable : ByteArray := prog_1_method_4_code
def yX8_addTable : MethodName := ⟨RX8, "addTable", "(I)I"⟩
abbrev cX8_insert : ByteArray := prog_1_method_5_code
def yX8_insert : MethodName := ⟨RX8, "insert", "(IIII)I"⟩
abbrev cX8_delete : ByteArray := prog_1_method_6_code
def yX8_delete : MethodName := ⟨RX8, "delete", "(II)I"⟩
abbrev cX8_setIndex : ByteArray := prog_1_method_7_code
def yX8_setIndex : MethodName := ⟨RX8, "setIndex", "(IIZ)Z"⟩
abbrev cX8_rows : ByteArray := prog_1_method_8_code
def yX8_rows : MethodName := ⟨RX8, "rows", "(I)I"⟩
abbrev cX8_value : ByteArray := prog_1_method_9_code
def yX8_value : MethodName := ⟨RX8, "value", "(III)I"⟩
abbrev cX8_renew : ByteArray := prog_1_method_10_code
def yX8_renew : MethodName := ⟨RX8, "renew", "(II)I"⟩
abbrev cX8_setStep : ByteArray := prog_1_method_11_code
def yX8_setStep : MethodName := ⟨RX8, "setStep", "(I)I"⟩
abbrev cX8_toldRows : ByteArray := prog_1_method_12_code
def yX8_toldRows : MethodName := ⟨RX8, "toldRows", "(I)I"⟩
abbrev cX8_unlike : ByteArray := prog_1_method_13_code
def yX8_unlike : MethodName := ⟨RX8, "unlike", "(II)I"⟩
abbrev cX8_least : ByteArray := prog_1_method_14_code
def yX8_least : MethodName := ⟨RX8, "least", "(II)I"⟩
abbrev cX8_greatest : ByteArray := prog_1_method_15_code
def yX8_greatest : MethodName := ⟨RX8, "greatest", "(II)I"⟩
abbrev cX8_isMarked : ByteArray := prog_1_method_16_code
def yX8_isMarked : MethodName := ⟨RX8, "isMarked", "(I)Z"⟩
abbrev cX8_addReport : ByteArray := prog_1_method_17_code
def yX8_addReport : MethodName := ⟨RX8, "addReport", "(I)I"⟩
abbrev cX8_addSource : ByteArray := prog_1_method_18_code
def yX8_addSource : MethodName := ⟨RX8, "addSource", "(II)I"⟩
abbrev cX8_addCondition : ByteArray := prog_1_method_19_code
def yX8_addCondition : MethodName := ⟨RX8, "addCondition", "(IIIII)I"⟩
abbrev cX8_addJoin : ByteArray := prog_1_method_20_code
def yX8_addJoin : MethodName := ⟨RX8, "addJoin", "(IIIII)I"⟩
abbrev cX8_dropCondition : ByteArray := prog_1_method_21_code
def yX8_dropCondition : MethodName := ⟨RX8, "dropCondition", "(I)I"⟩
abbrev cX8_setSum : ByteArray := prog_1_method_22_code
def yX8_setSum : MethodName := ⟨RX8, "setSum", "(III)V"⟩
abbrev cX8_setDue : ByteArray := prog_1_method_23_code
def yX8_setDue : MethodName := ⟨RX8, "setDue", "(IZ)Z"⟩
abbrev cX8_isDue : ByteArray := prog_1_method_24_code
def yX8_isDue : MethodName := ⟨RX8, "isDue", "(I)Z"⟩
abbrev cX8_planSource : ByteArray := prog_1_method_25_code
def yX8_planSource : MethodName := ⟨RX8, "planSource", "(II)I"⟩
abbrev cX8_planWay : ByteArray := prog_1_method_26_code
def yX8_planWay : MethodName := ⟨RX8, "planWay", "(II)I"⟩
abbrev cX8_foretold : ByteArray := prog_1_method_27_code
def yX8_foretold : MethodName := ⟨RX8, "foretold", "(I)I"⟩
abbrev cX8_minutes : ByteArray := prog_1_method_28_code
def yX8_minutes : MethodName := ⟨RX8, "minutes", "(I)I"⟩
abbrev cX8_answer : ByteArray := prog_1_method_29_code
def yX8_answer : MethodName := ⟨RX8, "answer", "(I)I"⟩
abbrev cX8_sum : ByteArray := prog_1_method_30_code
def yX8_sum : MethodName := ⟨RX8, "sum", "(I)I"⟩
abbrev cX8_plainAnswer : ByteArray := prog_1_method_31_code
def yX8_plainAnswer : MethodName := ⟨RX8, "plainAnswer", "(I)I"⟩
abbrev cX8_plainSum : ByteArray := prog_1_method_32_code
def yX8_plainSum : MethodName := ⟨RX8, "plainSum", "(I)I"⟩
abbrev cX8_night : ByteArray := prog_1_method_33_code
def yX8_night : MethodName := ⟨RX8, "night", "(I)I"⟩
abbrev cX8_nights : ByteArray := prog_1_method_34_code
def yX8_nights : MethodName := ⟨RX8, "nights", "()I"⟩
abbrev cX8_paid : ByteArray := prog_1_method_35_code
def yX8_paid : MethodName := ⟨RX8, "paid", "()I"⟩
abbrev cX8_left : ByteArray := prog_1_method_36_code
def yX8_left : MethodName := ⟨RX8, "left", "()I"⟩
abbrev cX8_owed : ByteArray := prog_1_method_37_code
def yX8_owed : MethodName := ⟨RX8, "owed", "()I"⟩
abbrev cX8_kept : ByteArray := prog_1_method_38_code
def yX8_kept : MethodName := ⟨RX8, "kept", "(I)I"⟩
abbrev cX8_keptSum : ByteArray := prog_1_method_39_code
def yX8_keptSum : MethodName := ⟨RX8, "keptSum", "(I)I"⟩
abbrev cX8_keptIn : ByteArray := prog_1_method_40_code
def yX8_keptIn : MethodName := ⟨RX8, "keptIn", "(I)I"⟩
abbrev cX8_findTable : ByteArray := prog_1_method_41_code
def yX8_findTable : MethodName := ⟨RX8, "findTable", "(I)LWharfQuery$Table;"⟩
abbrev cX8_findColumn : ByteArray := prog_1_method_42_code
def yX8_findColumn : MethodName := ⟨RX8, "findColumn", "(II)LWharfQuery$Column;"⟩
abbrev cX8_findReport : ByteArray := prog_1_method_43_code
def yX8_findReport : MethodName := ⟨RX8, "findReport", "(I)LWharfQuery$Report;"⟩
abbrev cX8_checkColumn : ByteArray := prog_1_method_44_code
def yX8_checkColumn : MethodName := ⟨RX8, "checkColumn", "(LWharfQuery$Table;I)V"⟩
abbrev cX8_checkRow : ByteArray := prog_1_method_45_code
def yX8_checkRow : MethodName := ⟨RX8, "checkRow", "(LWharfQuery$Table;I)V"⟩
abbrev cX8_checkSourceColumn : ByteArray := prog_1_method_46_code
def yX8_checkSourceColumn : MethodName := ⟨RX8, "checkSourceColumn", "(LWharfQuery$Report;II)V"⟩
abbrev cX8_checkPlanStep : ByteArray := prog_1_method_47_code
def yX8_checkPlanStep : MethodName := ⟨RX8, "checkPlanStep", "(LWharfQuery$Report;I)V"⟩
abbrev cX8_checkConditionRoom : ByteArray := prog_1_method_48_code
def yX8_checkConditionRoom : MethodName := ⟨RX8, "checkConditionRoom", "(LWharfQuery$Report;)V"⟩
abbrev cX8_checkSampleStep : ByteArray := prog_1_method_49_code
def yX8_checkSampleStep : MethodName := ⟨RX8, "checkSampleStep", "(I)V"⟩
abbrev cX8_runChosenPlan : ByteArray := prog_1_method_50_code
def yX8_runChosenPlan : MethodName := ⟨RX8, "runChosenPlan", "(LWharfQuery$Report;)V"⟩
abbrev cX8_runPlainPlan : ByteArray := prog_1_method_51_code
def yX8_runPlainPlan : MethodName := ⟨RX8, "runPlainPlan", "(LWharfQuery$Report;)V"⟩
def RX9 : String := "WharfQueryModel"
def TX9 : u_T := fun k => match k with
  | 0 => ("WharfQueryModel", "columns", "[I", true)
  | 1 => ("WharfQueryModel", "inserted", "[I", true)
  | 2 => ("WharfQueryModel", "there", "[Z", true)
  | 3 => ("WharfQueryModel", "value", "[I", true)
  | 4 => ("WharfQueryModel", "index", "[Z", true)
  | 5 => ("WharfQueryModel", "tables", "I", false)
  | 6 => ("WharfQueryModel", "toldRows", "[I", true)
  | 7 => ("WharfQueryModel", "unlike", "[I", true)
  | 8 => ("WharfQueryModel", "least", "[I", true)
  | 9 => ("WharfQueryModel", "greatest", "[I", true)
  | 10 => ("WharfQueryModel", "marked", "[Z", true)
  | 11 => ("WharfQueryModel", "step", "I", false)
  | 12 => ("WharfQueryModel", "penalty", "[I", true)
  | 13 => ("WharfQueryModel", "due", "[Z", true)
  | 14 => ("WharfQueryModel", "sources", "[I", true)
  | 15 => ("WharfQueryModel", "tableOf", "[I", true)
  | 16 => ("WharfQueryModel", "conditions", "[I", true)
  | 17 => ("WharfQueryModel", "kind", "[I", true)
  | 18 => ("WharfQueryModel", "source", "[I", true)
  | 19 => ("WharfQueryModel", "column", "[I", true)
  | 20 => ("WharfQueryModel", "number", "[I", true)
  | 21 => ("WharfQueryModel", "other", "[I", true)
  | 22 => ("WharfQueryModel", "otherColumn", "[I", true)
  | 23 => ("WharfQueryModel", "sumSource", "[I", true)
  | 24 => ("WharfQueryModel", "sumColumn", "[I", true)
  | 25 => ("WharfQueryModel", "kept", "[I", true)
  | 26 => ("WharfQueryModel", "keptSum", "[I", true)
  | 27 => ("WharfQueryModel", "keptIn", "[I", true)
  | 28 => ("WharfQueryModel", "reports", "I", false)
  | 29 => ("WharfQueryModel", "nights", "I", false)
  | 30 => ("WharfQueryModel", "paid", "I", false)
  | 31 => ("WharfQueryModel", "left", "I", false)
  | 32 => ("WharfQueryModel", "owed", "I", false)
  | 33 => ("WharfQueryModel", "order", "[I", true)
  | 34 => ("WharfQueryModel", "way", "[I", true)
  | 35 => ("WharfQueryModel", "bestOrder", "[I", true)
  | 36 => ("WharfQueryModel", "bestWay", "[I", true)
  | 37 => ("WharfQueryModel", "thousandths", "J", false)
  | 38 => ("WharfQueryModel", "pick", "[I", true)
  | 39 => ("WharfQueryModel", "took", "I", false)
  | 40 => ("WharfQueryModel", "found", "I", false)
  | 41 => ("WharfQueryModel", "summed", "I", false)
  | _ => ("WharfQueryModel", "thrown", "I", false)
def tyX9 : Nat → FieldType := fun k => match k with
  | 0 => .array .int
  | 1 => .array .int
  | 2 => .array .boolean
  | 3 => .array .int
  | 4 => .array .boolean
  | 5 => .int
  | 6 => .array .int
  | 7 => .array .int
  | 8 => .array .int
  | 9 => .array .int
  | 10 => .array .boolean
  | 11 => .int
  | 12 => .array .int
  | 13 => .array .boolean
  | 14 => .array .int
  | 15 => .array .int
  | 16 => .array .int
  | 17 => .array .int
  | 18 => .array .int
  | 19 => .array .int
  | 20 => .array .int
  | 21 => .array .int
  | 22 => .array .int
  | 23 => .array .int
  | 24 => .array .int
  | 25 => .array .int
  | 26 => .array .int
  | 27 => .array .int
  | 28 => .int
  | 29 => .int
  | 30 => .int
  | 31 => .int
  | 32 => .int
  | 33 => .array .int
  | 34 => .array .int
  | 35 => .array .int
  | 36 => .array .int
  | 37 => .long
  | 38 => .array .int
  | 39 => .int
  | 40 => .int
  | 41 => .int
  | _ => .int
abbrev wsX90 : List Cond := u_ws RX9 TX9 43
theorem nmX9 : ∀ a, a < 43 → ∀ b, b < 43 → a ≠ b → (TX9 a).2.1 ≠ (TX9 b).2.1 := by decide +kernel
theorem tyX9_ok : ∀ k, k < 43 → parseFieldDescriptor (TX9 k).2.2.1 = some (tyX9 k) := by decide +kernel
abbrev cX9_init : ByteArray := prog_11_method_1_code
def yX9_init : MethodName := ⟨RX9, "<init>", "()V"⟩
abbrev cX9_thrown : ByteArray := prog_11_method_2_code
def yX9_thrown : MethodName := ⟨RX9, "thrown", "()I"⟩
abbrev cX9_in : ByteArray := prog_11_method_3_code
def yX9_in : MethodName := ⟨RX9, "in", "(III)Z"⟩
abbrev cX9_asked : ByteArray := prog_11_method_4_code
def yX9_asked : MethodName := ⟨RX9, "asked", "(Z)Z"⟩
abbrev cX9_asked_ : ByteArray := prog_11_method_5_code
def yX9_asked_ : MethodName := ⟨RX9, "asked", "(ZZ)Z"⟩
abbrev cX9_asked__ : ByteArray := prog_11_method_6_code
def yX9_asked__ : MethodName := ⟨RX9, "asked", "(ZZZ)Z"⟩
abbrev cX9_told : ByteArray := prog_11_method_7_code
def yX9_told : MethodName := ⟨RX9, "told", "(I)I"⟩
abbrev cX9_isTable : ByteArray := prog_11_method_8_code
def yX9_isTable : MethodName := ⟨RX9, "isTable", "(I)Z"⟩
abbrev cX9_isColumn : ByteArray := prog_11_method_9_code
def yX9_isColumn : MethodName := ⟨RX9, "isColumn", "(II)Z"⟩
abbrev cX9_isRow : ByteArray := prog_11_method_10_code
def yX9_isRow : MethodName := ⟨RX9, "isRow", "(II)Z"⟩
abbrev cX9_isReport : ByteArray := prog_11_method_11_code
def yX9_isReport : MethodName := ⟨RX9, "isReport", "(I)Z"⟩
abbrev cX9_isSource : ByteArray := prog_11_method_12_code
def yX9_isSource : MethodName := ⟨RX9, "isSource", "(II)Z"⟩
abbrev cX9_isColumnOf : ByteArray := prog_11_method_13_code
def yX9_isColumnOf : MethodName := ⟨RX9, "isColumnOf", "(III)Z"⟩
abbrev cX9_addTable : ByteArray := prog_11_method_14_code
def yX9_addTable : MethodName := ⟨RX9, "addTable", "(I)I"⟩
abbrev cX9_insert : ByteArray := prog_11_method_15_code
def yX9_insert : MethodName := ⟨RX9, "insert", "(IIII)I"⟩
abbrev cX9_rowsOf : ByteArray := prog_11_method_16_code
def yX9_rowsOf : MethodName := ⟨RX9, "rowsOf", "(I)I"⟩
abbrev cX9_delete : ByteArray := prog_11_method_17_code
def yX9_delete : MethodName := ⟨RX9, "delete", "(II)I"⟩
abbrev cX9_setIndex : ByteArray := prog_11_method_18_code
def yX9_setIndex : MethodName := ⟨RX9, "setIndex", "(IIZ)Z"⟩
abbrev cX9_rows : ByteArray := prog_11_method_19_code
def yX9_rows : MethodName := ⟨RX9, "rows", "(I)I"⟩
abbrev cX9_valueAt : ByteArray := prog_11_method_20_code
def yX9_valueAt : MethodName := ⟨RX9, "valueAt", "(III)I"⟩
abbrev cX9_value : ByteArray := prog_11_method_21_code
def yX9_value : MethodName := ⟨RX9, "value", "(III)I"⟩
abbrev cX9_sample : ByteArray := prog_11_method_22_code
def yX9_sample : MethodName := ⟨RX9, "sample", "(II)I"⟩
abbrev cX9_isSampled : ByteArray := prog_11_method_23_code
def yX9_isSampled : MethodName := ⟨RX9, "isSampled", "(III)Z"⟩
abbrev cX9_renews : ByteArray := prog_11_method_24_code
def yX9_renews : MethodName := ⟨RX9, "renews", "(II)V"⟩
abbrev cX9_renew : ByteArray := prog_11_method_25_code
def yX9_renew : MethodName := ⟨RX9, "renew", "(II)I"⟩
abbrev cX9_setStep : ByteArray := prog_11_method_26_code
def yX9_setStep : MethodName := ⟨RX9, "setStep", "(I)I"⟩
abbrev cX9_toldRows : ByteArray := prog_11_method_27_code
def yX9_toldRows : MethodName := ⟨RX9, "toldRows", "(I)I"⟩
abbrev cX9_unlike : ByteArray := prog_11_method_28_code
def yX9_unlike : MethodName := ⟨RX9, "unlike", "(II)I"⟩
abbrev cX9_least : ByteArray := prog_11_method_29_code
def yX9_least : MethodName := ⟨RX9, "least", "(II)I"⟩
abbrev cX9_greatest : ByteArray := prog_11_method_30_code
def yX9_greatest : MethodName := ⟨RX9, "greatest", "(II)I"⟩
abbrev cX9_isMarked : ByteArray := prog_11_method_31_code
def yX9_isMarked : MethodName := ⟨RX9, "isMarked", "(I)Z"⟩
abbrev cX9_addReport : ByteArray := prog_11_method_32_code
def yX9_addReport : MethodName := ⟨RX9, "addReport", "(I)I"⟩
abbrev cX9_addSource : ByteArray := prog_11_method_33_code
def yX9_addSource : MethodName := ⟨RX9, "addSource", "(II)I"⟩
abbrev cX9_adds : ByteArray := prog_11_method_34_code
def yX9_adds : MethodName := ⟨RX9, "adds", "(IIII)I"⟩
abbrev cX9_addCondition : ByteArray := prog_11_method_35_code
def yX9_addCondition : MethodName := ⟨RX9, "addCondition", "(IIIII)I"⟩
abbrev cX9_addJoin : ByteArray := prog_11_method_36_code
def yX9_addJoin : MethodName := ⟨RX9, "addJoin", "(IIIII)I"⟩
abbrev cX9_dropCondition : ByteArray := prog_11_method_37_code
def yX9_dropCondition : MethodName := ⟨RX9, "dropCondition", "(I)I"⟩
abbrev cX9_setSum : ByteArray := prog_11_method_38_code
def yX9_setSum : MethodName := ⟨RX9, "setSum", "(III)V"⟩
abbrev cX9_setDue : ByteArray := prog_11_method_39_code
def yX9_setDue : MethodName := ⟨RX9, "setDue", "(IZ)Z"⟩
abbrev cX9_isDue : ByteArray := prog_11_method_40_code
def yX9_isDue : MethodName := ⟨RX9, "isDue", "(I)Z"⟩
abbrev cX9_stepOf : ByteArray := prog_11_method_41_code
def yX9_stepOf : MethodName := ⟨RX9, "stepOf", "(I)I"⟩
abbrev cX9_stepOfCondition : ByteArray := prog_11_method_42_code
def yX9_stepOfCondition : MethodName := ⟨RX9, "stepOfCondition", "(I)I"⟩
abbrev cX9_columnAt : ByteArray := prog_11_method_43_code
def yX9_columnAt : MethodName := ⟨RX9, "columnAt", "(II)I"⟩
abbrev cX9_useOf : ByteArray := prog_11_method_44_code
def yX9_useOf : MethodName := ⟨RX9, "useOf", "(III)I"⟩
abbrev cX9_cellAt : ByteArray := prog_11_method_45_code
def yX9_cellAt : MethodName := ⟨RX9, "cellAt", "(III)I"⟩
abbrev cX9_changed : ByteArray := prog_11_method_46_code
def yX9_changed : MethodName := ⟨RX9, "changed", "(IIJ)J"⟩
abbrev cX9_cost : ByteArray := prog_11_method_47_code
def yX9_cost : MethodName := ⟨RX9, "cost", "(I)J"⟩
abbrev cX9_triesWays : ByteArray := prog_11_method_48_code
def yX9_triesWays : MethodName := ⟨RX9, "triesWays", "(I)V"⟩
abbrev cX9_plans : ByteArray := prog_11_method_49_code
def yX9_plans : MethodName := ⟨RX9, "plans", "(I)V"⟩
abbrev cX9_foretells : ByteArray := prog_11_method_50_code
def yX9_foretells : MethodName := ⟨RX9, "foretells", "(I)I"⟩
abbrev cX9_pickedAt : ByteArray := prog_11_method_51_code
def yX9_pickedAt : MethodName := ⟨RX9, "pickedAt", "(III)I"⟩
abbrev cX9_holds : ByteArray := prog_11_method_52_code
def yX9_holds : MethodName := ⟨RX9, "holds", "(II)Z"⟩
abbrev cX9_holdsAt : ByteArray := prog_11_method_53_code
def yX9_holdsAt : MethodName := ⟨RX9, "holdsAt", "(II)Z"⟩
abbrev cX9_minutesAt : ByteArray := prog_11_method_54_code
def yX9_minutesAt : MethodName := ⟨RX9, "minutesAt", "(II)I"⟩
abbrev cX9_runs : ByteArray := prog_11_method_55_code
def yX9_runs : MethodName := ⟨RX9, "runs", "(I)V"⟩
abbrev cX9_planSource : ByteArray := prog_11_method_56_code
def yX9_planSource : MethodName := ⟨RX9, "planSource", "(II)I"⟩
abbrev cX9_planWay : ByteArray := prog_11_method_57_code
def yX9_planWay : MethodName := ⟨RX9, "planWay", "(II)I"⟩
abbrev cX9_foretold : ByteArray := prog_11_method_58_code
def yX9_foretold : MethodName := ⟨RX9, "foretold", "(I)I"⟩
abbrev cX9_isRun : ByteArray := prog_11_method_59_code
def yX9_isRun : MethodName := ⟨RX9, "isRun", "(I)Z"⟩
abbrev cX9_minutes : ByteArray := prog_11_method_60_code
def yX9_minutes : MethodName := ⟨RX9, "minutes", "(I)I"⟩
abbrev cX9_answer : ByteArray := prog_11_method_61_code
def yX9_answer : MethodName := ⟨RX9, "answer", "(I)I"⟩
abbrev cX9_sum : ByteArray := prog_11_method_62_code
def yX9_sum : MethodName := ⟨RX9, "sum", "(I)I"⟩
abbrev cX9_plainAnswer : ByteArray := prog_11_method_63_code
def yX9_plainAnswer : MethodName := ⟨RX9, "plainAnswer", "(I)I"⟩
abbrev cX9_plainSum : ByteArray := prog_11_method_64_code
def yX9_plainSum : MethodName := ⟨RX9, "plainSum", "(I)I"⟩
abbrev cX9_marks : ByteArray := prog_11_method_65_code
def yX9_marks : MethodName := ⟨RX9, "marks", "(I)V"⟩
abbrev cX9_dueBehind : ByteArray := prog_11_method_66_code
def yX9_dueBehind : MethodName := ⟨RX9, "dueBehind", "(I)I"⟩
abbrev cX9_dusk : ByteArray := prog_11_method_67_code
def yX9_dusk : MethodName := ⟨RX9, "dusk", "()I"⟩
abbrev cX9_night : ByteArray := prog_11_method_68_code
def yX9_night : MethodName := ⟨RX9, "night", "(I)I"⟩
abbrev cX9_nights : ByteArray := prog_11_method_69_code
def yX9_nights : MethodName := ⟨RX9, "nights", "()I"⟩
abbrev cX9_paid : ByteArray := prog_11_method_70_code
def yX9_paid : MethodName := ⟨RX9, "paid", "()I"⟩
abbrev cX9_left : ByteArray := prog_11_method_71_code
def yX9_left : MethodName := ⟨RX9, "left", "()I"⟩
abbrev cX9_owed : ByteArray := prog_11_method_72_code
def yX9_owed : MethodName := ⟨RX9, "owed", "()I"⟩
abbrev cX9_kept : ByteArray := prog_11_method_73_code
def yX9_kept : MethodName := ⟨RX9, "kept", "(I)I"⟩
abbrev cX9_keptSum : ByteArray := prog_11_method_74_code
def yX9_keptSum : MethodName := ⟨RX9, "keptSum", "(I)I"⟩
abbrev cX9_keptIn : ByteArray := prog_11_method_75_code
def yX9_keptIn : MethodName := ⟨RX9, "keptIn", "(I)I"⟩
def RJ9 : String := "java/lang/Math"
def TJ9 : u_T := fun k => match k with
  | _ => ("", "", "", false)
def tyJ9 : Nat → FieldType := fun k => match k with
  | _ => .int
abbrev wsJ90 : List Cond := u_ws RJ9 TJ9 0
theorem nmJ9 : ∀ a, a < 0 → ∀ b, b < 0 → a ≠ b → (TJ9 a).2.1 ≠ (TJ9 b).2.1 := by decide +kernel
theorem tyJ9_ok : ∀ k, k < 0 → parseFieldDescriptor (TJ9 k).2.2.1 = some (tyJ9 k) := by decide +kernel
abbrev cJ9_max_7cf53 : ByteArray := prog_16_method_65_code
def yJ9_max_7cf53 : MethodName := ⟨RJ9, "max", "(II)I"⟩
abbrev cJ9_min_7cf53 : ByteArray := prog_16_method_69_code
def yJ9_min_7cf53 : MethodName := ⟨RJ9, "min", "(II)I"⟩
def RJ0 : String := "java/lang/String"
def TJ0 : u_T := fun k => match k with
  | _ => ("", "", "", false)
def tyJ0 : Nat → FieldType := fun k => match k with
  | _ => .int
abbrev wsJ00 : List Cond := u_ws RJ0 TJ0 0
theorem nmJ0 : ∀ a, a < 0 → ∀ b, b < 0 → a ≠ b → (TJ0 a).2.1 ≠ (TJ0 b).2.1 := by decide +kernel
theorem tyJ0_ok : ∀ k, k < 0 → parseFieldDescriptor (TJ0 k).2.2.1 = some (tyJ0 k) := by decide +kernel
def RL : String := "WharfQueryLaw"
abbrev cL_addTable : ByteArray := method_3_code
def yL_addTable : MethodName := ⟨RL, "addTable", "(LWharfQuery;I[J)I"⟩
abbrev cL_insert : ByteArray := method_4_code
def yL_insert : MethodName := ⟨RL, "insert", "(LWharfQuery;IIII[J)I"⟩
abbrev cL_delete : ByteArray := method_5_code
def yL_delete : MethodName := ⟨RL, "delete", "(LWharfQuery;II[J)I"⟩
abbrev cL_setIndex : ByteArray := method_6_code
def yL_setIndex : MethodName := ⟨RL, "setIndex", "(LWharfQuery;IIZ[J)I"⟩
abbrev cL_rows : ByteArray := method_7_code
def yL_rows : MethodName := ⟨RL, "rows", "(LWharfQuery;I[J)I"⟩
abbrev cL_value : ByteArray := method_8_code
def yL_value : MethodName := ⟨RL, "value", "(LWharfQuery;III[J)I"⟩
abbrev cL_renew : ByteArray := method_9_code
def yL_renew : MethodName := ⟨RL, "renew", "(LWharfQuery;II[J)I"⟩
abbrev cL_setStep : ByteArray := method_10_code
def yL_setStep : MethodName := ⟨RL, "setStep", "(LWharfQuery;I[J)I"⟩
abbrev cL_toldRows : ByteArray := method_11_code
def yL_toldRows : MethodName := ⟨RL, "toldRows", "(LWharfQuery;I[J)I"⟩
abbrev cL_unlike : ByteArray := method_12_code
def yL_unlike : MethodName := ⟨RL, "unlike", "(LWharfQuery;II[J)I"⟩
abbrev cL_least : ByteArray := method_13_code
def yL_least : MethodName := ⟨RL, "least", "(LWharfQuery;II[J)I"⟩
abbrev cL_greatest : ByteArray := method_14_code
def yL_greatest : MethodName := ⟨RL, "greatest", "(LWharfQuery;II[J)I"⟩
abbrev cL_isMarked : ByteArray := method_15_code
def yL_isMarked : MethodName := ⟨RL, "isMarked", "(LWharfQuery;I[J)I"⟩
abbrev cL_addReport : ByteArray := method_16_code
def yL_addReport : MethodName := ⟨RL, "addReport", "(LWharfQuery;I[J)I"⟩
abbrev cL_addSource : ByteArray := method_17_code
def yL_addSource : MethodName := ⟨RL, "addSource", "(LWharfQuery;II[J)I"⟩
abbrev cL_addCondition : ByteArray := method_18_code
def yL_addCondition : MethodName := ⟨RL, "addCondition", "(LWharfQuery;IIIII[J)I"⟩
abbrev cL_addJoin : ByteArray := method_19_code
def yL_addJoin : MethodName := ⟨RL, "addJoin", "(LWharfQuery;IIIII[J)I"⟩
abbrev cL_dropCondition : ByteArray := method_20_code
def yL_dropCondition : MethodName := ⟨RL, "dropCondition", "(LWharfQuery;I[J)I"⟩
abbrev cL_setSum : ByteArray := method_21_code
def yL_setSum : MethodName := ⟨RL, "setSum", "(LWharfQuery;III)I"⟩
abbrev cL_setDue : ByteArray := method_22_code
def yL_setDue : MethodName := ⟨RL, "setDue", "(LWharfQuery;IZ[J)I"⟩
abbrev cL_isDue : ByteArray := method_23_code
def yL_isDue : MethodName := ⟨RL, "isDue", "(LWharfQuery;I[J)I"⟩
abbrev cL_planSource : ByteArray := method_24_code
def yL_planSource : MethodName := ⟨RL, "planSource", "(LWharfQuery;II[J)I"⟩
abbrev cL_planWay : ByteArray := method_25_code
def yL_planWay : MethodName := ⟨RL, "planWay", "(LWharfQuery;II[J)I"⟩
abbrev cL_foretold : ByteArray := method_26_code
def yL_foretold : MethodName := ⟨RL, "foretold", "(LWharfQuery;I[J)I"⟩
abbrev cL_minutes : ByteArray := method_27_code
def yL_minutes : MethodName := ⟨RL, "minutes", "(LWharfQuery;I[J)I"⟩
abbrev cL_answer : ByteArray := method_28_code
def yL_answer : MethodName := ⟨RL, "answer", "(LWharfQuery;I[J)I"⟩
abbrev cL_sum : ByteArray := method_29_code
def yL_sum : MethodName := ⟨RL, "sum", "(LWharfQuery;I[J)I"⟩
abbrev cL_plainAnswer : ByteArray := method_30_code
def yL_plainAnswer : MethodName := ⟨RL, "plainAnswer", "(LWharfQuery;I[J)I"⟩
abbrev cL_plainSum : ByteArray := method_31_code
def yL_plainSum : MethodName := ⟨RL, "plainSum", "(LWharfQuery;I[J)I"⟩
abbrev cL_night : ByteArray := method_32_code
def yL_night : MethodName := ⟨RL, "night", "(LWharfQuery;I[J)I"⟩
abbrev cL_kept : ByteArray := method_33_code
def yL_kept : MethodName := ⟨RL, "kept", "(LWharfQuery;I[J)I"⟩
abbrev cL_keptSum : ByteArray := method_34_code
def yL_keptSum : MethodName := ⟨RL, "keptSum", "(LWharfQuery;I[J)I"⟩
abbrev cL_keptIn : ByteArray := method_35_code
def yL_keptIn : MethodName := ⟨RL, "keptIn", "(LWharfQuery;I[J)I"⟩
abbrev cL_law : ByteArray := code
def yL_law : MethodName := ⟨RL, "law", "([I)Z"⟩
def wsJ9_max_7cf53 : List Cond := .code yJ9_max_7cf53 cJ9_max_7cf53 2 (some .int) :: ([])
def wsJ9_min_7cf53 : List Cond := .code yJ9_min_7cf53 cJ9_min_7cf53 2 (some .int) :: ([])
theorem inJ9 : ∀ w ∈ wsJ90, w ∈ lw_tbl := by decide +kernel
theorem inJ0 : ∀ w ∈ wsJ00, w ∈ lw_tbl := by decide +kernel
theorem dJ9_max_7cf53_0 : decode cJ9_max_7cf53 0 = .ok (.iload_n 0, 1) := by decide +kernel
theorem dJ9_max_7cf53_1 : decode cJ9_max_7cf53 1 = .ok (.iload_n 1, 1) := by decide +kernel
theorem dJ9_max_7cf53_2 : decode cJ9_max_7cf53 2 = .ok (.if_icmp .lt 7, 3) := by decide +kernel
theorem dJ9_max_7cf53_5 : decode cJ9_max_7cf53 5 = .ok (.iload_n 0, 1) := by decide +kernel
theorem dJ9_max_7cf53_6 : decode cJ9_max_7cf53 6 = .ok (.goto 4, 3) := by decide +kernel
theorem dJ9_max_7cf53_9 : decode cJ9_max_7cf53 9 = .ok (.iload_n 1, 1) := by decide +kernel
theorem dJ9_max_7cf53_10 : decode cJ9_max_7cf53 10 = .ok (.ireturn, 1) := by decide +kernel
theorem dJ9_min_7cf53_0 : decode cJ9_min_7cf53 0 = .ok (.iload_n 0, 1) := by decide +kernel
theorem dJ9_min_7cf53_1 : decode cJ9_min_7cf53 1 = .ok (.iload_n 1, 1) := by decide +kernel
theorem dJ9_min_7cf53_2 : decode cJ9_min_7cf53 2 = .ok (.if_icmp .gt 7, 3) := by decide +kernel
theorem dJ9_min_7cf53_5 : decode cJ9_min_7cf53 5 = .ok (.iload_n 0, 1) := by decide +kernel
theorem dJ9_min_7cf53_6 : decode cJ9_min_7cf53 6 = .ok (.goto 4, 3) := by decide +kernel
theorem dJ9_min_7cf53_9 : decode cJ9_min_7cf53 9 = .ok (.iload_n 1, 1) := by decide +kernel
theorem dJ9_min_7cf53_10 : decode cJ9_min_7cf53 10 = .ok (.ireturn, 1) := by decide +kernel
abbrev vwCl : List vw_C := [(RX0, TX0, 4), (RX1, TX1, 6), (RX2, TX2, 10), (RX3, TX3, 4), (RX4, TX4, 3), (RX5, TX5, 11), (RX6, TX6, 5), (RX7, TX7, 9), (RX8, TX8, 8), (RX9, TX9, 43)]
/-- the tables' words that are the same at every moment of a run -/
def wq_aw : List Cond := lw_tbl.filter goodWord
theorem wq_mem {w : Cond} (i : Nat) (h : lw_tbl[i]? = some w) (g : goodWord w = true) : w ∈ wq_aw := List.mem_filter.mpr ⟨List.mem_of_getElem? h, g⟩
theorem wq_aw_in : ∀ w ∈ wq_aw, w ∈ lw_tbl := fun _ h => (List.mem_filter.mp h).1
theorem wq_aw_good : ∀ w ∈ wq_aw, goodWord w = true := fun _ h => (List.mem_filter.mp h).2
theorem wq_memall {ws : List Cond} (is : List Nat) (h : ws.map some = is.map (fun i => lw_tbl[i]?)) (g : ws.all goodWord = true) : ∀ w ∈ ws, w ∈ wq_aw := by
  intro w hw
  refine List.mem_filter.mpr ⟨?_, List.all_eq_true.mp g w hw⟩
  have h1 : some w ∈ ws.map some := List.mem_map.mpr ⟨w, hw, rfl⟩
  rw [h] at h1
  obtain ⟨i, -, hi⟩ := List.mem_map.mp h1
  exact List.mem_of_getElem? hi
/-- the words of a method: its code, and all of these -/
def wq_ws (c : Cond) : List Cond := c :: wq_aw
theorem wq_goodIn {c c' : Cond} (h : c' ∈ wq_aw) : GoodIn (wq_ws c) (wq_ws c') := by
  intro w hw
  rcases List.mem_cons.mp hw with rfl | hw
  · exact ⟨List.mem_cons_of_mem _ h, good_of_word (wq_aw_good _ h)⟩
  · exact ⟨List.mem_cons_of_mem _ hw, good_of_word (wq_aw_good _ hw)⟩
end
section
/-! THE STATE AS NUMBERS. A cell of the world stands at base + offset; what it holds of numbers is a row of Int, read as 32 or 64 bits where the machine looks. -/
abbrev wq_St : Type := Nat → Nat → Int
def wq_set (S : wq_St) (k j : Nat) (v : Int) : wq_St := fun a i => if a = k ∧ i = j then v else S a i
def wq_I (x : Int) : Int32 := Int32.ofInt x
def wq_J (x : Int) : Int64 := Int64.ofInt x
/-- the number that the machine sees of it: 32 bits, 64 bits -/
def wq_w (x : Int) : Int := (wq_I x).toInt
def wq_v (x : Int) : Int := (wq_J x).toInt
theorem wq_bmod {z : Int} (h1 : -2147483648 ≤ z) (h2 : z < 2147483648) : z.bmod (2 ^ 32) = z := by
  rw [Int.bmod_def]
  split <;> omega
theorem wq_bmodL {z : Int} (h1 : -9223372036854775808 ≤ z) (h2 : z < 9223372036854775808) : z.bmod (2 ^ 64) = z := by
  rw [Int.bmod_def]
  split <;> omega
theorem wq_w_id {x : Int} (h1 : -2147483648 ≤ x) (h2 : x < 2147483648) : wq_w x = x := by
  unfold wq_w wq_I
  rw [Int32.toInt_ofInt]
  exact wq_bmod h1 h2
theorem wq_v_id {x : Int} (h1 : -9223372036854775808 ≤ x) (h2 : x < 9223372036854775808) : wq_v x = x := by
  unfold wq_v wq_J
  rw [Int64.toInt_ofInt]
  exact wq_bmodL h1 h2
theorem wq_w_rng (x : Int) : -2147483648 ≤ wq_w x ∧ wq_w x < 2147483648 := by
  have h1 := Int32.le_toInt (wq_I x)
  have h2 := Int32.toInt_lt (wq_I x)
  unfold wq_w
  omega
theorem wq_v_rng (x : Int) : -9223372036854775808 ≤ wq_v x ∧ wq_v x < 9223372036854775808 := by
  have h1 := Int64.le_toInt (wq_J x)
  have h2 := Int64.toInt_lt (wq_J x)
  unfold wq_v
  omega
theorem wq_I_w (x : Int) : wq_I (wq_w x) = wq_I x := Int32.ofInt_toInt _
theorem wq_J_v (x : Int) : wq_J (wq_v x) = wq_J x := Int64.ofInt_toInt _
theorem wq_I_of (x : Int32) : wq_I x.toInt = x := Int32.ofInt_toInt _
theorem wq_J_of (x : Int64) : wq_J x.toInt = x := Int64.ofInt_toInt _
theorem wq_I_add (a b : Int) : wq_I a + wq_I b = wq_I (a + b) := (Int32.ofInt_add a b).symm
theorem wq_I_sub (a b : Int) : wq_I a - wq_I b = wq_I (a - b) := (Int32.ofInt_sub a b).symm
theorem wq_I_mul (a b : Int) : wq_I a * wq_I b = wq_I (a * b) := (Int32.ofInt_mul a b).symm
theorem wq_J_add (a b : Int) : wq_J a + wq_J b = wq_J (a + b) := (Int64.ofInt_add a b).symm
theorem wq_J_sub (a b : Int) : wq_J a - wq_J b = wq_J (a - b) := (Int64.ofInt_sub a b).symm
theorem wq_J_mul (a b : Int) : wq_J a * wq_J b = wq_J (a * b) := (Int64.ofInt_mul a b).symm
theorem wq_I_div (a b : Int) : wq_I a / wq_I b = wq_I (Int.tdiv (wq_w a) (wq_w b)) := by
  apply Int32.toInt_inj.mp
  rw [Int32.toInt_div]
  unfold wq_w
  conv => rhs; unfold wq_I
  rw [Int32.toInt_ofInt]
  rfl
theorem wq_J_div (a b : Int) : wq_J a / wq_J b = wq_J (Int.tdiv (wq_v a) (wq_v b)) := by
  apply Int64.toInt_inj.mp
  rw [Int64.toInt_div]
  unfold wq_v
  conv => rhs; unfold wq_J
  rw [Int64.toInt_ofInt]
  rfl
theorem wq_I_eq (a b : Int) : wq_I a = wq_I b ↔ wq_w a = wq_w b := Int32.toInt_inj.symm
theorem wq_I_lt (a b : Int) : wq_I a < wq_I b ↔ wq_w a < wq_w b := Int32.lt_iff_toInt_lt
theorem wq_I_le (a b : Int) : wq_I a ≤ wq_I b ↔ wq_w a ≤ wq_w b := Int32.le_iff_toInt_le
theorem wq_J_eq (a b : Int) : wq_J a = wq_J b ↔ wq_v a = wq_v b := Int64.toInt_inj.symm
theorem wq_J_lt (a b : Int) : wq_J a < wq_J b ↔ wq_v a < wq_v b := Int64.lt_iff_toInt_lt
theorem wq_I_0 : wq_I 0 = 0 := rfl
theorem wq_J_0 : wq_J 0 = 0 := rfl
theorem wq_w_0 : wq_w 0 = 0 := rfl
theorem wq_i2l (a : Int) : (wq_I a).toInt64 = wq_J (wq_w a) := by
  apply Int64.toInt_inj.mp
  rw [Int32.toInt_toInt64]
  show (wq_I a).toInt = wq_v (wq_w a)
  have h := wq_w_rng a
  rw [wq_v_id (by omega) (by omega)]
  rfl
theorem wq_l2i (a : Int) : (wq_J a).toInt32 = wq_I a := Int64.toInt32_ofInt
def wq_and (a b : Int) : Int := (wq_I a &&& wq_I b).toInt
def wq_or (a b : Int) : Int := (wq_I a ||| wq_I b).toInt
def wq_shl (a b : Int) : Int := (wq_I a <<< (wq_I b &&& 31)).toInt
def wq_shr (a b : Int) : Int := (wq_I a >>> (wq_I b &&& 31)).toInt
def wq_div (a b : Int) : Int := Int.tdiv (wq_w a) (wq_w b)
def wq_rem (a b : Int) : Int := a - wq_div a b * b
def wq_divL (a b : Int) : Int := Int.tdiv (wq_v a) (wq_v b)
def wq_cmp (a b : Int) : Int := if wq_v a < wq_v b then -1 else if wq_v a = wq_v b then 0 else 1
def wq_max (a b : Int) : Int := if wq_w a < wq_w b then b else a
def wq_min (a b : Int) : Int := if wq_w b < wq_w a then b else a
/-! GUARDED STEPS of the pictures of methods: none where the machine would throw -/
def wq_gd {α : Type} (c : Prop) [Decidable c] (x : Option α) : Option α := if c then x else none
theorem wq_gd_some {α : Type} {c : Prop} [Decidable c] {x : Option α} {o : α} (h : wq_gd c x = some o) : c ∧ x = some o := by
  unfold wq_gd at h
  split at h
  · exact ⟨by assumption, h⟩
  · cases h
theorem wq_gd_t {α : Type} {c : Prop} [Decidable c] {x : Option α} (h : c) : wq_gd c x = x := if_pos h
def wq_ix {α : Type} (i : Int) (n : Nat) (k : Nat → Option α) : Option α := if 0 ≤ wq_w i ∧ wq_w i < (n : Int) then k (wq_w i).toNat else none
theorem wq_ix_some {α : Type} {i : Int} {n : Nat} {k : Nat → Option α} {o : α} (h : wq_ix i n k = some o) : ∃ t : Nat, t < n ∧ wq_w i = (t : Int) ∧ k t = some o := by
  unfold wq_ix at h
  split at h
  · rename_i hc
    exact ⟨(wq_w i).toNat, by omega, by omega, h⟩
  · cases h
theorem wq_ix_t {α : Type} {i : Int} {n : Nat} {k : Nat → Option α} (t : Nat) (h : i = (t : Int)) (ht : t < n) (hn : n < 2147483648) : wq_ix i n k = k t := by
  have e : wq_w i = (t : Int) := by rw [h]; exact wq_w_id (by omega) (by omega)
  unfold wq_ix
  rw [if_pos (by omega), e]
  rfl
def wq_lt {α β : Type} (e : β) (k : β → Option α) : Option α := k e
theorem wq_lt_some {α β : Type} {e : β} {k : β → Option α} {o : α} (h : wq_lt e k = some o) : ∃ x, x = e ∧ k x = some o := ⟨e, rfl, h⟩
/-- a callee that returns: its answer, and the state behind it -/
def wq_bd {α β : Type} (x : Option (β × wq_St)) (k : β → wq_St → Option α) : Option α := match x with
  | none => none
  | some (r, S) => k r S
theorem wq_bd_some {α β : Type} {x : Option (β × wq_St)} {k : β → wq_St → Option α} {o : α} (h : wq_bd x k = some o) : ∃ (r : β) (S : wq_St), x = some (r, S) ∧ k r S = some o := by
  cases x with
  | none => cases h
  | some q => exact ⟨q.1, q.2, rfl, h⟩
/-- a callee that returns (0), or throws (1 IndexOutOfBounds, 2 IllegalArgument, 3 IllegalState) -/
def wq_bx {α β : Type} (z : α) (x : Option (Nat × β × wq_St)) (k : β → wq_St → Option (Nat × α × wq_St)) : Option (Nat × α × wq_St) := match x with
  | none => none
  | some (0, r, S) => k r S
  | some (n + 1, _, S) => some (n + 1, z, S)
theorem wq_bx_some {α β : Type} {z : α} {x : Option (Nat × β × wq_St)} {k : β → wq_St → Option (Nat × α × wq_St)} {o : Nat × α × wq_St} (h : wq_bx z x k = some o) :
    (∃ (r : β) (S : wq_St), x = some (0, r, S) ∧ k r S = some o) ∨ ∃ (n : Nat) (r : β) (S : wq_St), x = some (n + 1, r, S) ∧ o = (n + 1, z, S) := by
  cases x with
  | none => cases h
  | some q =>
    obtain ⟨n, r, S⟩ := q
    cases n with
    | zero => exact Or.inl ⟨r, S, rfl, h⟩
    | succ n => exact Or.inr ⟨n, r, S, rfl, (Option.some.inj h).symm⟩
/-! loops: a body over what goes on, unrolled n times at most -/
def wq_loop {σ ρ : Type} (f : (σ → Option ρ) → σ → Option ρ) : Nat → σ → Option ρ
  | 0, _ => none
  | n + 1, x => f (wq_loop f n) x
theorem wq_loop_ind {σ ρ : Type} {f : (σ → Option ρ) → σ → Option ρ} {o : ρ} {P : σ → Prop} (h : ∀ rec : σ → Option ρ, (∀ x, rec x = some o → P x) → ∀ x, f rec x = some o → P x) : ∀ (n : Nat) (x : σ), wq_loop f n x = some o → P x
  | 0, _, e => by cases e
  | n + 1, x, e => h (wq_loop f n) (wq_loop_ind h n) x e
def wq_fu : Nat := 10000000
/-! THE MACHINE OVER SUCH A STATE -/
def wq_Wd (D : va_G) (E : (Nat → Int) → Nat → va_E) (b N : Nat) (S : wq_St) (H : Heap) : Prop := ∀ k : Nat, k < N → va_at D vwCl (b + k, E (S k) k) H
def wq_Ab (b N : Nat) : Nat → Prop := fun q => b ≤ q ∧ q < b + N
def wq_tys (Ar : Nat → ClassId) : List (ClassId × FieldType) := [(Ar 0, .int), (Ar 1, .boolean), (Ar 2, .array .int), (Ar 3, .object "WharfQuery$Column"), (Ar 4, .object "WharfQuery$Condition"), (Ar 5, .object "WharfQuery$Report"), (Ar 6, .object "WharfQuery$Table"), (Ar 7, .long)]
def wq_rm (n mc ms : Nat) : Room := { frames := n, cells := mc, slots := ms, locals := 40 * n }
/-- locals by their places -/
def wq_has (ls : Array Slot) (nL : Nat) (L : List (Option Value)) : Prop := ls.size = nL ∧ lv_wf ls ∧ ∀ (i : Nat) (v : Value), L[i]? = some (some v) → ls[i]? = some (.val v)
def wq_pos : Nat → List (Option Value) → List (Nat × Value)
  | _, [] => []
  | i, none :: l => wq_pos (i + 1) l
  | i, some v :: l => (i, v) :: wq_pos (i + 1) l
theorem wq_pos_in : ∀ (l : List (Option Value)) (i j : Nat) (v : Value), (j, v) ∈ wq_pos i l → i ≤ j ∧ l[j - i]? = some (some v)
  | [], i, j, v, h => by simp [wq_pos] at h
  | none :: l, i, j, v, h => by
    obtain ⟨h1, h2⟩ := wq_pos_in l (i + 1) j v h
    refine ⟨by omega, ?_⟩
    rw [show j - i = (j - (i + 1)) + 1 by omega]
    exact h2
  | some w :: l, i, j, v, h => by
    rcases List.mem_cons.mp h with h | h
    · cases h
      exact ⟨Nat.le_refl _, by rw [Nat.sub_self]; rfl⟩
    · obtain ⟨h1, h2⟩ := wq_pos_in l (i + 1) j v h
      refine ⟨by omega, ?_⟩
      rw [show j - i = (j - (i + 1)) + 1 by omega]
      exact h2
theorem wq_in_pos : ∀ (l : List (Option Value)) (i j : Nat) (v : Value), l[j]? = some (some v) → (i + j, v) ∈ wq_pos i l
  | [], i, j, v, h => by simp at h
  | none :: l, i, 0, v, h => by simp at h
  | none :: l, i, j + 1, v, h => by
    have h2 := wq_in_pos l (i + 1) j v (by simpa using h)
    rw [show i + (j + 1) = i + 1 + j by omega]
    exact h2
  | some w :: l, i, 0, v, h => by
    have e : w = v := by simpa using h
    subst e
    exact List.mem_cons_self
  | some w :: l, i, j + 1, v, h => by
    have h2 := wq_in_pos l (i + 1) j v (by simpa using h)
    rw [show i + (j + 1) = i + 1 + j by omega]
    exact List.mem_cons_of_mem _ h2
theorem wq_has_lv {ls : Array Slot} {nL : Nat} {L : List (Option Value)} (h : wq_has ls nL L) : lv_has ls nL (wq_pos 0 L) := by
  refine ⟨h.1, h.2.1, fun q hq => ?_⟩
  obtain ⟨-, h2⟩ := wq_pos_in L 0 q.1 q.2 hq
  exact h.2.2 _ _ h2
/-- no long stands right before the place i -/
def wq_ok (L : List (Option Value)) : Nat → Bool
  | 0 => true
  | i + 1 => match L[i]? with
    | some (some v) => v.category == 1
    | _ => true
theorem wq_ok_ne {L : List (Option Value)} {i j : Nat} {v : Value} (h : wq_ok L i = true) (e : j + 1 = i) (hv : L[j]? = some (some v)) : ¬ v.category = 2 := by
  subst e
  simp only [wq_ok, hv] at h
  have h2 : v.category = 1 := by simpa using h
  omega
theorem wq_has1 {ls' : Array Slot} {nL i : Nat} {L : List (Option Value)} {v : Value} (hok : wq_ok L i = true) (h : lv_has ls' nL ((i, v) :: (wq_pos 0 L).filter (fun q => !(q.1 == i) && !(q.1 + 1 == i && q.2.category == 2)))) : wq_has ls' nL (L.set i (some v)) := by
  refine ⟨h.1, h.2.1, fun j u hj => ?_⟩
  by_cases e : j = i
  · subst e
    by_cases hlt : j < L.length
    · rw [List.getElem?_set_self hlt] at hj
      cases hj
      exact h.2.2 (j, v) List.mem_cons_self
    · rw [List.getElem?_eq_none (by simp; omega)] at hj
      cases hj
  · rw [List.getElem?_set_ne (Ne.symm e)] at hj
    refine h.2.2 (j, u) (List.mem_cons_of_mem _ (List.mem_filter.mpr ⟨?_, ?_⟩))
    · have := wq_in_pos L 0 j u hj
      simpa using this
    · by_cases e2 : j + 1 = i
      · have := wq_ok_ne hok e2 hj
        simp [e, this]
      · simp [e, e2]
theorem wq_has2 {ls' : Array Slot} {nL i : Nat} {L : List (Option Value)} {v : Value} (hok : wq_ok L i = true) (h : lv_has ls' nL ((i, v) :: (wq_pos 0 L).filter (fun q => !(q.1 == i) && (!(q.1 == i + 1) && !(q.1 + 1 == i && q.2.category == 2))))) : wq_has ls' nL ((L.set i (some v)).set (i + 1) none) := by
  refine ⟨h.1, h.2.1, fun j u hj => ?_⟩
  by_cases e : j = i
  · subst e
    rw [List.getElem?_set_ne (by omega)] at hj
    by_cases hlt : j < L.length
    · rw [List.getElem?_set_self hlt] at hj
      cases hj
      exact h.2.2 (j, v) List.mem_cons_self
    · rw [List.getElem?_eq_none (by simp; omega)] at hj
      cases hj
  · by_cases e1 : j = i + 1
    · subst e1
      by_cases hlt : i + 1 < (L.set i (some v)).length
      · rw [List.getElem?_set_self hlt] at hj
        cases hj
      · rw [List.getElem?_eq_none (by rw [List.length_set]; omega)] at hj
        cases hj
    · rw [List.getElem?_set_ne (by omega), List.getElem?_set_ne (Ne.symm e)] at hj
      refine h.2.2 (j, u) (List.mem_cons_of_mem _ (List.mem_filter.mpr ⟨?_, ?_⟩))
      · have := wq_in_pos L 0 j u hj
        simpa using this
      · by_cases e2 : j + 1 = i
        · have := wq_ok_ne hok e2 hj
          simp [e, e1, this]
        · simp [e, e1, e2]
/-- fewer known locals -/
theorem wq_less {ls : Array Slot} {nL : Nat} {L L' : List (Option Value)} (h : wq_has ls nL L) (hs : ∀ (i : Nat) (v : Value), L'[i]? = some (some v) → L[i]? = some (some v)) : wq_has ls nL L' := ⟨h.1, h.2.1, fun i v hi => h.2.2 i v (hs i v hi)⟩
def wq_sub : List (Option Value) → List (Option Value) → Prop
  | [], _ => True
  | none :: l', _ :: l => wq_sub l' l
  | none :: l', [] => wq_sub l' []
  | some v :: l', w :: l => w = some v ∧ wq_sub l' l
  | some _ :: _, [] => False
theorem wq_sub_at : ∀ (l' l : List (Option Value)), wq_sub l' l → ∀ (i : Nat) (v : Value), l'[i]? = some (some v) → l[i]? = some (some v)
  | [], _, _, i, v, hi => by simp at hi
  | none :: l', _ :: l, h, 0, v, hi => by simp at hi
  | none :: l', _ :: l, h, i + 1, v, hi => by
    rw [List.getElem?_cons_succ] at hi ⊢
    exact wq_sub_at l' l h i v hi
  | none :: l', [], h, 0, v, hi => by simp at hi
  | none :: l', [], h, i + 1, v, hi => by
    rw [List.getElem?_cons_succ] at hi
    have := wq_sub_at l' [] h i v hi
    simp at this
  | some w :: l', u :: l, h, 0, v, hi => by
    rw [List.getElem?_cons_zero] at hi ⊢
    cases hi
    rw [h.1]
  | some w :: l', u :: l, h, i + 1, v, hi => by
    rw [List.getElem?_cons_succ] at hi ⊢
    exact wq_sub_at l' l h.2 i v hi
  | some _ :: _, [], h, _, _, _ => h.elim
/-- the locals of a method's start -/
def wq_args (n : Nat) (vs : List Value) : List (Option Value) := (vs.flatMap fun v => if v.category = 2 then [some v, none] else [some v]) ++ List.replicate (n - (lg_sl vs).length) none
theorem wq_args_lv : ∀ (vs : List Value) (i j : Nat) (v : Value), (vs.flatMap fun v => if v.category = 2 then [some v, none] else [some v])[j]? = some (some v) → (i + j, v) ∈ lv_args i vs
  | [], i, j, v, h => by simp at h
  | w :: vs, i, j, v, h => by
    rw [List.flatMap_cons] at h
    by_cases hc : w.category = 2
    · rw [if_pos hc] at h
      match j, h with
      | 0, h =>
        have e : w = v := by simpa using h
        subst e
        exact List.mem_cons_self
      | 1, h => simp at h
      | j + 2, h =>
        have h2 := wq_args_lv vs (i + 2) j v (by simpa using h)
        refine List.mem_cons_of_mem _ ?_
        rw [if_pos hc, show i + (j + 2) = i + 2 + j by omega]
        exact h2
    · rw [if_neg hc] at h
      match j, h with
      | 0, h =>
        have e : w = v := by simpa using h
        subst e
        exact List.mem_cons_self
      | j + 1, h =>
        have h2 := wq_args_lv vs (i + 1) j v (by simpa using h)
        refine List.mem_cons_of_mem _ ?_
        rw [if_neg hc, show i + (j + 1) = i + 1 + j by omega]
        exact h2
theorem wq_entry (vs : List Value) {n : Nat} (h : (lg_sl vs).length ≤ n) : wq_has ((lg_sl vs ++ List.replicate (n - (lg_sl vs).length) Slot.unset).toArray) n (wq_args n vs) := by
  have h0 := lv_entry vs h
  refine ⟨h0.1, h0.2.1, fun i v hi => ?_⟩
  refine h0.2.2 (i, v) ?_
  unfold wq_args at hi
  by_cases hl : i < (vs.flatMap fun v => if v.category = 2 then [some v, none] else [some v]).length
  · rw [List.getElem?_append_left hl] at hi
    have := wq_args_lv vs 0 i v hi
    simpa using this
  · rw [List.getElem?_append_right (by omega)] at hi
    rw [List.getElem?_replicate] at hi
    split at hi <;> cases hi
theorem wq_ift {α : Type} {c : Prop} [Decidable c] {a b o : α} (hc : c) (h : (if c then a else b) = o) : a = o := by rw [if_pos hc] at h; exact h
theorem wq_iff {α : Type} {c : Prop} [Decidable c] {a b o : α} (hc : ¬ c) (h : (if c then a else b) = o) : b = o := by rw [if_neg hc] at h; exact h
def wq_dp : Nat := 6
end
section
def f_X1_compare (k0 : Nat) (x1 : Int) (x2 : Int) (x3 : Int) (x4 : Int) (S : wq_St) : Option (Int × wq_St) :=
  wq_lt (wq_set S k0 1 x1) fun S1 =>
  wq_lt (wq_set S1 k0 2 x2) fun S2 =>
  wq_lt (wq_set S2 k0 0 x3) fun S3 =>
  some (0, wq_set S3 k0 3 x4)
def f_X1_join (k0 : Nat) (x1 : Int) (x2 : Int) (x3 : Int) (x4 : Int) (S : wq_St) : Option (Int × wq_St) :=
  wq_lt (wq_set S k0 1 x1) fun S1 =>
  wq_lt (wq_set S1 k0 2 x2) fun S2 =>
  wq_lt (wq_set S2 k0 0 3) fun S3 =>
  wq_lt (wq_set S3 k0 4 x3) fun S4 =>
  some (0, wq_set S4 k0 5 x4)
def f_X1_stepIn (k0 : Nat) (k1 : Nat) (S : wq_St) : Option (Int × wq_St) :=
  wq_ix (S k0 1) 3 fun t1 =>
  if wq_w (S k0 0) = wq_w 3 then
    wq_ix (S k0 4) 3 fun t2 =>
    if wq_w (S (k1 + 3) t2) ≤ wq_w (S (k1 + 3) t1) then
      some (S (k1 + 3) t1, S)
    else
      wq_ix (S k0 4) 3 fun t3 =>
      some (S (k1 + 3) t3, S)
  else
    some (S (k1 + 3) t1, S)
def j_X1_asksForOneValueOf_33 (q0 : Nat) (j1 : Int) (j2 : Int) (S : wq_St) : Option (Int × wq_St) :=
  if wq_w (S q0 0) = wq_w 3 then
    if wq_w (S q0 4) = wq_w j1 then
      if wq_w (S q0 5) = wq_w j2 then
        some (1, S)
      else
        some (0, S)
    else
      some (0, S)
  else
    some (0, S)
def j_X1_asksForOneValueOf_15 (q0 : Nat) (j1 : Int) (j2 : Int) (S : wq_St) : Option (Int × wq_St) :=
  if wq_w (S q0 1) = wq_w j1 then
    if wq_w (S q0 2) = wq_w j2 then
      some (1, S)
    else
      j_X1_asksForOneValueOf_33 q0 j1 j2 S
  else
    j_X1_asksForOneValueOf_33 q0 j1 j2 S
def f_X1_asksForOneValueOf (k0 : Nat) (x1 : Int) (x2 : Int) (S : wq_St) : Option (Int × wq_St) :=
  if wq_w (S k0 0) = 0 then
    j_X1_asksForOneValueOf_15 k0 x1 x2 S
  else
    if wq_w (S k0 0) = wq_w 3 then
      j_X1_asksForOneValueOf_15 k0 x1 x2 S
    else
      j_X1_asksForOneValueOf_33 k0 x1 x2 S
def b_X7_takeSample_10 (q0 : Nat) (c1 : Int) (kx : Int → wq_St → Option (Int × wq_St)) (rec : Int → Int → Int → Int → wq_St → Option (Int × wq_St)) (y2 : Int) (y3 : Int) (y4 : Int) (y5 : Int) (S : wq_St) : Option (Int × wq_St) :=
  if wq_w (S q0 5) ≤ wq_w y5 then
    kx y2 S
  else
    wq_ix y5 40 fun t1 =>
    if wq_w (S (q0 + 43) t1) = 0 then
      rec y2 y3 y4 (y5 + 1) S
    else
      if wq_w y3 = wq_w y4 then
        wq_ix y2 40 fun t2 =>
        wq_lt (wq_set S (q0 + 44) t2 y5) fun S3 =>
        rec (y2 + 1) (y3 + 1) (y4 + c1) (y5 + 1) S3
      else
        rec y2 (y3 + 1) y4 (y5 + 1) S
def l_X7_takeSample_10 (q0 : Nat) (c1 : Int) (kx : Int → wq_St → Option (Int × wq_St)) (n : Nat) (y2 : Int) (y3 : Int) (y4 : Int) (y5 : Int) (S : wq_St) : Option (Int × wq_St) :=
  wq_loop (fun (g : Int × Int × Int × Int × wq_St → Option (Int × wq_St)) (x : Int × Int × Int × Int × wq_St) => b_X7_takeSample_10 q0 c1 kx (fun y2 y3 y4 y5 S => g (y2, y3, y4, y5, S)) x.1 x.2.1 x.2.2.1 x.2.2.2.1 x.2.2.2.2) n (y2, y3, y4, y5, S)
theorem l_X7_takeSample_10_s (q0 : Nat) (c1 : Int) (kx : Int → wq_St → Option (Int × wq_St)) (n : Nat) (y2 : Int) (y3 : Int) (y4 : Int) (y5 : Int) (S : wq_St) : l_X7_takeSample_10 q0 c1 kx (n + 1) y2 y3 y4 y5 S = b_X7_takeSample_10 q0 c1 kx (l_X7_takeSample_10 q0 c1 kx n) y2 y3 y4 y5 S := rfl
theorem l_X7_takeSample_10_0 (q0 : Nat) (c1 : Int) (kx : Int → wq_St → Option (Int × wq_St)) (y2 : Int) (y3 : Int) (y4 : Int) (y5 : Int) (S : wq_St) : l_X7_takeSample_10 q0 c1 kx 0 y2 y3 y4 y5 S = none := rfl
def f_X7_takeSample (k0 : Nat) (x1 : Int) (S : wq_St) : Option (Int × wq_St) :=
  l_X7_takeSample_10 k0 x1 (fun u4 S5 =>
    some (u4, S5)) wq_fu 0 0 0 0 S
def b_X3_clear_2 (q0 : Nat) (kx : wq_St → Option (Int × wq_St)) (rec : Int → wq_St → Option (Int × wq_St)) (y1 : Int) (S : wq_St) : Option (Int × wq_St) :=
  if wq_w 3 ≤ wq_w y1 then
    kx S
  else
    wq_ix y1 3 fun t1 =>
    wq_lt (wq_set S (q0 + 3) t1 3) fun S2 =>
    rec (y1 + 1) S2
def l_X3_clear_2 (q0 : Nat) (kx : wq_St → Option (Int × wq_St)) (n : Nat) (y1 : Int) (S : wq_St) : Option (Int × wq_St) :=
  wq_loop (fun (g : Int × wq_St → Option (Int × wq_St)) (x : Int × wq_St) => b_X3_clear_2 q0 kx (fun y1 S => g (y1, S)) x.1 x.2) n (y1, S)
theorem l_X3_clear_2_s (q0 : Nat) (kx : wq_St → Option (Int × wq_St)) (n : Nat) (y1 : Int) (S : wq_St) : l_X3_clear_2 q0 kx (n + 1) y1 S = b_X3_clear_2 q0 kx (l_X3_clear_2 q0 kx n) y1 S := rfl
theorem l_X3_clear_2_0 (q0 : Nat) (kx : wq_St → Option (Int × wq_St)) (y1 : Int) (S : wq_St) : l_X3_clear_2 q0 kx 0 y1 S = none := rfl
def f_X3_clear (k0 : Nat) (S : wq_St) : Option (Int × wq_St) :=
  l_X3_clear_2 k0 (fun S3 =>
    some (0, S3)) wq_fu 0 S
def b_X3_copyFrom_3 (q0 : Nat) (q1 : Nat) (c2 : Int) (kx : wq_St → Option (Int × wq_St)) (rec : Int → wq_St → Option (Int × wq_St)) (y4 : Int) (S : wq_St) : Option (Int × wq_St) :=
  if wq_w 3 ≤ wq_w y4 then
    kx S
  else
    wq_ix y4 3 fun t1 =>
    wq_ix y4 3 fun t2 =>
    wq_lt (wq_set S (q0 + 1) t2 (S (q1 + 1) t1)) fun S3 =>
    wq_ix y4 3 fun t4 =>
    wq_ix y4 3 fun t5 =>
    wq_lt (wq_set S3 (q0 + 2) t5 (S3 (q1 + 2) t4)) fun S6 =>
    wq_ix y4 3 fun t7 =>
    wq_ix y4 3 fun t8 =>
    wq_lt (wq_set S6 (q0 + 3) t8 (S6 (q1 + 3) t7)) fun S9 =>
    rec (y4 + 1) S9
def l_X3_copyFrom_3 (q0 : Nat) (q1 : Nat) (c2 : Int) (kx : wq_St → Option (Int × wq_St)) (n : Nat) (y4 : Int) (S : wq_St) : Option (Int × wq_St) :=
  wq_loop (fun (g : Int × wq_St → Option (Int × wq_St)) (x : Int × wq_St) => b_X3_copyFrom_3 q0 q1 c2 kx (fun y4 S => g (y4, S)) x.1 x.2) n (y4, S)
theorem l_X3_copyFrom_3_s (q0 : Nat) (q1 : Nat) (c2 : Int) (kx : wq_St → Option (Int × wq_St)) (n : Nat) (y4 : Int) (S : wq_St) : l_X3_copyFrom_3 q0 q1 c2 kx (n + 1) y4 S = b_X3_copyFrom_3 q0 q1 c2 kx (l_X3_copyFrom_3 q0 q1 c2 kx n) y4 S := rfl
theorem l_X3_copyFrom_3_0 (q0 : Nat) (q1 : Nat) (c2 : Int) (kx : wq_St → Option (Int × wq_St)) (y4 : Int) (S : wq_St) : l_X3_copyFrom_3 q0 q1 c2 kx 0 y4 S = none := rfl
def f_X3_copyFrom (k0 : Nat) (k1 : Nat) (x2 : Int) (S : wq_St) : Option (Int × wq_St) :=
  l_X3_copyFrom_3 k0 k1 x2 (fun S10 =>
    some (0, wq_set S10 k0 3 x2)) wq_fu 0 S
def f_X3_place (k0 : Nat) (x1 : Int) (x2 : Int) (S : wq_St) : Option (Int × wq_St) :=
  wq_ix x1 3 fun t1 =>
  wq_lt (wq_set S (k0 + 1) t1 x2) fun S2 =>
  wq_ix x2 3 fun t3 =>
  some (0, wq_set S2 (k0 + 3) t3 x1)
def b_X5_conditionForIndex_11 (q0 : Nat) (q1 : Nat) (c2 : Int) (c3 : Int) (c4 : Int) (kx : wq_St → Option (Int × wq_St)) (rec : Int → wq_St → Option (Int × wq_St)) (y5 : Int) (S : wq_St) : Option (Int × wq_St) :=
  if wq_w (S q0 4) ≤ wq_w y5 then
    kx S
  else
    wq_ix y5 6 fun t2 =>
    wq_bd (f_X1_stepIn (q0 + 3 + t2) q1 S) fun r3 S4 =>
    if wq_w r3 = wq_w c2 then
      wq_bd (f_X1_asksForOneValueOf (q0 + 3 + t2) c4 c3 S4) fun r5 S6 =>
      if wq_w r5 = 0 then
        rec (y5 + 1) S6
      else
        some (y5, S6)
    else
      rec (y5 + 1) S4
def l_X5_conditionForIndex_11 (q0 : Nat) (q1 : Nat) (c2 : Int) (c3 : Int) (c4 : Int) (kx : wq_St → Option (Int × wq_St)) (n : Nat) (y5 : Int) (S : wq_St) : Option (Int × wq_St) :=
  wq_loop (fun (g : Int × wq_St → Option (Int × wq_St)) (x : Int × wq_St) => b_X5_conditionForIndex_11 q0 q1 c2 c3 c4 kx (fun y5 S => g (y5, S)) x.1 x.2) n (y5, S)
theorem l_X5_conditionForIndex_11_s (q0 : Nat) (q1 : Nat) (c2 : Int) (c3 : Int) (c4 : Int) (kx : wq_St → Option (Int × wq_St)) (n : Nat) (y5 : Int) (S : wq_St) : l_X5_conditionForIndex_11 q0 q1 c2 c3 c4 kx (n + 1) y5 S = b_X5_conditionForIndex_11 q0 q1 c2 c3 c4 kx (l_X5_conditionForIndex_11 q0 q1 c2 c3 c4 kx n) y5 S := rfl
theorem l_X5_conditionForIndex_11_0 (q0 : Nat) (q1 : Nat) (c2 : Int) (c3 : Int) (c4 : Int) (kx : wq_St → Option (Int × wq_St)) (y5 : Int) (S : wq_St) : l_X5_conditionForIndex_11 q0 q1 c2 c3 c4 kx 0 y5 S = none := rfl
def f_X5_conditionForIndex (k0 : Nat) (k1 : Nat) (x2 : Int) (x3 : Int) (S : wq_St) : Option (Int × wq_St) :=
  wq_ix x2 3 fun t1 =>
  l_X5_conditionForIndex_11 k0 k1 x2 x3 (S (k1 + 1) t1) (fun S7 =>
    some ((-1), S7)) wq_fu 0 S
def b_X4_takeCheapestWay_48 (q1 : Nat) (c2 : Int) (c3 : Int) (q5 : Nat) (c6 : Int) (kx : Int → wq_St → Option (Int × wq_St)) (rec : Int → Int → wq_St → Option (Int × wq_St)) (y8 : Int) (y10 : Int) (S : wq_St) : Option (Int × wq_St) :=
  if wq_w (S q5 4) ≤ wq_w y10 then
    kx y8 S
  else
    wq_ix y10 3 fun t7 =>
    if wq_w (S (q5 + 45 + t7) 0) = 0 then
      rec y8 (y10 + 1) S
    else
      wq_bd (f_X5_conditionForIndex q1 272 c2 y10 S) fun r8 S9 =>
      if wq_w r8 = wq_w (-1) then
        rec y8 (y10 + 1) S9
      else
        wq_gd (¬ wq_v (wq_w (wq_max (S9 (q5 + 45 + t7) 1) 1)) = 0) <|
        wq_lt (c3 + (wq_divL c6 (wq_w (wq_max (S9 (q5 + 45 + t7) 1) 1)))) fun a10 =>
        if 0 ≤ wq_w (wq_cmp a10 y8) then
          rec y8 (y10 + 1) S9
        else
          wq_ix c2 3 fun t11 =>
          wq_lt (wq_set S9 (272 + 2) t11 y10) fun S12 =>
          rec a10 (y10 + 1) S12
def l_X4_takeCheapestWay_48 (q1 : Nat) (c2 : Int) (c3 : Int) (q5 : Nat) (c6 : Int) (kx : Int → wq_St → Option (Int × wq_St)) (n : Nat) (y8 : Int) (y10 : Int) (S : wq_St) : Option (Int × wq_St) :=
  wq_loop (fun (g : Int × Int × wq_St → Option (Int × wq_St)) (x : Int × Int × wq_St) => b_X4_takeCheapestWay_48 q1 c2 c3 q5 c6 kx (fun y8 y10 S => g (y8, y10, S)) x.1 x.2.1 x.2.2) n (y8, y10, S)
theorem l_X4_takeCheapestWay_48_s (q1 : Nat) (c2 : Int) (c3 : Int) (q5 : Nat) (c6 : Int) (kx : Int → wq_St → Option (Int × wq_St)) (n : Nat) (y8 : Int) (y10 : Int) (S : wq_St) : l_X4_takeCheapestWay_48 q1 c2 c3 q5 c6 kx (n + 1) y8 y10 S = b_X4_takeCheapestWay_48 q1 c2 c3 q5 c6 kx (l_X4_takeCheapestWay_48 q1 c2 c3 q5 c6 kx n) y8 y10 S := rfl
theorem l_X4_takeCheapestWay_48_0 (q1 : Nat) (c2 : Int) (c3 : Int) (q5 : Nat) (c6 : Int) (kx : Int → wq_St → Option (Int × wq_St)) (y8 : Int) (y10 : Int) (S : wq_St) : l_X4_takeCheapestWay_48 q1 c2 c3 q5 c6 kx 0 y8 y10 S = none := rfl
def f_X4_takeCheapestWay (k1 : Nat) (x2 : Int) (x3 : Int) (S : wq_St) : Option (Int × wq_St) :=
  wq_ix x2 3 fun t1 =>
  wq_ix (S (272 + 1) t1) 3 fun t2 =>
  wq_ix (S (k1 + 1) t2) 4 fun t3 =>
  wq_lt (x3 * (wq_w (S (6 + 48 * t3) 7))) fun a4 =>
  wq_ix x2 3 fun t5 =>
  wq_lt (wq_set S (272 + 2) t5 (-1)) fun S6 =>
  l_X4_takeCheapestWay_48 k1 x2 x3 (6 + 48 * t3) a4 (fun u13 S14 =>
    some (u13, S14)) wq_fu a4 0 S6
def f_X4_share (x0 : Int) (x1 : Int) (k2 : Nat) (S : wq_St) : Option (Int × wq_St) :=
  wq_lt (wq_max (((S k2 3) - (S k2 2)) + 1) 1) fun a1 =>
  wq_gd (¬ wq_v (wq_w a1) = 0) <|
  some (wq_divL (x0 * (wq_w (wq_max 0 (wq_min x1 a1)))) (wq_w a1), S)
def f_X4_narrow (k1 : Nat) (k2 : Nat) (x3 : Int) (S : wq_St) : Option (Int × wq_St) :=
  wq_ix (S k2 1) 3 fun t1 =>
  wq_ix (S (k1 + 1) t1) 4 fun t2 =>
  wq_ix (S k2 2) 3 fun t3 =>
  wq_lt (wq_max (S ((6 + 48 * t2) + 45 + t3) 1) 1) fun a4 =>
  if wq_w (S k2 0) = 0 then
    wq_gd (¬ wq_v (wq_w a4) = 0) <|
    some (wq_divL x3 (wq_w a4), S)
  else
    if wq_w (S k2 0) = 1 then
      wq_bd (f_X4_share x3 ((S k2 3) - (S ((6 + 48 * t2) + 45 + t3) 2)) ((6 + 48 * t2) + 45 + t3) S) fun r5 S6 =>
      some (r5, S6)
    else
      if wq_w (S k2 0) = 2 then
        wq_bd (f_X4_share x3 ((S ((6 + 48 * t2) + 45 + t3) 3) - (S k2 3)) ((6 + 48 * t2) + 45 + t3) S) fun r7 S8 =>
        some (r7, S8)
      else
        wq_ix (S k2 4) 3 fun t9 =>
        wq_ix (S (k1 + 1) t9) 4 fun t10 =>
        wq_ix (S k2 5) 3 fun t11 =>
        wq_gd (¬ wq_v (wq_w (wq_max a4 (S ((6 + 48 * t10) + 45 + t11) 1))) = 0) <|
        some (wq_divL x3 (wq_w (wq_max a4 (S ((6 + 48 * t10) + 45 + t11) 1))), S)
def b_X4_choicesBehind_34 (q1 : Nat) (c2 : Int) (kx : Int → wq_St → Option (Int × wq_St)) (rec : Int → Int → wq_St → Option (Int × wq_St)) (y6 : Int) (y8 : Int) (S : wq_St) : Option (Int × wq_St) :=
  if wq_w (S q1 4) ≤ wq_w y8 then
    kx y6 S
  else
    wq_ix y8 6 fun t5 =>
    wq_bd (f_X1_stepIn (q1 + 3 + t5) 272 S) fun r6 S7 =>
    if wq_w r6 = wq_w c2 then
      wq_ix y8 6 fun t8 =>
      wq_bd (f_X4_narrow q1 (q1 + 3 + t8) y6 S7) fun r9 S10 =>
      rec r9 (y8 + 1) S10
    else
      rec y6 (y8 + 1) S7
def l_X4_choicesBehind_34 (q1 : Nat) (c2 : Int) (kx : Int → wq_St → Option (Int × wq_St)) (n : Nat) (y6 : Int) (y8 : Int) (S : wq_St) : Option (Int × wq_St) :=
  wq_loop (fun (g : Int × Int × wq_St → Option (Int × wq_St)) (x : Int × Int × wq_St) => b_X4_choicesBehind_34 q1 c2 kx (fun y6 y8 S => g (y6, y8, S)) x.1 x.2.1 x.2.2) n (y6, y8, S)
theorem l_X4_choicesBehind_34_s (q1 : Nat) (c2 : Int) (kx : Int → wq_St → Option (Int × wq_St)) (n : Nat) (y6 : Int) (y8 : Int) (S : wq_St) : l_X4_choicesBehind_34 q1 c2 kx (n + 1) y6 y8 S = b_X4_choicesBehind_34 q1 c2 kx (l_X4_choicesBehind_34 q1 c2 kx n) y6 y8 S := rfl
theorem l_X4_choicesBehind_34_0 (q1 : Nat) (c2 : Int) (kx : Int → wq_St → Option (Int × wq_St)) (y6 : Int) (y8 : Int) (S : wq_St) : l_X4_choicesBehind_34 q1 c2 kx 0 y6 y8 S = none := rfl
def f_X4_choicesBehind (k1 : Nat) (x2 : Int) (x3 : Int) (S : wq_St) : Option (Int × wq_St) :=
  wq_ix x2 3 fun t1 =>
  wq_ix (S (272 + 1) t1) 3 fun t2 =>
  wq_ix (S (k1 + 1) t2) 4 fun t3 =>
  wq_lt (x3 * (wq_w (S (6 + 48 * t3) 7))) fun a4 =>
  l_X4_choicesBehind_34 k1 x2 (fun u11 S12 =>
    some (u11, S12)) wq_fu a4 0 S
def b_X4_extend_42 (self : Nat → Int → Int → Int → wq_St → Option (Int × wq_St)) (q1 : Nat) (c2 : Int) (c3 : Int) (c5 : Int) (kx : wq_St → Option (Int × wq_St)) (rec : Int → wq_St → Option (Int × wq_St)) (y8 : Int) (S : wq_St) : Option (Int × wq_St) :=
  if wq_w (S q1 3) ≤ wq_w y8 then
    kx S
  else
    wq_ix y8 3 fun t1 =>
    if wq_w (S (272 + 3) t1) = wq_w 3 then
      wq_bd (f_X3_place 272 c2 y8 S) fun r2 S3 =>
      wq_bd (f_X4_takeCheapestWay q1 c2 c3 S3) fun r4 S5 =>
      wq_bd (f_X4_choicesBehind q1 c2 c3 S5) fun r6 S7 =>
      wq_bd (self q1 (c2 + 1) r6 (c5 + r4) S7) fun r8 S9 =>
      wq_ix y8 3 fun t10 =>
      wq_lt (wq_set S9 (272 + 3) t10 3) fun S11 =>
      rec (y8 + 1) S11
    else
      rec (y8 + 1) S
def l_X4_extend_42 (self : Nat → Int → Int → Int → wq_St → Option (Int × wq_St)) (q1 : Nat) (c2 : Int) (c3 : Int) (c5 : Int) (kx : wq_St → Option (Int × wq_St)) (n : Nat) (y8 : Int) (S : wq_St) : Option (Int × wq_St) :=
  wq_loop (fun (g : Int × wq_St → Option (Int × wq_St)) (x : Int × wq_St) => b_X4_extend_42 self q1 c2 c3 c5 kx (fun y8 S => g (y8, S)) x.1 x.2) n (y8, S)
theorem l_X4_extend_42_s (self : Nat → Int → Int → Int → wq_St → Option (Int × wq_St)) (q1 : Nat) (c2 : Int) (c3 : Int) (c5 : Int) (kx : wq_St → Option (Int × wq_St)) (n : Nat) (y8 : Int) (S : wq_St) : l_X4_extend_42 self q1 c2 c3 c5 kx (n + 1) y8 S = b_X4_extend_42 self q1 c2 c3 c5 kx (l_X4_extend_42 self q1 c2 c3 c5 kx n) y8 S := rfl
theorem l_X4_extend_42_0 (self : Nat → Int → Int → Int → wq_St → Option (Int × wq_St)) (q1 : Nat) (c2 : Int) (c3 : Int) (c5 : Int) (kx : wq_St → Option (Int × wq_St)) (y8 : Int) (S : wq_St) : l_X4_extend_42 self q1 c2 c3 c5 kx 0 y8 S = none := rfl
def fb_X4_extend (self : Nat → Int → Int → Int → wq_St → Option (Int × wq_St)) (k1 : Nat) (x2 : Int) (x3 : Int) (x4 : Int) (S : wq_St) : Option (Int × wq_St) :=
  if wq_w x2 < wq_w (S k1 3) then
    l_X4_extend_42 self k1 x2 x3 x4 (fun S12 =>
      some (0, S12)) wq_fu 0 S
  else
    if 0 ≤ wq_w (wq_cmp x4 (S 276 3)) then
      some (0, S)
    else
      wq_bd (f_X3_copyFrom 276 272 x4 S) fun r13 S14 =>
      some (0, S14)
def f_X4_extend : Nat → Nat → Int → Int → Int → wq_St → Option (Int × wq_St)
  | 0, _, _, _, _, _ => none
  | n + 1, k1, x2, x3, x4, S => fb_X4_extend (f_X4_extend n) k1 x2 x3 x4 S
def f_X4_choose (k1 : Nat) (S : wq_St) : Option (Nat × wq_St) :=
  wq_bd (f_X3_clear 272 S) fun r1 S2 =>
  wq_lt (wq_set S2 276 3 9223372036854775807) fun S3 =>
  wq_bd (f_X4_extend wq_dp k1 0 1000 0 S3) fun r4 S5 =>
  some (276, S5)
def f_X3_foretoldMinutes (k0 : Nat) (S : wq_St) : Option (Int × wq_St) :=
  wq_gd (¬ wq_v 1000 = 0) <|
  some (wq_divL (((S k0 3) + 1000) - 1) 1000, S)
def b_X2_takePay_4 (kx : Int → wq_St → Option (Int × wq_St)) (rec : Int → Int → wq_St → Option (Int × wq_St)) (y2 : Int) (y3 : Int) (S : wq_St) : Option (Int × wq_St) :=
  if wq_w 4 ≤ wq_w y3 then
    kx y2 S
  else
    wq_ix y3 4 fun t1 =>
    if wq_w (S (6 + 48 * t1) 8) = 0 then
      rec y2 (y3 + 1) S
    else
      wq_ix y3 4 fun t2 =>
      wq_bd (f_X7_takeSample (6 + 48 * t2) (S 282 5) S) fun r3 S4 =>
      rec (y2 + r3) (y3 + 1) S4
def l_X2_takePay_4 (kx : Int → wq_St → Option (Int × wq_St)) (n : Nat) (y2 : Int) (y3 : Int) (S : wq_St) : Option (Int × wq_St) :=
  wq_loop (fun (g : Int × Int × wq_St → Option (Int × wq_St)) (x : Int × Int × wq_St) => b_X2_takePay_4 kx (fun y2 y3 S => g (y2, y3, S)) x.1 x.2.1 x.2.2) n (y2, y3, S)
theorem l_X2_takePay_4_s (kx : Int → wq_St → Option (Int × wq_St)) (n : Nat) (y2 : Int) (y3 : Int) (S : wq_St) : l_X2_takePay_4 kx (n + 1) y2 y3 S = b_X2_takePay_4 kx (l_X2_takePay_4 kx n) y2 y3 S := rfl
theorem l_X2_takePay_4_0 (kx : Int → wq_St → Option (Int × wq_St)) (y2 : Int) (y3 : Int) (S : wq_St) : l_X2_takePay_4 kx 0 y2 y3 S = none := rfl
def b_X2_takePay_45 (kx : Int → wq_St → Option (Int × wq_St)) (rec : Int → Int → wq_St → Option (Int × wq_St)) (y2 : Int) (y3 : Int) (S : wq_St) : Option (Int × wq_St) :=
  if wq_w 8 ≤ wq_w y3 then
    kx y2 S
  else
    wq_ix y3 8 fun t7 =>
    if wq_w (S (199 + 9 * t7) 7) = 0 then
      rec y2 (y3 + 1) S
    else
      wq_ix y3 8 fun t8 =>
      wq_bd (f_X4_choose (199 + 9 * t8) S) fun r9 S10 =>
      wq_bd (f_X3_foretoldMinutes r9 S10) fun r11 S12 =>
      rec (y2 + r11) (y3 + 1) S12
def l_X2_takePay_45 (kx : Int → wq_St → Option (Int × wq_St)) (n : Nat) (y2 : Int) (y3 : Int) (S : wq_St) : Option (Int × wq_St) :=
  wq_loop (fun (g : Int × Int × wq_St → Option (Int × wq_St)) (x : Int × Int × wq_St) => b_X2_takePay_45 kx (fun y2 y3 S => g (y2, y3, S)) x.1 x.2.1 x.2.2) n (y2, y3, S)
theorem l_X2_takePay_45_s (kx : Int → wq_St → Option (Int × wq_St)) (n : Nat) (y2 : Int) (y3 : Int) (S : wq_St) : l_X2_takePay_45 kx (n + 1) y2 y3 S = b_X2_takePay_45 kx (l_X2_takePay_45 kx n) y2 y3 S := rfl
theorem l_X2_takePay_45_0 (kx : Int → wq_St → Option (Int × wq_St)) (y2 : Int) (y3 : Int) (S : wq_St) : l_X2_takePay_45 kx 0 y2 y3 S = none := rfl
def f_X2_takePay (x1 : Int) (S : wq_St) : Option (Int × wq_St) :=
  l_X2_takePay_4 (fun u5 S6 =>
    l_X2_takePay_45 (fun u13 S14 =>
      wq_lt (wq_set S14 282 7 ((S14 282 7) + u13)) fun S15 =>
      some (0, wq_set S15 282 8 u13)) wq_fu u5 0 S6) wq_fu x1 0 S
def b_X7_isNewInSample_2 (q0 : Nat) (c1 : Int) (c2 : Int) (kx : wq_St → Option (Int × wq_St)) (rec : Int → wq_St → Option (Int × wq_St)) (y3 : Int) (S : wq_St) : Option (Int × wq_St) :=
  if wq_w c2 ≤ wq_w y3 then
    kx S
  else
    wq_ix y3 40 fun t1 =>
    wq_ix (S (q0 + 44) t1) 40 fun t2 =>
    wq_ix c1 3 fun t3 =>
    wq_ix c2 40 fun t4 =>
    wq_ix (S (q0 + 44) t4) 40 fun t5 =>
    wq_ix c1 3 fun t6 =>
    if wq_w (S (q0 + 3 + t2) t3) = wq_w (S (q0 + 3 + t5) t6) then
      some (0, S)
    else
      rec (y3 + 1) S
def l_X7_isNewInSample_2 (q0 : Nat) (c1 : Int) (c2 : Int) (kx : wq_St → Option (Int × wq_St)) (n : Nat) (y3 : Int) (S : wq_St) : Option (Int × wq_St) :=
  wq_loop (fun (g : Int × wq_St → Option (Int × wq_St)) (x : Int × wq_St) => b_X7_isNewInSample_2 q0 c1 c2 kx (fun y3 S => g (y3, S)) x.1 x.2) n (y3, S)
theorem l_X7_isNewInSample_2_s (q0 : Nat) (c1 : Int) (c2 : Int) (kx : wq_St → Option (Int × wq_St)) (n : Nat) (y3 : Int) (S : wq_St) : l_X7_isNewInSample_2 q0 c1 c2 kx (n + 1) y3 S = b_X7_isNewInSample_2 q0 c1 c2 kx (l_X7_isNewInSample_2 q0 c1 c2 kx n) y3 S := rfl
theorem l_X7_isNewInSample_2_0 (q0 : Nat) (c1 : Int) (c2 : Int) (kx : wq_St → Option (Int × wq_St)) (y3 : Int) (S : wq_St) : l_X7_isNewInSample_2 q0 c1 c2 kx 0 y3 S = none := rfl
def f_X7_isNewInSample (k0 : Nat) (x1 : Int) (x2 : Int) (S : wq_St) : Option (Int × wq_St) :=
  l_X7_isNewInSample_2 k0 x1 x2 (fun S7 =>
    some (1, S7)) wq_fu 0 S
def j_X7_tellColumn_50 (kx : Int → Int → Int → wq_St → Option (Int × wq_St)) (rec : Int → Int → Int → Int → wq_St → Option (Int × wq_St)) (q0 : Nat) (j1 : Int) (j2 : Int) (j3 : Int) (j4 : Int) (j5 : Int) (j6 : Int) (j7 : Int) (j8 : Int) (S : wq_St) : Option (Int × wq_St) :=
  if wq_w j7 = 0 then
    wq_bd (f_X7_isNewInSample q0 j1 j7 S) fun r4 S5 =>
    if wq_w r4 = 0 then
      rec j4 j5 j8 (j7 + 1) S5
    else
      rec (j4 + 1) j5 j8 (j7 + 1) S5
  else
    if wq_w j8 ≤ wq_w j6 then
      wq_bd (f_X7_isNewInSample q0 j1 j7 S) fun r6 S7 =>
      if wq_w r6 = 0 then
        rec j4 j5 j6 (j7 + 1) S7
      else
        rec (j4 + 1) j5 j6 (j7 + 1) S7
    else
      wq_bd (f_X7_isNewInSample q0 j1 j7 S) fun r8 S9 =>
      if wq_w r8 = 0 then
        rec j4 j5 j8 (j7 + 1) S9
      else
        rec (j4 + 1) j5 j8 (j7 + 1) S9
def j_X7_tellColumn_46 (kx : Int → Int → Int → wq_St → Option (Int × wq_St)) (rec : Int → Int → Int → Int → wq_St → Option (Int × wq_St)) (q0 : Nat) (j1 : Int) (j2 : Int) (j3 : Int) (j4 : Int) (j6 : Int) (j7 : Int) (j8 : Int) (S : wq_St) : Option (Int × wq_St) :=
  j_X7_tellColumn_50 kx rec q0 j1 j2 j3 j4 j8 j6 j7 j8 S
def b_X7_tellColumn_12 (q0 : Nat) (c1 : Int) (c2 : Int) (c3 : Int) (kx : Int → Int → Int → wq_St → Option (Int × wq_St)) (rec : Int → Int → Int → Int → wq_St → Option (Int × wq_St)) (y4 : Int) (y5 : Int) (y6 : Int) (y7 : Int) (S : wq_St) : Option (Int × wq_St) :=
  if wq_w c2 ≤ wq_w y7 then
    kx y4 y5 y6 S
  else
    wq_ix y7 40 fun t1 =>
    wq_ix (S (q0 + 44) t1) 40 fun t2 =>
    wq_ix c1 3 fun t3 =>
    if wq_w y7 = 0 then
      j_X7_tellColumn_46 kx rec q0 c1 c2 c3 y4 y6 y7 (S (q0 + 3 + t2) t3) S
    else
      if wq_w y5 ≤ wq_w (S (q0 + 3 + t2) t3) then
        j_X7_tellColumn_50 kx rec q0 c1 c2 c3 y4 y5 y6 y7 (S (q0 + 3 + t2) t3) S
      else
        j_X7_tellColumn_46 kx rec q0 c1 c2 c3 y4 y6 y7 (S (q0 + 3 + t2) t3) S
def l_X7_tellColumn_12 (q0 : Nat) (c1 : Int) (c2 : Int) (c3 : Int) (kx : Int → Int → Int → wq_St → Option (Int × wq_St)) (n : Nat) (y4 : Int) (y5 : Int) (y6 : Int) (y7 : Int) (S : wq_St) : Option (Int × wq_St) :=
  wq_loop (fun (g : Int × Int × Int × Int × wq_St → Option (Int × wq_St)) (x : Int × Int × Int × Int × wq_St) => b_X7_tellColumn_12 q0 c1 c2 c3 kx (fun y4 y5 y6 y7 S => g (y4, y5, y6, y7, S)) x.1 x.2.1 x.2.2.1 x.2.2.2.1 x.2.2.2.2) n (y4, y5, y6, y7, S)
theorem l_X7_tellColumn_12_s (q0 : Nat) (c1 : Int) (c2 : Int) (c3 : Int) (kx : Int → Int → Int → wq_St → Option (Int × wq_St)) (n : Nat) (y4 : Int) (y5 : Int) (y6 : Int) (y7 : Int) (S : wq_St) : l_X7_tellColumn_12 q0 c1 c2 c3 kx (n + 1) y4 y5 y6 y7 S = b_X7_tellColumn_12 q0 c1 c2 c3 kx (l_X7_tellColumn_12 q0 c1 c2 c3 kx n) y4 y5 y6 y7 S := rfl
theorem l_X7_tellColumn_12_0 (q0 : Nat) (c1 : Int) (c2 : Int) (c3 : Int) (kx : Int → Int → Int → wq_St → Option (Int × wq_St)) (y4 : Int) (y5 : Int) (y6 : Int) (y7 : Int) (S : wq_St) : l_X7_tellColumn_12 q0 c1 c2 c3 kx 0 y4 y5 y6 y7 S = none := rfl
def f_X7_tellColumn (k0 : Nat) (x1 : Int) (x2 : Int) (x3 : Int) (S : wq_St) : Option (Int × wq_St) :=
  l_X7_tellColumn_12 k0 x1 x2 x3 (fun u10 u11 u12 S13 =>
    wq_ix x1 3 fun t14 =>
    wq_lt (wq_set S13 (k0 + 45 + t14) 1 (wq_min (u10 * x3) (S13 k0 6))) fun S15 =>
    wq_ix x1 3 fun t16 =>
    wq_lt (wq_set S15 (k0 + 45 + t16) 2 u11) fun S17 =>
    wq_ix x1 3 fun t18 =>
    some (0, wq_set S17 (k0 + 45 + t18) 3 u12)) wq_fu 0 0 0 0 S
def b_X7_renewCounts_16 (q0 : Nat) (c1 : Int) (c2 : Int) (kx : wq_St → Option (Int × wq_St)) (rec : Int → wq_St → Option (Int × wq_St)) (y3 : Int) (S : wq_St) : Option (Int × wq_St) :=
  if wq_w (S q0 4) ≤ wq_w y3 then
    kx S
  else
    wq_bd (f_X7_tellColumn q0 y3 c2 c1 S) fun r4 S5 =>
    rec (y3 + 1) S5
def l_X7_renewCounts_16 (q0 : Nat) (c1 : Int) (c2 : Int) (kx : wq_St → Option (Int × wq_St)) (n : Nat) (y3 : Int) (S : wq_St) : Option (Int × wq_St) :=
  wq_loop (fun (g : Int × wq_St → Option (Int × wq_St)) (x : Int × wq_St) => b_X7_renewCounts_16 q0 c1 c2 kx (fun y3 S => g (y3, S)) x.1 x.2) n (y3, S)
theorem l_X7_renewCounts_16_s (q0 : Nat) (c1 : Int) (c2 : Int) (kx : wq_St → Option (Int × wq_St)) (n : Nat) (y3 : Int) (S : wq_St) : l_X7_renewCounts_16 q0 c1 c2 kx (n + 1) y3 S = b_X7_renewCounts_16 q0 c1 c2 kx (l_X7_renewCounts_16 q0 c1 c2 kx n) y3 S := rfl
theorem l_X7_renewCounts_16_0 (q0 : Nat) (c1 : Int) (c2 : Int) (kx : wq_St → Option (Int × wq_St)) (y3 : Int) (S : wq_St) : l_X7_renewCounts_16 q0 c1 c2 kx 0 y3 S = none := rfl
def f_X7_renewCounts (k0 : Nat) (x1 : Int) (S : wq_St) : Option (Int × wq_St) :=
  wq_bd (f_X7_takeSample k0 x1 S) fun r1 S2 =>
  wq_lt (wq_set S2 k0 7 (S2 k0 6)) fun S3 =>
  l_X7_renewCounts_16 k0 x1 r1 (fun S6 =>
    some (r1, S6)) wq_fu 0 S3
def b_X2_renewMarkedTables_2 (kx : wq_St → Option (Int × wq_St)) (rec : Int → wq_St → Option (Int × wq_St)) (y1 : Int) (S : wq_St) : Option (Int × wq_St) :=
  if wq_w 4 ≤ wq_w y1 then
    kx S
  else
    wq_ix y1 4 fun t1 =>
    if wq_w (S (6 + 48 * t1) 8) = 0 then
      rec (y1 + 1) S
    else
      wq_bd (f_X7_takeSample (6 + 48 * t1) (S 282 5) S) fun r2 S3 =>
      if wq_w r2 ≤ wq_w (S3 282 8) then
        wq_bd (f_X7_renewCounts (6 + 48 * t1) (S3 282 5) S3) fun r4 S5 =>
        wq_lt (wq_set S5 282 8 ((S3 282 8) - r4)) fun S6 =>
        wq_lt (wq_set S6 (6 + 48 * t1) 8 0) fun S7 =>
        rec (y1 + 1) S7
      else
        rec (y1 + 1) S3
def l_X2_renewMarkedTables_2 (kx : wq_St → Option (Int × wq_St)) (n : Nat) (y1 : Int) (S : wq_St) : Option (Int × wq_St) :=
  wq_loop (fun (g : Int × wq_St → Option (Int × wq_St)) (x : Int × wq_St) => b_X2_renewMarkedTables_2 kx (fun y1 S => g (y1, S)) x.1 x.2) n (y1, S)
theorem l_X2_renewMarkedTables_2_s (kx : wq_St → Option (Int × wq_St)) (n : Nat) (y1 : Int) (S : wq_St) : l_X2_renewMarkedTables_2 kx (n + 1) y1 S = b_X2_renewMarkedTables_2 kx (l_X2_renewMarkedTables_2 kx n) y1 S := rfl
theorem l_X2_renewMarkedTables_2_0 (kx : wq_St → Option (Int × wq_St)) (y1 : Int) (S : wq_St) : l_X2_renewMarkedTables_2 kx 0 y1 S = none := rfl
def f_X2_renewMarkedTables (S : wq_St) : Option (Int × wq_St) :=
  l_X2_renewMarkedTables_2 (fun S8 =>
    some (0, S8)) wq_fu 0 S
def b_X2_lineUpDueReports_27 (c1 : Int) (c2 : Int) (kx : Int → wq_St → Option (Int × wq_St)) (rec : Int → wq_St → Option (Int × wq_St)) (y3 : Int) (S : wq_St) : Option (Int × wq_St) :=
  if wq_w y3 ≤ 0 then
    kx y3 S
  else
    wq_ix (y3 - 1) 8 fun t2 =>
    wq_ix (S 283 t2) 8 fun t3 =>
    wq_ix c2 8 fun t4 =>
    if wq_w (S (199 + 9 * t4) 2) ≤ wq_w (S (199 + 9 * t3) 2) then
      kx y3 S
    else
      wq_ix (y3 - 1) 8 fun t5 =>
      wq_ix y3 8 fun t6 =>
      wq_lt (wq_set S 283 t6 (S 283 t5)) fun S7 =>
      rec (y3 + (-1)) S7
def l_X2_lineUpDueReports_27 (c1 : Int) (c2 : Int) (kx : Int → wq_St → Option (Int × wq_St)) (n : Nat) (y3 : Int) (S : wq_St) : Option (Int × wq_St) :=
  wq_loop (fun (g : Int × wq_St → Option (Int × wq_St)) (x : Int × wq_St) => b_X2_lineUpDueReports_27 c1 c2 kx (fun y3 S => g (y3, S)) x.1 x.2) n (y3, S)
theorem l_X2_lineUpDueReports_27_s (c1 : Int) (c2 : Int) (kx : Int → wq_St → Option (Int × wq_St)) (n : Nat) (y3 : Int) (S : wq_St) : l_X2_lineUpDueReports_27 c1 c2 kx (n + 1) y3 S = b_X2_lineUpDueReports_27 c1 c2 kx (l_X2_lineUpDueReports_27 c1 c2 kx n) y3 S := rfl
theorem l_X2_lineUpDueReports_27_0 (c1 : Int) (c2 : Int) (kx : Int → wq_St → Option (Int × wq_St)) (y3 : Int) (S : wq_St) : l_X2_lineUpDueReports_27 c1 c2 kx 0 y3 S = none := rfl
def b_X2_lineUpDueReports_4 (kx : Int → wq_St → Option (Int × wq_St)) (rec : Int → Int → wq_St → Option (Int × wq_St)) (y1 : Int) (y2 : Int) (S : wq_St) : Option (Int × wq_St) :=
  if wq_w 8 ≤ wq_w y2 then
    kx y1 S
  else
    wq_ix y2 8 fun t1 =>
    if wq_w (S (199 + 9 * t1) 7) = 0 then
      rec y1 (y2 + 1) S
    else
      l_X2_lineUpDueReports_27 y1 y2 (fun u8 S9 =>
        wq_ix u8 8 fun t10 =>
        wq_lt (wq_set S9 283 t10 y2) fun S11 =>
        rec (y1 + 1) (y2 + 1) S11) wq_fu y1 S
def l_X2_lineUpDueReports_4 (kx : Int → wq_St → Option (Int × wq_St)) (n : Nat) (y1 : Int) (y2 : Int) (S : wq_St) : Option (Int × wq_St) :=
  wq_loop (fun (g : Int × Int × wq_St → Option (Int × wq_St)) (x : Int × Int × wq_St) => b_X2_lineUpDueReports_4 kx (fun y1 y2 S => g (y1, y2, S)) x.1 x.2.1 x.2.2) n (y1, y2, S)
theorem l_X2_lineUpDueReports_4_s (kx : Int → wq_St → Option (Int × wq_St)) (n : Nat) (y1 : Int) (y2 : Int) (S : wq_St) : l_X2_lineUpDueReports_4 kx (n + 1) y1 y2 S = b_X2_lineUpDueReports_4 kx (l_X2_lineUpDueReports_4 kx n) y1 y2 S := rfl
theorem l_X2_lineUpDueReports_4_0 (kx : Int → wq_St → Option (Int × wq_St)) (y1 : Int) (y2 : Int) (S : wq_St) : l_X2_lineUpDueReports_4 kx 0 y1 y2 S = none := rfl
def f_X2_lineUpDueReports (S : wq_St) : Option (Int × wq_St) :=
  l_X2_lineUpDueReports_4 (fun u12 S13 =>
    some (u12, S13)) wq_fu 0 0 S
def f_X6_chosenValue (k1 : Nat) (x2 : Int) (x3 : Int) (S : wq_St) : Option (Int × wq_St) :=
  wq_ix x2 3 fun t1 =>
  wq_ix (S (k1 + 1) t1) 4 fun t2 =>
  wq_ix x2 3 fun t3 =>
  wq_ix (S 281 t3) 40 fun t4 =>
  wq_ix x3 3 fun t5 =>
  some (S ((6 + 48 * t2) + 3 + t4) t5, S)
def f_X6_countChoice (k1 : Nat) (S : wq_St) : Option (Int × wq_St) :=
  wq_lt (wq_set S 280 3 ((S 280 3) + 1)) fun S1 =>
  if wq_w (S1 k1 5) = wq_w (-1) then
    some (0, S1)
  else
    wq_bd (f_X6_chosenValue k1 (S1 k1 5) (S1 k1 6) S1) fun r2 S3 =>
    some (0, wq_set S3 280 4 ((S1 280 4) + r2))
def f_X6_valueLookedFor (k1 : Nat) (k2 : Nat) (x3 : Int) (S : wq_St) : Option (Int × wq_St) :=
  wq_ix x3 3 fun t1 =>
  wq_bd (f_X5_conditionForIndex k1 k2 x3 (S (k2 + 2) t1) S) fun r2 S3 =>
  if wq_w r2 = wq_w (-1) then
    some ((-1), S3)
  else
    wq_ix r2 6 fun t4 =>
    if wq_w (S3 (k1 + 3 + t4) 0) = wq_w 3 then
      wq_ix x3 3 fun t5 =>
      if wq_w (S3 (k1 + 3 + t4) 1) = wq_w (S3 (k2 + 1) t5) then
        wq_bd (f_X6_chosenValue k1 (S3 (k1 + 3 + t4) 4) (S3 (k1 + 3 + t4) 5) S3) fun r8 S9 =>
        some (r8, S9)
      else
        wq_bd (f_X6_chosenValue k1 (S3 (k1 + 3 + t4) 1) (S3 (k1 + 3 + t4) 2) S3) fun r6 S7 =>
        some (r6, S7)
    else
      some (S3 (k1 + 3 + t4) 3, S3)
def f_X6_holds (k1 : Nat) (k2 : Nat) (S : wq_St) : Option (Int × wq_St) :=
  wq_bd (f_X6_chosenValue k1 (S k2 1) (S k2 2) S) fun r1 S2 =>
  if wq_w (S2 k2 0) = 0 then
    if wq_w r1 = wq_w (S2 k2 3) then
      some (1, S2)
    else
      some (0, S2)
  else
    if wq_w (S2 k2 0) = 1 then
      if wq_w (S2 k2 3) ≤ wq_w r1 then
        some (0, S2)
      else
        some (1, S2)
    else
      if wq_w (S2 k2 0) = 2 then
        if wq_w r1 ≤ wq_w (S2 k2 3) then
          some (0, S2)
        else
          some (1, S2)
      else
        wq_bd (f_X6_chosenValue k1 (S2 k2 4) (S2 k2 5) S2) fun r3 S4 =>
        if wq_w r1 = wq_w r3 then
          some (1, S4)
        else
          some (0, S4)
def b_X6_conditionsHold_3 (q1 : Nat) (q2 : Nat) (c3 : Int) (kx : wq_St → Option (Int × wq_St)) (rec : Int → wq_St → Option (Int × wq_St)) (y4 : Int) (S : wq_St) : Option (Int × wq_St) :=
  if wq_w (S q1 4) ≤ wq_w y4 then
    kx S
  else
    wq_ix y4 6 fun t1 =>
    wq_bd (f_X1_stepIn (q1 + 3 + t1) q2 S) fun r2 S3 =>
    if wq_w r2 = wq_w c3 then
      wq_bd (f_X6_holds q1 (q1 + 3 + t1) S3) fun r4 S5 =>
      if wq_w r4 = 0 then
        some (0, S5)
      else
        rec (y4 + 1) S5
    else
      rec (y4 + 1) S3
def l_X6_conditionsHold_3 (q1 : Nat) (q2 : Nat) (c3 : Int) (kx : wq_St → Option (Int × wq_St)) (n : Nat) (y4 : Int) (S : wq_St) : Option (Int × wq_St) :=
  wq_loop (fun (g : Int × wq_St → Option (Int × wq_St)) (x : Int × wq_St) => b_X6_conditionsHold_3 q1 q2 c3 kx (fun y4 S => g (y4, S)) x.1 x.2) n (y4, S)
theorem l_X6_conditionsHold_3_s (q1 : Nat) (q2 : Nat) (c3 : Int) (kx : wq_St → Option (Int × wq_St)) (n : Nat) (y4 : Int) (S : wq_St) : l_X6_conditionsHold_3 q1 q2 c3 kx (n + 1) y4 S = b_X6_conditionsHold_3 q1 q2 c3 kx (l_X6_conditionsHold_3 q1 q2 c3 kx n) y4 S := rfl
theorem l_X6_conditionsHold_3_0 (q1 : Nat) (q2 : Nat) (c3 : Int) (kx : wq_St → Option (Int × wq_St)) (y4 : Int) (S : wq_St) : l_X6_conditionsHold_3 q1 q2 c3 kx 0 y4 S = none := rfl
def f_X6_conditionsHold (k1 : Nat) (k2 : Nat) (x3 : Int) (S : wq_St) : Option (Int × wq_St) :=
  l_X6_conditionsHold_3 k1 k2 x3 (fun S6 =>
    some (1, S6)) wq_fu 0 S
def j_X6_takeStep_121 (self : Nat → Nat → Int → wq_St → Option (Int × wq_St)) (kx : wq_St → Option (Int × wq_St)) (rec : Int → wq_St → Option (Int × wq_St)) (q1 : Nat) (q2 : Nat) (j3 : Int) (j4 : Int) (q5 : Nat) (j6 : Int) (j7 : Int) (j8 : Int) (S : wq_St) : Option (Int × wq_St) :=
  wq_lt (wq_set S 280 2 ((S 280 2) + 1)) fun S6 =>
  wq_ix j4 3 fun t7 =>
  wq_lt (wq_set S6 281 t7 j8) fun S8 =>
  wq_bd (f_X6_conditionsHold q1 q2 j3 S8) fun r9 S10 =>
  if wq_w r9 = 0 then
    rec (j8 + 1) S10
  else
    wq_bd (self q1 q2 (j3 + 1) S10) fun r11 S12 =>
    rec (j8 + 1) S12
def b_X6_takeStep_75 (self : Nat → Nat → Int → wq_St → Option (Int × wq_St)) (q1 : Nat) (q2 : Nat) (c3 : Int) (c4 : Int) (q5 : Nat) (c6 : Int) (c7 : Int) (kx : wq_St → Option (Int × wq_St)) (rec : Int → wq_St → Option (Int × wq_St)) (y8 : Int) (S : wq_St) : Option (Int × wq_St) :=
  if wq_w (S q5 5) ≤ wq_w y8 then
    kx S
  else
    wq_ix y8 40 fun t5 =>
    if wq_w (S (q5 + 43) t5) = 0 then
      rec (y8 + 1) S
    else
      if wq_w c6 = wq_w (-1) then
        j_X6_takeStep_121 self kx rec q1 q2 c3 c4 q5 c6 c7 y8 S
      else
        wq_ix y8 40 fun t13 =>
        wq_ix c6 3 fun t14 =>
        if wq_w (S (q5 + 3 + t13) t14) = wq_w c7 then
          j_X6_takeStep_121 self kx rec q1 q2 c3 c4 q5 c6 c7 y8 S
        else
          rec (y8 + 1) S
def l_X6_takeStep_75 (self : Nat → Nat → Int → wq_St → Option (Int × wq_St)) (q1 : Nat) (q2 : Nat) (c3 : Int) (c4 : Int) (q5 : Nat) (c6 : Int) (c7 : Int) (kx : wq_St → Option (Int × wq_St)) (n : Nat) (y8 : Int) (S : wq_St) : Option (Int × wq_St) :=
  wq_loop (fun (g : Int × wq_St → Option (Int × wq_St)) (x : Int × wq_St) => b_X6_takeStep_75 self q1 q2 c3 c4 q5 c6 c7 kx (fun y8 S => g (y8, S)) x.1 x.2) n (y8, S)
theorem l_X6_takeStep_75_s (self : Nat → Nat → Int → wq_St → Option (Int × wq_St)) (q1 : Nat) (q2 : Nat) (c3 : Int) (c4 : Int) (q5 : Nat) (c6 : Int) (c7 : Int) (kx : wq_St → Option (Int × wq_St)) (n : Nat) (y8 : Int) (S : wq_St) : l_X6_takeStep_75 self q1 q2 c3 c4 q5 c6 c7 kx (n + 1) y8 S = b_X6_takeStep_75 self q1 q2 c3 c4 q5 c6 c7 kx (l_X6_takeStep_75 self q1 q2 c3 c4 q5 c6 c7 kx n) y8 S := rfl
theorem l_X6_takeStep_75_0 (self : Nat → Nat → Int → wq_St → Option (Int × wq_St)) (q1 : Nat) (q2 : Nat) (c3 : Int) (c4 : Int) (q5 : Nat) (c6 : Int) (c7 : Int) (kx : wq_St → Option (Int × wq_St)) (y8 : Int) (S : wq_St) : l_X6_takeStep_75 self q1 q2 c3 c4 q5 c6 c7 kx 0 y8 S = none := rfl
def j_X6_takeStep_72 (self : Nat → Nat → Int → wq_St → Option (Int × wq_St)) (q1 : Nat) (q2 : Nat) (j3 : Int) (j4 : Int) (q5 : Nat) (j6 : Int) (j7 : Int) (S : wq_St) : Option (Int × wq_St) :=
  l_X6_takeStep_75 self q1 q2 j3 j4 q5 j6 j7 (fun S15 =>
    some (0, S15)) wq_fu 0 S
def fb_X6_takeStep (self : Nat → Nat → Int → wq_St → Option (Int × wq_St)) (k1 : Nat) (k2 : Nat) (x3 : Int) (S : wq_St) : Option (Int × wq_St) :=
  if wq_w x3 < wq_w (S k1 3) then
    wq_ix x3 3 fun t1 =>
    wq_ix (S (k2 + 1) t1) 3 fun t2 =>
    wq_ix (S (k1 + 1) t2) 4 fun t3 =>
    wq_ix x3 3 fun t4 =>
    if wq_w (S (k2 + 2) t4) = wq_w (-1) then
      j_X6_takeStep_72 self k1 k2 x3 (S (k2 + 1) t1) (6 + 48 * t3) (S (k2 + 2) t4) (-1) S
    else
      wq_bd (f_X6_valueLookedFor k1 k2 x3 S) fun r16 S17 =>
      wq_lt (wq_set S17 280 2 ((S17 280 2) + 1)) fun S18 =>
      j_X6_takeStep_72 self k1 k2 x3 (S (k2 + 1) t1) (6 + 48 * t3) (S (k2 + 2) t4) r16 S18
  else
    wq_bd (f_X6_countChoice k1 S) fun r19 S20 =>
    some (0, S20)
def f_X6_takeStep : Nat → Nat → Nat → Int → wq_St → Option (Int × wq_St)
  | 0, _, _, _, _ => none
  | n + 1, k1, k2, x3, S => fb_X6_takeStep (f_X6_takeStep n) k1 k2 x3 S
def f_X6_goThrough (k1 : Nat) (k2 : Nat) (S : wq_St) : Option (Int × wq_St) :=
  wq_lt (wq_set S 280 2 0) fun S1 =>
  wq_lt (wq_set S1 280 3 0) fun S2 =>
  wq_lt (wq_set S2 280 4 0) fun S3 =>
  if wq_w (S3 k1 3) ≤ 0 then
    some (0, S3)
  else
    wq_bd (f_X6_takeStep wq_dp k1 k2 0 S3) fun r4 S5 =>
    some (0, S5)
def b_X2_markTables_2 (q1 : Nat) (kx : wq_St → Option (Int × wq_St)) (rec : Int → wq_St → Option (Int × wq_St)) (y2 : Int) (S : wq_St) : Option (Int × wq_St) :=
  if wq_w (S q1 3) ≤ wq_w y2 then
    kx S
  else
    wq_ix y2 3 fun t1 =>
    wq_ix (S (q1 + 1) t1) 4 fun t2 =>
    wq_lt (wq_set S (6 + 48 * t2) 8 1) fun S3 =>
    rec (y2 + 1) S3
def l_X2_markTables_2 (q1 : Nat) (kx : wq_St → Option (Int × wq_St)) (n : Nat) (y2 : Int) (S : wq_St) : Option (Int × wq_St) :=
  wq_loop (fun (g : Int × wq_St → Option (Int × wq_St)) (x : Int × wq_St) => b_X2_markTables_2 q1 kx (fun y2 S => g (y2, S)) x.1 x.2) n (y2, S)
theorem l_X2_markTables_2_s (q1 : Nat) (kx : wq_St → Option (Int × wq_St)) (n : Nat) (y2 : Int) (S : wq_St) : l_X2_markTables_2 q1 kx (n + 1) y2 S = b_X2_markTables_2 q1 kx (l_X2_markTables_2 q1 kx n) y2 S := rfl
theorem l_X2_markTables_2_0 (q1 : Nat) (kx : wq_St → Option (Int × wq_St)) (y2 : Int) (S : wq_St) : l_X2_markTables_2 q1 kx 0 y2 S = none := rfl
def f_X2_markTables (k1 : Nat) (S : wq_St) : Option (Int × wq_St) :=
  l_X2_markTables_2 k1 (fun S4 =>
    some (0, S4)) wq_fu 0 S
def f_X2_keep (k1 : Nat) (x2 : Int) (S : wq_St) : Option (Int × wq_St) :=
  wq_lt (wq_set S 282 8 ((S 282 8) - (S 280 2))) fun S1 =>
  wq_lt (wq_set S1 k1 8 (S1 280 3)) fun S2 =>
  wq_lt (wq_set S2 k1 9 (S2 280 4)) fun S3 =>
  wq_lt (wq_set S3 k1 10 (S3 282 6)) fun S4 =>
  wq_lt (wq_set S4 k1 7 0) fun S5 =>
  if wq_w (2 * x2) < wq_w (S5 280 2) then
    wq_bd (f_X2_markTables k1 S5) fun r6 S7 =>
    some (0, S7)
  else
    if wq_w x2 ≤ wq_w (2 * (S5 280 2)) then
      some (0, S5)
    else
      wq_bd (f_X2_markTables k1 S5) fun r8 S9 =>
      some (0, S9)
def b_X2_runDueReports_7 (c1 : Int) (kx : Int → wq_St → Option (Int × wq_St)) (rec : Int → wq_St → Option (Int × wq_St)) (y2 : Int) (S : wq_St) : Option (Int × wq_St) :=
  if wq_w c1 ≤ wq_w y2 then
    kx y2 S
  else
    wq_ix y2 8 fun t3 =>
    wq_ix (S 283 t3) 8 fun t4 =>
    wq_bd (f_X4_choose (199 + 9 * t4) S) fun r5 S6 =>
    wq_bd (f_X6_goThrough (199 + 9 * t4) r5 S6) fun r7 S8 =>
    if wq_w (S8 280 2) ≤ wq_w (S8 282 8) then
      wq_bd (f_X3_foretoldMinutes r5 S8) fun r9 S10 =>
      wq_bd (f_X2_keep (199 + 9 * t4) r9 S10) fun r11 S12 =>
      rec (y2 + 1) S12
    else
      kx y2 S8
def l_X2_runDueReports_7 (c1 : Int) (kx : Int → wq_St → Option (Int × wq_St)) (n : Nat) (y2 : Int) (S : wq_St) : Option (Int × wq_St) :=
  wq_loop (fun (g : Int × wq_St → Option (Int × wq_St)) (x : Int × wq_St) => b_X2_runDueReports_7 c1 kx (fun y2 S => g (y2, S)) x.1 x.2) n (y2, S)
theorem l_X2_runDueReports_7_s (c1 : Int) (kx : Int → wq_St → Option (Int × wq_St)) (n : Nat) (y2 : Int) (S : wq_St) : l_X2_runDueReports_7 c1 kx (n + 1) y2 S = b_X2_runDueReports_7 c1 kx (l_X2_runDueReports_7 c1 kx n) y2 S := rfl
theorem l_X2_runDueReports_7_0 (c1 : Int) (kx : Int → wq_St → Option (Int × wq_St)) (y2 : Int) (S : wq_St) : l_X2_runDueReports_7 c1 kx 0 y2 S = none := rfl
def b_X2_runDueReports_79 (c1 : Int) (c2 : Int) (kx : wq_St → Option (Int × wq_St)) (rec : Int → wq_St → Option (Int × wq_St)) (y3 : Int) (S : wq_St) : Option (Int × wq_St) :=
  if wq_w c1 ≤ wq_w y3 then
    kx S
  else
    wq_ix y3 8 fun t15 =>
    wq_ix (S 283 t15) 8 fun t16 =>
    wq_lt (wq_set S 282 9 ((S 282 9) + (S (199 + 9 * t16) 2))) fun S17 =>
    wq_bd (f_X2_markTables (199 + 9 * t16) S17) fun r18 S19 =>
    rec (y3 + 1) S19
def l_X2_runDueReports_79 (c1 : Int) (c2 : Int) (kx : wq_St → Option (Int × wq_St)) (n : Nat) (y3 : Int) (S : wq_St) : Option (Int × wq_St) :=
  wq_loop (fun (g : Int × wq_St → Option (Int × wq_St)) (x : Int × wq_St) => b_X2_runDueReports_79 c1 c2 kx (fun y3 S => g (y3, S)) x.1 x.2) n (y3, S)
theorem l_X2_runDueReports_79_s (c1 : Int) (c2 : Int) (kx : wq_St → Option (Int × wq_St)) (n : Nat) (y3 : Int) (S : wq_St) : l_X2_runDueReports_79 c1 c2 kx (n + 1) y3 S = b_X2_runDueReports_79 c1 c2 kx (l_X2_runDueReports_79 c1 c2 kx n) y3 S := rfl
theorem l_X2_runDueReports_79_0 (c1 : Int) (c2 : Int) (kx : wq_St → Option (Int × wq_St)) (y3 : Int) (S : wq_St) : l_X2_runDueReports_79 c1 c2 kx 0 y3 S = none := rfl
def j_X2_runDueReports_77 (j1 : Int) (j2 : Int) (S : wq_St) : Option (Int × wq_St) :=
  l_X2_runDueReports_79 j1 j2 (fun S20 =>
    wq_lt (wq_set S20 282 6 ((S20 282 6) + 1)) fun S21 =>
    some (j2, S21)) wq_fu j2 S
def f_X2_runDueReports (S : wq_St) : Option (Int × wq_St) :=
  wq_bd (f_X2_lineUpDueReports S) fun r1 S2 =>
  l_X2_runDueReports_7 r1 (fun u13 S14 =>
    j_X2_runDueReports_77 r1 u13 S14) wq_fu 0 S2
def b_X3_becomePlain_2 (q0 : Nat) (c1 : Int) (kx : wq_St → Option (Int × wq_St)) (rec : Int → wq_St → Option (Int × wq_St)) (y2 : Int) (S : wq_St) : Option (Int × wq_St) :=
  if wq_w c1 ≤ wq_w y2 then
    kx S
  else
    wq_bd (f_X3_place q0 y2 y2 S) fun r1 S2 =>
    wq_ix y2 3 fun t3 =>
    wq_lt (wq_set S2 (q0 + 2) t3 (-1)) fun S4 =>
    rec (y2 + 1) S4
def l_X3_becomePlain_2 (q0 : Nat) (c1 : Int) (kx : wq_St → Option (Int × wq_St)) (n : Nat) (y2 : Int) (S : wq_St) : Option (Int × wq_St) :=
  wq_loop (fun (g : Int × wq_St → Option (Int × wq_St)) (x : Int × wq_St) => b_X3_becomePlain_2 q0 c1 kx (fun y2 S => g (y2, S)) x.1 x.2) n (y2, S)
theorem l_X3_becomePlain_2_s (q0 : Nat) (c1 : Int) (kx : wq_St → Option (Int × wq_St)) (n : Nat) (y2 : Int) (S : wq_St) : l_X3_becomePlain_2 q0 c1 kx (n + 1) y2 S = b_X3_becomePlain_2 q0 c1 kx (l_X3_becomePlain_2 q0 c1 kx n) y2 S := rfl
theorem l_X3_becomePlain_2_0 (q0 : Nat) (c1 : Int) (kx : wq_St → Option (Int × wq_St)) (y2 : Int) (S : wq_St) : l_X3_becomePlain_2 q0 c1 kx 0 y2 S = none := rfl
def f_X3_becomePlain (k0 : Nat) (x1 : Int) (S : wq_St) : Option (Int × wq_St) :=
  l_X3_becomePlain_2 k0 x1 (fun S5 =>
    some (0, S5)) wq_fu 0 S
def f_X7_fits (k0 : Nat) (x1 : Int) (x2 : Int) (S : wq_St) : Option (Int × wq_St) :=
  if wq_w x2 < 0 then
    some (0, S)
  else
    if wq_w (S k0 4) ≤ wq_w x1 then
      if wq_w 0 < wq_w x2 then
        some (0, S)
      else
        some (1, S)
    else
      if wq_w 999 < wq_w x2 then
        some (0, S)
      else
        some (1, S)
def f_X7_put (k0 : Nat) (x1 : Int) (x2 : Int) (x3 : Int) (S : wq_St) : Option (Int × wq_St) :=
  wq_ix (S k0 5) 40 fun t1 =>
  wq_ix 0 3 fun t2 =>
  wq_lt (wq_set S (k0 + 3 + t1) t2 x1) fun S3 =>
  wq_ix (S k0 5) 40 fun t4 =>
  wq_ix 1 3 fun t5 =>
  wq_lt (wq_set S3 (k0 + 3 + t4) t5 x2) fun S6 =>
  wq_ix (S k0 5) 40 fun t7 =>
  wq_ix 2 3 fun t8 =>
  wq_lt (wq_set S6 (k0 + 3 + t7) t8 x3) fun S9 =>
  wq_ix (S k0 5) 40 fun t10 =>
  wq_lt (wq_set S9 (k0 + 43) t10 1) fun S11 =>
  wq_lt (wq_set S11 k0 5 ((S11 k0 5) + 1)) fun S12 =>
  wq_lt (wq_set S12 k0 6 ((S12 k0 6) + 1)) fun S13 =>
  some (S k0 5, S13)
def f_X8_addTable (x1 : Int) (S : wq_St) : Option (Nat × Int × wq_St) :=
  if wq_w x1 < wq_w 1 then
    some (2, 0, S)
  else
    if wq_w x1 ≤ wq_w 3 then
      if wq_w (S 0 6) < wq_w 4 then
        wq_ix (S 0 6) 4 fun t1 =>
        wq_lt (wq_set S (6 + 48 * t1) 4 x1) fun S2 =>
        wq_lt (wq_set S2 0 6 ((S2 0 6) + 1)) fun S3 =>
        some (0, (S3 0 6) - 1, S3)
      else
        some (3, 0, S)
    else
      some (2, 0, S)
def f_X8_findTable (x1 : Int) (S : wq_St) : Option (Nat × Nat × wq_St) :=
  if wq_w x1 < 0 then
    some (1, 0, S)
  else
    if wq_w x1 < wq_w (S 0 6) then
      wq_ix x1 4 fun t1 =>
      some (0, 6 + 48 * t1, S)
    else
      some (1, 0, S)
def f_X8_insert (x1 : Int) (x2 : Int) (x3 : Int) (x4 : Int) (S : wq_St) : Option (Nat × Int × wq_St) :=
  wq_bx 0 (f_X8_findTable x1 S) fun r1 S2 =>
  wq_bd (f_X7_fits r1 0 x2 S2) fun r3 S4 =>
  if wq_w r3 = 0 then
    some (2, 0, S4)
  else
    wq_bd (f_X7_fits r1 1 x3 S4) fun r5 S6 =>
    if wq_w r5 = 0 then
      some (2, 0, S6)
    else
      wq_bd (f_X7_fits r1 2 x4 S6) fun r7 S8 =>
      if wq_w r7 = 0 then
        some (2, 0, S8)
      else
        if wq_w (S8 r1 5) < wq_w 40 then
          wq_bd (f_X7_put r1 x2 x3 x4 S8) fun r9 S10 =>
          some (0, r9, S10)
        else
          some (3, 0, S8)
def f_X8_checkRow (k0 : Nat) (x1 : Int) (S : wq_St) : Option (Nat × Int × wq_St) :=
  if wq_w x1 < 0 then
    some (1, 0, S)
  else
    if wq_w (S k0 5) ≤ wq_w x1 then
      some (1, 0, S)
    else
      wq_ix x1 40 fun t1 =>
      if wq_w (S (k0 + 43) t1) = 0 then
        some (1, 0, S)
      else
        some (0, 0, S)
def f_X8_delete (x1 : Int) (x2 : Int) (S : wq_St) : Option (Nat × Int × wq_St) :=
  wq_bx 0 (f_X8_findTable x1 S) fun r1 S2 =>
  wq_bx 0 (f_X8_checkRow r1 x2 S2) fun r3 S4 =>
  wq_ix x2 40 fun t5 =>
  wq_lt (wq_set S4 (r1 + 43) t5 0) fun S6 =>
  wq_lt (wq_set S6 r1 6 ((S6 r1 6) - 1)) fun S7 =>
  some (0, S7 r1 6, S7)
def f_X8_checkColumn (k0 : Nat) (x1 : Int) (S : wq_St) : Option (Nat × Int × wq_St) :=
  if wq_w x1 < 0 then
    some (1, 0, S)
  else
    if wq_w x1 < wq_w (S k0 4) then
      some (0, 0, S)
    else
      some (1, 0, S)
def f_X8_findColumn (x1 : Int) (x2 : Int) (S : wq_St) : Option (Nat × Nat × wq_St) :=
  wq_bx 0 (f_X8_findTable x1 S) fun r1 S2 =>
  wq_bx 0 (f_X8_checkColumn r1 x2 S2) fun r3 S4 =>
  wq_ix x2 3 fun t5 =>
  some (0, r1 + 45 + t5, S4)
def f_X8_setIndex (x1 : Int) (x2 : Int) (x3 : Int) (S : wq_St) : Option (Nat × Int × wq_St) :=
  wq_bx 0 (f_X8_findColumn x1 x2 S) fun r1 S2 =>
  wq_gd (x3 = 0 ∨ x3 = 1) <|
  wq_lt (wq_set S2 r1 0 x3) fun S3 =>
  wq_gd (S2 r1 0 = 0 ∨ S2 r1 0 = 1) <|
  some (0, S2 r1 0, S3)
def f_X8_rows (x1 : Int) (S : wq_St) : Option (Nat × Int × wq_St) :=
  wq_bx 0 (f_X8_findTable x1 S) fun r1 S2 =>
  some (0, S2 r1 6, S2)
def f_X8_value (x1 : Int) (x2 : Int) (x3 : Int) (S : wq_St) : Option (Nat × Int × wq_St) :=
  wq_bx 0 (f_X8_findTable x1 S) fun r1 S2 =>
  wq_bx 0 (f_X8_checkRow r1 x2 S2) fun r3 S4 =>
  wq_bx 0 (f_X8_checkColumn r1 x3 S4) fun r5 S6 =>
  wq_ix x2 40 fun t7 =>
  wq_ix x3 3 fun t8 =>
  some (0, S6 (r1 + 3 + t7) t8, S6)
def f_X8_checkSampleStep (x0 : Int) (S : wq_St) : Option (Nat × Int × wq_St) :=
  if wq_w x0 < wq_w 1 then
    some (2, 0, S)
  else
    if wq_w x0 ≤ wq_w 10 then
      some (0, 0, S)
    else
      some (2, 0, S)
def f_X8_renew (x1 : Int) (x2 : Int) (S : wq_St) : Option (Nat × Int × wq_St) :=
  wq_bx 0 (f_X8_findTable x1 S) fun r1 S2 =>
  wq_bx 0 (f_X8_checkSampleStep x2 S2) fun r3 S4 =>
  wq_bd (f_X7_renewCounts r1 x2 S4) fun r5 S6 =>
  some (0, r5, S6)
def f_X8_setStep (x1 : Int) (S : wq_St) : Option (Nat × Int × wq_St) :=
  wq_bx 0 (f_X8_checkSampleStep x1 S) fun r1 S2 =>
  wq_lt (wq_set S2 282 5 x1) fun S3 =>
  some (0, S2 282 5, S3)
def f_X8_toldRows (x1 : Int) (S : wq_St) : Option (Nat × Int × wq_St) :=
  wq_bx 0 (f_X8_findTable x1 S) fun r1 S2 =>
  some (0, S2 r1 7, S2)
def f_X8_unlike (x1 : Int) (x2 : Int) (S : wq_St) : Option (Nat × Int × wq_St) :=
  wq_bx 0 (f_X8_findColumn x1 x2 S) fun r1 S2 =>
  some (0, S2 r1 1, S2)
def f_X8_least (x1 : Int) (x2 : Int) (S : wq_St) : Option (Nat × Int × wq_St) :=
  wq_bx 0 (f_X8_findColumn x1 x2 S) fun r1 S2 =>
  some (0, S2 r1 2, S2)
def f_X8_greatest (x1 : Int) (x2 : Int) (S : wq_St) : Option (Nat × Int × wq_St) :=
  wq_bx 0 (f_X8_findColumn x1 x2 S) fun r1 S2 =>
  some (0, S2 r1 3, S2)
def f_X8_isMarked (x1 : Int) (S : wq_St) : Option (Nat × Int × wq_St) :=
  wq_bx 0 (f_X8_findTable x1 S) fun r1 S2 =>
  wq_gd (S2 r1 8 = 0 ∨ S2 r1 8 = 1) <|
  some (0, S2 r1 8, S2)
def f_X8_addReport (x1 : Int) (S : wq_St) : Option (Nat × Int × wq_St) :=
  if wq_w x1 < 0 then
    some (2, 0, S)
  else
    if wq_w x1 ≤ wq_w 1000 then
      if wq_w (S 0 7) < wq_w 8 then
        wq_ix (S 0 7) 8 fun t1 =>
        wq_lt (wq_set S (199 + 9 * t1) 2 x1) fun S2 =>
        wq_lt (wq_set S2 0 7 ((S2 0 7) + 1)) fun S3 =>
        some (0, (S3 0 7) - 1, S3)
      else
        some (3, 0, S)
    else
      some (2, 0, S)
def f_X8_findReport (x1 : Int) (S : wq_St) : Option (Nat × Nat × wq_St) :=
  if wq_w x1 < 0 then
    some (1, 0, S)
  else
    if wq_w x1 < wq_w (S 0 7) then
      wq_ix x1 8 fun t1 =>
      some (0, 199 + 9 * t1, S)
    else
      some (1, 0, S)
def f_X8_addSource (x1 : Int) (x2 : Int) (S : wq_St) : Option (Nat × Int × wq_St) :=
  wq_bx 0 (f_X8_findReport x1 S) fun r1 S2 =>
  wq_bx 0 (f_X8_findTable x2 S2) fun r3 S4 =>
  if wq_w (S4 r1 3) < wq_w 3 then
    wq_ix (S4 r1 3) 3 fun t5 =>
    wq_lt (wq_set S4 (r1 + 1) t5 x2) fun S6 =>
    wq_lt (wq_set S6 r1 3 ((S6 r1 3) + 1)) fun S7 =>
    some (0, (S7 r1 3) - 1, S7)
  else
    some (3, 0, S4)
def f_X8_checkSourceColumn (k1 : Nat) (x2 : Int) (x3 : Int) (S : wq_St) : Option (Nat × Int × wq_St) :=
  if wq_w x2 < 0 then
    some (1, 0, S)
  else
    if wq_w x2 < wq_w (S k1 3) then
      wq_ix x2 3 fun t1 =>
      wq_ix (S (k1 + 1) t1) 4 fun t2 =>
      wq_bx 0 (f_X8_checkColumn (6 + 48 * t2) x3 S) fun r3 S4 =>
      some (0, 0, S4)
    else
      some (1, 0, S)
def f_X8_checkConditionRoom (k0 : Nat) (S : wq_St) : Option (Nat × Int × wq_St) :=
  if wq_w (S k0 4) < wq_w 6 then
    some (0, 0, S)
  else
    some (3, 0, S)
def f_X8_addCondition (x1 : Int) (x2 : Int) (x3 : Int) (x4 : Int) (x5 : Int) (S : wq_St) : Option (Nat × Int × wq_St) :=
  wq_bx 0 (f_X8_findReport x1 S) fun r1 S2 =>
  wq_bx 0 (f_X8_checkSourceColumn r1 x2 x3 S2) fun r3 S4 =>
  if wq_w x4 < 0 then
    some (2, 0, S4)
  else
    if wq_w x4 ≤ wq_w 2 then
      if wq_w x5 < 0 then
        some (2, 0, S4)
      else
        if wq_w x5 ≤ wq_w 999 then
          wq_bx 0 (f_X8_checkConditionRoom r1 S4) fun r5 S6 =>
          wq_ix (S6 r1 4) 6 fun t7 =>
          wq_bd (f_X1_compare (r1 + 3 + t7) x2 x3 x4 x5 S6) fun r8 S9 =>
          wq_lt (wq_set S9 r1 4 ((S9 r1 4) + 1)) fun S10 =>
          some (0, (S10 r1 4) - 1, S10)
        else
          some (2, 0, S4)
    else
      some (2, 0, S4)
def f_X8_addJoin (x1 : Int) (x2 : Int) (x3 : Int) (x4 : Int) (x5 : Int) (S : wq_St) : Option (Nat × Int × wq_St) :=
  wq_bx 0 (f_X8_findReport x1 S) fun r1 S2 =>
  wq_bx 0 (f_X8_checkSourceColumn r1 x2 x3 S2) fun r3 S4 =>
  wq_bx 0 (f_X8_checkSourceColumn r1 x4 x5 S4) fun r5 S6 =>
  if wq_w x2 = wq_w x4 then
    some (2, 0, S6)
  else
    wq_bx 0 (f_X8_checkConditionRoom r1 S6) fun r7 S8 =>
    wq_ix (S8 r1 4) 6 fun t9 =>
    wq_bd (f_X1_join (r1 + 3 + t9) x2 x3 x4 x5 S8) fun r10 S11 =>
    wq_lt (wq_set S11 r1 4 ((S11 r1 4) + 1)) fun S12 =>
    some (0, (S12 r1 4) - 1, S12)
def f_X8_dropCondition (x1 : Int) (S : wq_St) : Option (Nat × Int × wq_St) :=
  wq_bx 0 (f_X8_findReport x1 S) fun r1 S2 =>
  if wq_w (S2 r1 4) = 0 then
    some (3, 0, S2)
  else
    wq_lt (wq_set S2 r1 4 ((S2 r1 4) - 1)) fun S3 =>
    some (0, S3 r1 4, S3)
def f_X8_setSum (x1 : Int) (x2 : Int) (x3 : Int) (S : wq_St) : Option (Nat × Int × wq_St) :=
  wq_bx 0 (f_X8_findReport x1 S) fun r1 S2 =>
  if wq_w x2 = wq_w (-1) then
    some (0, 0, wq_set S2 r1 5 x2)
  else
    wq_bx 0 (f_X8_checkSourceColumn r1 x2 x3 S2) fun r3 S4 =>
    wq_lt (wq_set S4 r1 6 x3) fun S5 =>
    some (0, 0, wq_set S5 r1 5 x2)
def f_X8_setDue (x1 : Int) (x2 : Int) (S : wq_St) : Option (Nat × Int × wq_St) :=
  wq_bx 0 (f_X8_findReport x1 S) fun r1 S2 =>
  wq_gd (x2 = 0 ∨ x2 = 1) <|
  wq_lt (wq_set S2 r1 7 x2) fun S3 =>
  wq_gd (S2 r1 7 = 0 ∨ S2 r1 7 = 1) <|
  some (0, S2 r1 7, S3)
def f_X8_isDue (x1 : Int) (S : wq_St) : Option (Nat × Int × wq_St) :=
  wq_bx 0 (f_X8_findReport x1 S) fun r1 S2 =>
  wq_gd (S2 r1 7 = 0 ∨ S2 r1 7 = 1) <|
  some (0, S2 r1 7, S2)
def f_X8_checkPlanStep (k0 : Nat) (x1 : Int) (S : wq_St) : Option (Nat × Int × wq_St) :=
  if wq_w x1 < 0 then
    some (1, 0, S)
  else
    if wq_w x1 < wq_w (S k0 3) then
      some (0, 0, S)
    else
      some (1, 0, S)
def f_X8_planSource (x1 : Int) (x2 : Int) (S : wq_St) : Option (Nat × Int × wq_St) :=
  wq_bx 0 (f_X8_findReport x1 S) fun r1 S2 =>
  wq_bx 0 (f_X8_checkPlanStep r1 x2 S2) fun r3 S4 =>
  wq_bd (f_X4_choose r1 S4) fun r5 S6 =>
  wq_ix x2 3 fun t7 =>
  some (0, S6 (r5 + 1) t7, S6)
def f_X8_planWay (x1 : Int) (x2 : Int) (S : wq_St) : Option (Nat × Int × wq_St) :=
  wq_bx 0 (f_X8_findReport x1 S) fun r1 S2 =>
  wq_bx 0 (f_X8_checkPlanStep r1 x2 S2) fun r3 S4 =>
  wq_bd (f_X4_choose r1 S4) fun r5 S6 =>
  wq_ix x2 3 fun t7 =>
  some (0, S6 (r5 + 2) t7, S6)
def f_X8_foretold (x1 : Int) (S : wq_St) : Option (Nat × Int × wq_St) :=
  wq_bx 0 (f_X8_findReport x1 S) fun r1 S2 =>
  wq_bd (f_X4_choose r1 S2) fun r3 S4 =>
  wq_bd (f_X3_foretoldMinutes r3 S4) fun r5 S6 =>
  some (0, r5, S6)
def f_X8_runChosenPlan (k1 : Nat) (S : wq_St) : Option (Int × wq_St) :=
  wq_bd (f_X4_choose k1 S) fun r1 S2 =>
  wq_bd (f_X6_goThrough k1 r1 S2) fun r3 S4 =>
  some (0, S4)
def f_X8_minutes (x1 : Int) (S : wq_St) : Option (Nat × Int × wq_St) :=
  wq_bx 0 (f_X8_findReport x1 S) fun r1 S2 =>
  wq_bd (f_X8_runChosenPlan r1 S2) fun r3 S4 =>
  some (0, S4 280 2, S4)
def f_X8_answer (x1 : Int) (S : wq_St) : Option (Nat × Int × wq_St) :=
  wq_bx 0 (f_X8_findReport x1 S) fun r1 S2 =>
  wq_bd (f_X8_runChosenPlan r1 S2) fun r3 S4 =>
  some (0, S4 280 3, S4)
def f_X8_sum (x1 : Int) (S : wq_St) : Option (Nat × Int × wq_St) :=
  wq_bx 0 (f_X8_findReport x1 S) fun r1 S2 =>
  wq_bd (f_X8_runChosenPlan r1 S2) fun r3 S4 =>
  some (0, S4 280 4, S4)
def f_X8_runPlainPlan (k1 : Nat) (S : wq_St) : Option (Int × wq_St) :=
  wq_bd (f_X3_becomePlain 1 (S k1 3) S) fun r1 S2 =>
  wq_bd (f_X6_goThrough k1 1 S2) fun r3 S4 =>
  some (0, S4)
def f_X8_plainAnswer (x1 : Int) (S : wq_St) : Option (Nat × Int × wq_St) :=
  wq_bx 0 (f_X8_findReport x1 S) fun r1 S2 =>
  wq_bd (f_X8_runPlainPlan r1 S2) fun r3 S4 =>
  some (0, S4 280 3, S4)
def f_X8_plainSum (x1 : Int) (S : wq_St) : Option (Nat × Int × wq_St) :=
  wq_bx 0 (f_X8_findReport x1 S) fun r1 S2 =>
  wq_bd (f_X8_runPlainPlan r1 S2) fun r3 S4 =>
  some (0, S4 280 4, S4)
def f_X8_night (x1 : Int) (S : wq_St) : Option (Nat × Int × wq_St) :=
  if wq_w x1 < 0 then
    some (2, 0, S)
  else
    if wq_w x1 ≤ wq_w 1000 then
      if wq_w (S 282 6) < wq_w 500 then
        wq_bd (f_X2_takePay x1 S) fun r1 S2 =>
        wq_bd (f_X2_renewMarkedTables S2) fun r3 S4 =>
        wq_bd (f_X2_runDueReports S4) fun r5 S6 =>
        some (0, r5, S6)
      else
        some (3, 0, S)
    else
      some (2, 0, S)
def f_X8_nights (S : wq_St) : Option (Int × wq_St) :=
  some (S 282 6, S)
def f_X8_paid (S : wq_St) : Option (Int × wq_St) :=
  some (S 282 7, S)
def f_X8_left (S : wq_St) : Option (Int × wq_St) :=
  some (S 282 8, S)
def f_X8_owed (S : wq_St) : Option (Int × wq_St) :=
  some (S 282 9, S)
def f_X8_kept (x1 : Int) (S : wq_St) : Option (Nat × Int × wq_St) :=
  wq_bx 0 (f_X8_findReport x1 S) fun r1 S2 =>
  some (0, S2 r1 8, S2)
def f_X8_keptSum (x1 : Int) (S : wq_St) : Option (Nat × Int × wq_St) :=
  wq_bx 0 (f_X8_findReport x1 S) fun r1 S2 =>
  some (0, S2 r1 9, S2)
def f_X8_keptIn (x1 : Int) (S : wq_St) : Option (Nat × Int × wq_St) :=
  wq_bx 0 (f_X8_findReport x1 S) fun r1 S2 =>
  some (0, S2 r1 10, S2)
def f_X9_thrown (S : wq_St) : Option (Int × wq_St) :=
  some (S 0 42, S)
def f_X9_in (x0 : Int) (x1 : Int) (x2 : Int) (S : wq_St) : Option (Int × wq_St) :=
  if wq_w x0 < wq_w x1 then
    some (0, S)
  else
    if wq_w x2 < wq_w x0 then
      some (0, S)
    else
      some (1, S)
def f_X9_asked (x1 : Int) (S : wq_St) : Option (Int × wq_St) :=
  if wq_w x1 = 0 then
    wq_lt (wq_set S 0 42 1) fun S1 =>
    wq_gd (x1 = 0 ∨ x1 = 1) <|
    some (x1, S1)
  else
    wq_lt (wq_set S 0 42 0) fun S2 =>
    wq_gd (x1 = 0 ∨ x1 = 1) <|
    some (x1, S2)
def f_X9_asked_ (x1 : Int) (x2 : Int) (S : wq_St) : Option (Int × wq_St) :=
  if wq_w x1 = 0 then
    wq_lt (wq_set S 0 42 1) fun S3 =>
    if wq_w (S3 0 42) = 0 then
      some (1, S3)
    else
      some (0, S3)
  else
    if wq_w x2 = 0 then
      wq_lt (wq_set S 0 42 2) fun S1 =>
      if wq_w (S1 0 42) = 0 then
        some (1, S1)
      else
        some (0, S1)
    else
      wq_lt (wq_set S 0 42 0) fun S2 =>
      if wq_w (S2 0 42) = 0 then
        some (1, S2)
      else
        some (0, S2)
def f_X9_asked__ (x1 : Int) (x2 : Int) (x3 : Int) (S : wq_St) : Option (Int × wq_St) :=
  if wq_w x1 = 0 then
    wq_lt (wq_set S 0 42 1) fun S4 =>
    if wq_w (S4 0 42) = 0 then
      some (1, S4)
    else
      some (0, S4)
  else
    if wq_w x2 = 0 then
      wq_lt (wq_set S 0 42 2) fun S3 =>
      if wq_w (S3 0 42) = 0 then
        some (1, S3)
      else
        some (0, S3)
    else
      if wq_w x3 = 0 then
        wq_lt (wq_set S 0 42 3) fun S1 =>
        if wq_w (S1 0 42) = 0 then
          some (1, S1)
        else
          some (0, S1)
      else
        wq_lt (wq_set S 0 42 0) fun S2 =>
        if wq_w (S2 0 42) = 0 then
          some (1, S2)
        else
          some (0, S2)
def f_X9_told (x1 : Int) (S : wq_St) : Option (Int × wq_St) :=
  wq_lt (wq_set S 0 42 0) fun S1 =>
  some (x1, S1)
def f_X9_isTable (x1 : Int) (S : wq_St) : Option (Int × wq_St) :=
  wq_bd (f_X9_in x1 0 ((S 0 5) - 1) S) fun r1 S2 =>
  wq_gd (r1 = 0 ∨ r1 = 1) <|
  some (r1, S2)
def f_X9_isColumn (x1 : Int) (x2 : Int) (S : wq_St) : Option (Int × wq_St) :=
  wq_bd (f_X9_isTable x1 S) fun r1 S2 =>
  if wq_w r1 = 0 then
    some (0, S2)
  else
    wq_ix x1 4 fun t3 =>
    wq_bd (f_X9_in x2 0 ((S2 1 t3) - 1) S2) fun r4 S5 =>
    if wq_w r4 = 0 then
      some (0, S5)
    else
      some (1, S5)
def f_X9_isRow (x1 : Int) (x2 : Int) (S : wq_St) : Option (Int × wq_St) :=
  wq_bd (f_X9_isTable x1 S) fun r1 S2 =>
  if wq_w r1 = 0 then
    some (0, S2)
  else
    wq_ix x1 4 fun t3 =>
    wq_bd (f_X9_in x2 0 ((S2 2 t3) - 1) S2) fun r4 S5 =>
    if wq_w r4 = 0 then
      some (0, S5)
    else
      wq_ix ((40 * x1) + x2) 160 fun t6 =>
      if wq_w (S5 3 t6) = 0 then
        some (0, S5)
      else
        some (1, S5)
def f_X9_isReport (x1 : Int) (S : wq_St) : Option (Int × wq_St) :=
  wq_bd (f_X9_in x1 0 ((S 0 28) - 1) S) fun r1 S2 =>
  wq_gd (r1 = 0 ∨ r1 = 1) <|
  some (r1, S2)
def f_X9_isSource (x1 : Int) (x2 : Int) (S : wq_St) : Option (Int × wq_St) :=
  wq_bd (f_X9_isReport x1 S) fun r1 S2 =>
  if wq_w r1 = 0 then
    some (0, S2)
  else
    wq_ix x1 8 fun t3 =>
    wq_bd (f_X9_in x2 0 ((S2 13 t3) - 1) S2) fun r4 S5 =>
    if wq_w r4 = 0 then
      some (0, S5)
    else
      some (1, S5)
def f_X9_isColumnOf (x1 : Int) (x2 : Int) (x3 : Int) (S : wq_St) : Option (Int × wq_St) :=
  wq_bd (f_X9_isSource x1 x2 S) fun r1 S2 =>
  if wq_w r1 = 0 then
    some (0, S2)
  else
    wq_ix ((3 * x1) + x2) 24 fun t3 =>
    wq_bd (f_X9_isColumn (S2 14 t3) x3 S2) fun r4 S5 =>
    if wq_w r4 = 0 then
      some (0, S5)
    else
      some (1, S5)
def j_X9_addTable_20 (j1 : Int) (z0 : Int) (z1 : Int) (S : wq_St) : Option (Int × wq_St) :=
  wq_bd (f_X9_asked_ z1 z0 S) fun r3 S4 =>
  if wq_w r3 = 0 then
    some (0, S4)
  else
    wq_ix (S4 0 5) 4 fun t5 =>
    wq_lt (wq_set S4 1 t5 j1) fun S6 =>
    wq_lt (wq_set S6 0 5 ((S6 0 5) + 1)) fun S7 =>
    some ((S7 0 5) - 1, S7)
def f_X9_addTable (x1 : Int) (S : wq_St) : Option (Int × wq_St) :=
  wq_bd (f_X9_in x1 1 3 S) fun r1 S2 =>
  if wq_w 4 ≤ wq_w (S2 0 5) then
    j_X9_addTable_20 x1 0 r1 S2
  else
    j_X9_addTable_20 x1 1 r1 S2
def j_X9_insert_107 (j1 : Int) (j2 : Int) (j3 : Int) (j4 : Int) (z0 : Int) (z1 : Int) (z2 : Int) (S : wq_St) : Option (Int × wq_St) :=
  wq_bd (f_X9_asked__ z2 z1 z0 S) fun r3 S4 =>
  if wq_w r3 = 0 then
    some (0, S4)
  else
    wq_ix j1 4 fun t5 =>
    wq_ix ((40 * j1) + (S4 2 t5)) 160 fun t6 =>
    wq_lt (wq_set S4 3 t6 1) fun S7 =>
    wq_ix (3 * ((40 * j1) + (S4 2 t5))) 480 fun t8 =>
    wq_lt (wq_set S7 4 t8 j2) fun S9 =>
    wq_ix ((3 * ((40 * j1) + (S4 2 t5))) + 1) 480 fun t10 =>
    wq_lt (wq_set S9 4 t10 j3) fun S11 =>
    wq_ix ((3 * ((40 * j1) + (S4 2 t5))) + 2) 480 fun t12 =>
    wq_lt (wq_set S11 4 t12 j4) fun S13 =>
    wq_ix j1 4 fun t14 =>
    wq_ix j1 4 fun t15 =>
    wq_lt (wq_set S13 2 t15 ((S13 2 t14) + 1)) fun S16 =>
    wq_ix j1 4 fun t17 =>
    some ((S16 2 t17) - 1, S16)
def j_X9_insert_106 (j1 : Int) (j2 : Int) (j3 : Int) (j4 : Int) (z0 : Int) (z1 : Int) (S : wq_St) : Option (Int × wq_St) :=
  j_X9_insert_107 j1 j2 j3 j4 0 z0 z1 S
def j_X9_insert_79 (j1 : Int) (j2 : Int) (j3 : Int) (j4 : Int) (j5 : Int) (z0 : Int) (S : wq_St) : Option (Int × wq_St) :=
  if wq_w j5 = 0 then
    j_X9_insert_106 j1 j2 j3 j4 z0 j5 S
  else
    wq_ix j1 4 fun t18 =>
    if wq_w 40 ≤ wq_w (S 2 t18) then
      j_X9_insert_106 j1 j2 j3 j4 z0 j5 S
    else
      j_X9_insert_107 j1 j2 j3 j4 1 z0 j5 S
def j_X9_insert_78 (j1 : Int) (j2 : Int) (j3 : Int) (j4 : Int) (j5 : Int) (S : wq_St) : Option (Int × wq_St) :=
  j_X9_insert_79 j1 j2 j3 j4 j5 0 S
def j_X9_insert_68 (j1 : Int) (j2 : Int) (j3 : Int) (j4 : Int) (j5 : Int) (z0 : Int) (z1 : Int) (z2 : Int) (S : wq_St) : Option (Int × wq_St) :=
  wq_bd (f_X9_in z2 z1 z0 S) fun r25 S26 =>
  if wq_w r25 = 0 then
    j_X9_insert_78 j1 j2 j3 j4 j5 S26
  else
    j_X9_insert_79 j1 j2 j3 j4 j5 1 S26
def j_X9_insert_42 (j1 : Int) (j2 : Int) (j3 : Int) (j4 : Int) (j5 : Int) (z0 : Int) (z1 : Int) (z2 : Int) (S : wq_St) : Option (Int × wq_St) :=
  wq_bd (f_X9_in z2 z1 z0 S) fun r22 S23 =>
  if wq_w r22 = 0 then
    j_X9_insert_78 j1 j2 j3 j4 j5 S23
  else
    wq_ix j1 4 fun t24 =>
    if wq_w (S23 1 t24) ≤ wq_w 2 then
      j_X9_insert_68 j1 j2 j3 j4 j5 0 0 j4 S23
    else
      j_X9_insert_68 j1 j2 j3 j4 j5 999 0 j4 S23
def f_X9_insert (x1 : Int) (x2 : Int) (x3 : Int) (x4 : Int) (S : wq_St) : Option (Int × wq_St) :=
  wq_bd (f_X9_isTable x1 S) fun r1 S2 =>
  if wq_w r1 = 0 then
    j_X9_insert_78 x1 x2 x3 x4 r1 S2
  else
    wq_bd (f_X9_in x2 0 999 S2) fun r19 S20 =>
    if wq_w r19 = 0 then
      j_X9_insert_78 x1 x2 x3 x4 r1 S20
    else
      wq_ix x1 4 fun t21 =>
      if wq_w (S20 1 t21) ≤ wq_w 1 then
        j_X9_insert_42 x1 x2 x3 x4 r1 0 0 x3 S20
      else
        j_X9_insert_42 x1 x2 x3 x4 r1 999 0 x3 S20
def b_X9_rowsOf_7 (c1 : Int) (kx : Int → wq_St → Option (Int × wq_St)) (rec : Int → Int → wq_St → Option (Int × wq_St)) (y2 : Int) (y3 : Int) (S : wq_St) : Option (Int × wq_St) :=
  wq_ix c1 4 fun t1 =>
  if wq_w ((40 * c1) + (S 2 t1)) ≤ wq_w y3 then
    kx y2 S
  else
    wq_ix y3 160 fun t2 =>
    if wq_w (S 3 t2) = 0 then
      rec (y2 + 0) (y3 + 1) S
    else
      rec (y2 + 1) (y3 + 1) S
def l_X9_rowsOf_7 (c1 : Int) (kx : Int → wq_St → Option (Int × wq_St)) (n : Nat) (y2 : Int) (y3 : Int) (S : wq_St) : Option (Int × wq_St) :=
  wq_loop (fun (g : Int × Int × wq_St → Option (Int × wq_St)) (x : Int × Int × wq_St) => b_X9_rowsOf_7 c1 kx (fun y2 y3 S => g (y2, y3, S)) x.1 x.2.1 x.2.2) n (y2, y3, S)
theorem l_X9_rowsOf_7_s (c1 : Int) (kx : Int → wq_St → Option (Int × wq_St)) (n : Nat) (y2 : Int) (y3 : Int) (S : wq_St) : l_X9_rowsOf_7 c1 kx (n + 1) y2 y3 S = b_X9_rowsOf_7 c1 kx (l_X9_rowsOf_7 c1 kx n) y2 y3 S := rfl
theorem l_X9_rowsOf_7_0 (c1 : Int) (kx : Int → wq_St → Option (Int × wq_St)) (y2 : Int) (y3 : Int) (S : wq_St) : l_X9_rowsOf_7 c1 kx 0 y2 y3 S = none := rfl
def f_X9_rowsOf (x1 : Int) (S : wq_St) : Option (Int × wq_St) :=
  l_X9_rowsOf_7 x1 (fun u3 S4 =>
    some (u3, S4)) wq_fu 0 (40 * x1) S
def f_X9_delete (x1 : Int) (x2 : Int) (S : wq_St) : Option (Int × wq_St) :=
  wq_bd (f_X9_isRow x1 x2 S) fun r1 S2 =>
  wq_bd (f_X9_asked r1 S2) fun r3 S4 =>
  if wq_w r3 = 0 then
    some (0, S4)
  else
    wq_ix ((40 * x1) + x2) 160 fun t5 =>
    wq_lt (wq_set S4 3 t5 0) fun S6 =>
    wq_bd (f_X9_rowsOf x1 S6) fun r7 S8 =>
    some (r7, S8)
def f_X9_setIndex (x1 : Int) (x2 : Int) (x3 : Int) (S : wq_St) : Option (Int × wq_St) :=
  wq_bd (f_X9_isColumn x1 x2 S) fun r1 S2 =>
  wq_bd (f_X9_asked r1 S2) fun r3 S4 =>
  if wq_w r3 = 0 then
    some (0, S4)
  else
    wq_ix ((3 * x1) + x2) 12 fun t5 =>
    wq_ix ((3 * x1) + x2) 12 fun t6 =>
    wq_gd (x3 = 0 ∨ x3 = 1) <|
    wq_lt (wq_set S4 5 t6 x3) fun S7 =>
    wq_gd (S4 5 t5 = 0 ∨ S4 5 t5 = 1) <|
    some (S4 5 t5, S7)
def f_X9_rows (x1 : Int) (S : wq_St) : Option (Int × wq_St) :=
  wq_bd (f_X9_isTable x1 S) fun r1 S2 =>
  wq_bd (f_X9_asked r1 S2) fun r3 S4 =>
  if wq_w r3 = 0 then
    some (0, S4)
  else
    wq_bd (f_X9_rowsOf x1 S4) fun r5 S6 =>
    some (r5, S6)
def f_X9_valueAt (x1 : Int) (x2 : Int) (x3 : Int) (S : wq_St) : Option (Int × wq_St) :=
  wq_ix ((3 * ((40 * x1) + x2)) + x3) 480 fun t1 =>
  some (S 4 t1, S)
def f_X9_value (x1 : Int) (x2 : Int) (x3 : Int) (S : wq_St) : Option (Int × wq_St) :=
  wq_bd (f_X9_isColumn x1 x3 S) fun r1 S2 =>
  if wq_w r1 = 0 then
    wq_bd (f_X9_asked 0 S2) fun r3 S4 =>
    if wq_w r3 = 0 then
      some (0, S4)
    else
      wq_bd (f_X9_valueAt x1 x2 x3 S4) fun r5 S6 =>
      some (r5, S6)
  else
    wq_bd (f_X9_isRow x1 x2 S2) fun r7 S8 =>
    if wq_w r7 = 0 then
      wq_bd (f_X9_asked 0 S8) fun r9 S10 =>
      if wq_w r9 = 0 then
        some (0, S10)
      else
        wq_bd (f_X9_valueAt x1 x2 x3 S10) fun r11 S12 =>
        some (r11, S12)
    else
      wq_bd (f_X9_asked 1 S8) fun r13 S14 =>
      if wq_w r13 = 0 then
        some (0, S14)
      else
        wq_bd (f_X9_valueAt x1 x2 x3 S14) fun r15 S16 =>
        some (r15, S16)
def f_X9_sample (x1 : Int) (x2 : Int) (S : wq_St) : Option (Int × wq_St) :=
  wq_bd (f_X9_rowsOf x1 S) fun r1 S2 =>
  wq_gd (¬ wq_w x2 = 0) <|
  some (wq_div ((r1 + x2) - 1) x2, S2)
def b_X9_isSampled_6 (c1 : Int) (c2 : Int) (c3 : Int) (kx : Int → wq_St → Option (Int × wq_St)) (rec : Int → Int → wq_St → Option (Int × wq_St)) (y4 : Int) (y5 : Int) (S : wq_St) : Option (Int × wq_St) :=
  if wq_w c2 ≤ wq_w y5 then
    kx y4 S
  else
    wq_ix ((40 * c1) + y5) 160 fun t1 =>
    if wq_w (S 3 t1) = 0 then
      rec (y4 + 0) (y5 + 1) S
    else
      rec (y4 + 1) (y5 + 1) S
def l_X9_isSampled_6 (c1 : Int) (c2 : Int) (c3 : Int) (kx : Int → wq_St → Option (Int × wq_St)) (n : Nat) (y4 : Int) (y5 : Int) (S : wq_St) : Option (Int × wq_St) :=
  wq_loop (fun (g : Int × Int × wq_St → Option (Int × wq_St)) (x : Int × Int × wq_St) => b_X9_isSampled_6 c1 c2 c3 kx (fun y4 y5 S => g (y4, y5, S)) x.1 x.2.1 x.2.2) n (y4, y5, S)
theorem l_X9_isSampled_6_s (c1 : Int) (c2 : Int) (c3 : Int) (kx : Int → wq_St → Option (Int × wq_St)) (n : Nat) (y4 : Int) (y5 : Int) (S : wq_St) : l_X9_isSampled_6 c1 c2 c3 kx (n + 1) y4 y5 S = b_X9_isSampled_6 c1 c2 c3 kx (l_X9_isSampled_6 c1 c2 c3 kx n) y4 y5 S := rfl
theorem l_X9_isSampled_6_0 (c1 : Int) (c2 : Int) (c3 : Int) (kx : Int → wq_St → Option (Int × wq_St)) (y4 : Int) (y5 : Int) (S : wq_St) : l_X9_isSampled_6 c1 c2 c3 kx 0 y4 y5 S = none := rfl
def f_X9_isSampled (x1 : Int) (x2 : Int) (x3 : Int) (S : wq_St) : Option (Int × wq_St) :=
  l_X9_isSampled_6 x1 x2 x3 (fun u2 S3 =>
    wq_ix ((40 * x1) + x2) 160 fun t4 =>
    if wq_w (S3 3 t4) = 0 then
      some (0, S3)
    else
      wq_gd (¬ wq_w x3 = 0) <|
      if wq_w (wq_rem u2 x3) = 0 then
        some (1, S3)
      else
        some (0, S3)) wq_fu 0 0 S
def b_X9_renews_173 (c1 : Int) (c2 : Int) (c3 : Int) (c4 : Int) (c5 : Int) (c6 : Int) (c7 : Int) (kx : Int → wq_St → Option (Int × wq_St)) (rec : Int → Int → wq_St → Option (Int × wq_St)) (y8 : Int) (y9 : Int) (S : wq_St) : Option (Int × wq_St) :=
  if wq_w c6 ≤ wq_w y9 then
    kx y8 S
  else
    if wq_w y8 = 0 then
      rec 0 (y9 + 1) S
    else
      wq_bd (f_X9_isSampled c1 y9 c2 S) fun r21 S22 =>
      if wq_w r21 = 0 then
        rec 1 (y9 + 1) S22
      else
        wq_bd (f_X9_valueAt c1 y9 c3 S22) fun r23 S24 =>
        if wq_w r23 = wq_w c7 then
          rec 0 (y9 + 1) S24
        else
          rec 1 (y9 + 1) S24
def l_X9_renews_173 (c1 : Int) (c2 : Int) (c3 : Int) (c4 : Int) (c5 : Int) (c6 : Int) (c7 : Int) (kx : Int → wq_St → Option (Int × wq_St)) (n : Nat) (y8 : Int) (y9 : Int) (S : wq_St) : Option (Int × wq_St) :=
  wq_loop (fun (g : Int × Int × wq_St → Option (Int × wq_St)) (x : Int × Int × wq_St) => b_X9_renews_173 c1 c2 c3 c4 c5 c6 c7 kx (fun y8 y9 S => g (y8, y9, S)) x.1 x.2.1 x.2.2) n (y8, y9, S)
theorem l_X9_renews_173_s (c1 : Int) (c2 : Int) (c3 : Int) (c4 : Int) (c5 : Int) (c6 : Int) (c7 : Int) (kx : Int → wq_St → Option (Int × wq_St)) (n : Nat) (y8 : Int) (y9 : Int) (S : wq_St) : l_X9_renews_173 c1 c2 c3 c4 c5 c6 c7 kx (n + 1) y8 y9 S = b_X9_renews_173 c1 c2 c3 c4 c5 c6 c7 kx (l_X9_renews_173 c1 c2 c3 c4 c5 c6 c7 kx n) y8 y9 S := rfl
theorem l_X9_renews_173_0 (c1 : Int) (c2 : Int) (c3 : Int) (c4 : Int) (c5 : Int) (c6 : Int) (c7 : Int) (kx : Int → wq_St → Option (Int × wq_St)) (y8 : Int) (y9 : Int) (S : wq_St) : l_X9_renews_173 c1 c2 c3 c4 c5 c6 c7 kx 0 y8 y9 S = none := rfl
def j_X9_renews_163 (kx : wq_St → Option (Int × wq_St)) (rec : Int → Int → wq_St → Option (Int × wq_St)) (j1 : Int) (j2 : Int) (j3 : Int) (j4 : Int) (j6 : Int) (j7 : Int) (z0 : Int) (z1 : Int) (S : wq_St) : Option (Int × wq_St) :=
  wq_ix z1 12 fun t19 =>
  wq_lt (wq_set S 9 t19 z0) fun S20 =>
  l_X9_renews_173 j1 j2 j3 j4 1 j6 j7 (fun u25 S26 =>
    wq_ix j4 12 fun t27 =>
    if wq_w u25 = 0 then
      wq_ix j4 12 fun t28 =>
      wq_lt (wq_set S26 7 t28 ((S26 7 t27) + 0)) fun S29 =>
      rec 1 (j6 + 1) S29
    else
      wq_ix j4 12 fun t30 =>
      wq_lt (wq_set S26 7 t30 ((S26 7 t27) + j2)) fun S31 =>
      rec 1 (j6 + 1) S31) wq_fu 1 0 S20
def j_X9_renews_151 (kx : wq_St → Option (Int × wq_St)) (rec : Int → Int → wq_St → Option (Int × wq_St)) (j1 : Int) (j2 : Int) (j3 : Int) (j4 : Int) (j6 : Int) (j7 : Int) (z0 : Int) (S : wq_St) : Option (Int × wq_St) :=
  j_X9_renews_163 kx rec j1 j2 j3 j4 j6 j7 j7 z0 S
def j_X9_renews_127 (kx : wq_St → Option (Int × wq_St)) (rec : Int → Int → wq_St → Option (Int × wq_St)) (j1 : Int) (j2 : Int) (j3 : Int) (j4 : Int) (j5 : Int) (j6 : Int) (j7 : Int) (z0 : Int) (z1 : Int) (S : wq_St) : Option (Int × wq_St) :=
  wq_ix z1 12 fun t17 =>
  wq_lt (wq_set S 8 t17 z0) fun S18 =>
  if wq_w j5 = 0 then
    j_X9_renews_151 kx rec j1 j2 j3 j4 j6 j7 j4 S18
  else
    wq_ix j4 12 fun t32 =>
    if wq_w j7 ≤ wq_w (S18 9 t32) then
      wq_ix j4 12 fun t33 =>
      j_X9_renews_163 kx rec j1 j2 j3 j4 j6 j7 (S18 9 t33) j4 S18
    else
      j_X9_renews_151 kx rec j1 j2 j3 j4 j6 j7 j4 S18
def j_X9_renews_115 (kx : wq_St → Option (Int × wq_St)) (rec : Int → Int → wq_St → Option (Int × wq_St)) (j1 : Int) (j2 : Int) (j3 : Int) (j4 : Int) (j5 : Int) (j6 : Int) (j7 : Int) (z0 : Int) (S : wq_St) : Option (Int × wq_St) :=
  j_X9_renews_127 kx rec j1 j2 j3 j4 j5 j6 j7 j7 z0 S
def b_X9_renews_60 (c1 : Int) (c2 : Int) (c3 : Int) (c4 : Int) (kx : wq_St → Option (Int × wq_St)) (rec : Int → Int → wq_St → Option (Int × wq_St)) (y5 : Int) (y6 : Int) (S : wq_St) : Option (Int × wq_St) :=
  wq_ix c1 4 fun t12 =>
  if wq_w (S 2 t12) ≤ wq_w y6 then
    kx S
  else
    wq_bd (f_X9_isSampled c1 y6 c2 S) fun r13 S14 =>
    if wq_w r13 = 0 then
      rec y5 (y6 + 1) S14
    else
      wq_bd (f_X9_valueAt c1 y6 c3 S14) fun r15 S16 =>
      if wq_w y5 = 0 then
        j_X9_renews_115 kx rec c1 c2 c3 c4 y5 y6 r15 c4 S16
      else
        wq_ix c4 12 fun t34 =>
        if wq_w (S16 8 t34) ≤ wq_w r15 then
          wq_ix c4 12 fun t35 =>
          j_X9_renews_127 kx rec c1 c2 c3 c4 y5 y6 r15 (S16 8 t35) c4 S16
        else
          j_X9_renews_115 kx rec c1 c2 c3 c4 y5 y6 r15 c4 S16
def l_X9_renews_60 (c1 : Int) (c2 : Int) (c3 : Int) (c4 : Int) (kx : wq_St → Option (Int × wq_St)) (n : Nat) (y5 : Int) (y6 : Int) (S : wq_St) : Option (Int × wq_St) :=
  wq_loop (fun (g : Int × Int × wq_St → Option (Int × wq_St)) (x : Int × Int × wq_St) => b_X9_renews_60 c1 c2 c3 c4 kx (fun y5 y6 S => g (y5, y6, S)) x.1 x.2.1 x.2.2) n (y5, y6, S)
theorem l_X9_renews_60_s (c1 : Int) (c2 : Int) (c3 : Int) (c4 : Int) (kx : wq_St → Option (Int × wq_St)) (n : Nat) (y5 : Int) (y6 : Int) (S : wq_St) : l_X9_renews_60 c1 c2 c3 c4 kx (n + 1) y5 y6 S = b_X9_renews_60 c1 c2 c3 c4 kx (l_X9_renews_60 c1 c2 c3 c4 kx n) y5 y6 S := rfl
theorem l_X9_renews_60_0 (c1 : Int) (c2 : Int) (c3 : Int) (c4 : Int) (kx : wq_St → Option (Int × wq_St)) (y5 : Int) (y6 : Int) (S : wq_St) : l_X9_renews_60 c1 c2 c3 c4 kx 0 y5 y6 S = none := rfl
def b_X9_renews_13 (c1 : Int) (c2 : Int) (kx : wq_St → Option (Int × wq_St)) (rec : Int → wq_St → Option (Int × wq_St)) (y3 : Int) (S : wq_St) : Option (Int × wq_St) :=
  wq_ix c1 4 fun t5 =>
  if wq_w (S 1 t5) ≤ wq_w y3 then
    kx S
  else
    wq_ix ((3 * c1) + y3) 12 fun t6 =>
    wq_lt (wq_set S 7 t6 0) fun S7 =>
    wq_ix ((3 * c1) + y3) 12 fun t8 =>
    wq_lt (wq_set S7 8 t8 0) fun S9 =>
    wq_ix ((3 * c1) + y3) 12 fun t10 =>
    wq_lt (wq_set S9 9 t10 0) fun S11 =>
    l_X9_renews_60 c1 c2 y3 ((3 * c1) + y3) (fun S36 =>
      wq_ix ((3 * c1) + y3) 12 fun t37 =>
      wq_ix c1 4 fun t38 =>
      if wq_w (S36 7 t37) ≤ wq_w (S36 6 t38) then
        wq_ix ((3 * c1) + y3) 12 fun t39 =>
        wq_ix ((3 * c1) + y3) 12 fun t40 =>
        wq_lt (wq_set S36 7 t40 (S36 7 t39)) fun S41 =>
        rec (y3 + 1) S41
      else
        wq_ix c1 4 fun t42 =>
        wq_ix ((3 * c1) + y3) 12 fun t43 =>
        wq_lt (wq_set S36 7 t43 (S36 6 t42)) fun S44 =>
        rec (y3 + 1) S44) wq_fu 0 0 S11
def l_X9_renews_13 (c1 : Int) (c2 : Int) (kx : wq_St → Option (Int × wq_St)) (n : Nat) (y3 : Int) (S : wq_St) : Option (Int × wq_St) :=
  wq_loop (fun (g : Int × wq_St → Option (Int × wq_St)) (x : Int × wq_St) => b_X9_renews_13 c1 c2 kx (fun y3 S => g (y3, S)) x.1 x.2) n (y3, S)
theorem l_X9_renews_13_s (c1 : Int) (c2 : Int) (kx : wq_St → Option (Int × wq_St)) (n : Nat) (y3 : Int) (S : wq_St) : l_X9_renews_13 c1 c2 kx (n + 1) y3 S = b_X9_renews_13 c1 c2 kx (l_X9_renews_13 c1 c2 kx n) y3 S := rfl
theorem l_X9_renews_13_0 (c1 : Int) (c2 : Int) (kx : wq_St → Option (Int × wq_St)) (y3 : Int) (S : wq_St) : l_X9_renews_13 c1 c2 kx 0 y3 S = none := rfl
def f_X9_renews (x1 : Int) (x2 : Int) (S : wq_St) : Option (Int × wq_St) :=
  wq_bd (f_X9_rowsOf x1 S) fun r1 S2 =>
  wq_ix x1 4 fun t3 =>
  wq_lt (wq_set S2 6 t3 r1) fun S4 =>
  l_X9_renews_13 x1 x2 (fun S45 =>
    some (0, S45)) wq_fu 0 S4
def f_X9_renew (x1 : Int) (x2 : Int) (S : wq_St) : Option (Int × wq_St) :=
  wq_bd (f_X9_isTable x1 S) fun r1 S2 =>
  wq_bd (f_X9_in x2 1 10 S2) fun r3 S4 =>
  wq_bd (f_X9_asked_ r1 r3 S4) fun r5 S6 =>
  if wq_w r5 = 0 then
    some (0, S6)
  else
    wq_bd (f_X9_renews x1 x2 S6) fun r7 S8 =>
    wq_bd (f_X9_sample x1 x2 S8) fun r9 S10 =>
    some (r9, S10)
def f_X9_setStep (x1 : Int) (S : wq_St) : Option (Int × wq_St) :=
  wq_bd (f_X9_in x1 1 10 S) fun r1 S2 =>
  wq_bd (f_X9_asked r1 S2) fun r3 S4 =>
  if wq_w r3 = 0 then
    some (0, S4)
  else
    wq_lt (wq_set S4 0 11 x1) fun S5 =>
    some (S4 0 11, S5)
def f_X9_toldRows (x1 : Int) (S : wq_St) : Option (Int × wq_St) :=
  wq_bd (f_X9_isTable x1 S) fun r1 S2 =>
  wq_bd (f_X9_asked r1 S2) fun r3 S4 =>
  if wq_w r3 = 0 then
    some (0, S4)
  else
    wq_ix x1 4 fun t5 =>
    some (S4 6 t5, S4)
def f_X9_unlike (x1 : Int) (x2 : Int) (S : wq_St) : Option (Int × wq_St) :=
  wq_bd (f_X9_isColumn x1 x2 S) fun r1 S2 =>
  wq_bd (f_X9_asked r1 S2) fun r3 S4 =>
  if wq_w r3 = 0 then
    some (0, S4)
  else
    wq_ix ((3 * x1) + x2) 12 fun t5 =>
    some (S4 7 t5, S4)
def f_X9_least (x1 : Int) (x2 : Int) (S : wq_St) : Option (Int × wq_St) :=
  wq_bd (f_X9_isColumn x1 x2 S) fun r1 S2 =>
  wq_bd (f_X9_asked r1 S2) fun r3 S4 =>
  if wq_w r3 = 0 then
    some (0, S4)
  else
    wq_ix ((3 * x1) + x2) 12 fun t5 =>
    some (S4 8 t5, S4)
def f_X9_greatest (x1 : Int) (x2 : Int) (S : wq_St) : Option (Int × wq_St) :=
  wq_bd (f_X9_isColumn x1 x2 S) fun r1 S2 =>
  wq_bd (f_X9_asked r1 S2) fun r3 S4 =>
  if wq_w r3 = 0 then
    some (0, S4)
  else
    wq_ix ((3 * x1) + x2) 12 fun t5 =>
    some (S4 9 t5, S4)
def f_X9_isMarked (x1 : Int) (S : wq_St) : Option (Int × wq_St) :=
  wq_bd (f_X9_isTable x1 S) fun r1 S2 =>
  wq_bd (f_X9_asked r1 S2) fun r3 S4 =>
  if wq_w r3 = 0 then
    some (0, S4)
  else
    wq_ix x1 4 fun t5 =>
    if wq_w (S4 10 t5) = 0 then
      some (0, S4)
    else
      some (1, S4)
def j_X9_addReport_23 (j1 : Int) (z0 : Int) (z1 : Int) (S : wq_St) : Option (Int × wq_St) :=
  wq_bd (f_X9_asked_ z1 z0 S) fun r3 S4 =>
  if wq_w r3 = 0 then
    some (0, S4)
  else
    wq_ix (S4 0 28) 8 fun t5 =>
    wq_lt (wq_set S4 11 t5 j1) fun S6 =>
    wq_ix (S6 0 28) 8 fun t7 =>
    wq_lt (wq_set S6 22 t7 (-1)) fun S8 =>
    wq_ix (S8 0 28) 8 fun t9 =>
    wq_lt (wq_set S8 24 t9 (-1)) fun S10 =>
    wq_ix (S10 0 28) 8 fun t11 =>
    wq_lt (wq_set S10 25 t11 (-1)) fun S12 =>
    wq_ix (S12 0 28) 8 fun t13 =>
    wq_lt (wq_set S12 26 t13 (-1)) fun S14 =>
    wq_lt (wq_set S14 0 28 ((S14 0 28) + 1)) fun S15 =>
    some ((S15 0 28) - 1, S15)
def f_X9_addReport (x1 : Int) (S : wq_St) : Option (Int × wq_St) :=
  wq_bd (f_X9_in x1 0 1000 S) fun r1 S2 =>
  if wq_w 8 ≤ wq_w (S2 0 28) then
    j_X9_addReport_23 x1 0 r1 S2
  else
    j_X9_addReport_23 x1 1 r1 S2
def j_X9_addSource_43 (j1 : Int) (j2 : Int) (z0 : Int) (z1 : Int) (S : wq_St) : Option (Int × wq_St) :=
  wq_bd (f_X9_asked_ z1 z0 S) fun r3 S4 =>
  if wq_w r3 = 0 then
    some (0, S4)
  else
    wq_ix j1 8 fun t5 =>
    wq_ix ((3 * j1) + (S4 13 t5)) 24 fun t6 =>
    wq_lt (wq_set S4 14 t6 j2) fun S7 =>
    wq_ix j1 8 fun t8 =>
    wq_ix j1 8 fun t9 =>
    wq_lt (wq_set S7 13 t9 ((S7 13 t8) + 1)) fun S10 =>
    wq_ix j1 8 fun t11 =>
    some ((S10 13 t11) - 1, S10)
def j_X9_addSource_42 (j1 : Int) (j2 : Int) (z0 : Int) (S : wq_St) : Option (Int × wq_St) :=
  j_X9_addSource_43 j1 j2 0 z0 S
def j_X9_addSource_21 (j1 : Int) (j2 : Int) (z0 : Int) (S : wq_St) : Option (Int × wq_St) :=
  if wq_w z0 = 0 then
    j_X9_addSource_42 j1 j2 z0 S
  else
    wq_ix j1 8 fun t12 =>
    if wq_w 3 ≤ wq_w (S 13 t12) then
      j_X9_addSource_42 j1 j2 z0 S
    else
      j_X9_addSource_43 j1 j2 1 z0 S
def j_X9_addSource_20 (j1 : Int) (j2 : Int) (S : wq_St) : Option (Int × wq_St) :=
  j_X9_addSource_21 j1 j2 0 S
def f_X9_addSource (x1 : Int) (x2 : Int) (S : wq_St) : Option (Int × wq_St) :=
  wq_bd (f_X9_isReport x1 S) fun r1 S2 =>
  if wq_w r1 = 0 then
    j_X9_addSource_20 x1 x2 S2
  else
    wq_bd (f_X9_isTable x2 S2) fun r13 S14 =>
    if wq_w r13 = 0 then
      j_X9_addSource_20 x1 x2 S14
    else
      j_X9_addSource_21 x1 x2 1 S14
def f_X9_adds (x1 : Int) (x2 : Int) (x3 : Int) (x4 : Int) (S : wq_St) : Option (Int × wq_St) :=
  wq_ix x1 8 fun t1 =>
  wq_ix ((6 * x1) + (S 15 t1)) 48 fun t2 =>
  wq_lt (wq_set S 16 t2 x2) fun S3 =>
  wq_ix ((6 * x1) + (S 15 t1)) 48 fun t4 =>
  wq_lt (wq_set S3 17 t4 x3) fun S5 =>
  wq_ix ((6 * x1) + (S 15 t1)) 48 fun t6 =>
  wq_lt (wq_set S5 18 t6 x4) fun S7 =>
  wq_ix x1 8 fun t8 =>
  wq_ix x1 8 fun t9 =>
  wq_lt (wq_set S7 15 t9 ((S7 15 t8) + 1)) fun S10 =>
  wq_ix x1 8 fun t11 =>
  some ((S10 15 t11) - 1, S10)
def j_X9_addCondition_60 (j1 : Int) (j2 : Int) (j3 : Int) (j4 : Int) (j5 : Int) (z0 : Int) (z1 : Int) (z2 : Int) (S : wq_St) : Option (Int × wq_St) :=
  wq_bd (f_X9_asked__ z2 z1 z0 S) fun r5 S6 =>
  if wq_w r5 = 0 then
    some (0, S6)
  else
    wq_ix j1 8 fun t7 =>
    wq_ix ((6 * j1) + (S6 15 t7)) 48 fun t8 =>
    wq_lt (wq_set S6 19 t8 j5) fun S9 =>
    wq_bd (f_X9_adds j1 j4 j2 j3 S9) fun r10 S11 =>
    some (r10, S11)
def j_X9_addCondition_59 (j1 : Int) (j2 : Int) (j3 : Int) (j4 : Int) (j5 : Int) (z0 : Int) (z1 : Int) (S : wq_St) : Option (Int × wq_St) :=
  j_X9_addCondition_60 j1 j2 j3 j4 j5 0 z0 z1 S
def j_X9_addCondition_39 (j1 : Int) (j2 : Int) (j3 : Int) (j4 : Int) (j5 : Int) (j6 : Int) (z0 : Int) (z1 : Int) (S : wq_St) : Option (Int × wq_St) :=
  if wq_w j6 = 0 then
    j_X9_addCondition_59 j1 j2 j3 j4 j5 z0 z1 S
  else
    wq_ix j1 8 fun t12 =>
    if wq_w 6 ≤ wq_w (S 15 t12) then
      j_X9_addCondition_59 j1 j2 j3 j4 j5 z0 z1 S
    else
      j_X9_addCondition_60 j1 j2 j3 j4 j5 1 z0 z1 S
def j_X9_addCondition_38 (j1 : Int) (j2 : Int) (j3 : Int) (j4 : Int) (j5 : Int) (j6 : Int) (z0 : Int) (S : wq_St) : Option (Int × wq_St) :=
  j_X9_addCondition_39 j1 j2 j3 j4 j5 j6 0 z0 S
def f_X9_addCondition (x1 : Int) (x2 : Int) (x3 : Int) (x4 : Int) (x5 : Int) (S : wq_St) : Option (Int × wq_St) :=
  wq_bd (f_X9_isColumnOf x1 x2 x3 S) fun r1 S2 =>
  wq_bd (f_X9_in x4 0 2 S2) fun r3 S4 =>
  if wq_w r3 = 0 then
    j_X9_addCondition_38 x1 x2 x3 x4 x5 r1 r1 S4
  else
    wq_bd (f_X9_in x5 0 999 S4) fun r13 S14 =>
    if wq_w r13 = 0 then
      j_X9_addCondition_38 x1 x2 x3 x4 x5 r1 r1 S14
    else
      j_X9_addCondition_39 x1 x2 x3 x4 x5 r1 1 r1 S14
def j_X9_addJoin_64 (j1 : Int) (j2 : Int) (j3 : Int) (j4 : Int) (j5 : Int) (z0 : Int) (z1 : Int) (z2 : Int) (S : wq_St) : Option (Int × wq_St) :=
  wq_bd (f_X9_asked__ z2 z1 z0 S) fun r3 S4 =>
  if wq_w r3 = 0 then
    some (0, S4)
  else
    wq_ix j1 8 fun t5 =>
    wq_ix ((6 * j1) + (S4 15 t5)) 48 fun t6 =>
    wq_lt (wq_set S4 20 t6 j4) fun S7 =>
    wq_ix j1 8 fun t8 =>
    wq_ix ((6 * j1) + (S7 15 t8)) 48 fun t9 =>
    wq_lt (wq_set S7 21 t9 j5) fun S10 =>
    wq_bd (f_X9_adds j1 3 j2 j3 S10) fun r11 S12 =>
    some (r11, S12)
def j_X9_addJoin_63 (j1 : Int) (j2 : Int) (j3 : Int) (j4 : Int) (j5 : Int) (z0 : Int) (z1 : Int) (S : wq_St) : Option (Int × wq_St) :=
  j_X9_addJoin_64 j1 j2 j3 j4 j5 0 z0 z1 S
def j_X9_addJoin_43 (j1 : Int) (j2 : Int) (j3 : Int) (j4 : Int) (j5 : Int) (j6 : Int) (z0 : Int) (z1 : Int) (S : wq_St) : Option (Int × wq_St) :=
  if wq_w j6 = 0 then
    j_X9_addJoin_63 j1 j2 j3 j4 j5 z0 z1 S
  else
    wq_ix j1 8 fun t13 =>
    if wq_w 6 ≤ wq_w (S 15 t13) then
      j_X9_addJoin_63 j1 j2 j3 j4 j5 z0 z1 S
    else
      j_X9_addJoin_64 j1 j2 j3 j4 j5 1 z0 z1 S
def j_X9_addJoin_27 (j1 : Int) (j2 : Int) (j3 : Int) (j4 : Int) (j5 : Int) (z0 : Int) (S : wq_St) : Option (Int × wq_St) :=
  if wq_w j2 = wq_w j4 then
    j_X9_addJoin_43 j1 j2 j3 j4 j5 z0 0 z0 S
  else
    j_X9_addJoin_43 j1 j2 j3 j4 j5 z0 1 z0 S
def j_X9_addJoin_26 (j1 : Int) (j2 : Int) (j3 : Int) (j4 : Int) (j5 : Int) (S : wq_St) : Option (Int × wq_St) :=
  j_X9_addJoin_27 j1 j2 j3 j4 j5 0 S
def f_X9_addJoin (x1 : Int) (x2 : Int) (x3 : Int) (x4 : Int) (x5 : Int) (S : wq_St) : Option (Int × wq_St) :=
  wq_bd (f_X9_isColumnOf x1 x2 x3 S) fun r1 S2 =>
  if wq_w r1 = 0 then
    j_X9_addJoin_26 x1 x2 x3 x4 x5 S2
  else
    wq_bd (f_X9_isColumnOf x1 x4 x5 S2) fun r14 S15 =>
    if wq_w r14 = 0 then
      j_X9_addJoin_26 x1 x2 x3 x4 x5 S15
    else
      j_X9_addJoin_27 x1 x2 x3 x4 x5 1 S15
def j_X9_dropCondition_26 (j1 : Int) (z0 : Int) (z1 : Int) (S : wq_St) : Option (Int × wq_St) :=
  wq_bd (f_X9_asked_ z1 z0 S) fun r3 S4 =>
  if wq_w r3 = 0 then
    some (0, S4)
  else
    wq_ix j1 8 fun t5 =>
    wq_ix j1 8 fun t6 =>
    wq_lt (wq_set S4 15 t6 ((S4 15 t5) - 1)) fun S7 =>
    wq_ix j1 8 fun t8 =>
    some (S7 15 t8, S7)
def j_X9_dropCondition_25 (j1 : Int) (z0 : Int) (S : wq_St) : Option (Int × wq_St) :=
  j_X9_dropCondition_26 j1 0 z0 S
def f_X9_dropCondition (x1 : Int) (S : wq_St) : Option (Int × wq_St) :=
  wq_bd (f_X9_isReport x1 S) fun r1 S2 =>
  if wq_w r1 = 0 then
    j_X9_dropCondition_25 x1 r1 S2
  else
    wq_ix x1 8 fun t9 =>
    if wq_w (S2 15 t9) ≤ 0 then
      j_X9_dropCondition_25 x1 r1 S2
    else
      j_X9_dropCondition_26 x1 1 r1 S2
def j_X9_setSum_24 (j1 : Int) (j2 : Int) (j3 : Int) (S : wq_St) : Option (Int × wq_St) :=
  wq_bd (f_X9_asked 1 S) fun r8 S9 =>
  if wq_w r8 = 0 then
    some (0, S9)
  else
    wq_ix j1 8 fun t10 =>
    wq_lt (wq_set S9 22 t10 j2) fun S11 =>
    wq_ix j1 8 fun t12 =>
    some (0, wq_set S11 23 t12 j3)
def f_X9_setSum (x1 : Int) (x2 : Int) (x3 : Int) (S : wq_St) : Option (Int × wq_St) :=
  wq_bd (f_X9_isReport x1 S) fun r1 S2 =>
  if wq_w r1 = 0 then
    wq_bd (f_X9_asked 0 S2) fun r3 S4 =>
    if wq_w r3 = 0 then
      some (0, S4)
    else
      wq_ix x1 8 fun t5 =>
      wq_lt (wq_set S4 22 t5 x2) fun S6 =>
      wq_ix x1 8 fun t7 =>
      some (0, wq_set S6 23 t7 x3)
  else
    if wq_w x2 = wq_w (-1) then
      j_X9_setSum_24 x1 x2 x3 S2
    else
      wq_bd (f_X9_isColumnOf x1 x2 x3 S2) fun r13 S14 =>
      if wq_w r13 = 0 then
        wq_bd (f_X9_asked 0 S14) fun r15 S16 =>
        if wq_w r15 = 0 then
          some (0, S16)
        else
          wq_ix x1 8 fun t17 =>
          wq_lt (wq_set S16 22 t17 x2) fun S18 =>
          wq_ix x1 8 fun t19 =>
          some (0, wq_set S18 23 t19 x3)
      else
        j_X9_setSum_24 x1 x2 x3 S14
def f_X9_setDue (x1 : Int) (x2 : Int) (S : wq_St) : Option (Int × wq_St) :=
  wq_bd (f_X9_isReport x1 S) fun r1 S2 =>
  wq_bd (f_X9_asked r1 S2) fun r3 S4 =>
  if wq_w r3 = 0 then
    some (0, S4)
  else
    wq_ix x1 8 fun t5 =>
    wq_ix x1 8 fun t6 =>
    wq_gd (x2 = 0 ∨ x2 = 1) <|
    wq_lt (wq_set S4 12 t6 x2) fun S7 =>
    wq_gd (S4 12 t5 = 0 ∨ S4 12 t5 = 1) <|
    some (S4 12 t5, S7)
def f_X9_isDue (x1 : Int) (S : wq_St) : Option (Int × wq_St) :=
  wq_bd (f_X9_isReport x1 S) fun r1 S2 =>
  wq_bd (f_X9_asked r1 S2) fun r3 S4 =>
  if wq_w r3 = 0 then
    some (0, S4)
  else
    wq_ix x1 8 fun t5 =>
    if wq_w (S4 12 t5) = 0 then
      some (0, S4)
    else
      some (1, S4)
def b_X9_stepOf_2 (c1 : Int) (kx : Int → wq_St → Option (Int × wq_St)) (rec : Int → wq_St → Option (Int × wq_St)) (y2 : Int) (S : wq_St) : Option (Int × wq_St) :=
  wq_ix y2 3 fun t1 =>
  if wq_w (S 27 t1) = wq_w c1 then
    kx y2 S
  else
    rec (y2 + 1) S
def l_X9_stepOf_2 (c1 : Int) (kx : Int → wq_St → Option (Int × wq_St)) (n : Nat) (y2 : Int) (S : wq_St) : Option (Int × wq_St) :=
  wq_loop (fun (g : Int × wq_St → Option (Int × wq_St)) (x : Int × wq_St) => b_X9_stepOf_2 c1 kx (fun y2 S => g (y2, S)) x.1 x.2) n (y2, S)
theorem l_X9_stepOf_2_s (c1 : Int) (kx : Int → wq_St → Option (Int × wq_St)) (n : Nat) (y2 : Int) (S : wq_St) : l_X9_stepOf_2 c1 kx (n + 1) y2 S = b_X9_stepOf_2 c1 kx (l_X9_stepOf_2 c1 kx n) y2 S := rfl
theorem l_X9_stepOf_2_0 (c1 : Int) (kx : Int → wq_St → Option (Int × wq_St)) (y2 : Int) (S : wq_St) : l_X9_stepOf_2 c1 kx 0 y2 S = none := rfl
def f_X9_stepOf (x1 : Int) (S : wq_St) : Option (Int × wq_St) :=
  l_X9_stepOf_2 x1 (fun u2 S3 =>
    some (u2, S3)) wq_fu 0 S
def f_X9_stepOfCondition (x1 : Int) (S : wq_St) : Option (Int × wq_St) :=
  wq_ix x1 48 fun t1 =>
  wq_bd (f_X9_stepOf (S 17 t1) S) fun r2 S3 =>
  wq_ix x1 48 fun t4 =>
  if wq_w (S3 16 t4) = wq_w 3 then
    wq_ix x1 48 fun t5 =>
    wq_bd (f_X9_stepOf (S3 20 t5) S3) fun r6 S7 =>
    if wq_w r6 ≤ wq_w r2 then
      some (r2, S7)
    else
      some (r6, S7)
  else
    if wq_w r2 ≤ wq_w r2 then
      some (r2, S3)
    else
      some (r2, S3)
def f_X9_columnAt (x1 : Int) (x2 : Int) (S : wq_St) : Option (Int × wq_St) :=
  wq_ix x1 48 fun t1 =>
  wq_ix x2 3 fun t2 =>
  if wq_w (S 17 t1) = wq_w (S 27 t2) then
    wq_ix x1 48 fun t4 =>
    some (S 18 t4, S)
  else
    wq_ix x1 48 fun t3 =>
    some (S 21 t3, S)
def j_X9_useOf_43 (kx : wq_St → Option (Int × wq_St)) (rec : Int → wq_St → Option (Int × wq_St)) (j1 : Int) (j2 : Int) (j3 : Int) (j4 : Int) (S : wq_St) : Option (Int × wq_St) :=
  wq_bd (f_X9_stepOfCondition j4 S) fun r3 S4 =>
  if wq_w r3 = wq_w j2 then
    wq_bd (f_X9_columnAt j4 j2 S4) fun r5 S6 =>
    if wq_w r5 = wq_w j3 then
      some (j4, S6)
    else
      rec (j4 + 1) S6
  else
    rec (j4 + 1) S4
def b_X9_useOf_6 (c1 : Int) (c2 : Int) (c3 : Int) (kx : wq_St → Option (Int × wq_St)) (rec : Int → wq_St → Option (Int × wq_St)) (y4 : Int) (S : wq_St) : Option (Int × wq_St) :=
  wq_ix c1 8 fun t1 =>
  if wq_w ((6 * c1) + (S 15 t1)) ≤ wq_w y4 then
    kx S
  else
    wq_ix y4 48 fun t2 =>
    if wq_w (S 16 t2) = 0 then
      j_X9_useOf_43 kx rec c1 c2 c3 y4 S
    else
      wq_ix y4 48 fun t7 =>
      if wq_w (S 16 t7) = wq_w 3 then
        j_X9_useOf_43 kx rec c1 c2 c3 y4 S
      else
        rec (y4 + 1) S
def l_X9_useOf_6 (c1 : Int) (c2 : Int) (c3 : Int) (kx : wq_St → Option (Int × wq_St)) (n : Nat) (y4 : Int) (S : wq_St) : Option (Int × wq_St) :=
  wq_loop (fun (g : Int × wq_St → Option (Int × wq_St)) (x : Int × wq_St) => b_X9_useOf_6 c1 c2 c3 kx (fun y4 S => g (y4, S)) x.1 x.2) n (y4, S)
theorem l_X9_useOf_6_s (c1 : Int) (c2 : Int) (c3 : Int) (kx : wq_St → Option (Int × wq_St)) (n : Nat) (y4 : Int) (S : wq_St) : l_X9_useOf_6 c1 c2 c3 kx (n + 1) y4 S = b_X9_useOf_6 c1 c2 c3 kx (l_X9_useOf_6 c1 c2 c3 kx n) y4 S := rfl
theorem l_X9_useOf_6_0 (c1 : Int) (c2 : Int) (c3 : Int) (kx : wq_St → Option (Int × wq_St)) (y4 : Int) (S : wq_St) : l_X9_useOf_6 c1 c2 c3 kx 0 y4 S = none := rfl
def f_X9_useOf (x1 : Int) (x2 : Int) (x3 : Int) (S : wq_St) : Option (Int × wq_St) :=
  l_X9_useOf_6 x1 x2 x3 (fun S8 =>
    some ((-1), S8)) wq_fu (6 * x1) S
def f_X9_cellAt (x1 : Int) (x2 : Int) (x3 : Int) (S : wq_St) : Option (Int × wq_St) :=
  wq_ix ((3 * x1) + x2) 24 fun t1 =>
  some ((3 * (S 14 t1)) + x3, S)
def j_X9_changed_60 (j1 : Int) (j2 : Int) (j3 : Int) (z0 : Int) (S : wq_St) : Option (Int × wq_St) :=
  wq_ix j2 48 fun t8 =>
  if wq_w (S 16 t8) = wq_w 3 then
    wq_ix j2 48 fun t9 =>
    wq_ix j2 48 fun t10 =>
    wq_bd (f_X9_cellAt j1 (S 20 t9) (S 21 t10) S) fun r11 S12 =>
    wq_ix r11 12 fun t13 =>
    if wq_w (S12 7 t13) ≤ wq_w z0 then
      wq_gd (¬ wq_v (wq_w z0) = 0) <|
      some (wq_divL j3 (wq_w z0), S12)
    else
      wq_ix j2 48 fun t14 =>
      wq_ix j2 48 fun t15 =>
      wq_bd (f_X9_cellAt j1 (S12 20 t14) (S12 21 t15) S12) fun r16 S17 =>
      wq_ix r16 12 fun t18 =>
      wq_gd (¬ wq_v (wq_w (S17 7 t18)) = 0) <|
      some (wq_divL j3 (wq_w (S17 7 t18)), S17)
  else
    wq_gd (¬ wq_v (wq_w z0) = 0) <|
    some (wq_divL j3 (wq_w z0), S)
def j_X9_changed_38 (j1 : Int) (j2 : Int) (j3 : Int) (j5 : Int) (S : wq_St) : Option (Int × wq_St) :=
  wq_ix j5 12 fun t6 =>
  if wq_w 1 ≤ wq_w (S 7 t6) then
    wq_ix j5 12 fun t7 =>
    j_X9_changed_60 j1 j2 j3 (S 7 t7) S
  else
    j_X9_changed_60 j1 j2 j3 1 S
def j_X9_changed_189 (j3 : Int) (j6 : Int) (z0 : Int) (S : wq_St) : Option (Int × wq_St) :=
  if 0 ≤ wq_w z0 then
    if wq_w z0 ≤ wq_w j6 then
      wq_gd (¬ wq_v (wq_w j6) = 0) <|
      some (wq_divL (j3 * (wq_w z0)) (wq_w j6), S)
    else
      wq_gd (¬ wq_v (wq_w j6) = 0) <|
      some (wq_divL (j3 * (wq_w j6)) (wq_w j6), S)
  else
    wq_gd (¬ wq_v (wq_w j6) = 0) <|
    some (wq_divL (j3 * (wq_w 0)) (wq_w j6), S)
def f_X9_changed (x1 : Int) (x2 : Int) (x3 : Int) (S : wq_St) : Option (Int × wq_St) :=
  wq_ix x2 48 fun t1 =>
  wq_ix x2 48 fun t2 =>
  wq_bd (f_X9_cellAt x1 (S 17 t1) (S 18 t2) S) fun r3 S4 =>
  wq_ix x2 48 fun t5 =>
  if wq_w (S4 16 t5) = 0 then
    j_X9_changed_38 x1 x2 x3 r3 S4
  else
    wq_ix x2 48 fun t19 =>
    if wq_w (S4 16 t19) = wq_w 3 then
      j_X9_changed_38 x1 x2 x3 r3 S4
    else
      wq_ix r3 12 fun t20 =>
      wq_ix r3 12 fun t21 =>
      wq_lt (((S4 9 t20) - (S4 8 t21)) + 1) fun a22 =>
      wq_ix x2 48 fun t23 =>
      if wq_w (S4 16 t23) = wq_w 1 then
        wq_ix x2 48 fun t26 =>
        wq_ix r3 12 fun t27 =>
        j_X9_changed_189 x3 a22 ((S4 19 t26) - (S4 8 t27)) S4
      else
        wq_ix r3 12 fun t24 =>
        wq_ix x2 48 fun t25 =>
        j_X9_changed_189 x3 a22 ((S4 9 t24) - (S4 19 t25)) S4
def b_X9_cost_197 (c1 : Int) (c4 : Int) (c6 : Int) (kx : Int → wq_St → Option (Int × wq_St)) (rec : Int → Int → wq_St → Option (Int × wq_St)) (y2 : Int) (y8 : Int) (S : wq_St) : Option (Int × wq_St) :=
  wq_ix c1 8 fun t17 =>
  if wq_w ((6 * c1) + (S 15 t17)) ≤ wq_w y8 then
    kx y2 S
  else
    wq_bd (f_X9_stepOfCondition y8 S) fun r18 S19 =>
    if wq_w r18 = wq_w c6 then
      wq_bd (f_X9_changed c1 y8 y2 S19) fun r20 S21 =>
      rec r20 (y8 + 1) S21
    else
      rec y2 (y8 + 1) S19
def l_X9_cost_197 (c1 : Int) (c4 : Int) (c6 : Int) (kx : Int → wq_St → Option (Int × wq_St)) (n : Nat) (y2 : Int) (y8 : Int) (S : wq_St) : Option (Int × wq_St) :=
  wq_loop (fun (g : Int × Int × wq_St → Option (Int × wq_St)) (x : Int × Int × wq_St) => b_X9_cost_197 c1 c4 c6 kx (fun y2 y8 S => g (y2, y8, S)) x.1 x.2.1 x.2.2) n (y2, y8, S)
theorem l_X9_cost_197_s (c1 : Int) (c4 : Int) (c6 : Int) (kx : Int → wq_St → Option (Int × wq_St)) (n : Nat) (y2 : Int) (y8 : Int) (S : wq_St) : l_X9_cost_197 c1 c4 c6 kx (n + 1) y2 y8 S = b_X9_cost_197 c1 c4 c6 kx (l_X9_cost_197 c1 c4 c6 kx n) y2 y8 S := rfl
theorem l_X9_cost_197_0 (c1 : Int) (c4 : Int) (c6 : Int) (kx : Int → wq_St → Option (Int × wq_St)) (y2 : Int) (y8 : Int) (S : wq_St) : l_X9_cost_197 c1 c4 c6 kx 0 y2 y8 S = none := rfl
def j_X9_cost_180 (kx : Int → wq_St → Option (Int × wq_St)) (rec : Int → Int → Int → wq_St → Option (Int × wq_St)) (j1 : Int) (j2 : Int) (j4 : Int) (j6 : Int) (j7 : Int) (S : wq_St) : Option (Int × wq_St) :=
  wq_ix j7 4 fun t16 =>
  l_X9_cost_197 j1 j4 j6 (fun u22 S23 =>
    rec u22 j4 (j6 + 1) S23) wq_fu (j2 * (wq_w (S 6 t16))) (6 * j1) S
def j_X9_cost_167 (kx : Int → wq_St → Option (Int × wq_St)) (rec : Int → Int → Int → wq_St → Option (Int × wq_St)) (j1 : Int) (j2 : Int) (j6 : Int) (j7 : Int) (z0 : Int) (z1 : Int) (z2 : Int) (z3 : Int) (S : wq_St) : Option (Int × wq_St) :=
  wq_gd (¬ wq_v (wq_w z0) = 0) <|
  wq_lt (z3 + (z2 + (wq_divL z1 (wq_w z0)))) fun a15 =>
  j_X9_cost_180 kx rec j1 j2 a15 j6 j7 S
def b_X9_cost_10 (c1 : Int) (kx : Int → wq_St → Option (Int × wq_St)) (rec : Int → Int → Int → wq_St → Option (Int × wq_St)) (y2 : Int) (y4 : Int) (y6 : Int) (S : wq_St) : Option (Int × wq_St) :=
  wq_ix c1 8 fun t1 =>
  if wq_w (S 13 t1) ≤ wq_w y6 then
    kx y4 S
  else
    wq_ix y6 3 fun t2 =>
    wq_ix ((3 * c1) + (S 27 t2)) 24 fun t3 =>
    wq_ix y6 3 fun t4 =>
    if wq_w (S 28 t4) = wq_w (-1) then
      wq_ix (S 14 t3) 4 fun t24 =>
      wq_lt (y4 + (y2 * (wq_w (S 6 t24)))) fun a25 =>
      j_X9_cost_180 kx rec c1 y2 a25 y6 (S 14 t3) S
    else
      wq_ix y6 3 fun t5 =>
      wq_ix (S 14 t3) 4 fun t6 =>
      if wq_w (S 1 t6) ≤ wq_w (S 28 t5) then
        some ((-1), S)
      else
        wq_ix y6 3 fun t7 =>
        wq_ix ((3 * (S 14 t3)) + (S 28 t7)) 12 fun t8 =>
        if wq_w (S 5 t8) = 0 then
          some ((-1), S)
        else
          wq_ix y6 3 fun t9 =>
          wq_bd (f_X9_useOf c1 y6 (S 28 t9) S) fun r10 S11 =>
          if wq_w r10 = wq_w (-1) then
            some ((-1), S11)
          else
            wq_ix y6 3 fun t12 =>
            wq_ix ((3 * (S 14 t3)) + (S11 28 t12)) 12 fun t13 =>
            wq_ix (S 14 t3) 4 fun t14 =>
            if wq_w 1 ≤ wq_w (S11 7 t13) then
              j_X9_cost_167 kx rec c1 y2 y6 (S 14 t3) (S11 7 t13) (y2 * (wq_w (S11 6 t14))) y2 y4 S11
            else
              j_X9_cost_167 kx rec c1 y2 y6 (S 14 t3) 1 (y2 * (wq_w (S11 6 t14))) y2 y4 S11
def l_X9_cost_10 (c1 : Int) (kx : Int → wq_St → Option (Int × wq_St)) (n : Nat) (y2 : Int) (y4 : Int) (y6 : Int) (S : wq_St) : Option (Int × wq_St) :=
  wq_loop (fun (g : Int × Int × Int × wq_St → Option (Int × wq_St)) (x : Int × Int × Int × wq_St) => b_X9_cost_10 c1 kx (fun y2 y4 y6 S => g (y2, y4, y6, S)) x.1 x.2.1 x.2.2.1 x.2.2.2) n (y2, y4, y6, S)
theorem l_X9_cost_10_s (c1 : Int) (kx : Int → wq_St → Option (Int × wq_St)) (n : Nat) (y2 : Int) (y4 : Int) (y6 : Int) (S : wq_St) : l_X9_cost_10 c1 kx (n + 1) y2 y4 y6 S = b_X9_cost_10 c1 kx (l_X9_cost_10 c1 kx n) y2 y4 y6 S := rfl
theorem l_X9_cost_10_0 (c1 : Int) (kx : Int → wq_St → Option (Int × wq_St)) (y2 : Int) (y4 : Int) (y6 : Int) (S : wq_St) : l_X9_cost_10 c1 kx 0 y2 y4 y6 S = none := rfl
def f_X9_cost (x1 : Int) (S : wq_St) : Option (Int × wq_St) :=
  l_X9_cost_10 x1 (fun u26 S27 =>
    some (u26, S27)) wq_fu 1000 0 0 S
def b_X9_triesWays_119 (c1 : Int) (c2 : Int) (c3 : Int) (c4 : Int) (c5 : Int) (kx : wq_St → Option (Int × wq_St)) (rec : Int → wq_St → Option (Int × wq_St)) (y8 : Int) (S : wq_St) : Option (Int × wq_St) :=
  if wq_w 3 ≤ wq_w y8 then
    kx S
  else
    wq_ix y8 3 fun t11 =>
    wq_ix y8 3 fun t12 =>
    wq_lt (wq_set S 29 t12 (S 27 t11)) fun S13 =>
    wq_ix y8 3 fun t14 =>
    wq_ix y8 3 fun t15 =>
    wq_lt (wq_set S13 30 t15 (S13 28 t14)) fun S16 =>
    rec (y8 + 1) S16
def l_X9_triesWays_119 (c1 : Int) (c2 : Int) (c3 : Int) (c4 : Int) (c5 : Int) (kx : wq_St → Option (Int × wq_St)) (n : Nat) (y8 : Int) (S : wq_St) : Option (Int × wq_St) :=
  wq_loop (fun (g : Int × wq_St → Option (Int × wq_St)) (x : Int × wq_St) => b_X9_triesWays_119 c1 c2 c3 c4 c5 kx (fun y8 S => g (y8, S)) x.1 x.2) n (y8, S)
theorem l_X9_triesWays_119_s (c1 : Int) (c2 : Int) (c3 : Int) (c4 : Int) (c5 : Int) (kx : wq_St → Option (Int × wq_St)) (n : Nat) (y8 : Int) (S : wq_St) : l_X9_triesWays_119 c1 c2 c3 c4 c5 kx (n + 1) y8 S = b_X9_triesWays_119 c1 c2 c3 c4 c5 kx (l_X9_triesWays_119 c1 c2 c3 c4 c5 kx n) y8 S := rfl
theorem l_X9_triesWays_119_0 (c1 : Int) (c2 : Int) (c3 : Int) (c4 : Int) (c5 : Int) (kx : wq_St → Option (Int × wq_St)) (y8 : Int) (S : wq_St) : l_X9_triesWays_119 c1 c2 c3 c4 c5 kx 0 y8 S = none := rfl
def j_X9_triesWays_110 (kx : wq_St → Option (Int × wq_St)) (rec : Int → wq_St → Option (Int × wq_St)) (j1 : Int) (j2 : Int) (j3 : Int) (j4 : Int) (j5 : Int) (j6 : Int) (S : wq_St) : Option (Int × wq_St) :=
  wq_lt (wq_set S 0 37 j6) fun S10 =>
  l_X9_triesWays_119 j1 j2 j3 j4 j5 (fun S17 =>
    rec (j5 + 1) S17) wq_fu 0 S10
def j_X9_triesWays_47 (kx : wq_St → Option (Int × wq_St)) (rec : Int → wq_St → Option (Int × wq_St)) (j1 : Int) (j2 : Int) (j3 : Int) (j4 : Int) (j5 : Int) (z0 : Int) (z1 : Int) (S : wq_St) : Option (Int × wq_St) :=
  if wq_w z0 ≤ wq_w z1 then
    kx S
  else
    wq_ix 0 3 fun t2 =>
    wq_lt (wq_set S 28 t2 j3) fun S3 =>
    wq_ix 1 3 fun t4 =>
    wq_lt (wq_set S3 28 t4 j4) fun S5 =>
    wq_ix 2 3 fun t6 =>
    wq_lt (wq_set S5 28 t6 j5) fun S7 =>
    wq_bd (f_X9_cost j1 S7) fun r8 S9 =>
    if wq_w (wq_cmp r8 (-1)) = 0 then
      rec (j5 + 1) S9
    else
      if wq_w (wq_cmp (S9 0 37) (-1)) = 0 then
        j_X9_triesWays_110 kx rec j1 j2 j3 j4 j5 r8 S9
      else
        if 0 ≤ wq_w (wq_cmp r8 (S9 0 37)) then
          rec (j5 + 1) S9
        else
          j_X9_triesWays_110 kx rec j1 j2 j3 j4 j5 r8 S9
def b_X9_triesWays_35 (c1 : Int) (c2 : Int) (c3 : Int) (c4 : Int) (kx : wq_St → Option (Int × wq_St)) (rec : Int → wq_St → Option (Int × wq_St)) (y5 : Int) (S : wq_St) : Option (Int × wq_St) :=
  if wq_w c2 ≤ wq_w 2 then
    j_X9_triesWays_47 kx rec c1 c2 c3 c4 y5 0 y5 S
  else
    j_X9_triesWays_47 kx rec c1 c2 c3 c4 y5 3 y5 S
def l_X9_triesWays_35 (c1 : Int) (c2 : Int) (c3 : Int) (c4 : Int) (kx : wq_St → Option (Int × wq_St)) (n : Nat) (y5 : Int) (S : wq_St) : Option (Int × wq_St) :=
  wq_loop (fun (g : Int × wq_St → Option (Int × wq_St)) (x : Int × wq_St) => b_X9_triesWays_35 c1 c2 c3 c4 kx (fun y5 S => g (y5, S)) x.1 x.2) n (y5, S)
theorem l_X9_triesWays_35_s (c1 : Int) (c2 : Int) (c3 : Int) (c4 : Int) (kx : wq_St → Option (Int × wq_St)) (n : Nat) (y5 : Int) (S : wq_St) : l_X9_triesWays_35 c1 c2 c3 c4 kx (n + 1) y5 S = b_X9_triesWays_35 c1 c2 c3 c4 kx (l_X9_triesWays_35 c1 c2 c3 c4 kx n) y5 S := rfl
theorem l_X9_triesWays_35_0 (c1 : Int) (c2 : Int) (c3 : Int) (c4 : Int) (kx : wq_St → Option (Int × wq_St)) (y5 : Int) (S : wq_St) : l_X9_triesWays_35 c1 c2 c3 c4 kx 0 y5 S = none := rfl
def j_X9_triesWays_29 (kx : wq_St → Option (Int × wq_St)) (rec : Int → wq_St → Option (Int × wq_St)) (j1 : Int) (j2 : Int) (j3 : Int) (j4 : Int) (z0 : Int) (z1 : Int) (S : wq_St) : Option (Int × wq_St) :=
  if wq_w z0 ≤ wq_w z1 then
    kx S
  else
    l_X9_triesWays_35 j1 j2 j3 j4 (fun S18 =>
      rec (j4 + 1) S18) wq_fu (-1) S
def b_X9_triesWays_17 (c1 : Int) (c2 : Int) (c3 : Int) (kx : wq_St → Option (Int × wq_St)) (rec : Int → wq_St → Option (Int × wq_St)) (y4 : Int) (S : wq_St) : Option (Int × wq_St) :=
  if wq_w c2 ≤ wq_w 1 then
    j_X9_triesWays_29 kx rec c1 c2 c3 y4 0 y4 S
  else
    j_X9_triesWays_29 kx rec c1 c2 c3 y4 3 y4 S
def l_X9_triesWays_17 (c1 : Int) (c2 : Int) (c3 : Int) (kx : wq_St → Option (Int × wq_St)) (n : Nat) (y4 : Int) (S : wq_St) : Option (Int × wq_St) :=
  wq_loop (fun (g : Int × wq_St → Option (Int × wq_St)) (x : Int × wq_St) => b_X9_triesWays_17 c1 c2 c3 kx (fun y4 S => g (y4, S)) x.1 x.2) n (y4, S)
theorem l_X9_triesWays_17_s (c1 : Int) (c2 : Int) (c3 : Int) (kx : wq_St → Option (Int × wq_St)) (n : Nat) (y4 : Int) (S : wq_St) : l_X9_triesWays_17 c1 c2 c3 kx (n + 1) y4 S = b_X9_triesWays_17 c1 c2 c3 kx (l_X9_triesWays_17 c1 c2 c3 kx n) y4 S := rfl
theorem l_X9_triesWays_17_0 (c1 : Int) (c2 : Int) (c3 : Int) (kx : wq_St → Option (Int × wq_St)) (y4 : Int) (S : wq_St) : l_X9_triesWays_17 c1 c2 c3 kx 0 y4 S = none := rfl
def b_X9_triesWays_9 (c1 : Int) (c2 : Int) (kx : wq_St → Option (Int × wq_St)) (rec : Int → wq_St → Option (Int × wq_St)) (y3 : Int) (S : wq_St) : Option (Int × wq_St) :=
  if wq_w 3 ≤ wq_w y3 then
    kx S
  else
    l_X9_triesWays_17 c1 c2 y3 (fun S19 =>
      rec (y3 + 1) S19) wq_fu (-1) S
def l_X9_triesWays_9 (c1 : Int) (c2 : Int) (kx : wq_St → Option (Int × wq_St)) (n : Nat) (y3 : Int) (S : wq_St) : Option (Int × wq_St) :=
  wq_loop (fun (g : Int × wq_St → Option (Int × wq_St)) (x : Int × wq_St) => b_X9_triesWays_9 c1 c2 kx (fun y3 S => g (y3, S)) x.1 x.2) n (y3, S)
theorem l_X9_triesWays_9_s (c1 : Int) (c2 : Int) (kx : wq_St → Option (Int × wq_St)) (n : Nat) (y3 : Int) (S : wq_St) : l_X9_triesWays_9 c1 c2 kx (n + 1) y3 S = b_X9_triesWays_9 c1 c2 kx (l_X9_triesWays_9 c1 c2 kx n) y3 S := rfl
theorem l_X9_triesWays_9_0 (c1 : Int) (c2 : Int) (kx : wq_St → Option (Int × wq_St)) (y3 : Int) (S : wq_St) : l_X9_triesWays_9 c1 c2 kx 0 y3 S = none := rfl
def f_X9_triesWays (x1 : Int) (S : wq_St) : Option (Int × wq_St) :=
  wq_ix x1 8 fun t1 =>
  l_X9_triesWays_9 x1 (S 13 t1) (fun S20 =>
    some (0, S20)) wq_fu (-1) S
def j_X9_plans_114 (kx : wq_St → Option (Int × wq_St)) (rec : Int → wq_St → Option (Int × wq_St)) (j1 : Int) (j2 : Int) (j3 : Int) (z0 : Int) (S : wq_St) : Option (Int × wq_St) :=
  if wq_w j2 = wq_w 3 then
    if wq_w z0 = 0 then
      rec (j3 + 1) S
    else
      if wq_w 1 = 0 then
        rec (j3 + 1) S
      else
        wq_bd (f_X9_triesWays j1 S) fun r11 S12 =>
        rec (j3 + 1) S12
  else
    wq_ix 2 3 fun t13 =>
    if wq_w (S 27 t13) = wq_w 2 then
      if wq_w j2 = wq_w 2 then
        if wq_w z0 = 0 then
          rec (j3 + 1) S
        else
          if wq_w 1 = 0 then
            rec (j3 + 1) S
          else
            wq_bd (f_X9_triesWays j1 S) fun r16 S17 =>
            rec (j3 + 1) S17
      else
        wq_ix 1 3 fun t18 =>
        if wq_w (S 27 t18) = wq_w 1 then
          if wq_w z0 = 0 then
            rec (j3 + 1) S
          else
            if wq_w 1 = 0 then
              rec (j3 + 1) S
            else
              wq_bd (f_X9_triesWays j1 S) fun r21 S22 =>
              rec (j3 + 1) S22
        else
          if wq_w z0 = 0 then
            rec (j3 + 1) S
          else
            if wq_w 0 = 0 then
              rec (j3 + 1) S
            else
              wq_bd (f_X9_triesWays j1 S) fun r19 S20 =>
              rec (j3 + 1) S20
    else
      if wq_w z0 = 0 then
        rec (j3 + 1) S
      else
        if wq_w 0 = 0 then
          rec (j3 + 1) S
        else
          wq_bd (f_X9_triesWays j1 S) fun r14 S15 =>
          rec (j3 + 1) S15
def j_X9_plans_113 (kx : wq_St → Option (Int × wq_St)) (rec : Int → wq_St → Option (Int × wq_St)) (j1 : Int) (j2 : Int) (j3 : Int) (S : wq_St) : Option (Int × wq_St) :=
  j_X9_plans_114 kx rec j1 j2 j3 0 S
def b_X9_plans_24 (c1 : Int) (c2 : Int) (kx : wq_St → Option (Int × wq_St)) (rec : Int → wq_St → Option (Int × wq_St)) (y3 : Int) (S : wq_St) : Option (Int × wq_St) :=
  if wq_w 27 ≤ wq_w y3 then
    kx S
  else
    if wq_w c2 ≤ 0 then
      kx S
    else
      wq_gd (¬ wq_w 9 = 0) <|
      wq_ix 0 3 fun t3 =>
      wq_lt (wq_set S 27 t3 (wq_div y3 9)) fun S4 =>
      wq_gd (¬ wq_w 3 = 0) <|
      wq_gd (¬ wq_w 3 = 0) <|
      wq_ix 1 3 fun t5 =>
      wq_lt (wq_set S4 27 t5 (wq_rem (wq_div y3 3) 3)) fun S6 =>
      wq_gd (¬ wq_w 3 = 0) <|
      wq_ix 2 3 fun t7 =>
      wq_lt (wq_set S6 27 t7 (wq_rem y3 3)) fun S8 =>
      wq_ix 0 3 fun t9 =>
      wq_ix 1 3 fun t10 =>
      if wq_w (S8 27 t9) = wq_w (S8 27 t10) then
        j_X9_plans_113 kx rec c1 c2 y3 S8
      else
        wq_ix 0 3 fun t23 =>
        wq_ix 2 3 fun t24 =>
        if wq_w (S8 27 t23) = wq_w (S8 27 t24) then
          j_X9_plans_113 kx rec c1 c2 y3 S8
        else
          wq_ix 1 3 fun t25 =>
          wq_ix 2 3 fun t26 =>
          if wq_w (S8 27 t25) = wq_w (S8 27 t26) then
            j_X9_plans_113 kx rec c1 c2 y3 S8
          else
            j_X9_plans_114 kx rec c1 c2 y3 1 S8
def l_X9_plans_24 (c1 : Int) (c2 : Int) (kx : wq_St → Option (Int × wq_St)) (n : Nat) (y3 : Int) (S : wq_St) : Option (Int × wq_St) :=
  wq_loop (fun (g : Int × wq_St → Option (Int × wq_St)) (x : Int × wq_St) => b_X9_plans_24 c1 c2 kx (fun y3 S => g (y3, S)) x.1 x.2) n (y3, S)
theorem l_X9_plans_24_s (c1 : Int) (c2 : Int) (kx : wq_St → Option (Int × wq_St)) (n : Nat) (y3 : Int) (S : wq_St) : l_X9_plans_24 c1 c2 kx (n + 1) y3 S = b_X9_plans_24 c1 c2 kx (l_X9_plans_24 c1 c2 kx n) y3 S := rfl
theorem l_X9_plans_24_0 (c1 : Int) (c2 : Int) (kx : wq_St → Option (Int × wq_St)) (y3 : Int) (S : wq_St) : l_X9_plans_24 c1 c2 kx 0 y3 S = none := rfl
def b_X9_plans_176 (kx : wq_St → Option (Int × wq_St)) (rec : Int → wq_St → Option (Int × wq_St)) (y3 : Int) (S : wq_St) : Option (Int × wq_St) :=
  if wq_w 3 ≤ wq_w y3 then
    kx S
  else
    wq_ix y3 3 fun t28 =>
    wq_ix y3 3 fun t29 =>
    wq_lt (wq_set S 27 t29 (S 29 t28)) fun S30 =>
    wq_ix y3 3 fun t31 =>
    wq_ix y3 3 fun t32 =>
    wq_lt (wq_set S30 28 t32 (S30 30 t31)) fun S33 =>
    rec (y3 + 1) S33
def l_X9_plans_176 (kx : wq_St → Option (Int × wq_St)) (n : Nat) (y3 : Int) (S : wq_St) : Option (Int × wq_St) :=
  wq_loop (fun (g : Int × wq_St → Option (Int × wq_St)) (x : Int × wq_St) => b_X9_plans_176 kx (fun y3 S => g (y3, S)) x.1 x.2) n (y3, S)
theorem l_X9_plans_176_s (kx : wq_St → Option (Int × wq_St)) (n : Nat) (y3 : Int) (S : wq_St) : l_X9_plans_176 kx (n + 1) y3 S = b_X9_plans_176 kx (l_X9_plans_176 kx n) y3 S := rfl
theorem l_X9_plans_176_0 (kx : wq_St → Option (Int × wq_St)) (y3 : Int) (S : wq_St) : l_X9_plans_176 kx 0 y3 S = none := rfl
def j_X9_plans_174 (S : wq_St) : Option (Int × wq_St) :=
  l_X9_plans_176 (fun S34 =>
    some (0, S34)) wq_fu 0 S
def j_X9_plans_19 (j1 : Int) (j2 : Int) (z0 : Int) (S : wq_St) : Option (Int × wq_St) :=
  wq_lt (wq_set S 0 37 z0) fun S2 =>
  l_X9_plans_24 j1 j2 (fun S27 =>
    j_X9_plans_174 S27) wq_fu 0 S2
def f_X9_plans (x1 : Int) (S : wq_St) : Option (Int × wq_St) :=
  wq_ix x1 8 fun t1 =>
  if wq_w (S 13 t1) = 0 then
    j_X9_plans_19 x1 (S 13 t1) 0 S
  else
    j_X9_plans_19 x1 (S 13 t1) (-1) S
def f_X9_foretells (x1 : Int) (S : wq_St) : Option (Int × wq_St) :=
  wq_bd (f_X9_plans x1 S) fun r1 S2 =>
  wq_gd (¬ wq_v 1000 = 0) <|
  some (wq_divL ((S2 0 37) + 999) 1000, S2)
def f_X9_pickedAt (x1 : Int) (x2 : Int) (x3 : Int) (S : wq_St) : Option (Int × wq_St) :=
  wq_ix ((3 * x1) + x2) 24 fun t1 =>
  wq_bd (f_X9_stepOf x2 S) fun r2 S3 =>
  wq_ix r2 3 fun t4 =>
  wq_bd (f_X9_valueAt (S 14 t1) (S3 31 t4) x3 S3) fun r5 S6 =>
  some (r5, S6)
def f_X9_holds (x1 : Int) (x2 : Int) (S : wq_St) : Option (Int × wq_St) :=
  wq_ix x2 48 fun t1 =>
  wq_ix x2 48 fun t2 =>
  wq_bd (f_X9_pickedAt x1 (S 17 t1) (S 18 t2) S) fun r3 S4 =>
  wq_ix x2 48 fun t5 =>
  if wq_w (S4 16 t5) = 0 then
    wq_ix x2 48 fun t14 =>
    if wq_w r3 = wq_w (S4 19 t14) then
      some (1, S4)
    else
      some (0, S4)
  else
    wq_ix x2 48 fun t6 =>
    if wq_w (S4 16 t6) = wq_w 1 then
      wq_ix x2 48 fun t13 =>
      if wq_w (S4 19 t13) ≤ wq_w r3 then
        some (0, S4)
      else
        some (1, S4)
    else
      wq_ix x2 48 fun t7 =>
      if wq_w (S4 16 t7) = wq_w 2 then
        wq_ix x2 48 fun t12 =>
        if wq_w r3 ≤ wq_w (S4 19 t12) then
          some (0, S4)
        else
          some (1, S4)
      else
        wq_ix x2 48 fun t8 =>
        wq_ix x2 48 fun t9 =>
        wq_bd (f_X9_pickedAt x1 (S4 20 t8) (S4 21 t9) S4) fun r10 S11 =>
        if wq_w r3 = wq_w r10 then
          some (1, S11)
        else
          some (0, S11)
def b_X9_holdsAt_8 (c1 : Int) (c2 : Int) (kx : Int → wq_St → Option (Int × wq_St)) (rec : Int → Int → wq_St → Option (Int × wq_St)) (y3 : Int) (y4 : Int) (S : wq_St) : Option (Int × wq_St) :=
  wq_ix c1 8 fun t1 =>
  if wq_w ((6 * c1) + (S 15 t1)) ≤ wq_w y4 then
    kx y3 S
  else
    if wq_w y3 = 0 then
      rec 0 (y4 + 1) S
    else
      wq_bd (f_X9_stepOfCondition y4 S) fun r2 S3 =>
      if wq_w r2 = wq_w c2 then
        wq_bd (f_X9_holds c1 y4 S3) fun r4 S5 =>
        if wq_w r4 = 0 then
          rec 0 (y4 + 1) S5
        else
          rec 1 (y4 + 1) S5
      else
        rec 1 (y4 + 1) S3
def l_X9_holdsAt_8 (c1 : Int) (c2 : Int) (kx : Int → wq_St → Option (Int × wq_St)) (n : Nat) (y3 : Int) (y4 : Int) (S : wq_St) : Option (Int × wq_St) :=
  wq_loop (fun (g : Int × Int × wq_St → Option (Int × wq_St)) (x : Int × Int × wq_St) => b_X9_holdsAt_8 c1 c2 kx (fun y3 y4 S => g (y3, y4, S)) x.1 x.2.1 x.2.2) n (y3, y4, S)
theorem l_X9_holdsAt_8_s (c1 : Int) (c2 : Int) (kx : Int → wq_St → Option (Int × wq_St)) (n : Nat) (y3 : Int) (y4 : Int) (S : wq_St) : l_X9_holdsAt_8 c1 c2 kx (n + 1) y3 y4 S = b_X9_holdsAt_8 c1 c2 kx (l_X9_holdsAt_8 c1 c2 kx n) y3 y4 S := rfl
theorem l_X9_holdsAt_8_0 (c1 : Int) (c2 : Int) (kx : Int → wq_St → Option (Int × wq_St)) (y3 : Int) (y4 : Int) (S : wq_St) : l_X9_holdsAt_8 c1 c2 kx 0 y3 y4 S = none := rfl
def f_X9_holdsAt (x1 : Int) (x2 : Int) (S : wq_St) : Option (Int × wq_St) :=
  l_X9_holdsAt_8 x1 x2 (fun u6 S7 =>
    wq_gd (u6 = 0 ∨ u6 = 1) <|
    some (u6, S7)) wq_fu 1 (6 * x1) S
def b_X9_minutesAt_131 (c2 : Int) (c3 : Int) (c5 : Int) (kx : Int → wq_St → Option (Int × wq_St)) (rec : Int → Int → wq_St → Option (Int × wq_St)) (y6 : Int) (y7 : Int) (S : wq_St) : Option (Int × wq_St) :=
  wq_ix c3 4 fun t14 =>
  if wq_w (S 2 t14) ≤ wq_w y7 then
    kx y6 S
  else
    wq_ix ((40 * c3) + y7) 160 fun t15 =>
    if wq_w (S 3 t15) = 0 then
      rec (y6 + 0) (y7 + 1) S
    else
      wq_ix c2 3 fun t16 =>
      wq_bd (f_X9_valueAt c3 y7 (S 28 t16) S) fun r17 S18 =>
      if wq_w r17 = wq_w c5 then
        rec (y6 + 1) (y7 + 1) S18
      else
        rec (y6 + 0) (y7 + 1) S18
def l_X9_minutesAt_131 (c2 : Int) (c3 : Int) (c5 : Int) (kx : Int → wq_St → Option (Int × wq_St)) (n : Nat) (y6 : Int) (y7 : Int) (S : wq_St) : Option (Int × wq_St) :=
  wq_loop (fun (g : Int × Int × wq_St → Option (Int × wq_St)) (x : Int × Int × wq_St) => b_X9_minutesAt_131 c2 c3 c5 kx (fun y6 y7 S => g (y6, y7, S)) x.1 x.2.1 x.2.2) n (y6, y7, S)
theorem l_X9_minutesAt_131_s (c2 : Int) (c3 : Int) (c5 : Int) (kx : Int → wq_St → Option (Int × wq_St)) (n : Nat) (y6 : Int) (y7 : Int) (S : wq_St) : l_X9_minutesAt_131 c2 c3 c5 kx (n + 1) y6 y7 S = b_X9_minutesAt_131 c2 c3 c5 kx (l_X9_minutesAt_131 c2 c3 c5 kx n) y6 y7 S := rfl
theorem l_X9_minutesAt_131_0 (c2 : Int) (c3 : Int) (c5 : Int) (kx : Int → wq_St → Option (Int × wq_St)) (y6 : Int) (y7 : Int) (S : wq_St) : l_X9_minutesAt_131 c2 c3 c5 kx 0 y6 y7 S = none := rfl
def j_X9_minutesAt_123 (j2 : Int) (j3 : Int) (z0 : Int) (S : wq_St) : Option (Int × wq_St) :=
  l_X9_minutesAt_131 j2 j3 z0 (fun u19 S20 =>
    some (u19, S20)) wq_fu 1 0 S
def f_X9_minutesAt (x1 : Int) (x2 : Int) (S : wq_St) : Option (Int × wq_St) :=
  wq_ix x2 3 fun t1 =>
  wq_ix ((3 * x1) + (S 27 t1)) 24 fun t2 =>
  wq_ix x2 3 fun t3 =>
  if wq_w (S 28 t3) = wq_w (-1) then
    wq_bd (f_X9_rowsOf (S 14 t2) S) fun r26 S27 =>
    some (r26, S27)
  else
    wq_ix x2 3 fun t4 =>
    wq_bd (f_X9_useOf x1 x2 (S 28 t4) S) fun r5 S6 =>
    wq_ix r5 48 fun t7 =>
    if wq_w (S6 16 t7) = 0 then
      wq_ix r5 48 fun t25 =>
      j_X9_minutesAt_123 x2 (S 14 t2) (S6 19 t25) S6
    else
      wq_ix r5 48 fun t8 =>
      wq_ix x2 3 fun t9 =>
      if wq_w (S6 17 t8) = wq_w (S6 27 t9) then
        wq_ix r5 48 fun t21 =>
        wq_ix r5 48 fun t22 =>
        wq_bd (f_X9_pickedAt x1 (S6 20 t21) (S6 21 t22) S6) fun r23 S24 =>
        j_X9_minutesAt_123 x2 (S 14 t2) r23 S24
      else
        wq_ix r5 48 fun t10 =>
        wq_ix r5 48 fun t11 =>
        wq_bd (f_X9_pickedAt x1 (S6 17 t10) (S6 18 t11) S6) fun r12 S13 =>
        j_X9_minutesAt_123 x2 (S 14 t2) r12 S13
def b_X9_runs_45 (c1 : Int) (c2 : Int) (kx : wq_St → Option (Int × wq_St)) (rec : Int → wq_St → Option (Int × wq_St)) (y3 : Int) (S : wq_St) : Option (Int × wq_St) :=
  if wq_w c2 ≤ 0 then
    kx S
  else
    if wq_w y3 < 0 then
      kx S
    else
      wq_ix y3 3 fun t5 =>
      wq_ix ((3 * c1) + (S 27 t5)) 24 fun t6 =>
      wq_ix y3 3 fun t7 =>
      wq_ix y3 3 fun t8 =>
      wq_lt (wq_set S 31 t8 ((S 31 t7) + 1)) fun S9 =>
      wq_ix y3 3 fun t10 =>
      wq_ix (S 14 t6) 4 fun t11 =>
      if wq_w (S9 31 t10) < wq_w (S9 2 t11) then
        wq_ix y3 3 fun t12 =>
        wq_ix ((40 * (S 14 t6)) + (S9 31 t12)) 160 fun t13 =>
        if wq_w (S9 3 t13) = 0 then
          rec y3 S9
        else
          wq_bd (f_X9_holdsAt c1 y3 S9) fun r14 S15 =>
          if wq_w r14 = 0 then
            rec y3 S15
          else
            if wq_w y3 = wq_w (c2 - 1) then
              wq_lt (wq_set S15 0 40 ((S15 0 40) + 1)) fun S20 =>
              wq_ix c1 8 fun t21 =>
              if wq_w (S20 22 t21) = wq_w (-1) then
                rec y3 (wq_set S20 0 41 ((S20 0 41) + 0))
              else
                wq_ix c1 8 fun t22 =>
                wq_ix c1 8 fun t23 =>
                wq_bd (f_X9_pickedAt c1 (S20 22 t22) (S20 23 t23) S20) fun r24 S25 =>
                rec y3 (wq_set S25 0 41 ((S20 0 41) + r24))
            else
              wq_bd (f_X9_minutesAt c1 (y3 + 1) S15) fun r16 S17 =>
              wq_lt (wq_set S17 0 39 ((S15 0 39) + r16)) fun S18 =>
              wq_ix (y3 + 1) 3 fun t19 =>
              rec (y3 + 1) (wq_set S18 31 t19 (-1))
      else
        rec (y3 + (-1)) S9
def l_X9_runs_45 (c1 : Int) (c2 : Int) (kx : wq_St → Option (Int × wq_St)) (n : Nat) (y3 : Int) (S : wq_St) : Option (Int × wq_St) :=
  wq_loop (fun (g : Int × wq_St → Option (Int × wq_St)) (x : Int × wq_St) => b_X9_runs_45 c1 c2 kx (fun y3 S => g (y3, S)) x.1 x.2) n (y3, S)
theorem l_X9_runs_45_s (c1 : Int) (c2 : Int) (kx : wq_St → Option (Int × wq_St)) (n : Nat) (y3 : Int) (S : wq_St) : l_X9_runs_45 c1 c2 kx (n + 1) y3 S = b_X9_runs_45 c1 c2 kx (l_X9_runs_45 c1 c2 kx n) y3 S := rfl
theorem l_X9_runs_45_0 (c1 : Int) (c2 : Int) (kx : wq_St → Option (Int × wq_St)) (y3 : Int) (S : wq_St) : l_X9_runs_45 c1 c2 kx 0 y3 S = none := rfl
def f_X9_runs (x1 : Int) (S : wq_St) : Option (Int × wq_St) :=
  wq_lt (wq_set S 0 39 0) fun S1 =>
  wq_lt (wq_set S1 0 40 0) fun S2 =>
  wq_lt (wq_set S2 0 41 0) fun S3 =>
  wq_ix x1 8 fun t4 =>
  if wq_w (S3 13 t4) ≤ 0 then
    l_X9_runs_45 x1 (S3 13 t4) (fun S26 =>
      some (0, S26)) wq_fu 0 S3
  else
    wq_bd (f_X9_minutesAt x1 0 S3) fun r27 S28 =>
    wq_lt (wq_set S28 0 39 r27) fun S29 =>
    wq_ix 0 3 fun t30 =>
    wq_lt (wq_set S29 31 t30 (-1)) fun S31 =>
    l_X9_runs_45 x1 (S3 13 t4) (fun S32 =>
      some (0, S32)) wq_fu 0 S31
def f_X9_planSource (x1 : Int) (x2 : Int) (S : wq_St) : Option (Int × wq_St) :=
  wq_bd (f_X9_isSource x1 x2 S) fun r1 S2 =>
  wq_bd (f_X9_asked r1 S2) fun r3 S4 =>
  if wq_w r3 = 0 then
    some (0, S4)
  else
    wq_bd (f_X9_plans x1 S4) fun r5 S6 =>
    wq_ix x2 3 fun t7 =>
    some (S6 27 t7, S6)
def f_X9_planWay (x1 : Int) (x2 : Int) (S : wq_St) : Option (Int × wq_St) :=
  wq_bd (f_X9_isSource x1 x2 S) fun r1 S2 =>
  wq_bd (f_X9_asked r1 S2) fun r3 S4 =>
  if wq_w r3 = 0 then
    some (0, S4)
  else
    wq_bd (f_X9_plans x1 S4) fun r5 S6 =>
    wq_ix x2 3 fun t7 =>
    some (S6 28 t7, S6)
def f_X9_foretold (x1 : Int) (S : wq_St) : Option (Int × wq_St) :=
  wq_bd (f_X9_isReport x1 S) fun r1 S2 =>
  wq_bd (f_X9_asked r1 S2) fun r3 S4 =>
  if wq_w r3 = 0 then
    some (0, S4)
  else
    wq_bd (f_X9_foretells x1 S4) fun r5 S6 =>
    some (r5, S6)
def f_X9_isRun (x1 : Int) (S : wq_St) : Option (Int × wq_St) :=
  wq_bd (f_X9_isReport x1 S) fun r1 S2 =>
  wq_bd (f_X9_asked r1 S2) fun r3 S4 =>
  if wq_w r3 = 0 then
    wq_gd (r3 = 0 ∨ r3 = 1) <|
    some (r3, S4)
  else
    wq_bd (f_X9_plans x1 S4) fun r5 S6 =>
    wq_bd (f_X9_runs x1 S6) fun r7 S8 =>
    wq_gd (r3 = 0 ∨ r3 = 1) <|
    some (r3, S8)
def f_X9_minutes (x1 : Int) (S : wq_St) : Option (Int × wq_St) :=
  wq_bd (f_X9_isRun x1 S) fun r1 S2 =>
  if wq_w r1 = 0 then
    some (0, S2)
  else
    some (S2 0 39, S2)
def f_X9_answer (x1 : Int) (S : wq_St) : Option (Int × wq_St) :=
  wq_bd (f_X9_isRun x1 S) fun r1 S2 =>
  if wq_w r1 = 0 then
    some (0, S2)
  else
    some (S2 0 40, S2)
def f_X9_sum (x1 : Int) (S : wq_St) : Option (Int × wq_St) :=
  wq_bd (f_X9_isRun x1 S) fun r1 S2 =>
  if wq_w r1 = 0 then
    some (0, S2)
  else
    some (S2 0 41, S2)
def f_X9_plainAnswer (x1 : Int) (S : wq_St) : Option (Int × wq_St) :=
  wq_bd (f_X9_answer x1 S) fun r1 S2 =>
  some (r1, S2)
def f_X9_plainSum (x1 : Int) (S : wq_St) : Option (Int × wq_St) :=
  wq_bd (f_X9_sum x1 S) fun r1 S2 =>
  some (r1, S2)
def b_X9_marks_2 (c1 : Int) (kx : wq_St → Option (Int × wq_St)) (rec : Int → wq_St → Option (Int × wq_St)) (y2 : Int) (S : wq_St) : Option (Int × wq_St) :=
  wq_ix c1 8 fun t1 =>
  if wq_w (S 13 t1) ≤ wq_w y2 then
    kx S
  else
    wq_ix ((3 * c1) + y2) 24 fun t2 =>
    wq_ix (S 14 t2) 4 fun t3 =>
    wq_lt (wq_set S 10 t3 1) fun S4 =>
    rec (y2 + 1) S4
def l_X9_marks_2 (c1 : Int) (kx : wq_St → Option (Int × wq_St)) (n : Nat) (y2 : Int) (S : wq_St) : Option (Int × wq_St) :=
  wq_loop (fun (g : Int × wq_St → Option (Int × wq_St)) (x : Int × wq_St) => b_X9_marks_2 c1 kx (fun y2 S => g (y2, S)) x.1 x.2) n (y2, S)
theorem l_X9_marks_2_s (c1 : Int) (kx : wq_St → Option (Int × wq_St)) (n : Nat) (y2 : Int) (S : wq_St) : l_X9_marks_2 c1 kx (n + 1) y2 S = b_X9_marks_2 c1 kx (l_X9_marks_2 c1 kx n) y2 S := rfl
theorem l_X9_marks_2_0 (c1 : Int) (kx : wq_St → Option (Int × wq_St)) (y2 : Int) (S : wq_St) : l_X9_marks_2 c1 kx 0 y2 S = none := rfl
def f_X9_marks (x1 : Int) (S : wq_St) : Option (Int × wq_St) :=
  l_X9_marks_2 x1 (fun S5 =>
    some (0, S5)) wq_fu 0 S
def j_X9_dueBehind_57 (kx : Int → wq_St → Option (Int × wq_St)) (rec : Int → Int → wq_St → Option (Int × wq_St)) (j1 : Int) (j2 : Int) (j3 : Int) (z0 : Int) (S : wq_St) : Option (Int × wq_St) :=
  wq_ix j3 8 fun t1 =>
  if wq_w (S 12 t1) = 0 then
    rec j2 (j3 + 1) S
  else
    if wq_w z0 = 0 then
      rec j2 (j3 + 1) S
    else
      if wq_w j2 = wq_w (-1) then
        rec j3 (j3 + 1) S
      else
        wq_ix j3 8 fun t2 =>
        wq_ix j2 8 fun t3 =>
        if wq_w (S 11 t2) ≤ wq_w (S 11 t3) then
          rec j2 (j3 + 1) S
        else
          rec j3 (j3 + 1) S
def j_X9_dueBehind_52 (kx : Int → wq_St → Option (Int × wq_St)) (rec : Int → Int → wq_St → Option (Int × wq_St)) (j1 : Int) (j2 : Int) (j3 : Int) (S : wq_St) : Option (Int × wq_St) :=
  j_X9_dueBehind_57 kx rec j1 j2 j3 1 S
def j_X9_dueBehind_56 (kx : Int → wq_St → Option (Int × wq_St)) (rec : Int → Int → wq_St → Option (Int × wq_St)) (j1 : Int) (j2 : Int) (j3 : Int) (S : wq_St) : Option (Int × wq_St) :=
  j_X9_dueBehind_57 kx rec j1 j2 j3 0 S
def b_X9_dueBehind_4 (c1 : Int) (kx : Int → wq_St → Option (Int × wq_St)) (rec : Int → Int → wq_St → Option (Int × wq_St)) (y2 : Int) (y3 : Int) (S : wq_St) : Option (Int × wq_St) :=
  if wq_w (S 0 28) ≤ wq_w y3 then
    kx y2 S
  else
    if wq_w c1 = wq_w (-1) then
      j_X9_dueBehind_52 kx rec c1 y2 y3 S
    else
      wq_ix y3 8 fun t4 =>
      wq_ix c1 8 fun t5 =>
      if wq_w (S 11 t4) < wq_w (S 11 t5) then
        j_X9_dueBehind_52 kx rec c1 y2 y3 S
      else
        wq_ix y3 8 fun t6 =>
        wq_ix c1 8 fun t7 =>
        if wq_w (S 11 t6) = wq_w (S 11 t7) then
          if wq_w y3 ≤ wq_w c1 then
            j_X9_dueBehind_56 kx rec c1 y2 y3 S
          else
            j_X9_dueBehind_52 kx rec c1 y2 y3 S
        else
          j_X9_dueBehind_56 kx rec c1 y2 y3 S
def l_X9_dueBehind_4 (c1 : Int) (kx : Int → wq_St → Option (Int × wq_St)) (n : Nat) (y2 : Int) (y3 : Int) (S : wq_St) : Option (Int × wq_St) :=
  wq_loop (fun (g : Int × Int × wq_St → Option (Int × wq_St)) (x : Int × Int × wq_St) => b_X9_dueBehind_4 c1 kx (fun y2 y3 S => g (y2, y3, S)) x.1 x.2.1 x.2.2) n (y2, y3, S)
theorem l_X9_dueBehind_4_s (c1 : Int) (kx : Int → wq_St → Option (Int × wq_St)) (n : Nat) (y2 : Int) (y3 : Int) (S : wq_St) : l_X9_dueBehind_4 c1 kx (n + 1) y2 y3 S = b_X9_dueBehind_4 c1 kx (l_X9_dueBehind_4 c1 kx n) y2 y3 S := rfl
theorem l_X9_dueBehind_4_0 (c1 : Int) (kx : Int → wq_St → Option (Int × wq_St)) (y2 : Int) (y3 : Int) (S : wq_St) : l_X9_dueBehind_4 c1 kx 0 y2 y3 S = none := rfl
def f_X9_dueBehind (x1 : Int) (S : wq_St) : Option (Int × wq_St) :=
  l_X9_dueBehind_4 x1 (fun u8 S9 =>
    some (u8, S9)) wq_fu (-1) 0 S
def b_X9_dusk_4 (kx : Int → wq_St → Option (Int × wq_St)) (rec : Int → Int → wq_St → Option (Int × wq_St)) (y1 : Int) (y2 : Int) (S : wq_St) : Option (Int × wq_St) :=
  if wq_w (S 0 5) ≤ wq_w y2 then
    kx y1 S
  else
    wq_ix y2 4 fun t1 =>
    if wq_w (S 10 t1) = 0 then
      rec (y1 + 0) (y2 + 1) S
    else
      wq_bd (f_X9_sample y2 (S 0 11) S) fun r2 S3 =>
      rec (y1 + r2) (y2 + 1) S3
def l_X9_dusk_4 (kx : Int → wq_St → Option (Int × wq_St)) (n : Nat) (y1 : Int) (y2 : Int) (S : wq_St) : Option (Int × wq_St) :=
  wq_loop (fun (g : Int × Int × wq_St → Option (Int × wq_St)) (x : Int × Int × wq_St) => b_X9_dusk_4 kx (fun y1 y2 S => g (y1, y2, S)) x.1 x.2.1 x.2.2) n (y1, y2, S)
theorem l_X9_dusk_4_s (kx : Int → wq_St → Option (Int × wq_St)) (n : Nat) (y1 : Int) (y2 : Int) (S : wq_St) : l_X9_dusk_4 kx (n + 1) y1 y2 S = b_X9_dusk_4 kx (l_X9_dusk_4 kx n) y1 y2 S := rfl
theorem l_X9_dusk_4_0 (kx : Int → wq_St → Option (Int × wq_St)) (y1 : Int) (y2 : Int) (S : wq_St) : l_X9_dusk_4 kx 0 y1 y2 S = none := rfl
def b_X9_dusk_45 (kx : Int → wq_St → Option (Int × wq_St)) (rec : Int → Int → wq_St → Option (Int × wq_St)) (y1 : Int) (y2 : Int) (S : wq_St) : Option (Int × wq_St) :=
  if wq_w (S 0 28) ≤ wq_w y2 then
    kx y1 S
  else
    wq_ix y2 8 fun t6 =>
    if wq_w (S 12 t6) = 0 then
      rec (y1 + 0) (y2 + 1) S
    else
      wq_bd (f_X9_foretells y2 S) fun r7 S8 =>
      rec (y1 + r7) (y2 + 1) S8
def l_X9_dusk_45 (kx : Int → wq_St → Option (Int × wq_St)) (n : Nat) (y1 : Int) (y2 : Int) (S : wq_St) : Option (Int × wq_St) :=
  wq_loop (fun (g : Int × Int × wq_St → Option (Int × wq_St)) (x : Int × Int × wq_St) => b_X9_dusk_45 kx (fun y1 y2 S => g (y1, y2, S)) x.1 x.2.1 x.2.2) n (y1, y2, S)
theorem l_X9_dusk_45_s (kx : Int → wq_St → Option (Int × wq_St)) (n : Nat) (y1 : Int) (y2 : Int) (S : wq_St) : l_X9_dusk_45 kx (n + 1) y1 y2 S = b_X9_dusk_45 kx (l_X9_dusk_45 kx n) y1 y2 S := rfl
theorem l_X9_dusk_45_0 (kx : Int → wq_St → Option (Int × wq_St)) (y1 : Int) (y2 : Int) (S : wq_St) : l_X9_dusk_45 kx 0 y1 y2 S = none := rfl
def f_X9_dusk (S : wq_St) : Option (Int × wq_St) :=
  l_X9_dusk_4 (fun u4 S5 =>
    l_X9_dusk_45 (fun u9 S10 =>
      some (u9, S10)) wq_fu u4 0 S5) wq_fu 0 0 S
def b_X9_night_57 (kx : wq_St → Option (Int × wq_St)) (rec : Int → wq_St → Option (Int × wq_St)) (y2 : Int) (S : wq_St) : Option (Int × wq_St) :=
  if wq_w (S 0 5) ≤ wq_w y2 then
    kx S
  else
    wq_ix y2 4 fun t9 =>
    if wq_w (S 10 t9) = 0 then
      rec (y2 + 1) S
    else
      wq_bd (f_X9_sample y2 (S 0 11) S) fun r10 S11 =>
      if wq_w (S11 0 31) < wq_w r10 then
        rec (y2 + 1) S11
      else
        wq_bd (f_X9_renews y2 (S11 0 11) S11) fun r12 S13 =>
        wq_bd (f_X9_sample y2 (S13 0 11) S13) fun r14 S15 =>
        wq_lt (wq_set S15 0 31 ((S13 0 31) - r14)) fun S16 =>
        wq_ix y2 4 fun t17 =>
        wq_lt (wq_set S16 10 t17 0) fun S18 =>
        rec (y2 + 1) S18
def l_X9_night_57 (kx : wq_St → Option (Int × wq_St)) (n : Nat) (y2 : Int) (S : wq_St) : Option (Int × wq_St) :=
  wq_loop (fun (g : Int × wq_St → Option (Int × wq_St)) (x : Int × wq_St) => b_X9_night_57 kx (fun y2 S => g (y2, S)) x.1 x.2) n (y2, S)
theorem l_X9_night_57_s (kx : wq_St → Option (Int × wq_St)) (n : Nat) (y2 : Int) (S : wq_St) : l_X9_night_57 kx (n + 1) y2 S = b_X9_night_57 kx (l_X9_night_57 kx n) y2 S := rfl
theorem l_X9_night_57_0 (kx : wq_St → Option (Int × wq_St)) (y2 : Int) (S : wq_St) : l_X9_night_57 kx 0 y2 S = none := rfl
def j_X9_night_261 (kx : Int → Int → wq_St → Option (Int × wq_St)) (rec : Int → Int → Int → Int → wq_St → Option (Int × wq_St)) (j2 : Int) (j4 : Int) (j5 : Int) (z0 : Int) (S : wq_St) : Option (Int × wq_St) :=
  wq_bd (f_X9_dueBehind j4 S) fun r33 S34 =>
  rec (wq_or j2 (wq_shl 1 j4)) (wq_or z0 (wq_shl 1 j4)) r33 j5 S34
def j_X9_night_185 (kx : Int → Int → wq_St → Option (Int × wq_St)) (rec : Int → Int → Int → Int → wq_St → Option (Int × wq_St)) (j2 : Int) (j3 : Int) (j4 : Int) (j6 : Int) (z0 : Int) (S : wq_St) : Option (Int × wq_St) :=
  if wq_w z0 = 0 then
    wq_lt (wq_set S 0 31 ((S 0 31) - (S 0 39))) fun S26 =>
    wq_ix j4 8 fun t27 =>
    wq_lt (wq_set S26 24 t27 (S26 0 40)) fun S28 =>
    wq_ix j4 8 fun t29 =>
    wq_lt (wq_set S28 25 t29 (S28 0 41)) fun S30 =>
    wq_ix j4 8 fun t31 =>
    wq_lt (wq_set S30 26 t31 (S30 0 29)) fun S32 =>
    if wq_w (2 * j6) < wq_w (S32 0 39) then
      j_X9_night_261 kx rec j2 j4 z0 j3 S32
    else
      if wq_w j6 ≤ wq_w (2 * (S32 0 39)) then
        wq_bd (f_X9_dueBehind j4 S32) fun r35 S36 =>
        rec (wq_or j2 (wq_shl 1 j4)) (wq_or j3 0) r35 z0 S36
      else
        j_X9_night_261 kx rec j2 j4 z0 j3 S32
  else
    rec j2 j3 j4 z0 S
def b_X9_night_144 (kx : Int → Int → wq_St → Option (Int × wq_St)) (rec : Int → Int → Int → Int → wq_St → Option (Int × wq_St)) (y2 : Int) (y3 : Int) (y4 : Int) (y5 : Int) (S : wq_St) : Option (Int × wq_St) :=
  if wq_w y4 = wq_w (-1) then
    kx y2 y3 S
  else
    if wq_w y5 = 0 then
      wq_bd (f_X9_foretells y4 S) fun r22 S23 =>
      wq_bd (f_X9_runs y4 S23) fun r24 S25 =>
      if wq_w (S25 0 39) ≤ wq_w (S25 0 31) then
        j_X9_night_185 kx rec y2 y3 y4 r22 0 S25
      else
        j_X9_night_185 kx rec y2 y3 y4 r22 1 S25
    else
      kx y2 y3 S
def l_X9_night_144 (kx : Int → Int → wq_St → Option (Int × wq_St)) (n : Nat) (y2 : Int) (y3 : Int) (y4 : Int) (y5 : Int) (S : wq_St) : Option (Int × wq_St) :=
  wq_loop (fun (g : Int × Int × Int × Int × wq_St → Option (Int × wq_St)) (x : Int × Int × Int × Int × wq_St) => b_X9_night_144 kx (fun y2 y3 y4 y5 S => g (y2, y3, y4, y5, S)) x.1 x.2.1 x.2.2.1 x.2.2.2.1 x.2.2.2.2) n (y2, y3, y4, y5, S)
theorem l_X9_night_144_s (kx : Int → Int → wq_St → Option (Int × wq_St)) (n : Nat) (y2 : Int) (y3 : Int) (y4 : Int) (y5 : Int) (S : wq_St) : l_X9_night_144 kx (n + 1) y2 y3 y4 y5 S = b_X9_night_144 kx (l_X9_night_144 kx n) y2 y3 y4 y5 S := rfl
theorem l_X9_night_144_0 (kx : Int → Int → wq_St → Option (Int × wq_St)) (y2 : Int) (y3 : Int) (y4 : Int) (y5 : Int) (S : wq_St) : l_X9_night_144 kx 0 y2 y3 y4 y5 S = none := rfl
def j_X9_night_402 (kx : Int → wq_St → Option (Int × wq_St)) (rec : Int → Int → wq_St → Option (Int × wq_St)) (j2 : Int) (j3 : Int) (j6 : Int) (j7 : Int) (j8 : Int) (S : wq_St) : Option (Int × wq_St) :=
  wq_ix j7 8 fun t43 =>
  if wq_w (S 12 t43) = 0 then
    wq_ix j7 8 fun t44 =>
    wq_lt (wq_set S 12 t44 0) fun S45 =>
    rec j6 (j7 + 1) S45
  else
    if wq_w j8 = 0 then
      wq_ix j7 8 fun t48 =>
      wq_lt (wq_set S 12 t48 1) fun S49 =>
      rec j6 (j7 + 1) S49
    else
      wq_ix j7 8 fun t46 =>
      wq_lt (wq_set S 12 t46 0) fun S47 =>
      rec j6 (j7 + 1) S47
def j_X9_night_396 (kx : Int → wq_St → Option (Int × wq_St)) (rec : Int → Int → wq_St → Option (Int × wq_St)) (j2 : Int) (j3 : Int) (j6 : Int) (j7 : Int) (j8 : Int) (S : wq_St) : Option (Int × wq_St) :=
  wq_bd (f_X9_marks j7 S) fun r50 S51 =>
  j_X9_night_402 kx rec j2 j3 j6 j7 j8 S51
def j_X9_night_386 (kx : Int → wq_St → Option (Int × wq_St)) (rec : Int → Int → wq_St → Option (Int × wq_St)) (j2 : Int) (j3 : Int) (j6 : Int) (j7 : Int) (j8 : Int) (S : wq_St) : Option (Int × wq_St) :=
  if wq_w (wq_and (wq_shr j3 j7) 1) = wq_w 1 then
    j_X9_night_396 kx rec j2 j3 j6 j7 j8 S
  else
    j_X9_night_402 kx rec j2 j3 j6 j7 j8 S
def j_X9_night_367 (kx : Int → wq_St → Option (Int × wq_St)) (rec : Int → Int → wq_St → Option (Int × wq_St)) (j2 : Int) (j3 : Int) (j6 : Int) (j7 : Int) (j8 : Int) (z0 : Int) (z1 : Int) (S : wq_St) : Option (Int × wq_St) :=
  wq_lt (wq_set S 0 32 (z1 + z0)) fun S41 =>
  wq_ix j7 8 fun t42 =>
  if wq_w (S41 12 t42) = 0 then
    j_X9_night_386 kx rec j2 j3 j6 j7 j8 S41
  else
    if wq_w j8 = 0 then
      j_X9_night_396 kx rec j2 j3 j6 j7 j8 S41
    else
      j_X9_night_386 kx rec j2 j3 j6 j7 j8 S41
def j_X9_night_366 (kx : Int → wq_St → Option (Int × wq_St)) (rec : Int → Int → wq_St → Option (Int × wq_St)) (j2 : Int) (j3 : Int) (j6 : Int) (j7 : Int) (j8 : Int) (z0 : Int) (S : wq_St) : Option (Int × wq_St) :=
  j_X9_night_367 kx rec j2 j3 j6 j7 j8 0 z0 S
def j_X9_night_333 (kx : Int → wq_St → Option (Int × wq_St)) (rec : Int → Int → wq_St → Option (Int × wq_St)) (j2 : Int) (j3 : Int) (j7 : Int) (j8 : Int) (z0 : Int) (z1 : Int) (S : wq_St) : Option (Int × wq_St) :=
  wq_ix j7 8 fun t40 =>
  if wq_w (S 12 t40) = 0 then
    j_X9_night_366 kx rec j2 j3 (z1 + z0) j7 j8 (S 0 32) S
  else
    if wq_w j8 = 0 then
      wq_ix j7 8 fun t52 =>
      j_X9_night_367 kx rec j2 j3 (z1 + z0) j7 j8 (S 11 t52) (S 0 32) S
    else
      j_X9_night_366 kx rec j2 j3 (z1 + z0) j7 j8 (S 0 32) S
def j_X9_night_319 (kx : Int → wq_St → Option (Int × wq_St)) (rec : Int → Int → wq_St → Option (Int × wq_St)) (j2 : Int) (j3 : Int) (j6 : Int) (j7 : Int) (z0 : Int) (S : wq_St) : Option (Int × wq_St) :=
  if wq_w z0 = 0 then
    j_X9_night_333 kx rec j2 j3 j7 z0 0 j6 S
  else
    j_X9_night_333 kx rec j2 j3 j7 z0 1 j6 S
def b_X9_night_295 (c2 : Int) (c3 : Int) (kx : Int → wq_St → Option (Int × wq_St)) (rec : Int → Int → wq_St → Option (Int × wq_St)) (y6 : Int) (y7 : Int) (S : wq_St) : Option (Int × wq_St) :=
  if wq_w (S 0 28) ≤ wq_w y7 then
    kx y6 S
  else
    if wq_w (wq_and (wq_shr c2 y7) 1) = wq_w 1 then
      j_X9_night_319 kx rec c2 c3 y6 y7 1 S
    else
      j_X9_night_319 kx rec c2 c3 y6 y7 0 S
def l_X9_night_295 (c2 : Int) (c3 : Int) (kx : Int → wq_St → Option (Int × wq_St)) (n : Nat) (y6 : Int) (y7 : Int) (S : wq_St) : Option (Int × wq_St) :=
  wq_loop (fun (g : Int × Int × wq_St → Option (Int × wq_St)) (x : Int × Int × wq_St) => b_X9_night_295 c2 c3 kx (fun y6 y7 S => g (y6, y7, S)) x.1 x.2.1 x.2.2) n (y6, y7, S)
theorem l_X9_night_295_s (c2 : Int) (c3 : Int) (kx : Int → wq_St → Option (Int × wq_St)) (n : Nat) (y6 : Int) (y7 : Int) (S : wq_St) : l_X9_night_295 c2 c3 kx (n + 1) y6 y7 S = b_X9_night_295 c2 c3 kx (l_X9_night_295 c2 c3 kx n) y6 y7 S := rfl
theorem l_X9_night_295_0 (c2 : Int) (c3 : Int) (kx : Int → wq_St → Option (Int × wq_St)) (y6 : Int) (y7 : Int) (S : wq_St) : l_X9_night_295 c2 c3 kx 0 y6 y7 S = none := rfl
def j_X9_night_289 (j2 : Int) (j3 : Int) (S : wq_St) : Option (Int × wq_St) :=
  l_X9_night_295 j2 j3 (fun u53 S54 =>
    wq_lt (wq_set S54 0 29 ((S54 0 29) + 1)) fun S55 =>
    some (u53, S55)) wq_fu 0 0 S
def j_X9_night_24 (j1 : Int) (z0 : Int) (z1 : Int) (S : wq_St) : Option (Int × wq_St) :=
  wq_bd (f_X9_asked_ z1 z0 S) fun r3 S4 =>
  if wq_w r3 = 0 then
    some (0, S4)
  else
    wq_bd (f_X9_dusk S4) fun r5 S6 =>
    wq_lt (wq_set S6 0 31 (r5 + j1)) fun S7 =>
    wq_lt (wq_set S7 0 30 ((S7 0 30) + (S7 0 31))) fun S8 =>
    l_X9_night_57 (fun S19 =>
      wq_bd (f_X9_dueBehind (-1) S19) fun r20 S21 =>
      l_X9_night_144 (fun u37 u38 S39 =>
        j_X9_night_289 u37 u38 S39) wq_fu 0 0 r20 0 S21) wq_fu 0 S8
def f_X9_night (x1 : Int) (S : wq_St) : Option (Int × wq_St) :=
  wq_bd (f_X9_in x1 0 1000 S) fun r1 S2 =>
  if wq_w 500 ≤ wq_w (S2 0 29) then
    j_X9_night_24 x1 0 r1 S2
  else
    j_X9_night_24 x1 1 r1 S2
def f_X9_nights (S : wq_St) : Option (Int × wq_St) :=
  wq_bd (f_X9_told (S 0 29) S) fun r1 S2 =>
  some (r1, S2)
def f_X9_paid (S : wq_St) : Option (Int × wq_St) :=
  wq_bd (f_X9_told (S 0 30) S) fun r1 S2 =>
  some (r1, S2)
def f_X9_left (S : wq_St) : Option (Int × wq_St) :=
  wq_bd (f_X9_told (S 0 31) S) fun r1 S2 =>
  some (r1, S2)
def f_X9_owed (S : wq_St) : Option (Int × wq_St) :=
  wq_bd (f_X9_told (S 0 32) S) fun r1 S2 =>
  some (r1, S2)
def f_X9_kept (x1 : Int) (S : wq_St) : Option (Int × wq_St) :=
  wq_bd (f_X9_isReport x1 S) fun r1 S2 =>
  wq_bd (f_X9_asked r1 S2) fun r3 S4 =>
  if wq_w r3 = 0 then
    some (0, S4)
  else
    wq_ix x1 8 fun t5 =>
    some (S4 24 t5, S4)
def f_X9_keptSum (x1 : Int) (S : wq_St) : Option (Int × wq_St) :=
  wq_bd (f_X9_isReport x1 S) fun r1 S2 =>
  wq_bd (f_X9_asked r1 S2) fun r3 S4 =>
  if wq_w r3 = 0 then
    some (0, S4)
  else
    wq_ix x1 8 fun t5 =>
    some (S4 25 t5, S4)
def f_X9_keptIn (x1 : Int) (S : wq_St) : Option (Int × wq_St) :=
  wq_bd (f_X9_isReport x1 S) fun r1 S2 =>
  wq_bd (f_X9_asked r1 S2) fun r3 S4 =>
  if wq_w r3 = 0 then
    some (0, S4)
  else
    wq_ix x1 8 fun t5 =>
    some (S4 26 t5, S4)
end
section
def wq_cls (S : wq_St) : wq_St := fun k => if k < 284 then S k else fun _ => 0
def wq_mdl (S : wq_St) : wq_St := fun k => if k < 32 then S (284 + k) else fun _ => 0
def wq_emb (o n : Nat) (S S' : wq_St) : wq_St := fun k => if o ≤ k ∧ k < o + n then S' (k - o) else S k
def wq_bh {α β : Type} (x : Option (Nat × β × wq_St)) (k : β → wq_St → Option α) (kt : Nat → wq_St → Option α) : Option α := match x with
  | none => none
  | some (0, r, S) => k r S
  | some (n + 1, _, S) => kt (n + 1) S
def f_L_addTable (x1 : Int) (S : wq_St) : Option (Int × wq_St) :=
  wq_bh (f_X8_addTable x1 (wq_cls S)) (fun r1 S2 =>
  wq_lt (wq_emb 0 284 S S2) fun S3 =>
    wq_ix 0 1 fun t4 =>
    some (0, wq_set S3 316 t4 (wq_w r1))) (fun n6 S2 =>
    if n6 = 2 then
      wq_lt (wq_emb 0 284 S S2) fun S5 =>
      some (1, S5)
    else
      if n6 = 3 then
        wq_lt (wq_emb 0 284 S S2) fun S5 =>
        some (2, S5)
      else
        none)
def f_L_insert (x1 : Int) (x2 : Int) (x3 : Int) (x4 : Int) (S : wq_St) : Option (Int × wq_St) :=
  wq_bh (f_X8_insert x1 x2 x3 x4 (wq_cls S)) (fun r1 S2 =>
  wq_lt (wq_emb 0 284 S S2) fun S3 =>
    wq_ix 0 1 fun t4 =>
    some (0, wq_set S3 316 t4 (wq_w r1))) (fun n6 S2 =>
    if n6 = 1 then
      wq_lt (wq_emb 0 284 S S2) fun S5 =>
      some (1, S5)
    else
      if n6 = 2 then
        wq_lt (wq_emb 0 284 S S2) fun S5 =>
        some (2, S5)
      else
        if n6 = 3 then
          wq_lt (wq_emb 0 284 S S2) fun S5 =>
          some (3, S5)
        else
          none)
def f_L_delete (x1 : Int) (x2 : Int) (S : wq_St) : Option (Int × wq_St) :=
  wq_bh (f_X8_delete x1 x2 (wq_cls S)) (fun r1 S2 =>
  wq_lt (wq_emb 0 284 S S2) fun S3 =>
    wq_ix 0 1 fun t4 =>
    some (0, wq_set S3 316 t4 (wq_w r1))) (fun n6 S2 =>
    if n6 = 1 then
      wq_lt (wq_emb 0 284 S S2) fun S5 =>
      some (1, S5)
    else
      none)
def f_L_setIndex (x1 : Int) (x2 : Int) (x3 : Int) (S : wq_St) : Option (Int × wq_St) :=
  wq_bh (f_X8_setIndex x1 x2 x3 (wq_cls S)) (fun r1 S2 =>
  wq_lt (wq_emb 0 284 S S2) fun S3 =>
    if wq_w r1 = 0 then
      wq_ix 0 1 fun t4 =>
      some (0, wq_set S3 316 t4 0)
    else
      wq_ix 0 1 fun t5 =>
      some (0, wq_set S3 316 t5 1)) (fun n7 S2 =>
    if n7 = 1 then
      wq_lt (wq_emb 0 284 S S2) fun S6 =>
      some (1, S6)
    else
      none)
def f_L_rows (x1 : Int) (S : wq_St) : Option (Int × wq_St) :=
  wq_bh (f_X8_rows x1 (wq_cls S)) (fun r1 S2 =>
  wq_lt (wq_emb 0 284 S S2) fun S3 =>
    wq_ix 0 1 fun t4 =>
    some (0, wq_set S3 316 t4 (wq_w r1))) (fun n6 S2 =>
    if n6 = 1 then
      wq_lt (wq_emb 0 284 S S2) fun S5 =>
      some (1, S5)
    else
      none)
def f_L_value (x1 : Int) (x2 : Int) (x3 : Int) (S : wq_St) : Option (Int × wq_St) :=
  wq_bh (f_X8_value x1 x2 x3 (wq_cls S)) (fun r1 S2 =>
  wq_lt (wq_emb 0 284 S S2) fun S3 =>
    wq_ix 0 1 fun t4 =>
    some (0, wq_set S3 316 t4 (wq_w r1))) (fun n6 S2 =>
    if n6 = 1 then
      wq_lt (wq_emb 0 284 S S2) fun S5 =>
      some (1, S5)
    else
      none)
def f_L_renew (x1 : Int) (x2 : Int) (S : wq_St) : Option (Int × wq_St) :=
  wq_bh (f_X8_renew x1 x2 (wq_cls S)) (fun r1 S2 =>
  wq_lt (wq_emb 0 284 S S2) fun S3 =>
    wq_ix 0 1 fun t4 =>
    some (0, wq_set S3 316 t4 (wq_w r1))) (fun n6 S2 =>
    if n6 = 1 then
      wq_lt (wq_emb 0 284 S S2) fun S5 =>
      some (1, S5)
    else
      if n6 = 2 then
        wq_lt (wq_emb 0 284 S S2) fun S5 =>
        some (2, S5)
      else
        none)
def f_L_setStep (x1 : Int) (S : wq_St) : Option (Int × wq_St) :=
  wq_bh (f_X8_setStep x1 (wq_cls S)) (fun r1 S2 =>
  wq_lt (wq_emb 0 284 S S2) fun S3 =>
    wq_ix 0 1 fun t4 =>
    some (0, wq_set S3 316 t4 (wq_w r1))) (fun n6 S2 =>
    if n6 = 2 then
      wq_lt (wq_emb 0 284 S S2) fun S5 =>
      some (1, S5)
    else
      none)
def f_L_toldRows (x1 : Int) (S : wq_St) : Option (Int × wq_St) :=
  wq_bh (f_X8_toldRows x1 (wq_cls S)) (fun r1 S2 =>
  wq_lt (wq_emb 0 284 S S2) fun S3 =>
    wq_ix 0 1 fun t4 =>
    some (0, wq_set S3 316 t4 (wq_w r1))) (fun n6 S2 =>
    if n6 = 1 then
      wq_lt (wq_emb 0 284 S S2) fun S5 =>
      some (1, S5)
    else
      none)
def f_L_unlike (x1 : Int) (x2 : Int) (S : wq_St) : Option (Int × wq_St) :=
  wq_bh (f_X8_unlike x1 x2 (wq_cls S)) (fun r1 S2 =>
  wq_lt (wq_emb 0 284 S S2) fun S3 =>
    wq_ix 0 1 fun t4 =>
    some (0, wq_set S3 316 t4 (wq_w r1))) (fun n6 S2 =>
    if n6 = 1 then
      wq_lt (wq_emb 0 284 S S2) fun S5 =>
      some (1, S5)
    else
      none)
def f_L_least (x1 : Int) (x2 : Int) (S : wq_St) : Option (Int × wq_St) :=
  wq_bh (f_X8_least x1 x2 (wq_cls S)) (fun r1 S2 =>
  wq_lt (wq_emb 0 284 S S2) fun S3 =>
    wq_ix 0 1 fun t4 =>
    some (0, wq_set S3 316 t4 (wq_w r1))) (fun n6 S2 =>
    if n6 = 1 then
      wq_lt (wq_emb 0 284 S S2) fun S5 =>
      some (1, S5)
    else
      none)
def f_L_greatest (x1 : Int) (x2 : Int) (S : wq_St) : Option (Int × wq_St) :=
  wq_bh (f_X8_greatest x1 x2 (wq_cls S)) (fun r1 S2 =>
  wq_lt (wq_emb 0 284 S S2) fun S3 =>
    wq_ix 0 1 fun t4 =>
    some (0, wq_set S3 316 t4 (wq_w r1))) (fun n6 S2 =>
    if n6 = 1 then
      wq_lt (wq_emb 0 284 S S2) fun S5 =>
      some (1, S5)
    else
      none)
def f_L_isMarked (x1 : Int) (S : wq_St) : Option (Int × wq_St) :=
  wq_bh (f_X8_isMarked x1 (wq_cls S)) (fun r1 S2 =>
  wq_lt (wq_emb 0 284 S S2) fun S3 =>
    if wq_w r1 = 0 then
      wq_ix 0 1 fun t4 =>
      some (0, wq_set S3 316 t4 0)
    else
      wq_ix 0 1 fun t5 =>
      some (0, wq_set S3 316 t5 1)) (fun n7 S2 =>
    if n7 = 1 then
      wq_lt (wq_emb 0 284 S S2) fun S6 =>
      some (1, S6)
    else
      none)
def f_L_addReport (x1 : Int) (S : wq_St) : Option (Int × wq_St) :=
  wq_bh (f_X8_addReport x1 (wq_cls S)) (fun r1 S2 =>
  wq_lt (wq_emb 0 284 S S2) fun S3 =>
    wq_ix 0 1 fun t4 =>
    some (0, wq_set S3 316 t4 (wq_w r1))) (fun n6 S2 =>
    if n6 = 2 then
      wq_lt (wq_emb 0 284 S S2) fun S5 =>
      some (1, S5)
    else
      if n6 = 3 then
        wq_lt (wq_emb 0 284 S S2) fun S5 =>
        some (2, S5)
      else
        none)
def f_L_addSource (x1 : Int) (x2 : Int) (S : wq_St) : Option (Int × wq_St) :=
  wq_bh (f_X8_addSource x1 x2 (wq_cls S)) (fun r1 S2 =>
  wq_lt (wq_emb 0 284 S S2) fun S3 =>
    wq_ix 0 1 fun t4 =>
    some (0, wq_set S3 316 t4 (wq_w r1))) (fun n6 S2 =>
    if n6 = 1 then
      wq_lt (wq_emb 0 284 S S2) fun S5 =>
      some (1, S5)
    else
      if n6 = 3 then
        wq_lt (wq_emb 0 284 S S2) fun S5 =>
        some (2, S5)
      else
        none)
def f_L_addCondition (x1 : Int) (x2 : Int) (x3 : Int) (x4 : Int) (x5 : Int) (S : wq_St) : Option (Int × wq_St) :=
  wq_bh (f_X8_addCondition x1 x2 x3 x4 x5 (wq_cls S)) (fun r1 S2 =>
  wq_lt (wq_emb 0 284 S S2) fun S3 =>
    wq_ix 0 1 fun t4 =>
    some (0, wq_set S3 316 t4 (wq_w r1))) (fun n6 S2 =>
    if n6 = 1 then
      wq_lt (wq_emb 0 284 S S2) fun S5 =>
      some (1, S5)
    else
      if n6 = 2 then
        wq_lt (wq_emb 0 284 S S2) fun S5 =>
        some (2, S5)
      else
        if n6 = 3 then
          wq_lt (wq_emb 0 284 S S2) fun S5 =>
          some (3, S5)
        else
          none)
def f_L_addJoin (x1 : Int) (x2 : Int) (x3 : Int) (x4 : Int) (x5 : Int) (S : wq_St) : Option (Int × wq_St) :=
  wq_bh (f_X8_addJoin x1 x2 x3 x4 x5 (wq_cls S)) (fun r1 S2 =>
  wq_lt (wq_emb 0 284 S S2) fun S3 =>
    wq_ix 0 1 fun t4 =>
    some (0, wq_set S3 316 t4 (wq_w r1))) (fun n6 S2 =>
    if n6 = 1 then
      wq_lt (wq_emb 0 284 S S2) fun S5 =>
      some (1, S5)
    else
      if n6 = 2 then
        wq_lt (wq_emb 0 284 S S2) fun S5 =>
        some (2, S5)
      else
        if n6 = 3 then
          wq_lt (wq_emb 0 284 S S2) fun S5 =>
          some (3, S5)
        else
          none)
def f_L_dropCondition (x1 : Int) (S : wq_St) : Option (Int × wq_St) :=
  wq_bh (f_X8_dropCondition x1 (wq_cls S)) (fun r1 S2 =>
  wq_lt (wq_emb 0 284 S S2) fun S3 =>
    wq_ix 0 1 fun t4 =>
    some (0, wq_set S3 316 t4 (wq_w r1))) (fun n6 S2 =>
    if n6 = 1 then
      wq_lt (wq_emb 0 284 S S2) fun S5 =>
      some (1, S5)
    else
      if n6 = 3 then
        wq_lt (wq_emb 0 284 S S2) fun S5 =>
        some (2, S5)
      else
        none)
def f_L_setSum (x1 : Int) (x2 : Int) (x3 : Int) (S : wq_St) : Option (Int × wq_St) :=
  wq_bh (f_X8_setSum x1 x2 x3 (wq_cls S)) (fun r1 S2 =>
  wq_lt (wq_emb 0 284 S S2) fun S3 =>
    some (0, S3)) (fun n5 S2 =>
    if n5 = 1 then
      wq_lt (wq_emb 0 284 S S2) fun S4 =>
      some (1, S4)
    else
      none)
def f_L_setDue (x1 : Int) (x2 : Int) (S : wq_St) : Option (Int × wq_St) :=
  wq_bh (f_X8_setDue x1 x2 (wq_cls S)) (fun r1 S2 =>
  wq_lt (wq_emb 0 284 S S2) fun S3 =>
    if wq_w r1 = 0 then
      wq_ix 0 1 fun t4 =>
      some (0, wq_set S3 316 t4 0)
    else
      wq_ix 0 1 fun t5 =>
      some (0, wq_set S3 316 t5 1)) (fun n7 S2 =>
    if n7 = 1 then
      wq_lt (wq_emb 0 284 S S2) fun S6 =>
      some (1, S6)
    else
      none)
def f_L_isDue (x1 : Int) (S : wq_St) : Option (Int × wq_St) :=
  wq_bh (f_X8_isDue x1 (wq_cls S)) (fun r1 S2 =>
  wq_lt (wq_emb 0 284 S S2) fun S3 =>
    if wq_w r1 = 0 then
      wq_ix 0 1 fun t4 =>
      some (0, wq_set S3 316 t4 0)
    else
      wq_ix 0 1 fun t5 =>
      some (0, wq_set S3 316 t5 1)) (fun n7 S2 =>
    if n7 = 1 then
      wq_lt (wq_emb 0 284 S S2) fun S6 =>
      some (1, S6)
    else
      none)
def f_L_planSource (x1 : Int) (x2 : Int) (S : wq_St) : Option (Int × wq_St) :=
  wq_bh (f_X8_planSource x1 x2 (wq_cls S)) (fun r1 S2 =>
  wq_lt (wq_emb 0 284 S S2) fun S3 =>
    wq_ix 0 1 fun t4 =>
    some (0, wq_set S3 316 t4 (wq_w r1))) (fun n6 S2 =>
    if n6 = 1 then
      wq_lt (wq_emb 0 284 S S2) fun S5 =>
      some (1, S5)
    else
      none)
def f_L_planWay (x1 : Int) (x2 : Int) (S : wq_St) : Option (Int × wq_St) :=
  wq_bh (f_X8_planWay x1 x2 (wq_cls S)) (fun r1 S2 =>
  wq_lt (wq_emb 0 284 S S2) fun S3 =>
    wq_ix 0 1 fun t4 =>
    some (0, wq_set S3 316 t4 (wq_w r1))) (fun n6 S2 =>
    if n6 = 1 then
      wq_lt (wq_emb 0 284 S S2) fun S5 =>
      some (1, S5)
    else
      none)
def f_L_foretold (x1 : Int) (S : wq_St) : Option (Int × wq_St) :=
  wq_bh (f_X8_foretold x1 (wq_cls S)) (fun r1 S2 =>
  wq_lt (wq_emb 0 284 S S2) fun S3 =>
    wq_ix 0 1 fun t4 =>
    some (0, wq_set S3 316 t4 (wq_w r1))) (fun n6 S2 =>
    if n6 = 1 then
      wq_lt (wq_emb 0 284 S S2) fun S5 =>
      some (1, S5)
    else
      none)
def f_L_minutes (x1 : Int) (S : wq_St) : Option (Int × wq_St) :=
  wq_bh (f_X8_minutes x1 (wq_cls S)) (fun r1 S2 =>
  wq_lt (wq_emb 0 284 S S2) fun S3 =>
    wq_ix 0 1 fun t4 =>
    some (0, wq_set S3 316 t4 (wq_w r1))) (fun n6 S2 =>
    if n6 = 1 then
      wq_lt (wq_emb 0 284 S S2) fun S5 =>
      some (1, S5)
    else
      none)
def f_L_answer (x1 : Int) (S : wq_St) : Option (Int × wq_St) :=
  wq_bh (f_X8_answer x1 (wq_cls S)) (fun r1 S2 =>
  wq_lt (wq_emb 0 284 S S2) fun S3 =>
    wq_ix 0 1 fun t4 =>
    some (0, wq_set S3 316 t4 (wq_w r1))) (fun n6 S2 =>
    if n6 = 1 then
      wq_lt (wq_emb 0 284 S S2) fun S5 =>
      some (1, S5)
    else
      none)
def f_L_sum (x1 : Int) (S : wq_St) : Option (Int × wq_St) :=
  wq_bh (f_X8_sum x1 (wq_cls S)) (fun r1 S2 =>
  wq_lt (wq_emb 0 284 S S2) fun S3 =>
    wq_ix 0 1 fun t4 =>
    some (0, wq_set S3 316 t4 (wq_w r1))) (fun n6 S2 =>
    if n6 = 1 then
      wq_lt (wq_emb 0 284 S S2) fun S5 =>
      some (1, S5)
    else
      none)
def f_L_plainAnswer (x1 : Int) (S : wq_St) : Option (Int × wq_St) :=
  wq_bh (f_X8_plainAnswer x1 (wq_cls S)) (fun r1 S2 =>
  wq_lt (wq_emb 0 284 S S2) fun S3 =>
    wq_ix 0 1 fun t4 =>
    some (0, wq_set S3 316 t4 (wq_w r1))) (fun n6 S2 =>
    if n6 = 1 then
      wq_lt (wq_emb 0 284 S S2) fun S5 =>
      some (1, S5)
    else
      none)
def f_L_plainSum (x1 : Int) (S : wq_St) : Option (Int × wq_St) :=
  wq_bh (f_X8_plainSum x1 (wq_cls S)) (fun r1 S2 =>
  wq_lt (wq_emb 0 284 S S2) fun S3 =>
    wq_ix 0 1 fun t4 =>
    some (0, wq_set S3 316 t4 (wq_w r1))) (fun n6 S2 =>
    if n6 = 1 then
      wq_lt (wq_emb 0 284 S S2) fun S5 =>
      some (1, S5)
    else
      none)
def f_L_night (x1 : Int) (S : wq_St) : Option (Int × wq_St) :=
  wq_bh (f_X8_night x1 (wq_cls S)) (fun r1 S2 =>
  wq_lt (wq_emb 0 284 S S2) fun S3 =>
    wq_ix 0 1 fun t4 =>
    some (0, wq_set S3 316 t4 (wq_w r1))) (fun n6 S2 =>
    if n6 = 2 then
      wq_lt (wq_emb 0 284 S S2) fun S5 =>
      some (1, S5)
    else
      if n6 = 3 then
        wq_lt (wq_emb 0 284 S S2) fun S5 =>
        some (2, S5)
      else
        none)
def f_L_kept (x1 : Int) (S : wq_St) : Option (Int × wq_St) :=
  wq_bh (f_X8_kept x1 (wq_cls S)) (fun r1 S2 =>
  wq_lt (wq_emb 0 284 S S2) fun S3 =>
    wq_ix 0 1 fun t4 =>
    some (0, wq_set S3 316 t4 (wq_w r1))) (fun n6 S2 =>
    if n6 = 1 then
      wq_lt (wq_emb 0 284 S S2) fun S5 =>
      some (1, S5)
    else
      none)
def f_L_keptSum (x1 : Int) (S : wq_St) : Option (Int × wq_St) :=
  wq_bh (f_X8_keptSum x1 (wq_cls S)) (fun r1 S2 =>
  wq_lt (wq_emb 0 284 S S2) fun S3 =>
    wq_ix 0 1 fun t4 =>
    some (0, wq_set S3 316 t4 (wq_w r1))) (fun n6 S2 =>
    if n6 = 1 then
      wq_lt (wq_emb 0 284 S S2) fun S5 =>
      some (1, S5)
    else
      none)
def f_L_keptIn (x1 : Int) (S : wq_St) : Option (Int × wq_St) :=
  wq_bh (f_X8_keptIn x1 (wq_cls S)) (fun r1 S2 =>
  wq_lt (wq_emb 0 284 S S2) fun S3 =>
    wq_ix 0 1 fun t4 =>
    some (0, wq_set S3 316 t4 (wq_w r1))) (fun n6 S2 =>
    if n6 = 1 then
      wq_lt (wq_emb 0 284 S S2) fun S5 =>
      some (1, S5)
    else
      none)
def b_L_law (X : Nat → Int) (LL : Nat) (kx : wq_St → Option (Int × wq_St)) (rec : Int → wq_St → Option (Int × wq_St)) (y4 : Int) (S : wq_St) : Option (Int × wq_St) :=
  if wq_w ((LL : Int) - 6) < wq_w y4 then
    kx S
  else
    wq_ix y4 LL fun t1 =>
    if wq_w (wq_and (X t1) 63) = 0 then
      wq_ix (y4 + 1) LL fun t2 =>
      wq_bd (f_L_addTable (X t2) S) fun r3 S4 =>
      wq_ix (y4 + 1) LL fun t6 =>
      wq_bd (f_X9_addTable (X t6) (wq_mdl S4)) fun r7 S8 =>
      wq_lt (wq_emb 284 32 S4 S8) fun S9 =>
      wq_bd (f_X9_thrown (wq_mdl S9)) fun r10 S11 =>
      wq_lt (wq_emb 284 32 S9 S11) fun S12 =>
      if wq_w r10 = wq_w r3 then
        if wq_w r3 = 0 then
          wq_ix 0 1 fun t13 =>
          if wq_w (wq_cmp (S12 316 t13) (wq_w r7)) = 0 then
            rec (y4 + 6) S12
          else
            some (0, S12)
        else
          rec (y4 + 6) S12
      else
        some (0, S12)
    else
      if wq_w (wq_and (X t1) 63) = 1 then
        wq_ix (y4 + 1) LL fun t14 =>
        wq_ix (y4 + 2) LL fun t15 =>
        wq_ix (y4 + 3) LL fun t16 =>
        wq_ix (y4 + 4) LL fun t17 =>
        wq_bd (f_L_insert (X t14) (X t15) (X t16) (X t17) S) fun r18 S19 =>
        wq_ix (y4 + 1) LL fun t21 =>
        wq_ix (y4 + 2) LL fun t22 =>
        wq_ix (y4 + 3) LL fun t23 =>
        wq_ix (y4 + 4) LL fun t24 =>
        wq_bd (f_X9_insert (X t21) (X t22) (X t23) (X t24) (wq_mdl S19)) fun r25 S26 =>
        wq_lt (wq_emb 284 32 S19 S26) fun S27 =>
        wq_bd (f_X9_thrown (wq_mdl S27)) fun r28 S29 =>
        wq_lt (wq_emb 284 32 S27 S29) fun S30 =>
        if wq_w r28 = wq_w r18 then
          if wq_w r18 = 0 then
            wq_ix 0 1 fun t31 =>
            if wq_w (wq_cmp (S30 316 t31) (wq_w r25)) = 0 then
              rec (y4 + 6) S30
            else
              some (0, S30)
          else
            rec (y4 + 6) S30
        else
          some (0, S30)
      else
        if wq_w (wq_and (X t1) 63) = 2 then
          wq_ix (y4 + 1) LL fun t32 =>
          wq_ix (y4 + 2) LL fun t33 =>
          wq_bd (f_L_delete (X t32) (X t33) S) fun r34 S35 =>
          wq_ix (y4 + 1) LL fun t37 =>
          wq_ix (y4 + 2) LL fun t38 =>
          wq_bd (f_X9_delete (X t37) (X t38) (wq_mdl S35)) fun r39 S40 =>
          wq_lt (wq_emb 284 32 S35 S40) fun S41 =>
          wq_bd (f_X9_thrown (wq_mdl S41)) fun r42 S43 =>
          wq_lt (wq_emb 284 32 S41 S43) fun S44 =>
          if wq_w r42 = wq_w r34 then
            if wq_w r34 = 0 then
              wq_ix 0 1 fun t45 =>
              if wq_w (wq_cmp (S44 316 t45) (wq_w r39)) = 0 then
                rec (y4 + 6) S44
              else
                some (0, S44)
            else
              rec (y4 + 6) S44
          else
            some (0, S44)
        else
          if wq_w (wq_and (X t1) 63) = 3 then
            wq_ix (y4 + 1) LL fun t46 =>
            wq_ix (y4 + 2) LL fun t47 =>
            wq_ix (y4 + 3) LL fun t48 =>
            if wq_w (X t48) = 0 then
              wq_bd (f_L_setIndex (X t46) (X t47) 0 S) fun r49 S50 =>
              wq_ix (y4 + 1) LL fun t52 =>
              wq_ix (y4 + 2) LL fun t53 =>
              wq_ix (y4 + 3) LL fun t54 =>
              if wq_w (X t54) = 0 then
                wq_bd (f_X9_setIndex (X t52) (X t53) 0 (wq_mdl S50)) fun r55 S56 =>
                wq_lt (wq_emb 284 32 S50 S56) fun S57 =>
                wq_bd (f_X9_thrown (wq_mdl S57)) fun r58 S59 =>
                wq_lt (wq_emb 284 32 S57 S59) fun S60 =>
                if wq_w r58 = wq_w r49 then
                  if wq_w r49 = 0 then
                    wq_ix 0 1 fun t61 =>
                    if wq_w r55 = 0 then
                      if wq_w (wq_cmp (S60 316 t61) 0) = 0 then
                        rec (y4 + 6) S60
                      else
                        some (0, S60)
                    else
                      if wq_w (wq_cmp (S60 316 t61) 1) = 0 then
                        rec (y4 + 6) S60
                      else
                        some (0, S60)
                  else
                    rec (y4 + 6) S60
                else
                  some (0, S60)
              else
                wq_bd (f_X9_setIndex (X t52) (X t53) 1 (wq_mdl S50)) fun r62 S63 =>
                wq_lt (wq_emb 284 32 S50 S63) fun S64 =>
                wq_bd (f_X9_thrown (wq_mdl S64)) fun r65 S66 =>
                wq_lt (wq_emb 284 32 S64 S66) fun S67 =>
                if wq_w r65 = wq_w r49 then
                  if wq_w r49 = 0 then
                    wq_ix 0 1 fun t68 =>
                    if wq_w r62 = 0 then
                      if wq_w (wq_cmp (S67 316 t68) 0) = 0 then
                        rec (y4 + 6) S67
                      else
                        some (0, S67)
                    else
                      if wq_w (wq_cmp (S67 316 t68) 1) = 0 then
                        rec (y4 + 6) S67
                      else
                        some (0, S67)
                  else
                    rec (y4 + 6) S67
                else
                  some (0, S67)
            else
              wq_bd (f_L_setIndex (X t46) (X t47) 1 S) fun r69 S70 =>
              wq_ix (y4 + 1) LL fun t72 =>
              wq_ix (y4 + 2) LL fun t73 =>
              wq_ix (y4 + 3) LL fun t74 =>
              if wq_w (X t74) = 0 then
                wq_bd (f_X9_setIndex (X t72) (X t73) 0 (wq_mdl S70)) fun r75 S76 =>
                wq_lt (wq_emb 284 32 S70 S76) fun S77 =>
                wq_bd (f_X9_thrown (wq_mdl S77)) fun r78 S79 =>
                wq_lt (wq_emb 284 32 S77 S79) fun S80 =>
                if wq_w r78 = wq_w r69 then
                  if wq_w r69 = 0 then
                    wq_ix 0 1 fun t81 =>
                    if wq_w r75 = 0 then
                      if wq_w (wq_cmp (S80 316 t81) 0) = 0 then
                        rec (y4 + 6) S80
                      else
                        some (0, S80)
                    else
                      if wq_w (wq_cmp (S80 316 t81) 1) = 0 then
                        rec (y4 + 6) S80
                      else
                        some (0, S80)
                  else
                    rec (y4 + 6) S80
                else
                  some (0, S80)
              else
                wq_bd (f_X9_setIndex (X t72) (X t73) 1 (wq_mdl S70)) fun r82 S83 =>
                wq_lt (wq_emb 284 32 S70 S83) fun S84 =>
                wq_bd (f_X9_thrown (wq_mdl S84)) fun r85 S86 =>
                wq_lt (wq_emb 284 32 S84 S86) fun S87 =>
                if wq_w r85 = wq_w r69 then
                  if wq_w r69 = 0 then
                    wq_ix 0 1 fun t88 =>
                    if wq_w r82 = 0 then
                      if wq_w (wq_cmp (S87 316 t88) 0) = 0 then
                        rec (y4 + 6) S87
                      else
                        some (0, S87)
                    else
                      if wq_w (wq_cmp (S87 316 t88) 1) = 0 then
                        rec (y4 + 6) S87
                      else
                        some (0, S87)
                  else
                    rec (y4 + 6) S87
                else
                  some (0, S87)
          else
            if wq_w (wq_and (X t1) 63) = 4 then
              wq_ix (y4 + 1) LL fun t89 =>
              wq_bd (f_L_rows (X t89) S) fun r90 S91 =>
              wq_ix (y4 + 1) LL fun t93 =>
              wq_bd (f_X9_rows (X t93) (wq_mdl S91)) fun r94 S95 =>
              wq_lt (wq_emb 284 32 S91 S95) fun S96 =>
              wq_bd (f_X9_thrown (wq_mdl S96)) fun r97 S98 =>
              wq_lt (wq_emb 284 32 S96 S98) fun S99 =>
              if wq_w r97 = wq_w r90 then
                if wq_w r90 = 0 then
                  wq_ix 0 1 fun t100 =>
                  if wq_w (wq_cmp (S99 316 t100) (wq_w r94)) = 0 then
                    rec (y4 + 6) S99
                  else
                    some (0, S99)
                else
                  rec (y4 + 6) S99
              else
                some (0, S99)
            else
              if wq_w (wq_and (X t1) 63) = 5 then
                wq_ix (y4 + 1) LL fun t101 =>
                wq_ix (y4 + 2) LL fun t102 =>
                wq_ix (y4 + 3) LL fun t103 =>
                wq_bd (f_L_value (X t101) (X t102) (X t103) S) fun r104 S105 =>
                wq_ix (y4 + 1) LL fun t107 =>
                wq_ix (y4 + 2) LL fun t108 =>
                wq_ix (y4 + 3) LL fun t109 =>
                wq_bd (f_X9_value (X t107) (X t108) (X t109) (wq_mdl S105)) fun r110 S111 =>
                wq_lt (wq_emb 284 32 S105 S111) fun S112 =>
                wq_bd (f_X9_thrown (wq_mdl S112)) fun r113 S114 =>
                wq_lt (wq_emb 284 32 S112 S114) fun S115 =>
                if wq_w r113 = wq_w r104 then
                  if wq_w r104 = 0 then
                    wq_ix 0 1 fun t116 =>
                    if wq_w (wq_cmp (S115 316 t116) (wq_w r110)) = 0 then
                      rec (y4 + 6) S115
                    else
                      some (0, S115)
                  else
                    rec (y4 + 6) S115
                else
                  some (0, S115)
              else
                if wq_w (wq_and (X t1) 63) = 6 then
                  wq_ix (y4 + 1) LL fun t117 =>
                  wq_ix (y4 + 2) LL fun t118 =>
                  wq_bd (f_L_renew (X t117) (X t118) S) fun r119 S120 =>
                  wq_ix (y4 + 1) LL fun t122 =>
                  wq_ix (y4 + 2) LL fun t123 =>
                  wq_bd (f_X9_renew (X t122) (X t123) (wq_mdl S120)) fun r124 S125 =>
                  wq_lt (wq_emb 284 32 S120 S125) fun S126 =>
                  wq_bd (f_X9_thrown (wq_mdl S126)) fun r127 S128 =>
                  wq_lt (wq_emb 284 32 S126 S128) fun S129 =>
                  if wq_w r127 = wq_w r119 then
                    if wq_w r119 = 0 then
                      wq_ix 0 1 fun t130 =>
                      if wq_w (wq_cmp (S129 316 t130) (wq_w r124)) = 0 then
                        rec (y4 + 6) S129
                      else
                        some (0, S129)
                    else
                      rec (y4 + 6) S129
                  else
                    some (0, S129)
                else
                  if wq_w (wq_and (X t1) 63) = 7 then
                    wq_ix (y4 + 1) LL fun t131 =>
                    wq_bd (f_L_setStep (X t131) S) fun r132 S133 =>
                    wq_ix (y4 + 1) LL fun t135 =>
                    wq_bd (f_X9_setStep (X t135) (wq_mdl S133)) fun r136 S137 =>
                    wq_lt (wq_emb 284 32 S133 S137) fun S138 =>
                    wq_bd (f_X9_thrown (wq_mdl S138)) fun r139 S140 =>
                    wq_lt (wq_emb 284 32 S138 S140) fun S141 =>
                    if wq_w r139 = wq_w r132 then
                      if wq_w r132 = 0 then
                        wq_ix 0 1 fun t142 =>
                        if wq_w (wq_cmp (S141 316 t142) (wq_w r136)) = 0 then
                          rec (y4 + 6) S141
                        else
                          some (0, S141)
                      else
                        rec (y4 + 6) S141
                    else
                      some (0, S141)
                  else
                    if wq_w (wq_and (X t1) 63) = 8 then
                      wq_ix (y4 + 1) LL fun t143 =>
                      wq_bd (f_L_toldRows (X t143) S) fun r144 S145 =>
                      wq_ix (y4 + 1) LL fun t147 =>
                      wq_bd (f_X9_toldRows (X t147) (wq_mdl S145)) fun r148 S149 =>
                      wq_lt (wq_emb 284 32 S145 S149) fun S150 =>
                      wq_bd (f_X9_thrown (wq_mdl S150)) fun r151 S152 =>
                      wq_lt (wq_emb 284 32 S150 S152) fun S153 =>
                      if wq_w r151 = wq_w r144 then
                        if wq_w r144 = 0 then
                          wq_ix 0 1 fun t154 =>
                          if wq_w (wq_cmp (S153 316 t154) (wq_w r148)) = 0 then
                            rec (y4 + 6) S153
                          else
                            some (0, S153)
                        else
                          rec (y4 + 6) S153
                      else
                        some (0, S153)
                    else
                      if wq_w (wq_and (X t1) 63) = 9 then
                        wq_ix (y4 + 1) LL fun t155 =>
                        wq_ix (y4 + 2) LL fun t156 =>
                        wq_bd (f_L_unlike (X t155) (X t156) S) fun r157 S158 =>
                        wq_ix (y4 + 1) LL fun t160 =>
                        wq_ix (y4 + 2) LL fun t161 =>
                        wq_bd (f_X9_unlike (X t160) (X t161) (wq_mdl S158)) fun r162 S163 =>
                        wq_lt (wq_emb 284 32 S158 S163) fun S164 =>
                        wq_bd (f_X9_thrown (wq_mdl S164)) fun r165 S166 =>
                        wq_lt (wq_emb 284 32 S164 S166) fun S167 =>
                        if wq_w r165 = wq_w r157 then
                          if wq_w r157 = 0 then
                            wq_ix 0 1 fun t168 =>
                            if wq_w (wq_cmp (S167 316 t168) (wq_w r162)) = 0 then
                              rec (y4 + 6) S167
                            else
                              some (0, S167)
                          else
                            rec (y4 + 6) S167
                        else
                          some (0, S167)
                      else
                        if wq_w (wq_and (X t1) 63) = 10 then
                          wq_ix (y4 + 1) LL fun t169 =>
                          wq_ix (y4 + 2) LL fun t170 =>
                          wq_bd (f_L_least (X t169) (X t170) S) fun r171 S172 =>
                          wq_ix (y4 + 1) LL fun t174 =>
                          wq_ix (y4 + 2) LL fun t175 =>
                          wq_bd (f_X9_least (X t174) (X t175) (wq_mdl S172)) fun r176 S177 =>
                          wq_lt (wq_emb 284 32 S172 S177) fun S178 =>
                          wq_bd (f_X9_thrown (wq_mdl S178)) fun r179 S180 =>
                          wq_lt (wq_emb 284 32 S178 S180) fun S181 =>
                          if wq_w r179 = wq_w r171 then
                            if wq_w r171 = 0 then
                              wq_ix 0 1 fun t182 =>
                              if wq_w (wq_cmp (S181 316 t182) (wq_w r176)) = 0 then
                                rec (y4 + 6) S181
                              else
                                some (0, S181)
                            else
                              rec (y4 + 6) S181
                          else
                            some (0, S181)
                        else
                          if wq_w (wq_and (X t1) 63) = 11 then
                            wq_ix (y4 + 1) LL fun t183 =>
                            wq_ix (y4 + 2) LL fun t184 =>
                            wq_bd (f_L_greatest (X t183) (X t184) S) fun r185 S186 =>
                            wq_ix (y4 + 1) LL fun t188 =>
                            wq_ix (y4 + 2) LL fun t189 =>
                            wq_bd (f_X9_greatest (X t188) (X t189) (wq_mdl S186)) fun r190 S191 =>
                            wq_lt (wq_emb 284 32 S186 S191) fun S192 =>
                            wq_bd (f_X9_thrown (wq_mdl S192)) fun r193 S194 =>
                            wq_lt (wq_emb 284 32 S192 S194) fun S195 =>
                            if wq_w r193 = wq_w r185 then
                              if wq_w r185 = 0 then
                                wq_ix 0 1 fun t196 =>
                                if wq_w (wq_cmp (S195 316 t196) (wq_w r190)) = 0 then
                                  rec (y4 + 6) S195
                                else
                                  some (0, S195)
                              else
                                rec (y4 + 6) S195
                            else
                              some (0, S195)
                          else
                            if wq_w (wq_and (X t1) 63) = 12 then
                              wq_ix (y4 + 1) LL fun t197 =>
                              wq_bd (f_L_isMarked (X t197) S) fun r198 S199 =>
                              wq_ix (y4 + 1) LL fun t201 =>
                              wq_bd (f_X9_isMarked (X t201) (wq_mdl S199)) fun r202 S203 =>
                              wq_lt (wq_emb 284 32 S199 S203) fun S204 =>
                              wq_bd (f_X9_thrown (wq_mdl S204)) fun r205 S206 =>
                              wq_lt (wq_emb 284 32 S204 S206) fun S207 =>
                              if wq_w r205 = wq_w r198 then
                                if wq_w r198 = 0 then
                                  wq_ix 0 1 fun t208 =>
                                  if wq_w r202 = 0 then
                                    if wq_w (wq_cmp (S207 316 t208) 0) = 0 then
                                      rec (y4 + 6) S207
                                    else
                                      some (0, S207)
                                  else
                                    if wq_w (wq_cmp (S207 316 t208) 1) = 0 then
                                      rec (y4 + 6) S207
                                    else
                                      some (0, S207)
                                else
                                  rec (y4 + 6) S207
                              else
                                some (0, S207)
                            else
                              if wq_w (wq_and (X t1) 63) = 13 then
                                wq_ix (y4 + 1) LL fun t209 =>
                                wq_bd (f_L_addReport (X t209) S) fun r210 S211 =>
                                wq_ix (y4 + 1) LL fun t213 =>
                                wq_bd (f_X9_addReport (X t213) (wq_mdl S211)) fun r214 S215 =>
                                wq_lt (wq_emb 284 32 S211 S215) fun S216 =>
                                wq_bd (f_X9_thrown (wq_mdl S216)) fun r217 S218 =>
                                wq_lt (wq_emb 284 32 S216 S218) fun S219 =>
                                if wq_w r217 = wq_w r210 then
                                  if wq_w r210 = 0 then
                                    wq_ix 0 1 fun t220 =>
                                    if wq_w (wq_cmp (S219 316 t220) (wq_w r214)) = 0 then
                                      rec (y4 + 6) S219
                                    else
                                      some (0, S219)
                                  else
                                    rec (y4 + 6) S219
                                else
                                  some (0, S219)
                              else
                                if wq_w (wq_and (X t1) 63) = 14 then
                                  wq_ix (y4 + 1) LL fun t221 =>
                                  wq_ix (y4 + 2) LL fun t222 =>
                                  wq_bd (f_L_addSource (X t221) (X t222) S) fun r223 S224 =>
                                  wq_ix (y4 + 1) LL fun t226 =>
                                  wq_ix (y4 + 2) LL fun t227 =>
                                  wq_bd (f_X9_addSource (X t226) (X t227) (wq_mdl S224)) fun r228 S229 =>
                                  wq_lt (wq_emb 284 32 S224 S229) fun S230 =>
                                  wq_bd (f_X9_thrown (wq_mdl S230)) fun r231 S232 =>
                                  wq_lt (wq_emb 284 32 S230 S232) fun S233 =>
                                  if wq_w r231 = wq_w r223 then
                                    if wq_w r223 = 0 then
                                      wq_ix 0 1 fun t234 =>
                                      if wq_w (wq_cmp (S233 316 t234) (wq_w r228)) = 0 then
                                        rec (y4 + 6) S233
                                      else
                                        some (0, S233)
                                    else
                                      rec (y4 + 6) S233
                                  else
                                    some (0, S233)
                                else
                                  if wq_w (wq_and (X t1) 63) = 15 then
                                    wq_ix (y4 + 1) LL fun t235 =>
                                    wq_ix (y4 + 2) LL fun t236 =>
                                    wq_ix (y4 + 3) LL fun t237 =>
                                    wq_ix (y4 + 4) LL fun t238 =>
                                    wq_ix (y4 + 5) LL fun t239 =>
                                    wq_bd (f_L_addCondition (X t235) (X t236) (X t237) (X t238) (X t239) S) fun r240 S241 =>
                                    wq_ix (y4 + 1) LL fun t243 =>
                                    wq_ix (y4 + 2) LL fun t244 =>
                                    wq_ix (y4 + 3) LL fun t245 =>
                                    wq_ix (y4 + 4) LL fun t246 =>
                                    wq_ix (y4 + 5) LL fun t247 =>
                                    wq_bd (f_X9_addCondition (X t243) (X t244) (X t245) (X t246) (X t247) (wq_mdl S241)) fun r248 S249 =>
                                    wq_lt (wq_emb 284 32 S241 S249) fun S250 =>
                                    wq_bd (f_X9_thrown (wq_mdl S250)) fun r251 S252 =>
                                    wq_lt (wq_emb 284 32 S250 S252) fun S253 =>
                                    if wq_w r251 = wq_w r240 then
                                      if wq_w r240 = 0 then
                                        wq_ix 0 1 fun t254 =>
                                        if wq_w (wq_cmp (S253 316 t254) (wq_w r248)) = 0 then
                                          rec (y4 + 6) S253
                                        else
                                          some (0, S253)
                                      else
                                        rec (y4 + 6) S253
                                    else
                                      some (0, S253)
                                  else
                                    if wq_w (wq_and (X t1) 63) = 16 then
                                      wq_ix (y4 + 1) LL fun t255 =>
                                      wq_ix (y4 + 2) LL fun t256 =>
                                      wq_ix (y4 + 3) LL fun t257 =>
                                      wq_ix (y4 + 4) LL fun t258 =>
                                      wq_ix (y4 + 5) LL fun t259 =>
                                      wq_bd (f_L_addJoin (X t255) (X t256) (X t257) (X t258) (X t259) S) fun r260 S261 =>
                                      wq_ix (y4 + 1) LL fun t263 =>
                                      wq_ix (y4 + 2) LL fun t264 =>
                                      wq_ix (y4 + 3) LL fun t265 =>
                                      wq_ix (y4 + 4) LL fun t266 =>
                                      wq_ix (y4 + 5) LL fun t267 =>
                                      wq_bd (f_X9_addJoin (X t263) (X t264) (X t265) (X t266) (X t267) (wq_mdl S261)) fun r268 S269 =>
                                      wq_lt (wq_emb 284 32 S261 S269) fun S270 =>
                                      wq_bd (f_X9_thrown (wq_mdl S270)) fun r271 S272 =>
                                      wq_lt (wq_emb 284 32 S270 S272) fun S273 =>
                                      if wq_w r271 = wq_w r260 then
                                        if wq_w r260 = 0 then
                                          wq_ix 0 1 fun t274 =>
                                          if wq_w (wq_cmp (S273 316 t274) (wq_w r268)) = 0 then
                                            rec (y4 + 6) S273
                                          else
                                            some (0, S273)
                                        else
                                          rec (y4 + 6) S273
                                      else
                                        some (0, S273)
                                    else
                                      if wq_w (wq_and (X t1) 63) = 17 then
                                        wq_ix (y4 + 1) LL fun t275 =>
                                        wq_bd (f_L_dropCondition (X t275) S) fun r276 S277 =>
                                        wq_ix (y4 + 1) LL fun t279 =>
                                        wq_bd (f_X9_dropCondition (X t279) (wq_mdl S277)) fun r280 S281 =>
                                        wq_lt (wq_emb 284 32 S277 S281) fun S282 =>
                                        wq_bd (f_X9_thrown (wq_mdl S282)) fun r283 S284 =>
                                        wq_lt (wq_emb 284 32 S282 S284) fun S285 =>
                                        if wq_w r283 = wq_w r276 then
                                          if wq_w r276 = 0 then
                                            wq_ix 0 1 fun t286 =>
                                            if wq_w (wq_cmp (S285 316 t286) (wq_w r280)) = 0 then
                                              rec (y4 + 6) S285
                                            else
                                              some (0, S285)
                                          else
                                            rec (y4 + 6) S285
                                        else
                                          some (0, S285)
                                      else
                                        if wq_w (wq_and (X t1) 63) = 18 then
                                          wq_ix (y4 + 1) LL fun t287 =>
                                          wq_ix (y4 + 2) LL fun t288 =>
                                          wq_ix (y4 + 3) LL fun t289 =>
                                          wq_bd (f_L_setSum (X t287) (X t288) (X t289) S) fun r290 S291 =>
                                          wq_ix (y4 + 1) LL fun t293 =>
                                          wq_ix (y4 + 2) LL fun t294 =>
                                          wq_ix (y4 + 3) LL fun t295 =>
                                          wq_bd (f_X9_setSum (X t293) (X t294) (X t295) (wq_mdl S291)) fun r296 S297 =>
                                          wq_lt (wq_emb 284 32 S291 S297) fun S298 =>
                                          wq_bd (f_X9_thrown (wq_mdl S298)) fun r299 S300 =>
                                          wq_lt (wq_emb 284 32 S298 S300) fun S301 =>
                                          if wq_w r299 = wq_w r290 then
                                            rec (y4 + 6) S301
                                          else
                                            some (0, S301)
                                        else
                                          if wq_w (wq_and (X t1) 63) = 19 then
                                            wq_ix (y4 + 1) LL fun t302 =>
                                            wq_ix (y4 + 2) LL fun t303 =>
                                            if wq_w (X t303) = 0 then
                                              wq_bd (f_L_setDue (X t302) 0 S) fun r304 S305 =>
                                              wq_ix (y4 + 1) LL fun t307 =>
                                              wq_ix (y4 + 2) LL fun t308 =>
                                              if wq_w (X t308) = 0 then
                                                wq_bd (f_X9_setDue (X t307) 0 (wq_mdl S305)) fun r309 S310 =>
                                                wq_lt (wq_emb 284 32 S305 S310) fun S311 =>
                                                wq_bd (f_X9_thrown (wq_mdl S311)) fun r312 S313 =>
                                                wq_lt (wq_emb 284 32 S311 S313) fun S314 =>
                                                if wq_w r312 = wq_w r304 then
                                                  if wq_w r304 = 0 then
                                                    wq_ix 0 1 fun t315 =>
                                                    if wq_w r309 = 0 then
                                                      if wq_w (wq_cmp (S314 316 t315) 0) = 0 then
                                                        rec (y4 + 6) S314
                                                      else
                                                        some (0, S314)
                                                    else
                                                      if wq_w (wq_cmp (S314 316 t315) 1) = 0 then
                                                        rec (y4 + 6) S314
                                                      else
                                                        some (0, S314)
                                                  else
                                                    rec (y4 + 6) S314
                                                else
                                                  some (0, S314)
                                              else
                                                wq_bd (f_X9_setDue (X t307) 1 (wq_mdl S305)) fun r316 S317 =>
                                                wq_lt (wq_emb 284 32 S305 S317) fun S318 =>
                                                wq_bd (f_X9_thrown (wq_mdl S318)) fun r319 S320 =>
                                                wq_lt (wq_emb 284 32 S318 S320) fun S321 =>
                                                if wq_w r319 = wq_w r304 then
                                                  if wq_w r304 = 0 then
                                                    wq_ix 0 1 fun t322 =>
                                                    if wq_w r316 = 0 then
                                                      if wq_w (wq_cmp (S321 316 t322) 0) = 0 then
                                                        rec (y4 + 6) S321
                                                      else
                                                        some (0, S321)
                                                    else
                                                      if wq_w (wq_cmp (S321 316 t322) 1) = 0 then
                                                        rec (y4 + 6) S321
                                                      else
                                                        some (0, S321)
                                                  else
                                                    rec (y4 + 6) S321
                                                else
                                                  some (0, S321)
                                            else
                                              wq_bd (f_L_setDue (X t302) 1 S) fun r323 S324 =>
                                              wq_ix (y4 + 1) LL fun t326 =>
                                              wq_ix (y4 + 2) LL fun t327 =>
                                              if wq_w (X t327) = 0 then
                                                wq_bd (f_X9_setDue (X t326) 0 (wq_mdl S324)) fun r328 S329 =>
                                                wq_lt (wq_emb 284 32 S324 S329) fun S330 =>
                                                wq_bd (f_X9_thrown (wq_mdl S330)) fun r331 S332 =>
                                                wq_lt (wq_emb 284 32 S330 S332) fun S333 =>
                                                if wq_w r331 = wq_w r323 then
                                                  if wq_w r323 = 0 then
                                                    wq_ix 0 1 fun t334 =>
                                                    if wq_w r328 = 0 then
                                                      if wq_w (wq_cmp (S333 316 t334) 0) = 0 then
                                                        rec (y4 + 6) S333
                                                      else
                                                        some (0, S333)
                                                    else
                                                      if wq_w (wq_cmp (S333 316 t334) 1) = 0 then
                                                        rec (y4 + 6) S333
                                                      else
                                                        some (0, S333)
                                                  else
                                                    rec (y4 + 6) S333
                                                else
                                                  some (0, S333)
                                              else
                                                wq_bd (f_X9_setDue (X t326) 1 (wq_mdl S324)) fun r335 S336 =>
                                                wq_lt (wq_emb 284 32 S324 S336) fun S337 =>
                                                wq_bd (f_X9_thrown (wq_mdl S337)) fun r338 S339 =>
                                                wq_lt (wq_emb 284 32 S337 S339) fun S340 =>
                                                if wq_w r338 = wq_w r323 then
                                                  if wq_w r323 = 0 then
                                                    wq_ix 0 1 fun t341 =>
                                                    if wq_w r335 = 0 then
                                                      if wq_w (wq_cmp (S340 316 t341) 0) = 0 then
                                                        rec (y4 + 6) S340
                                                      else
                                                        some (0, S340)
                                                    else
                                                      if wq_w (wq_cmp (S340 316 t341) 1) = 0 then
                                                        rec (y4 + 6) S340
                                                      else
                                                        some (0, S340)
                                                  else
                                                    rec (y4 + 6) S340
                                                else
                                                  some (0, S340)
                                          else
                                            if wq_w (wq_and (X t1) 63) = 20 then
                                              wq_ix (y4 + 1) LL fun t342 =>
                                              wq_bd (f_L_isDue (X t342) S) fun r343 S344 =>
                                              wq_ix (y4 + 1) LL fun t346 =>
                                              wq_bd (f_X9_isDue (X t346) (wq_mdl S344)) fun r347 S348 =>
                                              wq_lt (wq_emb 284 32 S344 S348) fun S349 =>
                                              wq_bd (f_X9_thrown (wq_mdl S349)) fun r350 S351 =>
                                              wq_lt (wq_emb 284 32 S349 S351) fun S352 =>
                                              if wq_w r350 = wq_w r343 then
                                                if wq_w r343 = 0 then
                                                  wq_ix 0 1 fun t353 =>
                                                  if wq_w r347 = 0 then
                                                    if wq_w (wq_cmp (S352 316 t353) 0) = 0 then
                                                      rec (y4 + 6) S352
                                                    else
                                                      some (0, S352)
                                                  else
                                                    if wq_w (wq_cmp (S352 316 t353) 1) = 0 then
                                                      rec (y4 + 6) S352
                                                    else
                                                      some (0, S352)
                                                else
                                                  rec (y4 + 6) S352
                                              else
                                                some (0, S352)
                                            else
                                              if wq_w (wq_and (X t1) 63) = 21 then
                                                wq_ix (y4 + 1) LL fun t354 =>
                                                wq_ix (y4 + 2) LL fun t355 =>
                                                wq_bd (f_L_planSource (X t354) (X t355) S) fun r356 S357 =>
                                                wq_ix (y4 + 1) LL fun t359 =>
                                                wq_ix (y4 + 2) LL fun t360 =>
                                                wq_bd (f_X9_planSource (X t359) (X t360) (wq_mdl S357)) fun r361 S362 =>
                                                wq_lt (wq_emb 284 32 S357 S362) fun S363 =>
                                                wq_bd (f_X9_thrown (wq_mdl S363)) fun r364 S365 =>
                                                wq_lt (wq_emb 284 32 S363 S365) fun S366 =>
                                                if wq_w r364 = wq_w r356 then
                                                  if wq_w r356 = 0 then
                                                    wq_ix 0 1 fun t367 =>
                                                    if wq_w (wq_cmp (S366 316 t367) (wq_w r361)) = 0 then
                                                      rec (y4 + 6) S366
                                                    else
                                                      some (0, S366)
                                                  else
                                                    rec (y4 + 6) S366
                                                else
                                                  some (0, S366)
                                              else
                                                if wq_w (wq_and (X t1) 63) = 22 then
                                                  wq_ix (y4 + 1) LL fun t368 =>
                                                  wq_ix (y4 + 2) LL fun t369 =>
                                                  wq_bd (f_L_planWay (X t368) (X t369) S) fun r370 S371 =>
                                                  wq_ix (y4 + 1) LL fun t373 =>
                                                  wq_ix (y4 + 2) LL fun t374 =>
                                                  wq_bd (f_X9_planWay (X t373) (X t374) (wq_mdl S371)) fun r375 S376 =>
                                                  wq_lt (wq_emb 284 32 S371 S376) fun S377 =>
                                                  wq_bd (f_X9_thrown (wq_mdl S377)) fun r378 S379 =>
                                                  wq_lt (wq_emb 284 32 S377 S379) fun S380 =>
                                                  if wq_w r378 = wq_w r370 then
                                                    if wq_w r370 = 0 then
                                                      wq_ix 0 1 fun t381 =>
                                                      if wq_w (wq_cmp (S380 316 t381) (wq_w r375)) = 0 then
                                                        rec (y4 + 6) S380
                                                      else
                                                        some (0, S380)
                                                    else
                                                      rec (y4 + 6) S380
                                                  else
                                                    some (0, S380)
                                                else
                                                  if wq_w (wq_and (X t1) 63) = 23 then
                                                    wq_ix (y4 + 1) LL fun t382 =>
                                                    wq_bd (f_L_foretold (X t382) S) fun r383 S384 =>
                                                    wq_ix (y4 + 1) LL fun t386 =>
                                                    wq_bd (f_X9_foretold (X t386) (wq_mdl S384)) fun r387 S388 =>
                                                    wq_lt (wq_emb 284 32 S384 S388) fun S389 =>
                                                    wq_bd (f_X9_thrown (wq_mdl S389)) fun r390 S391 =>
                                                    wq_lt (wq_emb 284 32 S389 S391) fun S392 =>
                                                    if wq_w r390 = wq_w r383 then
                                                      if wq_w r383 = 0 then
                                                        wq_ix 0 1 fun t393 =>
                                                        if wq_w (wq_cmp (S392 316 t393) (wq_w r387)) = 0 then
                                                          rec (y4 + 6) S392
                                                        else
                                                          some (0, S392)
                                                      else
                                                        rec (y4 + 6) S392
                                                    else
                                                      some (0, S392)
                                                  else
                                                    if wq_w (wq_and (X t1) 63) = 24 then
                                                      wq_ix (y4 + 1) LL fun t394 =>
                                                      wq_bd (f_L_minutes (X t394) S) fun r395 S396 =>
                                                      wq_ix (y4 + 1) LL fun t398 =>
                                                      wq_bd (f_X9_minutes (X t398) (wq_mdl S396)) fun r399 S400 =>
                                                      wq_lt (wq_emb 284 32 S396 S400) fun S401 =>
                                                      wq_bd (f_X9_thrown (wq_mdl S401)) fun r402 S403 =>
                                                      wq_lt (wq_emb 284 32 S401 S403) fun S404 =>
                                                      if wq_w r402 = wq_w r395 then
                                                        if wq_w r395 = 0 then
                                                          wq_ix 0 1 fun t405 =>
                                                          if wq_w (wq_cmp (S404 316 t405) (wq_w r399)) = 0 then
                                                            rec (y4 + 6) S404
                                                          else
                                                            some (0, S404)
                                                        else
                                                          rec (y4 + 6) S404
                                                      else
                                                        some (0, S404)
                                                    else
                                                      if wq_w (wq_and (X t1) 63) = 25 then
                                                        wq_ix (y4 + 1) LL fun t406 =>
                                                        wq_bd (f_L_answer (X t406) S) fun r407 S408 =>
                                                        wq_ix (y4 + 1) LL fun t410 =>
                                                        wq_bd (f_X9_answer (X t410) (wq_mdl S408)) fun r411 S412 =>
                                                        wq_lt (wq_emb 284 32 S408 S412) fun S413 =>
                                                        wq_bd (f_X9_thrown (wq_mdl S413)) fun r414 S415 =>
                                                        wq_lt (wq_emb 284 32 S413 S415) fun S416 =>
                                                        if wq_w r414 = wq_w r407 then
                                                          if wq_w r407 = 0 then
                                                            wq_ix 0 1 fun t417 =>
                                                            if wq_w (wq_cmp (S416 316 t417) (wq_w r411)) = 0 then
                                                              rec (y4 + 6) S416
                                                            else
                                                              some (0, S416)
                                                          else
                                                            rec (y4 + 6) S416
                                                        else
                                                          some (0, S416)
                                                      else
                                                        if wq_w (wq_and (X t1) 63) = 26 then
                                                          wq_ix (y4 + 1) LL fun t418 =>
                                                          wq_bd (f_L_sum (X t418) S) fun r419 S420 =>
                                                          wq_ix (y4 + 1) LL fun t422 =>
                                                          wq_bd (f_X9_sum (X t422) (wq_mdl S420)) fun r423 S424 =>
                                                          wq_lt (wq_emb 284 32 S420 S424) fun S425 =>
                                                          wq_bd (f_X9_thrown (wq_mdl S425)) fun r426 S427 =>
                                                          wq_lt (wq_emb 284 32 S425 S427) fun S428 =>
                                                          if wq_w r426 = wq_w r419 then
                                                            if wq_w r419 = 0 then
                                                              wq_ix 0 1 fun t429 =>
                                                              if wq_w (wq_cmp (S428 316 t429) (wq_w r423)) = 0 then
                                                                rec (y4 + 6) S428
                                                              else
                                                                some (0, S428)
                                                            else
                                                              rec (y4 + 6) S428
                                                          else
                                                            some (0, S428)
                                                        else
                                                          if wq_w (wq_and (X t1) 63) = 27 then
                                                            wq_ix (y4 + 1) LL fun t430 =>
                                                            wq_bd (f_L_plainAnswer (X t430) S) fun r431 S432 =>
                                                            wq_ix (y4 + 1) LL fun t434 =>
                                                            wq_bd (f_X9_plainAnswer (X t434) (wq_mdl S432)) fun r435 S436 =>
                                                            wq_lt (wq_emb 284 32 S432 S436) fun S437 =>
                                                            wq_bd (f_X9_thrown (wq_mdl S437)) fun r438 S439 =>
                                                            wq_lt (wq_emb 284 32 S437 S439) fun S440 =>
                                                            if wq_w r438 = wq_w r431 then
                                                              if wq_w r431 = 0 then
                                                                wq_ix 0 1 fun t441 =>
                                                                if wq_w (wq_cmp (S440 316 t441) (wq_w r435)) = 0 then
                                                                  rec (y4 + 6) S440
                                                                else
                                                                  some (0, S440)
                                                              else
                                                                rec (y4 + 6) S440
                                                            else
                                                              some (0, S440)
                                                          else
                                                            if wq_w (wq_and (X t1) 63) = 28 then
                                                              wq_ix (y4 + 1) LL fun t442 =>
                                                              wq_bd (f_L_plainSum (X t442) S) fun r443 S444 =>
                                                              wq_ix (y4 + 1) LL fun t446 =>
                                                              wq_bd (f_X9_plainSum (X t446) (wq_mdl S444)) fun r447 S448 =>
                                                              wq_lt (wq_emb 284 32 S444 S448) fun S449 =>
                                                              wq_bd (f_X9_thrown (wq_mdl S449)) fun r450 S451 =>
                                                              wq_lt (wq_emb 284 32 S449 S451) fun S452 =>
                                                              if wq_w r450 = wq_w r443 then
                                                                if wq_w r443 = 0 then
                                                                  wq_ix 0 1 fun t453 =>
                                                                  if wq_w (wq_cmp (S452 316 t453) (wq_w r447)) = 0 then
                                                                    rec (y4 + 6) S452
                                                                  else
                                                                    some (0, S452)
                                                                else
                                                                  rec (y4 + 6) S452
                                                              else
                                                                some (0, S452)
                                                            else
                                                              if wq_w (wq_and (X t1) 63) = 29 then
                                                                wq_ix (y4 + 1) LL fun t454 =>
                                                                wq_bd (f_L_night (X t454) S) fun r455 S456 =>
                                                                wq_ix (y4 + 1) LL fun t458 =>
                                                                wq_bd (f_X9_night (X t458) (wq_mdl S456)) fun r459 S460 =>
                                                                wq_lt (wq_emb 284 32 S456 S460) fun S461 =>
                                                                wq_bd (f_X9_thrown (wq_mdl S461)) fun r462 S463 =>
                                                                wq_lt (wq_emb 284 32 S461 S463) fun S464 =>
                                                                if wq_w r462 = wq_w r455 then
                                                                  if wq_w r455 = 0 then
                                                                    wq_ix 0 1 fun t465 =>
                                                                    if wq_w (wq_cmp (S464 316 t465) (wq_w r459)) = 0 then
                                                                      rec (y4 + 6) S464
                                                                    else
                                                                      some (0, S464)
                                                                  else
                                                                    rec (y4 + 6) S464
                                                                else
                                                                  some (0, S464)
                                                              else
                                                                if wq_w (wq_and (X t1) 63) = 30 then
                                                                  wq_bd (f_X8_nights (wq_cls S)) fun r466 S467 =>
                                                                  wq_lt (wq_emb 0 284 S S467) fun S468 =>
                                                                  wq_bd (f_X9_nights (wq_mdl S468)) fun r469 S470 =>
                                                                  wq_lt (wq_emb 284 32 S468 S470) fun S471 =>
                                                                  if wq_w r466 = wq_w r469 then
                                                                    rec (y4 + 6) S471
                                                                  else
                                                                    some (0, S471)
                                                                else
                                                                  if wq_w (wq_and (X t1) 63) = 31 then
                                                                    wq_bd (f_X8_paid (wq_cls S)) fun r472 S473 =>
                                                                    wq_lt (wq_emb 0 284 S S473) fun S474 =>
                                                                    wq_bd (f_X9_paid (wq_mdl S474)) fun r475 S476 =>
                                                                    wq_lt (wq_emb 284 32 S474 S476) fun S477 =>
                                                                    if wq_w r472 = wq_w r475 then
                                                                      rec (y4 + 6) S477
                                                                    else
                                                                      some (0, S477)
                                                                  else
                                                                    if wq_w (wq_and (X t1) 63) = 32 then
                                                                      wq_bd (f_X8_left (wq_cls S)) fun r478 S479 =>
                                                                      wq_lt (wq_emb 0 284 S S479) fun S480 =>
                                                                      wq_bd (f_X9_left (wq_mdl S480)) fun r481 S482 =>
                                                                      wq_lt (wq_emb 284 32 S480 S482) fun S483 =>
                                                                      if wq_w r478 = wq_w r481 then
                                                                        rec (y4 + 6) S483
                                                                      else
                                                                        some (0, S483)
                                                                    else
                                                                      if wq_w (wq_and (X t1) 63) = 33 then
                                                                        wq_bd (f_X8_owed (wq_cls S)) fun r484 S485 =>
                                                                        wq_lt (wq_emb 0 284 S S485) fun S486 =>
                                                                        wq_bd (f_X9_owed (wq_mdl S486)) fun r487 S488 =>
                                                                        wq_lt (wq_emb 284 32 S486 S488) fun S489 =>
                                                                        if wq_w r484 = wq_w r487 then
                                                                          rec (y4 + 6) S489
                                                                        else
                                                                          some (0, S489)
                                                                      else
                                                                        if wq_w (wq_and (X t1) 63) = 34 then
                                                                          wq_ix (y4 + 1) LL fun t490 =>
                                                                          wq_bd (f_L_kept (X t490) S) fun r491 S492 =>
                                                                          wq_ix (y4 + 1) LL fun t494 =>
                                                                          wq_bd (f_X9_kept (X t494) (wq_mdl S492)) fun r495 S496 =>
                                                                          wq_lt (wq_emb 284 32 S492 S496) fun S497 =>
                                                                          wq_bd (f_X9_thrown (wq_mdl S497)) fun r498 S499 =>
                                                                          wq_lt (wq_emb 284 32 S497 S499) fun S500 =>
                                                                          if wq_w r498 = wq_w r491 then
                                                                            if wq_w r491 = 0 then
                                                                              wq_ix 0 1 fun t501 =>
                                                                              if wq_w (wq_cmp (S500 316 t501) (wq_w r495)) = 0 then
                                                                                rec (y4 + 6) S500
                                                                              else
                                                                                some (0, S500)
                                                                            else
                                                                              rec (y4 + 6) S500
                                                                          else
                                                                            some (0, S500)
                                                                        else
                                                                          if wq_w (wq_and (X t1) 63) = 35 then
                                                                            wq_ix (y4 + 1) LL fun t502 =>
                                                                            wq_bd (f_L_keptSum (X t502) S) fun r503 S504 =>
                                                                            wq_ix (y4 + 1) LL fun t506 =>
                                                                            wq_bd (f_X9_keptSum (X t506) (wq_mdl S504)) fun r507 S508 =>
                                                                            wq_lt (wq_emb 284 32 S504 S508) fun S509 =>
                                                                            wq_bd (f_X9_thrown (wq_mdl S509)) fun r510 S511 =>
                                                                            wq_lt (wq_emb 284 32 S509 S511) fun S512 =>
                                                                            if wq_w r510 = wq_w r503 then
                                                                              if wq_w r503 = 0 then
                                                                                wq_ix 0 1 fun t513 =>
                                                                                if wq_w (wq_cmp (S512 316 t513) (wq_w r507)) = 0 then
                                                                                  rec (y4 + 6) S512
                                                                                else
                                                                                  some (0, S512)
                                                                              else
                                                                                rec (y4 + 6) S512
                                                                            else
                                                                              some (0, S512)
                                                                          else
                                                                            if wq_w (wq_and (X t1) 63) = 36 then
                                                                              wq_ix (y4 + 1) LL fun t514 =>
                                                                              wq_bd (f_L_keptIn (X t514) S) fun r515 S516 =>
                                                                              wq_ix (y4 + 1) LL fun t518 =>
                                                                              wq_bd (f_X9_keptIn (X t518) (wq_mdl S516)) fun r519 S520 =>
                                                                              wq_lt (wq_emb 284 32 S516 S520) fun S521 =>
                                                                              wq_bd (f_X9_thrown (wq_mdl S521)) fun r522 S523 =>
                                                                              wq_lt (wq_emb 284 32 S521 S523) fun S524 =>
                                                                              if wq_w r522 = wq_w r515 then
                                                                                if wq_w r515 = 0 then
                                                                                  wq_ix 0 1 fun t525 =>
                                                                                  if wq_w (wq_cmp (S524 316 t525) (wq_w r519)) = 0 then
                                                                                    rec (y4 + 6) S524
                                                                                  else
                                                                                    some (0, S524)
                                                                                else
                                                                                  rec (y4 + 6) S524
                                                                              else
                                                                                some (0, S524)
                                                                            else
                                                                              rec (y4 + 6) S
def l_L_law (X : Nat → Int) (LL : Nat) (kx : wq_St → Option (Int × wq_St)) : Nat → Int → wq_St → Option (Int × wq_St)
  | 0, _, _ => none
  | n + 1, y4, S => b_L_law X LL kx (l_L_law X LL kx n) y4 S
def wq_S0 : wq_St := fun k j => if k = 282 ∧ j = 5 then 1 else if 199 ≤ k ∧ k < 271 ∧ (k - 199) % 9 = 0 ∧ (j = 5 ∨ j = 8 ∨ j = 9 ∨ j = 10) then -1 else 0
def wq_M0 : wq_St := fun k j => if k = 0 ∧ j = 11 then 1 else 0
def wq_SL0 : wq_St := fun k => if k < 284 then wq_S0 k else if k < 316 then wq_M0 (k - 284) else fun _ => 0
end
section
/-! THE MATHEMATICS. Tools for evaluating pictures -/
theorem wy_ix {α : Type} {i : Int} {n : Nat} {k : Nat → Option α} (h0 : 0 ≤ i) (h1 : i < (n : Int)) (h2 : n < 2147483648) : wq_ix i n k = k i.toNat :=
  wq_ix_t i.toNat (by omega) (by omega) h2
theorem wy_set_ne {S : wq_St} {k j a i : Nat} {v : Int} (h : ¬(a = k ∧ i = j)) : wq_set S k j v a i = S a i := if_neg h
theorem wy_set_at {S : wq_St} {k j a i : Nat} {v : Int} (h : a = k) (h' : i = j) : wq_set S k j v a i = v := if_pos ⟨h, h'⟩
theorem wy_bd {α β : Type} {x : Option (β × wq_St)} {k : β → wq_St → Option α} {r : β} {S : wq_St} (h : x = some (r, S)) : wq_bd x k = k r S := by rw [h]; rfl
theorem wy_bx {α β : Type} {z : α} {x : Option (Nat × β × wq_St)} {k : β → wq_St → Option (Nat × α × wq_St)} {r : β} {S : wq_St} (h : x = some (0, r, S)) : wq_bx z x k = k r S := by rw [h]; rfl
theorem wy_bx1 {α β : Type} {z : α} {x : Option (Nat × β × wq_St)} {k : β → wq_St → Option (Nat × α × wq_St)} {n : Nat} {r : β} {S : wq_St} (h : x = some (n + 1, r, S)) : wq_bx z x k = some (n + 1, z, S) := by rw [h]; rfl
/-- a loop that goes up: from i to N, fuel left over -/
theorem wy_up {σ : Type} (G : Nat → Nat → σ → Prop) (N : Nat) (Iv : Nat → σ → Prop)
    (step : ∀ n i s, i < N → Iv i s → (∀ s', Iv (i + 1) s' → G n (i + 1) s') → G (n + 1) i s)
    (last : ∀ n s, Iv N s → G (n + 1) N s) : ∀ n i s, i ≤ N → N < n + i → Iv i s → G n i s
  | 0, i, s, h1, h2, _ => by omega
  | n + 1, i, s, h1, h2, h3 => by
    by_cases h : i = N
    · subst h
      exact last n s h3
    · exact step n i s (by omega) h3 fun s' h' => wy_up G N Iv step last n (i + 1) s' (by omega) (by omega) h'
/-! P: the state that both hold, cell by cell -/
def wy_ka (f i : Nat) : Nat := match f with
  | 0 => if i = 5 ∨ i = 28 then 0 else 282
  | 1 => 6 + 48 * i
  | 2 => 6 + 48 * i
  | 3 => 6 + 48 * (i / 40) + 43
  | 4 => 6 + 48 * (i / 120) + 3 + i / 3 % 40
  | 5 => 6 + 48 * (i / 3) + 45 + i % 3
  | 6 => 6 + 48 * i
  | 7 => 6 + 48 * (i / 3) + 45 + i % 3
  | 8 => 6 + 48 * (i / 3) + 45 + i % 3
  | 9 => 6 + 48 * (i / 3) + 45 + i % 3
  | 10 => 6 + 48 * i
  | 11 => 199 + 9 * i
  | 12 => 199 + 9 * i
  | 13 => 199 + 9 * i
  | 14 => 199 + 9 * (i / 3) + 1
  | 15 => 199 + 9 * i
  | 16 => 199 + 9 * (i / 6) + 3 + i % 6
  | 17 => 199 + 9 * (i / 6) + 3 + i % 6
  | 18 => 199 + 9 * (i / 6) + 3 + i % 6
  | 19 => 199 + 9 * (i / 6) + 3 + i % 6
  | 20 => 199 + 9 * (i / 6) + 3 + i % 6
  | 21 => 199 + 9 * (i / 6) + 3 + i % 6
  | 22 => 199 + 9 * i
  | 24 => 199 + 9 * i
  | 25 => 199 + 9 * i
  | 26 => 199 + 9 * i
  | 27 => 6 + 48 * i
  | 28 => 199 + 9 * i
  | _ => 0
def wy_io (f i : Nat) : Nat := match f with
  | 0 => if i = 5 then 6 else if i = 28 then 7 else if i = 11 then 5 else i - 23
  | 1 => 4
  | 2 => 5
  | 3 => i % 40
  | 4 => i % 3
  | 5 => 0
  | 6 => 7
  | 7 => 1
  | 8 => 2
  | 9 => 3
  | 10 => 8
  | 11 => 2
  | 12 => 7
  | 13 => 3
  | 14 => i % 3
  | 15 => 4
  | 16 => 0
  | 17 => 1
  | 18 => 2
  | 19 => 3
  | 20 => 4
  | 21 => 5
  | 22 => 5
  | 24 => 8
  | 25 => 9
  | 26 => 10
  | 27 => 6
  | 28 => 6
  | _ => 0
def wy_nb (f : Nat) : Nat := match f with
  | 0 => 33
  | 1 => 4
  | 2 => 4
  | 3 => 160
  | 4 => 480
  | 5 => 12
  | 6 => 4
  | 7 => 12
  | 8 => 12
  | 9 => 12
  | 10 => 4
  | 11 => 8
  | 12 => 8
  | 13 => 8
  | 14 => 24
  | 15 => 8
  | 16 => 48
  | 17 => 48
  | 18 => 48
  | 19 => 48
  | 20 => 48
  | 21 => 48
  | 22 => 8
  | 24 => 8
  | 25 => 8
  | 26 => 8
  | 27 => 4
  | 28 => 8
  | _ => 0
def wy_in (f i : Nat) : Prop := i < wy_nb f ∧ (f = 0 → i = 5 ∨ i = 11 ∨ 28 ≤ i)
def wy_inb (f i : Nat) : Bool := decide (i < wy_nb f) && decide (f = 0 → i = 5 ∨ i = 11 ∨ 28 ≤ i)
theorem wy_inb_t {f i : Nat} (h : wy_in f i) : wy_inb f i = true := by
  unfold wy_inb
  rw [decide_eq_true h.1, decide_eq_true h.2]
  rfl
/-- back from a cell of the class -/
def wy_nu (k j : Nat) : Nat × Nat :=
  if k = 0 then (0, if j = 6 then 5 else 28)
  else if k = 282 then (0, if j = 5 then 11 else j + 23)
  else if k < 199 then
    if (k - 6) % 48 = 0 then ((if j = 4 then 1 else if j = 5 then 2 else if j = 6 then 27 else if j = 7 then 6 else 10), (k - 6) / 48)
    else if (k - 6) % 48 < 43 then (4, 3 * (40 * ((k - 6) / 48) + ((k - 6) % 48 - 3)) + j)
    else if (k - 6) % 48 = 43 then (3, 40 * ((k - 6) / 48) + j)
    else ((if j = 0 then 5 else j + 6), 3 * ((k - 6) / 48) + ((k - 6) % 48 - 45))
  else
    if (k - 199) % 9 = 0 then ((match j with | 2 => 11 | 3 => 13 | 4 => 15 | 5 => 22 | 6 => 28 | 7 => 12 | 8 => 24 | 9 => 25 | _ => 26), (k - 199) / 9)
    else if (k - 199) % 9 = 1 then (14, 3 * ((k - 199) / 9) + j)
    else (16 + j, 6 * ((k - 199) / 9) + ((k - 199) % 9 - 3))
/-- cells that only the class has, and of which nothing is promised -/
def wy_scr (k : Nat) : Prop := k = 1 ∨ k = 2 ∨ k = 3 ∨ k = 4 ∨ (272 ≤ k ∧ k ≤ 281) ∨ k = 283 ∨ k = 50 ∨ k = 98 ∨ k = 146 ∨ k = 194
def wy_scrb (k : Nat) : Bool := decide (k = 1 ∨ k = 2 ∨ k = 3 ∨ k = 4 ∨ (272 ≤ k ∧ k ≤ 281) ∨ k = 283 ∨ k = 50 ∨ k = 98 ∨ k = 146 ∨ k = 194)
theorem wy_scrb_t {k : Nat} (h : wy_scr k) : wy_scrb k = true := decide_eq_true h
def wy_okb (f i : Nat) : Bool := !(wy_inb f i) || (Nat.beq (wy_nu (wy_ka f i) (wy_io f i)).1 f && Nat.beq (wy_nu (wy_ka f i) (wy_io f i)).2 i && !(wy_scrb (wy_ka f i)))
def wy_allb (p : Nat → Bool) : Nat → Bool
  | 0 => true
  | n + 1 => p n && wy_allb p n
theorem wy_allb_t {p : Nat → Bool} : ∀ {n : Nat}, wy_allb p n = true → ∀ i, i < n → p i = true
  | 0, _, i, h => by omega
  | n + 1, h, i, hi => by
    simp [wy_allb] at h
    by_cases e : i = n
    · subst e; exact h.1
    · exact wy_allb_t h.2 i (by omega)
theorem wy_ok_all : wy_allb (fun f => wy_allb (fun i => wy_okb f i) 480) 29 = true := by decide +kernel
theorem wy_nb_le (f : Nat) : wy_nb f ≤ 480 := by unfold wy_nb; split <;> omega
theorem wy_nb_hi {f : Nat} (h : 29 ≤ f) : wy_nb f = 0 := by unfold wy_nb; split <;> omega
theorem wy_ok {f i : Nat} (h : wy_in f i) : wy_nu (wy_ka f i) (wy_io f i) = (f, i) ∧ ¬wy_scr (wy_ka f i) := by
  have hi := Nat.lt_of_lt_of_le h.1 (wy_nb_le f)
  have hf : f < 29 := Nat.lt_of_not_le fun hh => by
    have h1 := h.1
    rw [wy_nb_hi hh] at h1
    omega
  have h1 := wy_allb_t (wy_allb_t wy_ok_all f hf) i hi
  unfold wy_okb at h1
  rw [wy_inb_t h] at h1
  simp [Nat.beq_eq] at h1
  refine ⟨Prod.ext h1.1.1 h1.1.2, fun hs => ?_⟩
  rw [wy_scrb_t hs] at h1
  exact absurd h1.2 (by decide)
/-- S holds P, of the fields C -/
def wy_R (C : Nat → Prop) (S P : wq_St) : Prop := ∀ f i, C f → wy_in f i → S (wy_ka f i) (wy_io f i) = P f i
theorem wy_R_mono {C C' : Nat → Prop} {S P : wq_St} (h : wy_R C S P) (hc : ∀ f, C' f → C f) : wy_R C' S P := fun f i hf hi => h f i (hc f hf) hi
theorem wy_R_scr {C : Nat → Prop} {S P : wq_St} (h : wy_R C S P) {k j : Nat} {v : Int} (hk : wy_scr k) : wy_R C (wq_set S k j v) P := fun f i hf hi => by
  have e : ¬(wy_ka f i = k ∧ wy_io f i = j) := fun e => (wy_ok hi).2 (by rw [e.1]; exact hk)
  rw [wy_set_ne e]
  exact h f i hf hi
theorem wy_R_set {C : Nat → Prop} {S P : wq_St} (h : wy_R C S P) {f₀ i₀ k j : Nat} (v : Int) (h0 : wy_in f₀ i₀) (hk : k = wy_ka f₀ i₀) (hj : j = wy_io f₀ i₀) : wy_R C (wq_set S k j v) (wq_set P f₀ i₀ v) := fun f i hf hi => by
  subst hk hj
  by_cases e : f = f₀ ∧ i = i₀
  · obtain ⟨rfl, rfl⟩ := e
    rw [wy_set_at rfl rfl, wy_set_at rfl rfl]
  · rw [wy_set_ne e, wy_set_ne (fun e' => e ?_)]
    · exact h f i hf hi
    · have h1 := (wy_ok hi).1
      have h2 := (wy_ok h0).1
      rw [e'.1, e'.2, h2] at h1
      exact ⟨(Prod.mk.inj h1).1.symm, (Prod.mk.inj h1).2.symm⟩
/-- a write to a cell of a field that C does not name -/
theorem wy_R_off {C : Nat → Prop} {S P : wq_St} (h : wy_R C S P) {f₀ i₀ k j : Nat} {v : Int} (h0 : wy_in f₀ i₀) (hk : k = wy_ka f₀ i₀) (hj : j = wy_io f₀ i₀) (hc : ¬C f₀) : wy_R C (wq_set S k j v) P := fun f i hf hi => by
  subst hk hj
  rw [wy_set_ne (fun e' => ?_)]
  · exact h f i hf hi
  · have h1 := (wy_ok hi).1
    have h2 := (wy_ok h0).1
    rw [e'.1, e'.2, h2] at h1
    have := (Prod.mk.inj h1).1
    subst this
    exact hc hf
end
section
/-! what always holds of P -/
/-- rows that are there, of the first n -/
def wy_ct (P : wq_St) (t : Nat) : Nat → Int
  | 0 => 0
  | i + 1 => wy_ct P t i + (if P 3 (40 * t + i) = 0 then 0 else 1)
theorem wy_ct_b (P : wq_St) (t : Nat) : ∀ n : Nat, 0 ≤ wy_ct P t n ∧ wy_ct P t n ≤ (n : Int)
  | 0 => by simp [wy_ct]
  | n + 1 => by
    have h := wy_ct_b P t n
    simp only [wy_ct]
    split <;> omega
def wy_lo (f : Nat) : Int := match f with
  | 22 => -1
  | 23 => -2147483648
  | _ => 0
def wy_hi (f : Nat) : Int := match f with
  | 1 => 3
  | 2 => 40
  | 3 => 1
  | 4 => 999
  | 5 => 1
  | 6 => 40
  | 7 => 40
  | 8 => 999
  | 9 => 999
  | 10 => 1
  | 11 => 1000
  | 12 => 1
  | 13 => 3
  | 14 => 3
  | 15 => 6
  | 16 => 3
  | 17 => 2
  | 18 => 2
  | 19 => 999
  | 20 => 2
  | 21 => 2
  | 22 => 2
  | 23 => 2147483647
  | _ => 0
def wy_iB (P : wq_St) : Prop := ∀ f i, 1 ≤ f → f ≤ 23 → wy_lo f ≤ P f i ∧ P f i ≤ wy_hi f
def wy_iO (P : wq_St) : Prop := 0 ≤ P 0 5 ∧ P 0 5 ≤ 4 ∧ 1 ≤ P 0 11 ∧ P 0 11 ≤ 10 ∧ 0 ≤ P 0 28 ∧ P 0 28 ≤ 8
def wy_iK (P : wq_St) : Prop := ∀ t : Nat, P 0 5 ≤ (t : Int) → P 10 t = 0
def wy_iD (P : wq_St) : Prop := ∀ r : Nat, P 0 28 ≤ (r : Int) → P 12 r = 0
def wy_iL (P : wq_St) : Prop := ∀ i, P 8 i ≤ P 9 i
def wy_iT (P : wq_St) : Prop := ∀ r j : Nat, (j : Int) < P 13 r → P 14 (3 * r + j) < P 0 5
def wy_iC (P : wq_St) : Prop := ∀ r k : Nat, (k : Int) < P 15 r → P 17 (6 * r + k) < P 13 r ∧ (P 16 (6 * r + k) = 3 → P 20 (6 * r + k) < P 13 r ∧ P 20 (6 * r + k) ≠ P 17 (6 * r + k))
def wy_iS (P : wq_St) : Prop := ∀ r : Nat, P 22 r ≠ -1 → P 22 r < P 13 r ∧ P 23 r = P 28 r ∧ 0 ≤ P 28 r ∧ P 28 r ≤ 2
def wy_iN (P : wq_St) : Prop := ∀ r : Nat, P 0 28 ≤ (r : Int) → r < 8 → P 22 r = -1 ∧ P 24 r = -1 ∧ P 25 r = -1 ∧ P 26 r = -1
def wy_iP (P : wq_St) : Prop := ∀ t : Nat, t < 4 → P 27 t = wy_ct P t (P 2 t).toNat
def wy_iv (P : wq_St) : Prop := wy_iB P ∧ wy_iO P ∧ wy_iK P ∧ wy_iD P ∧ wy_iL P ∧ wy_iT P ∧ wy_iC P ∧ wy_iS P ∧ wy_iN P ∧ wy_iP P
section
variable {P : wq_St}
theorem wy_b1 (h : wy_iv P) (i : Nat) : 0 ≤ P 1 i ∧ P 1 i ≤ 3 := h.1 1 i (by decide) (by decide)
theorem wy_b2 (h : wy_iv P) (i : Nat) : 0 ≤ P 2 i ∧ P 2 i ≤ 40 := h.1 2 i (by decide) (by decide)
theorem wy_b3 (h : wy_iv P) (i : Nat) : 0 ≤ P 3 i ∧ P 3 i ≤ 1 := h.1 3 i (by decide) (by decide)
theorem wy_b4 (h : wy_iv P) (i : Nat) : 0 ≤ P 4 i ∧ P 4 i ≤ 999 := h.1 4 i (by decide) (by decide)
theorem wy_b5 (h : wy_iv P) (i : Nat) : 0 ≤ P 5 i ∧ P 5 i ≤ 1 := h.1 5 i (by decide) (by decide)
theorem wy_b6 (h : wy_iv P) (i : Nat) : 0 ≤ P 6 i ∧ P 6 i ≤ 40 := h.1 6 i (by decide) (by decide)
theorem wy_b7 (h : wy_iv P) (i : Nat) : 0 ≤ P 7 i ∧ P 7 i ≤ 40 := h.1 7 i (by decide) (by decide)
theorem wy_b8 (h : wy_iv P) (i : Nat) : 0 ≤ P 8 i ∧ P 8 i ≤ 999 := h.1 8 i (by decide) (by decide)
theorem wy_b9 (h : wy_iv P) (i : Nat) : 0 ≤ P 9 i ∧ P 9 i ≤ 999 := h.1 9 i (by decide) (by decide)
theorem wy_b10 (h : wy_iv P) (i : Nat) : 0 ≤ P 10 i ∧ P 10 i ≤ 1 := h.1 10 i (by decide) (by decide)
theorem wy_b11 (h : wy_iv P) (i : Nat) : 0 ≤ P 11 i ∧ P 11 i ≤ 1000 := h.1 11 i (by decide) (by decide)
theorem wy_b12 (h : wy_iv P) (i : Nat) : 0 ≤ P 12 i ∧ P 12 i ≤ 1 := h.1 12 i (by decide) (by decide)
theorem wy_b13 (h : wy_iv P) (i : Nat) : 0 ≤ P 13 i ∧ P 13 i ≤ 3 := h.1 13 i (by decide) (by decide)
theorem wy_b14 (h : wy_iv P) (i : Nat) : 0 ≤ P 14 i ∧ P 14 i ≤ 3 := h.1 14 i (by decide) (by decide)
theorem wy_b15 (h : wy_iv P) (i : Nat) : 0 ≤ P 15 i ∧ P 15 i ≤ 6 := h.1 15 i (by decide) (by decide)
theorem wy_b16 (h : wy_iv P) (i : Nat) : 0 ≤ P 16 i ∧ P 16 i ≤ 3 := h.1 16 i (by decide) (by decide)
theorem wy_b17 (h : wy_iv P) (i : Nat) : 0 ≤ P 17 i ∧ P 17 i ≤ 2 := h.1 17 i (by decide) (by decide)
theorem wy_b18 (h : wy_iv P) (i : Nat) : 0 ≤ P 18 i ∧ P 18 i ≤ 2 := h.1 18 i (by decide) (by decide)
theorem wy_b19 (h : wy_iv P) (i : Nat) : 0 ≤ P 19 i ∧ P 19 i ≤ 999 := h.1 19 i (by decide) (by decide)
theorem wy_b20 (h : wy_iv P) (i : Nat) : 0 ≤ P 20 i ∧ P 20 i ≤ 2 := h.1 20 i (by decide) (by decide)
theorem wy_b21 (h : wy_iv P) (i : Nat) : 0 ≤ P 21 i ∧ P 21 i ≤ 2 := h.1 21 i (by decide) (by decide)
theorem wy_b22 (h : wy_iv P) (i : Nat) : -1 ≤ P 22 i ∧ P 22 i ≤ 2 := h.1 22 i (by decide) (by decide)
theorem wy_b23 (h : wy_iv P) (i : Nat) : -2147483648 ≤ P 23 i ∧ P 23 i ≤ 2147483647 := h.1 23 i (by decide) (by decide)
theorem wy_lohi {f : Nat} : -2147483648 ≤ wy_lo f ∧ wy_hi f < 2147483648 := by
  constructor
  · unfold wy_lo; split <;> omega
  · unfold wy_hi; split <;> omega
/-- bounded cells read as they are -/
theorem wy_pw (h : wy_iv P) {f i : Nat} (h1 : 1 ≤ f) (h2 : f ≤ 23) : wq_w (P f i) = P f i := by
  have h3 := h.1 f i h1 h2
  have h4 := @wy_lohi f
  exact wq_w_id (by omega) (by omega)
/-- the fields that plans and runs look at -/
abbrev wy_co (f : Nat) : Prop := f ≠ 0 ∧ f ≠ 10 ∧ f ≠ 11 ∧ f ≠ 12 ∧ ¬(24 ≤ f ∧ f ≤ 26)
abbrev wy_al (_ : Nat) : Prop := True
def wy_M (C : Nat → Prop) (M P : wq_St) : Prop := ∀ f i : Nat, C f → f ≤ 26 → (f = 0 → i = 5 ∨ i = 11 ∨ (28 ≤ i ∧ i ≤ 32)) → (f = 22 ∨ 24 ≤ f → (i : Int) < P 0 28) → M f i = P f i
theorem wy_m {M : wq_St} (h : wy_M wy_co M P) {f i : Nat} (hf : (1 ≤ f ∧ f ≤ 9) ∨ (13 ≤ f ∧ f ≤ 21) ∨ f = 23) : M f i = P f i :=
  h f i (by unfold wy_co; omega) (by omega) (by omega) (by omega)
theorem wy_ma {M : wq_St} (h : wy_M wy_al M P) {f i : Nat} (hf : (1 ≤ f ∧ f ≤ 21) ∨ f = 23) : M f i = P f i :=
  h f i trivial (by omega) (by omega) (by omega)
theorem wy_ma0 {M : wq_St} (h : wy_M wy_al M P) {i : Nat} (hi : i = 5 ∨ i = 11 ∨ (28 ≤ i ∧ i ≤ 32)) : M 0 i = P 0 i :=
  h 0 i trivial (by omega) (fun _ => hi) (by omega)
theorem wy_M_co {M : wq_St} (h : wy_M wy_al M P) : wy_M wy_co M P := fun f i _ h2 h3 h4 => h f i trivial h2 h3 h4
theorem wy_M_off {C : Nat → Prop} {M : wq_St} (h : wy_M C M P) {k j : Nat} {v : Int} (hk : 27 ≤ k ∨ (k = 0 ∧ 33 ≤ j) ∨ ¬C k) : wy_M C (wq_set M k j v) P := fun f i h1 h2 h3 h4 => by
  rw [wy_set_ne (fun e => ?_)]
  · exact h f i h1 h2 h3 h4
  · rcases hk with hk | hk | hk
    · omega
    · have := h3 (by omega)
      omega
    · exact hk (e.1 ▸ h1)
theorem wy_M_set {C : Nat → Prop} {M : wq_St} (h : wy_M C M P) {k j : Nat} (v : Int) (hk : ¬(k = 0 ∧ j = 28)) : wy_M C (wq_set M k j v) (wq_set P k j v) := fun f i h1 h2 h3 h4 => by
  rw [wy_set_ne (fun e => hk ⟨e.1.symm, e.2.symm⟩)] at h4
  by_cases e : f = k ∧ i = j
  · rw [wy_set_at e.1 e.2, wy_set_at e.1 e.2]
  · rw [wy_set_ne e, wy_set_ne e]
    exact h f i h1 h2 h3 h4
/-! cells of the class -/
variable {S : wq_St}
theorem wy_R_co (h : wy_R wy_al S P) : wy_R wy_co S P := wy_R_mono h fun _ _ => trivial
theorem wy_c1 (h : wy_R wy_co S P) {t : Nat} (ht : t < 4) : S (6 + 48 * t) 4 = P 1 t := h 1 t (by decide) ⟨ht, fun e => by omega⟩
theorem wy_c2 (h : wy_R wy_co S P) {t : Nat} (ht : t < 4) : S (6 + 48 * t) 5 = P 2 t := h 2 t (by decide) ⟨ht, fun e => by omega⟩
theorem wy_c27 (h : wy_R wy_co S P) {t : Nat} (ht : t < 4) : S (6 + 48 * t) 6 = P 27 t := h 27 t (by decide) ⟨ht, fun e => by omega⟩
theorem wy_c6 (h : wy_R wy_co S P) {t : Nat} (ht : t < 4) : S (6 + 48 * t) 7 = P 6 t := h 6 t (by decide) ⟨ht, fun e => by omega⟩
theorem wy_c3 (h : wy_R wy_co S P) {t i : Nat} (ht : t < 4) (hi : i < 40) : S (6 + 48 * t + 43) i = P 3 (40 * t + i) := by
  have h1 := h 3 (40 * t + i) (by decide) ⟨by show 40 * t + i < 160; omega, fun e => by omega⟩
  have e1 : wy_ka 3 (40 * t + i) = 6 + 48 * t + 43 := by show 6 + 48 * ((40 * t + i) / 40) + 43 = _; omega
  have e2 : wy_io 3 (40 * t + i) = i := by show (40 * t + i) % 40 = _; omega
  rw [e1, e2] at h1
  exact h1
theorem wy_c4 (h : wy_R wy_co S P) {t i c : Nat} (ht : t < 4) (hi : i < 40) (hc : c < 3) : S (6 + 48 * t + 3 + i) c = P 4 (3 * (40 * t + i) + c) := by
  have h1 := h 4 (3 * (40 * t + i) + c) (by decide) ⟨by show 3 * (40 * t + i) + c < 480; omega, fun e => by omega⟩
  have e1 : wy_ka 4 (3 * (40 * t + i) + c) = 6 + 48 * t + 3 + i := by show 6 + 48 * ((3 * (40 * t + i) + c) / 120) + 3 + (3 * (40 * t + i) + c) / 3 % 40 = _; omega
  have e2 : wy_io 4 (3 * (40 * t + i) + c) = c := by show (3 * (40 * t + i) + c) % 3 = _; omega
  rw [e1, e2] at h1
  exact h1
theorem wy_k3 {t c : Nat} (hc : c < 3) : 6 + 48 * ((3 * t + c) / 3) + 45 + (3 * t + c) % 3 = 6 + 48 * t + 45 + c := by omega
theorem wy_c5 (h : wy_R wy_co S P) {t c : Nat} (ht : t < 4) (hc : c < 3) : S (6 + 48 * t + 45 + c) 0 = P 5 (3 * t + c) := by
  have h1 := h 5 (3 * t + c) (by decide) ⟨by show 3 * t + c < 12; omega, fun e => by omega⟩
  rw [show wy_ka 5 (3 * t + c) = _ from wy_k3 hc] at h1
  exact h1
theorem wy_c7 (h : wy_R wy_co S P) {t c : Nat} (ht : t < 4) (hc : c < 3) : S (6 + 48 * t + 45 + c) 1 = P 7 (3 * t + c) := by
  have h1 := h 7 (3 * t + c) (by decide) ⟨by show 3 * t + c < 12; omega, fun e => by omega⟩
  rw [show wy_ka 7 (3 * t + c) = _ from wy_k3 hc] at h1
  exact h1
theorem wy_c8 (h : wy_R wy_co S P) {t c : Nat} (ht : t < 4) (hc : c < 3) : S (6 + 48 * t + 45 + c) 2 = P 8 (3 * t + c) := by
  have h1 := h 8 (3 * t + c) (by decide) ⟨by show 3 * t + c < 12; omega, fun e => by omega⟩
  rw [show wy_ka 8 (3 * t + c) = _ from wy_k3 hc] at h1
  exact h1
theorem wy_c9 (h : wy_R wy_co S P) {t c : Nat} (ht : t < 4) (hc : c < 3) : S (6 + 48 * t + 45 + c) 3 = P 9 (3 * t + c) := by
  have h1 := h 9 (3 * t + c) (by decide) ⟨by show 3 * t + c < 12; omega, fun e => by omega⟩
  rw [show wy_ka 9 (3 * t + c) = _ from wy_k3 hc] at h1
  exact h1
theorem wy_c13 (h : wy_R wy_co S P) {r : Nat} (hr : r < 8) : S (199 + 9 * r) 3 = P 13 r := h 13 r (by decide) ⟨hr, fun e => by omega⟩
theorem wy_c15 (h : wy_R wy_co S P) {r : Nat} (hr : r < 8) : S (199 + 9 * r) 4 = P 15 r := h 15 r (by decide) ⟨hr, fun e => by omega⟩
theorem wy_c22 (h : wy_R wy_co S P) {r : Nat} (hr : r < 8) : S (199 + 9 * r) 5 = P 22 r := h 22 r (by decide) ⟨hr, fun e => by omega⟩
theorem wy_c28 (h : wy_R wy_co S P) {r : Nat} (hr : r < 8) : S (199 + 9 * r) 6 = P 28 r := h 28 r (by decide) ⟨hr, fun e => by omega⟩
theorem wy_c14 (h : wy_R wy_co S P) {r j : Nat} (hr : r < 8) (hj : j < 3) : S (199 + 9 * r + 1) j = P 14 (3 * r + j) := by
  have h1 := h 14 (3 * r + j) (by decide) ⟨by show 3 * r + j < 24; omega, fun e => by omega⟩
  have e1 : wy_ka 14 (3 * r + j) = 199 + 9 * r + 1 := by show 199 + 9 * ((3 * r + j) / 3) + 1 = _; omega
  have e2 : wy_io 14 (3 * r + j) = j := by show (3 * r + j) % 3 = _; omega
  rw [e1, e2] at h1
  exact h1
theorem wy_k6 {r k : Nat} (hk : k < 6) : 199 + 9 * ((6 * r + k) / 6) + 3 + (6 * r + k) % 6 = 199 + 9 * r + 3 + k := by omega
theorem wy_c16 (h : wy_R wy_co S P) {r k : Nat} (hr : r < 8) (hk : k < 6) : S (199 + 9 * r + 3 + k) 0 = P 16 (6 * r + k) := by
  have h1 := h 16 (6 * r + k) (by decide) ⟨by show 6 * r + k < 48; omega, fun e => by omega⟩
  rw [show wy_ka 16 (6 * r + k) = _ from wy_k6 hk] at h1
  exact h1
theorem wy_c17 (h : wy_R wy_co S P) {r k : Nat} (hr : r < 8) (hk : k < 6) : S (199 + 9 * r + 3 + k) 1 = P 17 (6 * r + k) := by
  have h1 := h 17 (6 * r + k) (by decide) ⟨by show 6 * r + k < 48; omega, fun e => by omega⟩
  rw [show wy_ka 17 (6 * r + k) = _ from wy_k6 hk] at h1
  exact h1
theorem wy_c18 (h : wy_R wy_co S P) {r k : Nat} (hr : r < 8) (hk : k < 6) : S (199 + 9 * r + 3 + k) 2 = P 18 (6 * r + k) := by
  have h1 := h 18 (6 * r + k) (by decide) ⟨by show 6 * r + k < 48; omega, fun e => by omega⟩
  rw [show wy_ka 18 (6 * r + k) = _ from wy_k6 hk] at h1
  exact h1
theorem wy_c19 (h : wy_R wy_co S P) {r k : Nat} (hr : r < 8) (hk : k < 6) : S (199 + 9 * r + 3 + k) 3 = P 19 (6 * r + k) := by
  have h1 := h 19 (6 * r + k) (by decide) ⟨by show 6 * r + k < 48; omega, fun e => by omega⟩
  rw [show wy_ka 19 (6 * r + k) = _ from wy_k6 hk] at h1
  exact h1
theorem wy_c20 (h : wy_R wy_co S P) {r k : Nat} (hr : r < 8) (hk : k < 6) : S (199 + 9 * r + 3 + k) 4 = P 20 (6 * r + k) := by
  have h1 := h 20 (6 * r + k) (by decide) ⟨by show 6 * r + k < 48; omega, fun e => by omega⟩
  rw [show wy_ka 20 (6 * r + k) = _ from wy_k6 hk] at h1
  exact h1
theorem wy_c21 (h : wy_R wy_co S P) {r k : Nat} (hr : r < 8) (hk : k < 6) : S (199 + 9 * r + 3 + k) 5 = P 21 (6 * r + k) := by
  have h1 := h 21 (6 * r + k) (by decide) ⟨by show 6 * r + k < 48; omega, fun e => by omega⟩
  rw [show wy_ka 21 (6 * r + k) = _ from wy_k6 hk] at h1
  exact h1
theorem wy_cT (h : wy_R wy_al S P) : S 0 6 = P 0 5 := h 0 5 trivial ⟨by decide, fun _ => by decide⟩
theorem wy_cN (h : wy_R wy_al S P) : S 0 7 = P 0 28 := h 0 28 trivial ⟨by decide, fun _ => by decide⟩
theorem wy_cS (h : wy_R wy_al S P) : S 282 5 = P 0 11 := h 0 11 trivial ⟨by decide, fun _ => by decide⟩
theorem wy_cG (h : wy_R wy_al S P) : S 282 6 = P 0 29 := h 0 29 trivial ⟨by decide, fun _ => by decide⟩
theorem wy_cP (h : wy_R wy_al S P) : S 282 7 = P 0 30 := h 0 30 trivial ⟨by decide, fun _ => by decide⟩
theorem wy_cL (h : wy_R wy_al S P) : S 282 8 = P 0 31 := h 0 31 trivial ⟨by decide, fun _ => by decide⟩
theorem wy_cO (h : wy_R wy_al S P) : S 282 9 = P 0 32 := h 0 32 trivial ⟨by decide, fun _ => by decide⟩
theorem wy_c10 (h : wy_R wy_al S P) {t : Nat} (ht : t < 4) : S (6 + 48 * t) 8 = P 10 t := h 10 t trivial ⟨ht, fun e => by omega⟩
theorem wy_c11 (h : wy_R wy_al S P) {r : Nat} (hr : r < 8) : S (199 + 9 * r) 2 = P 11 r := h 11 r trivial ⟨hr, fun e => by omega⟩
theorem wy_c12 (h : wy_R wy_al S P) {r : Nat} (hr : r < 8) : S (199 + 9 * r) 7 = P 12 r := h 12 r trivial ⟨hr, fun e => by omega⟩
theorem wy_c24 (h : wy_R wy_al S P) {r : Nat} (hr : r < 8) : S (199 + 9 * r) 8 = P 24 r := h 24 r trivial ⟨hr, fun e => by omega⟩
theorem wy_c25 (h : wy_R wy_al S P) {r : Nat} (hr : r < 8) : S (199 + 9 * r) 9 = P 25 r := h 25 r trivial ⟨hr, fun e => by omega⟩
theorem wy_c26 (h : wy_R wy_al S P) {r : Nat} (hr : r < 8) : S (199 + 9 * r) 10 = P 26 r := h 26 r trivial ⟨hr, fun e => by omega⟩
/-! numbers of cells -/
theorem wy_n40 (t i : Nat) : (40 * (t : Int) + (i : Int)).toNat = 40 * t + i := by omega
theorem wy_n3 (t i : Nat) : (3 * (t : Int) + (i : Int)).toNat = 3 * t + i := by omega
theorem wy_n6 (t i : Nat) : (6 * (t : Int) + (i : Int)).toNat = 6 * t + i := by omega
theorem wy_n34 (t i c : Nat) : (3 * (40 * (t : Int) + (i : Int)) + (c : Int)).toNat = 3 * (40 * t + i) + c := by omega
theorem wy_fu {N : Nat} (h : N ≤ 1000) : N < wq_fu := by unfold wq_fu; omega
theorem wy_fu' {N : Nat} (h : N ≤ 1000) : N < wq_fu + 0 := wy_fu h
/-! the model: rows that are there -/
variable {M : wq_St}
theorem wy_m_rowsOf (hI : wy_iv P) (h2 : ∀ i, M 2 i = P 2 i) (h3 : ∀ i, M 3 i = P 3 i) {t : Nat} (ht : t < 4) : f_X9_rowsOf (t : Int) M = some (wy_ct P t (P 2 t).toNat, M) := by
  have b2 := wy_b2 hI t
  unfold f_X9_rowsOf
  have key := wy_up (fun n i (_ : Unit) => l_X9_rowsOf_7 (t : Int) (fun u3 S4 => some (u3, S4)) n (wy_ct P t i) (40 * (t : Int) + (i : Int)) M = some (wy_ct P t (P 2 t).toNat, M)) (P 2 t).toNat (fun _ _ => True) ?_ ?_ wq_fu 0 () (by omega) (wy_fu' (by omega)) trivial
  · simpa [wy_ct] using key
  · intro n i s hi _ ih
    have b3 := wy_b3 hI (40 * t + i)
    rw [l_X9_rowsOf_7_s]
    unfold b_X9_rowsOf_7
    simp (disch := omega) only [wy_ix, Int.toNat_natCast, h2, h3, wq_w_id, wy_n40]
    rw [if_neg (by omega)]
    have ih := ih () trivial
    have e : (40 * (t : Int) + (i : Int) + 1) = 40 * (t : Int) + ((i + 1 : Nat) : Int) := by omega
    simp only [wy_ct] at ih
    rw [e]
    by_cases hc : P 3 (40 * t + i) = 0
    · rw [if_pos hc] at ih ⊢
      exact ih
    · rw [if_neg hc] at ih ⊢
      exact ih
  · intro n s _
    rw [l_X9_rowsOf_7_s]
    unfold b_X9_rowsOf_7
    simp (disch := omega) only [wy_ix, Int.toNat_natCast, h2, wq_w_id]
    rw [if_pos (by omega)]
end
end
section
/-! samples and counts -/
abbrev wy_sm (P : wq_St) (t : Nat) (by_ : Int) (i : Nat) : Prop := P 3 (40 * t + i) ≠ 0 ∧ wy_ct P t i % by_ = 0
def wy_ns (P : wq_St) (t : Nat) (by_ : Int) : Nat → Nat
  | 0 => 0
  | i + 1 => wy_ns P t by_ i + (if wy_sm P t by_ i then 1 else 0)
def wy_va (P : wq_St) (t c i : Nat) : Int := P 4 (3 * (40 * t + i) + c)
def wy_nx (P : wq_St) (t : Nat) (by_ : Int) (c : Nat) (v : Int) : Nat → Int
  | 0 => 1
  | k + 1 => if wy_nx P t by_ c v k = 0 then 0 else if wy_sm P t by_ k ∧ wy_va P t c k = v then 0 else 1
def wy_un (P : wq_St) (t : Nat) (by_ : Int) (c : Nat) : Nat → Int
  | 0 => 0
  | i + 1 => wy_un P t by_ c i + (if wy_sm P t by_ i ∧ wy_nx P t by_ c (wy_va P t c i) i ≠ 0 then 1 else 0)
def wy_le (P : wq_St) (t : Nat) (by_ : Int) (c : Nat) : Nat → Int
  | 0 => 0
  | i + 1 => if wy_sm P t by_ i then (if wy_ns P t by_ i = 0 ∨ wy_va P t c i < wy_le P t by_ c i then wy_va P t c i else wy_le P t by_ c i) else wy_le P t by_ c i
def wy_gr (P : wq_St) (t : Nat) (by_ : Int) (c : Nat) : Nat → Int
  | 0 => 0
  | i + 1 => if wy_sm P t by_ i then (if wy_ns P t by_ i = 0 ∨ wy_gr P t by_ c i < wy_va P t c i then wy_va P t c i else wy_gr P t by_ c i) else wy_gr P t by_ c i
section
variable {P : wq_St} {t : Nat} {by_ : Int}
theorem wy_ns_s1 {i : Nat} (h : wy_sm P t by_ i) : wy_ns P t by_ (i + 1) = wy_ns P t by_ i + 1 := by simp only [wy_ns]; rw [if_pos h]
theorem wy_ns_s0 {i : Nat} (h : ¬wy_sm P t by_ i) : wy_ns P t by_ (i + 1) = wy_ns P t by_ i := by simp only [wy_ns]; rw [if_neg h]; omega
theorem wy_ns_le : ∀ i : Nat, wy_ns P t by_ i ≤ i
  | 0 => Nat.le_refl 0
  | i + 1 => by
    have h := wy_ns_le i
    by_cases hs : wy_sm P t by_ i
    · rw [wy_ns_s1 hs]; omega
    · rw [wy_ns_s0 hs]; omega
theorem wy_ns_mono {i : Nat} : ∀ {j : Nat}, i ≤ j → wy_ns P t by_ i ≤ wy_ns P t by_ j
  | 0, h => by rw [Nat.le_zero.mp h]; exact Nat.le_refl _
  | j + 1, h => by
    by_cases e : i = j + 1
    · rw [e]; exact Nat.le_refl _
    · have h1 := @wy_ns_mono i j (by omega)
      by_cases hs : wy_sm P t by_ j
      · rw [wy_ns_s1 hs]; omega
      · rw [wy_ns_s0 hs]; omega
theorem wy_ns_ex {q : Nat} : ∀ {i : Nat}, q < wy_ns P t by_ i → ∃ k, k < i ∧ wy_sm P t by_ k ∧ wy_ns P t by_ k = q
  | 0, h => by simp [wy_ns] at h
  | i + 1, h => by
    by_cases hq : q < wy_ns P t by_ i
    · obtain ⟨k, h1, h2⟩ := wy_ns_ex hq
      exact ⟨k, by omega, h2⟩
    · by_cases hs : wy_sm P t by_ i
      · rw [wy_ns_s1 hs] at h
        exact ⟨i, by omega, hs, by omega⟩
      · rw [wy_ns_s0 hs] at h
        exact absurd h hq
theorem wy_const {i : Nat} (c : Nat) (v : Int) : ∀ {j : Nat}, i ≤ j → wy_ns P t by_ i = wy_ns P t by_ j → wy_un P t by_ c i = wy_un P t by_ c j ∧ wy_le P t by_ c i = wy_le P t by_ c j ∧ wy_gr P t by_ c i = wy_gr P t by_ c j
  | 0, h, _ => by rw [Nat.le_zero.mp h]; exact ⟨rfl, rfl, rfl⟩
  | j + 1, h, h2 => by
    by_cases e : i = j + 1
    · rw [e]; exact ⟨rfl, rfl, rfl⟩
    · have hm := @wy_ns_mono P t by_ i j (by omega)
      by_cases hs : wy_sm P t by_ j
      · rw [wy_ns_s1 hs] at h2; omega
      · rw [wy_ns_s0 hs] at h2
        obtain ⟨h3, h4, h5⟩ := @wy_const i c v j (by omega) h2
        simp only [wy_un, wy_le, wy_gr]
        rw [if_neg (fun h => hs h.1), if_neg hs, if_neg hs]
        exact ⟨by omega, h4, h5⟩
theorem wy_nx_b (c : Nat) (v : Int) : ∀ k : Nat, wy_nx P t by_ c v k = 0 ∨ wy_nx P t by_ c v k = 1
  | 0 => Or.inr rfl
  | k + 1 => by
    simp only [wy_nx]
    split
    · exact Or.inl rfl
    · split
      · exact Or.inl rfl
      · exact Or.inr rfl
theorem wy_nx_0 {c : Nat} {v : Int} {k : Nat} (h1 : wy_sm P t by_ k) (h2 : wy_va P t c k = v) : ∀ {j : Nat}, k < j → wy_nx P t by_ c v j = 0
  | 0, h => by omega
  | j + 1, h => by
    simp only [wy_nx]
    by_cases e : k = j
    · subst e
      split
      · rfl
      · rw [if_pos ⟨h1, h2⟩]
    · rw [if_pos (wy_nx_0 h1 h2 (by omega))]
theorem wy_nx_1 {c : Nat} {v : Int} : ∀ {j : Nat}, (∀ k, k < j → wy_sm P t by_ k → wy_va P t c k ≠ v) → wy_nx P t by_ c v j = 1
  | 0, _ => rfl
  | j + 1, h => by
    have h1 := @wy_nx_1 c v j (fun k hk => h k (by omega))
    simp only [wy_nx]
    rw [if_neg (by omega), if_neg (fun hh => h j (by omega) hh.1 hh.2)]
theorem wy_step {x : Int} (h1 : 1 ≤ x) (h2 : x ≤ 10) : x = 1 ∨ x = 2 ∨ x = 3 ∨ x = 4 ∨ x = 5 ∨ x = 6 ∨ x = 7 ∨ x = 8 ∨ x = 9 ∨ x = 10 := by omega
theorem wy_ceil {c x : Int} (hc : 0 ≤ c) (h1 : 1 ≤ x) (h2 : x ≤ 10) : (c + 1 + x - 1) / x = (c + x - 1) / x + (if c % x = 0 then 1 else 0) := by
  rcases wy_step h1 h2 with rfl | rfl | rfl | rfl | rfl | rfl | rfl | rfl | rfl | rfl <;> split <;> omega
theorem wy_ns_ceil (hI : wy_iv P) (h1 : 1 ≤ by_) (h2 : by_ ≤ 10) : ∀ i : Nat, (wy_ns P t by_ i : Int) = (wy_ct P t i + by_ - 1) / by_
  | 0 => by
    simp only [wy_ns, wy_ct]
    rcases wy_step h1 h2 with rfl | rfl | rfl | rfl | rfl | rfl | rfl | rfl | rfl | rfl <;> decide
  | i + 1 => by
    have h := wy_ns_ceil hI h1 h2 i
    have hc := wy_ct_b P t i
    have b3 := wy_b3 hI (40 * t + i)
    simp only [wy_ct]
    by_cases h0 : P 3 (40 * t + i) = 0
    · rw [wy_ns_s0 (fun hs => hs.1 h0), if_pos h0, h]
      congr 2
      omega
    · rw [if_neg h0, wy_ceil hc.1 h1 h2]
      by_cases hm : wy_ct P t i % by_ = 0
      · rw [wy_ns_s1 ⟨h0, hm⟩, if_pos hm]; omega
      · rw [wy_ns_s0 (fun hs => hm hs.2), if_neg hm]; omega
theorem wy_ns_mul (hI : wy_iv P) (h1 : 1 ≤ by_) (h2 : by_ ≤ 10) (i : Nat) : wy_ct P t i = by_ * (wy_ns P t by_ i : Int) ↔ wy_ct P t i % by_ = 0 := by
  have h := @wy_ns_ceil P t by_ hI h1 h2 i
  have hc := wy_ct_b P t i
  rw [h]
  rcases wy_step h1 h2 with rfl | rfl | rfl | rfl | rfl | rfl | rfl | rfl | rfl | rfl <;> omega
theorem wy_mul_b {x y : Int} (h1 : 1 ≤ x) (h2 : x ≤ 10) (h3 : 0 ≤ y) (h4 : y ≤ 100) : 0 ≤ x * y ∧ x * y ≤ 1000 := by
  rcases wy_step h1 h2 with rfl | rfl | rfl | rfl | rfl | rfl | rfl | rfl | rfl | rfl <;> omega
/-! the class takes a sample -/
variable {S : wq_St}
theorem wy_x_takeSample (hI : wy_iv P) (hR : wy_R wy_co S P) (ht : t < 4) (h1 : 1 ≤ by_) (h2 : by_ ≤ 10) : ∃ S', f_X7_takeSample (6 + 48 * t) by_ S = some ((wy_ns P t by_ (P 2 t).toNat : Int), S') ∧ (∀ k j, k ≠ 6 + 48 * t + 44 → S' k j = S k j) ∧ (∀ k, k < (P 2 t).toNat → wy_sm P t by_ k → S' (6 + 48 * t + 44) (wy_ns P t by_ k) = (k : Int)) := by
  have b2 := wy_b2 hI t
  unfold f_X7_takeSample
  have key := wy_up (fun n i (S1 : wq_St) => ∃ S', l_X7_takeSample_10 (6 + 48 * t) by_ (fun u4 S5 => some (u4, S5)) n (wy_ns P t by_ i : Int) (wy_ct P t i) (by_ * (wy_ns P t by_ i : Int)) (i : Int) S1 = some ((wy_ns P t by_ (P 2 t).toNat : Int), S') ∧ (∀ k j, k ≠ 6 + 48 * t + 44 → S' k j = S k j) ∧ (∀ k, k < (P 2 t).toNat → wy_sm P t by_ k → S' (6 + 48 * t + 44) (wy_ns P t by_ k) = (k : Int))) (P 2 t).toNat (fun i S1 => (∀ k j, k ≠ 6 + 48 * t + 44 → S1 k j = S k j) ∧ (∀ k, k < i → wy_sm P t by_ k → S1 (6 + 48 * t + 44) (wy_ns P t by_ k) = (k : Int))) ?_ ?_ wq_fu 0 S (by omega) (wy_fu' (by omega)) ⟨fun _ _ _ => rfl, fun k hk => by omega⟩
  · simpa [wy_ct, wy_ns] using key
  · intro n i S1 hi ⟨hf, hs⟩ ih
    have b3 := wy_b3 hI (40 * t + i)
    have hn := @wy_ns_le P t by_ i
    have hc := wy_ct_b P t i
    have hb := wy_mul_b h1 h2 (y := (wy_ns P t by_ i : Int)) (by omega) (by omega)
    have r5 : S1 (6 + 48 * t) 5 = P 2 t := by rw [hf _ _ (by omega)]; exact wy_c2 hR ht
    have r3 : S1 (6 + 48 * t + 43) i = P 3 (40 * t + i) := by rw [hf _ _ (by omega)]; exact wy_c3 hR ht (by omega)
    rw [l_X7_takeSample_10_s]
    unfold b_X7_takeSample_10
    simp (disch := omega) only [wy_ix, Int.toNat_natCast, r5, r3, wq_w_id]
    rw [if_neg (by omega)]
    have e : ((i : Int) + 1) = ((i + 1 : Nat) : Int) := by omega
    rw [e]
    by_cases h0 : P 3 (40 * t + i) = 0
    · rw [if_pos h0]
      have ih := ih S1 ⟨hf, fun k hk hm => by
        by_cases ek : k = i
        · subst ek; exact absurd h0 hm.1
        · exact hs k (by omega) hm⟩
      rw [wy_ns_s0 (fun hm => hm.1 h0)] at ih
      simp only [wy_ct] at ih
      rw [if_pos h0, Int.add_zero] at ih
      exact ih
    · rw [if_neg h0]
      have hm := @wy_ns_mul P t by_ hI h1 h2 i
      by_cases hq : wy_ct P t i = by_ * (wy_ns P t by_ i : Int)
      · rw [if_pos hq]
        have hsm : wy_sm P t by_ i := ⟨h0, hm.mp hq⟩
        have ih := ih (wq_set S1 (6 + 48 * t + 44) (wy_ns P t by_ i) (i : Int)) ⟨fun k j hk => by
          rw [wy_set_ne (fun e => hk e.1)]
          exact hf k j hk, fun k hk hm' => by
          by_cases ek : k = i
          · subst ek
            exact wy_set_at rfl rfl
          · have hlt : k + 1 ≤ i := by omega
            have h3 := @wy_ns_mono P t by_ _ _ hlt
            rw [wy_ns_s1 hm'] at h3
            rw [wy_set_ne (fun e => by omega)]
            exact hs k (by omega) hm'⟩
        rw [wy_ns_s1 hsm] at ih
        simp only [wy_ct] at ih
        rw [if_neg h0] at ih
        have e2 : by_ * ((wy_ns P t by_ i + 1 : Nat) : Int) = by_ * (wy_ns P t by_ i : Int) + by_ := by
          rw [Int.natCast_add, Int.mul_add]; simp
        rw [e2, Int.natCast_add] at ih
        exact ih
      · rw [if_neg hq]
        have hsm : ¬wy_sm P t by_ i := fun hs => hq (hm.mpr hs.2)
        have ih := ih S1 ⟨hf, fun k hk hm2 => by
          by_cases ek : k = i
          · subst ek; exact absurd hm2 hsm
          · exact hs k (by omega) hm2⟩
        rw [wy_ns_s0 hsm] at ih
        simp only [wy_ct] at ih
        rw [if_neg h0] at ih
        exact ih
  · intro n S1 ⟨hf, hs⟩
    have r5 : S1 (6 + 48 * t) 5 = P 2 t := by rw [hf _ _ (by omega)]; exact wy_c2 hR ht
    rw [l_X7_takeSample_10_s]
    unfold b_X7_takeSample_10
    simp (disch := omega) only [Int.toNat_natCast, r5, wq_w_id]
    rw [if_pos (by omega)]
    exact ⟨S1, rfl, hf, hs⟩
end
end
section
/-! the class tells a column -/
/-- P with the counts of table t told, of its first n columns -/
def wy_rn (P : wq_St) (t : Nat) (by_ : Int) (n : Nat) : wq_St := fun f j =>
  if f = 6 ∧ j = t then wy_ct P t (P 2 t).toNat
  else if 3 * t ≤ j ∧ j < 3 * t + n then
    if f = 7 then (if wy_ct P t (P 2 t).toNat < by_ * wy_un P t by_ (j - 3 * t) (P 2 t).toNat then wy_ct P t (P 2 t).toNat else by_ * wy_un P t by_ (j - 3 * t) (P 2 t).toNat)
    else if f = 8 then wy_le P t by_ (j - 3 * t) (P 2 t).toNat
    else if f = 9 then wy_gr P t by_ (j - 3 * t) (P 2 t).toNat
    else P f j
  else P f j
section
variable {P : wq_St} {t : Nat} {by_ : Int} {S : wq_St}
theorem wy_un_b (c : Nat) : ∀ i : Nat, 0 ≤ wy_un P t by_ c i ∧ wy_un P t by_ c i ≤ (i : Int)
  | 0 => by simp [wy_un]
  | i + 1 => by
    have h := wy_un_b c i
    simp only [wy_un]
    split <;> omega
theorem wy_legr (hI : wy_iv P) (c : Nat) : ∀ i : Nat, 0 ≤ wy_le P t by_ c i ∧ wy_le P t by_ c i ≤ wy_gr P t by_ c i ∧ wy_gr P t by_ c i ≤ 999
  | 0 => by simp [wy_le, wy_gr]
  | i + 1 => by
    have h := wy_legr hI c i
    have b4 : 0 ≤ wy_va P t c i ∧ wy_va P t c i ≤ 999 := wy_b4 hI (3 * (40 * t + i) + c)
    simp only [wy_le, wy_gr]
    split
    · split
      · split <;> omega
      · split <;> omega
    · exact h
theorem wy_rn_0 (P : wq_St) (t : Nat) (by_ : Int) : wy_rn P t by_ 0 = wq_set P 6 t (wy_ct P t (P 2 t).toNat) := by
  funext f j
  unfold wy_rn wq_set
  by_cases h : f = 6 ∧ j = t
  · rw [if_pos h, if_pos h]
  · rw [if_neg h, if_neg (by omega), if_neg h]
theorem wy_rn_s (P : wq_St) (t : Nat) (by_ : Int) (n : Nat) : wy_rn P t by_ (n + 1) = wq_set (wq_set (wq_set (wy_rn P t by_ n) 7 (3 * t + n) (if wy_ct P t (P 2 t).toNat < by_ * wy_un P t by_ n (P 2 t).toNat then wy_ct P t (P 2 t).toNat else by_ * wy_un P t by_ n (P 2 t).toNat)) 8 (3 * t + n) (wy_le P t by_ n (P 2 t).toNat)) 9 (3 * t + n) (wy_gr P t by_ n (P 2 t).toNat) := by
  funext f j
  by_cases hj : j = 3 * t + n
  · subst hj
    have e : 3 * t + n - 3 * t = n := by omega
    by_cases h7 : f = 7
    · subst h7
      rw [wy_set_ne (by omega), wy_set_ne (by omega), wy_set_at rfl rfl]
      unfold wy_rn
      rw [if_neg (by omega), if_pos (by omega), if_pos rfl, e]
    · by_cases h8 : f = 8
      · subst h8
        rw [wy_set_ne (by omega), wy_set_at rfl rfl]
        unfold wy_rn
        rw [if_neg (by omega), if_pos (by omega), if_neg (by omega), if_pos rfl, e]
      · by_cases h9 : f = 9
        · subst h9
          rw [wy_set_at rfl rfl]
          unfold wy_rn
          rw [if_neg (by omega), if_pos (by omega), if_neg (by omega), if_neg (by omega), if_pos rfl, e]
        · rw [wy_set_ne (by omega), wy_set_ne (by omega), wy_set_ne (by omega)]
          unfold wy_rn
          by_cases h6 : f = 6 ∧ 3 * t + n = t
          · rw [if_pos h6, if_pos h6]
          · rw [if_neg h6, if_neg h6, if_pos (by omega), if_neg h7, if_neg h8, if_neg h9, if_neg (by omega)]
  · rw [wy_set_ne (by omega), wy_set_ne (by omega), wy_set_ne (by omega)]
    unfold wy_rn
    by_cases h6 : f = 6 ∧ j = t
    · rw [if_pos h6, if_pos h6]
    · rw [if_neg h6, if_neg h6]
      by_cases hr : 3 * t ≤ j ∧ j < 3 * t + n
      · rw [if_pos hr, if_pos (by omega)]
      · rw [if_neg hr, if_neg (by omega)]
/-- what the sample array holds -/
def wy_sa (P : wq_St) (t : Nat) (by_ : Int) (S : wq_St) : Prop := ∀ k, k < (P 2 t).toNat → wy_sm P t by_ k → S (6 + 48 * t + 44) (wy_ns P t by_ k) = (k : Int)
theorem wy_x_isNew (hI : wy_iv P) (ht : t < 4) (hsa : wy_sa P t by_ S) (h4 : ∀ i c, i < 40 → c < 3 → S (6 + 48 * t + 3 + i) c = wy_va P t c i) {c ρ : Nat} (hc : c < 3) (hρ : ρ < (P 2 t).toNat) (hm : wy_sm P t by_ ρ) : f_X7_isNewInSample (6 + 48 * t) (c : Int) (wy_ns P t by_ ρ : Int) S = some (wy_nx P t by_ c (wy_va P t c ρ) ρ, S) := by
  have b2 := wy_b2 hI t
  have hn := @wy_ns_le P t by_ ρ
  have b4 : 0 ≤ wy_va P t c ρ ∧ wy_va P t c ρ ≤ 999 := wy_b4 hI (3 * (40 * t + ρ) + c)
  unfold f_X7_isNewInSample
  have key := wy_up (fun n q (_ : Unit) => l_X7_isNewInSample_2 (6 + 48 * t) (c : Int) (wy_ns P t by_ ρ : Int) (fun S7 => some (1, S7)) n (q : Int) S = some (wy_nx P t by_ c (wy_va P t c ρ) ρ, S)) (wy_ns P t by_ ρ) (fun q _ => ∀ k, k < ρ → wy_sm P t by_ k → wy_ns P t by_ k < q → wy_va P t c k ≠ wy_va P t c ρ) ?_ ?_ wq_fu 0 () (by omega) (wy_fu' (by omega)) (fun k _ _ h => by omega)
  · simpa using key
  · intro n q s hq hv ih
    obtain ⟨k, hk, hkm, hkq⟩ := wy_ns_ex hq
    have hk2 := hsa k (by omega) hkm
    have hr2 := hsa ρ hρ hm
    have b4k : 0 ≤ wy_va P t c k ∧ wy_va P t c k ≤ 999 := wy_b4 hI (3 * (40 * t + k) + c)
    have e4k := h4 k c (by omega) hc
    have e4r := h4 ρ c (by omega) hc
    rw [hkq] at hk2
    rw [l_X7_isNewInSample_2_s]
    unfold b_X7_isNewInSample_2
    simp (disch := omega) only [wy_ix, Int.toNat_natCast, hk2, hr2, wq_w_id, e4k, e4r]
    rw [if_neg (by omega)]
    by_cases he : wy_va P t c k = wy_va P t c ρ
    · rw [if_pos he, wy_nx_0 hkm he hk]
    · rw [if_neg he]
      have e : ((q : Int) + 1) = ((q + 1 : Nat) : Int) := by omega
      rw [e]
      refine ih () fun k' h1 h2 h3 => ?_
      by_cases e' : wy_ns P t by_ k' = q
      · have : k' = k := by
          rcases Nat.lt_trichotomy k' k with h | h | h
          · have h5 := @wy_ns_mono P t by_ (k' + 1) k h
            rw [wy_ns_s1 h2] at h5; omega
          · exact h
          · have h5 := @wy_ns_mono P t by_ (k + 1) k' h
            rw [wy_ns_s1 hkm] at h5; omega
        rw [this]; exact he
      · exact hv k' h1 h2 (by omega)
  · intro n s hv
    rw [l_X7_isNewInSample_2_s]
    unfold b_X7_isNewInSample_2
    simp (disch := omega) only [wq_w_id]
    rw [if_pos (by omega), wy_nx_1 (fun k hk hkm => hv k hk hkm ?_)]
    have h5 := @wy_ns_mono P t by_ (k + 1) ρ hk
    rw [wy_ns_s1 hkm] at h5; omega
theorem wy_x_tell (hI : wy_iv P) (ht : t < 4) (h1 : 1 ≤ by_) (h2 : by_ ≤ 10) (hsa : wy_sa P t by_ S) (h4 : ∀ i c, i < 40 → c < 3 → S (6 + 48 * t + 3 + i) c = wy_va P t c i) (h6 : S (6 + 48 * t) 6 = wy_ct P t (P 2 t).toNat) {c : Nat} (hc : c < 3) :
    f_X7_tellColumn (6 + 48 * t) (c : Int) (wy_ns P t by_ (P 2 t).toNat : Int) by_ S = some (0, wq_set (wq_set (wq_set S (6 + 48 * t + 45 + c) 1 (if wy_ct P t (P 2 t).toNat < by_ * wy_un P t by_ c (P 2 t).toNat then wy_ct P t (P 2 t).toNat else by_ * wy_un P t by_ c (P 2 t).toNat)) (6 + 48 * t + 45 + c) 2 (wy_le P t by_ c (P 2 t).toNat)) (6 + 48 * t + 45 + c) 3 (wy_gr P t by_ c (P 2 t).toNat)) := by
  have b2 := wy_b2 hI t
  have hnN := @wy_ns_le P t by_ (P 2 t).toNat
  unfold f_X7_tellColumn
  generalize hkx : (fun u10 u11 u12 S13 => wq_ix (c : Int) 3 fun t14 => wq_lt (wq_set S13 ((6 + 48 * t) + 45 + t14) 1 (wq_min (u10 * by_) (S13 (6 + 48 * t) 6))) fun S15 => wq_ix (c : Int) 3 fun t16 => wq_lt (wq_set S15 ((6 + 48 * t) + 45 + t16) 2 u11) fun S17 => wq_ix (c : Int) 3 fun t18 => some ((0 : Int), wq_set S17 ((6 + 48 * t) + 45 + t18) 3 u12)) = kx
  have key := wy_up (fun n q (s : Int × Int × Int) => l_X7_tellColumn_12 (6 + 48 * t) (c : Int) (wy_ns P t by_ (P 2 t).toNat : Int) by_ kx n s.1 s.2.1 s.2.2 (q : Int) S = kx (wy_un P t by_ c (P 2 t).toNat) (wy_le P t by_ c (P 2 t).toNat) (wy_gr P t by_ c (P 2 t).toNat) S) (wy_ns P t by_ (P 2 t).toNat) (fun q s => ∀ i, i ≤ (P 2 t).toNat → wy_ns P t by_ i = q → s.1 = wy_un P t by_ c i ∧ s.2.1 = wy_le P t by_ c i ∧ s.2.2 = wy_gr P t by_ c i) ?_ ?_ wq_fu 0 (0, 0, 0) (by omega) (wy_fu' (by omega)) (fun i _ hi => by
    have h := @wy_const P t by_ 0 c 0 i (by omega) (by rw [hi]; rfl)
    exact ⟨h.1, h.2.1, h.2.2⟩)
  · refine Eq.trans key ?_
    subst hkx
    have hu := @wy_un_b P t by_ c (P 2 t).toNat
    have hcb := wy_ct_b P t (P 2 t).toNat
    have hmb := wy_mul_b h1 h2 (y := wy_un P t by_ c (P 2 t).toNat) (by omega) (by omega)
    simp (disch := omega) only [wy_ix, Int.toNat_natCast, wq_lt, wq_min, h6]
    rw [Int.mul_comm (wy_un P t by_ c (P 2 t).toNat) by_]
    simp (disch := omega) only [wq_w_id]
  · intro n q s hq hv ih
    obtain ⟨ρ, hρ, hm, hρq⟩ := wy_ns_ex hq
    obtain ⟨v1, v2, v3⟩ := hv ρ (by omega) hρq
    have hr2 := hsa ρ hρ hm
    have b4 : 0 ≤ wy_va P t c ρ ∧ wy_va P t c ρ ≤ 999 := wy_b4 hI (3 * (40 * t + ρ) + c)
    have e4 := h4 ρ c (by omega) hc
    have hlg := @wy_legr P t by_ hI c ρ
    have hnew := wy_x_isNew hI ht hsa h4 hc hρ hm
    have hnb := @wy_nx_b P t by_ c (wy_va P t c ρ) ρ
    rw [hρq] at hr2 hnew
    have nxt : ∀ s' : Int × Int × Int, s'.1 = wy_un P t by_ c (ρ + 1) → s'.2.1 = wy_le P t by_ c (ρ + 1) → s'.2.2 = wy_gr P t by_ c (ρ + 1) → ∀ i, i ≤ (P 2 t).toNat → wy_ns P t by_ i = q + 1 → s'.1 = wy_un P t by_ c i ∧ s'.2.1 = wy_le P t by_ c i ∧ s'.2.2 = wy_gr P t by_ c i := by
      intro s' g1 g2 g3 i hi hiq
      have e1 : wy_ns P t by_ (ρ + 1) = q + 1 := by rw [wy_ns_s1 hm, hρq]
      have hge : ρ + 1 ≤ i := by
        rcases Nat.lt_or_ge ρ i with h | h
        · exact h
        · have := @wy_ns_mono P t by_ i ρ h
          omega
      have h := @wy_const P t by_ (ρ + 1) c 0 i hge (by omega)
      rw [g1, g2, g3]
      exact h
    simp only [wy_un, wy_le, wy_gr] at nxt
    rw [if_pos hm, if_pos hm, hρq] at nxt
    rw [l_X7_tellColumn_12_s]
    unfold b_X7_tellColumn_12 j_X7_tellColumn_46
    have e : ((q : Int) + 1) = ((q + 1 : Nat) : Int) := by omega
    simp (disch := omega) only [wy_ix, Int.toNat_natCast, hr2, e4, wq_w_id, v1, v2, v3]
    rw [if_neg (by omega)]
    have fin : ∀ l g, l = (if q = 0 ∨ wy_va P t c ρ < wy_le P t by_ c ρ then wy_va P t c ρ else wy_le P t by_ c ρ) → g = (if q = 0 ∨ wy_gr P t by_ c ρ < wy_va P t c ρ then wy_va P t c ρ else wy_gr P t by_ c ρ) → (wq_bd (f_X7_isNewInSample (6 + 48 * t) (c : Int) (q : Int) S) fun r4 S5 => if wq_w r4 = 0 then l_X7_tellColumn_12 (6 + 48 * t) (c : Int) (wy_ns P t by_ (P 2 t).toNat : Int) by_ kx n (wy_un P t by_ c ρ) l g ((q : Int) + 1) S5 else l_X7_tellColumn_12 (6 + 48 * t) (c : Int) (wy_ns P t by_ (P 2 t).toNat : Int) by_ kx n (wy_un P t by_ c ρ + 1) l g ((q : Int) + 1) S5) = kx (wy_un P t by_ c (P 2 t).toNat) (wy_le P t by_ c (P 2 t).toNat) (wy_gr P t by_ c (P 2 t).toNat) S := by
      intro l g hl hg
      rw [wy_bd hnew, e]
      rcases hnb with hz | hz
      · rw [hz] at nxt ⊢
        rw [if_pos wq_w_0]
        exact ih (wy_un P t by_ c ρ, l, g) (nxt _ (by rw [if_neg (fun h => h.2 rfl)]; omega) hl hg)
      · rw [hz] at nxt ⊢
        rw [if_neg (by decide)]
        exact ih (wy_un P t by_ c ρ + 1, l, g) (nxt _ (by rw [if_pos ⟨hm, by omega⟩]) hl hg)
    have h50 : ∀ l j5, l = (if q = 0 ∨ wy_va P t c ρ < wy_le P t by_ c ρ then wy_va P t c ρ else wy_le P t by_ c ρ) → (j5 = wy_va P t c ρ) → j_X7_tellColumn_50 kx (l_X7_tellColumn_12 (6 + 48 * t) (c : Int) (wy_ns P t by_ (P 2 t).toNat : Int) by_ kx n) (6 + 48 * t) (c : Int) (wy_ns P t by_ (P 2 t).toNat : Int) by_ (wy_un P t by_ c ρ) l (wy_gr P t by_ c ρ) (q : Int) j5 S = kx (wy_un P t by_ c (P 2 t).toNat) (wy_le P t by_ c (P 2 t).toNat) (wy_gr P t by_ c (P 2 t).toNat) S := by
      intro l j5 hl hj5
      subst hj5
      unfold j_X7_tellColumn_50
      simp (disch := omega) only [wq_w_id]
      by_cases hq0 : (q : Int) = 0
      · rw [if_pos hq0]
        refine Eq.trans ?_ (fin l (wy_va P t c ρ) hl (by rw [if_pos (Or.inl (by omega))]))
        rfl
      · rw [if_neg hq0]
        by_cases hg : wy_va P t c ρ ≤ wy_gr P t by_ c ρ
        · rw [if_pos hg]
          exact fin l (wy_gr P t by_ c ρ) hl (by rw [if_neg (by omega)])
        · rw [if_neg hg]
          exact fin l (wy_va P t c ρ) hl (by rw [if_pos (by omega)])
    by_cases hq0 : (q : Int) = 0
    · rw [if_pos hq0]
      exact h50 _ _ (by rw [if_pos (Or.inl (by omega))]) rfl
    · rw [if_neg hq0]
      by_cases hg : wy_le P t by_ c ρ ≤ wy_va P t c ρ
      · rw [if_pos hg]
        exact h50 _ _ (by rw [if_neg (by omega)]) rfl
      · rw [if_neg hg]
        exact h50 _ _ (by rw [if_pos (by omega)]) rfl
  · intro n s hv
    obtain ⟨v1, v2, v3⟩ := hv _ (Nat.le_refl _) rfl
    rw [l_X7_tellColumn_12_s]
    unfold b_X7_tellColumn_12
    simp (disch := omega) only [wq_w_id, v1, v2, v3]
    rw [if_pos (by omega)]
end
end
section
/-! counts are renewed -/
section
variable {P : wq_St} {t : Nat} {by_ : Int} {S M : wq_St}
theorem wy_rn_o {n f j : Nat} (h : f ≠ 6 ∧ f ≠ 7 ∧ f ≠ 8 ∧ f ≠ 9) : wy_rn P t by_ n f j = P f j := by
  unfold wy_rn
  rw [if_neg (by omega)]
  split
  · rw [if_neg h.2.1, if_neg h.2.2.1, if_neg h.2.2.2]
  · rfl
theorem wy_x_renew (hI : wy_iv P) (hR : wy_R wy_al S P) (ht : t < 4) (h1 : 1 ≤ by_) (h2 : by_ ≤ 10) : ∃ S', f_X7_renewCounts (6 + 48 * t) by_ S = some ((wy_ns P t by_ (P 2 t).toNat : Int), S') ∧ wy_R wy_al S' (wy_rn P t by_ (P 1 t).toNat) := by
  have b1 := wy_b1 hI t
  have b2 := wy_b2 hI t
  obtain ⟨S2, e2, hf, hsa⟩ := wy_x_takeSample hI (wy_R_co hR) ht h1 h2
  have hR2 : wy_R wy_al S2 P := fun f i hc hi => by
    have h := (wy_ok hi).2
    rw [hf _ _ (fun e => h (by unfold wy_scr; omega))]
    exact hR f i hc hi
  have hp := hI.2.2.2.2.2.2.2.2.2 t ht
  unfold f_X7_renewCounts
  rw [wy_bd e2]
  simp only [wq_lt]
  have r6 : S2 (6 + 48 * t) 6 = wy_ct P t (P 2 t).toNat := by rw [wy_c27 (wy_R_co hR2) ht, hp]
  rw [r6]
  have key := wy_up (fun n i (S1 : wq_St) => ∃ S', l_X7_renewCounts_16 (6 + 48 * t) by_ (wy_ns P t by_ (P 2 t).toNat : Int) (fun S6 => some ((wy_ns P t by_ (P 2 t).toNat : Int), S6)) n (i : Int) S1 = some ((wy_ns P t by_ (P 2 t).toNat : Int), S') ∧ wy_R wy_al S' (wy_rn P t by_ (P 1 t).toNat)) (P 1 t).toNat (fun i S1 => wy_R wy_al S1 (wy_rn P t by_ i) ∧ wy_sa P t by_ S1) ?_ ?_ wq_fu 0 (wq_set S2 (6 + 48 * t) 7 (wy_ct P t (P 2 t).toNat)) (by omega) (wy_fu' (by omega)) ⟨?_, ?_⟩
  · exact key
  · intro n i S1 hi ⟨hr, hs⟩ ih
    have hr' := wy_R_co hr
    rw [l_X7_renewCounts_16_s]
    unfold b_X7_renewCounts_16
    have r4 : S1 (6 + 48 * t) 4 = P 1 t := by rw [wy_c1 hr' ht, wy_rn_o (by omega)]
    simp (disch := omega) only [r4, wq_w_id]
    rw [if_neg (by omega)]
    have htl := wy_x_tell (S := S1) hI ht h1 h2 hs (fun i' c' hi' hc' => by rw [wy_c4 hr' ht hi' hc', wy_rn_o (by omega)]; rfl) (by rw [wy_c27 hr' ht, wy_rn_o (by omega), hp]) (c := i) (by omega)
    rw [wy_bd htl]
    have e : ((i : Int) + 1) = ((i + 1 : Nat) : Int) := by omega
    rw [e]
    have hin : ∀ f, f = 7 ∨ f = 8 ∨ f = 9 → wy_in f (3 * t + i) := fun f hf => by
      refine ⟨?_, fun e => by omega⟩
      rcases hf with rfl | rfl | rfl <;> (show 3 * t + i < 12; omega)
    refine ih _ ⟨?_, ?_⟩
    · rw [wy_rn_s]
      exact wy_R_set (wy_R_set (wy_R_set hr _ (hin 7 (by omega)) (wy_k3 (by omega)).symm rfl) _ (hin 8 (by omega)) (wy_k3 (by omega)).symm rfl) _ (hin 9 (by omega)) (wy_k3 (by omega)).symm rfl
    · intro k hk hm
      rw [wy_set_ne (by omega), wy_set_ne (by omega), wy_set_ne (by omega)]
      exact hs k hk hm
  · intro n S1 ⟨hr, hs⟩
    have hr' := wy_R_co hr
    rw [l_X7_renewCounts_16_s]
    unfold b_X7_renewCounts_16
    have r4 : S1 (6 + 48 * t) 4 = P 1 t := by rw [wy_c1 hr' ht, wy_rn_o (by omega)]
    simp (disch := omega) only [r4, wq_w_id]
    rw [if_pos (by omega)]
    exact ⟨S1, rfl, hr⟩
  · rw [wy_rn_0]
    exact wy_R_set hR2 _ (f₀ := 6) (i₀ := t) ⟨ht, fun e => by omega⟩ rfl rfl
  · intro k hk hm
    rw [wy_set_ne (by omega)]
    exact hsa k hk hm
/-! the model -/
theorem wy_m_valueAt (h4 : ∀ j, M 4 j = P 4 j) (ht : t < 4) {i c : Nat} (hi : i < 40) (hc : c < 3) : f_X9_valueAt (t : Int) (i : Int) (c : Int) M = some (wy_va P t c i, M) := by
  unfold f_X9_valueAt
  simp (disch := omega) only [wy_ix, wy_n34, h4]
  rfl
theorem wy_rem {a b : Int} (h0 : 0 ≤ a) (h1 : a < 2147483648) (h2 : 1 ≤ b) (h3 : b ≤ 10) : wq_rem a b = a % b := by
  unfold wq_rem wq_div
  rw [wq_w_id (by omega) h1, wq_w_id (by omega) (by omega), Int.tdiv_eq_ediv_of_nonneg h0]
  rcases wy_step h2 h3 with rfl | rfl | rfl | rfl | rfl | rfl | rfl | rfl | rfl | rfl <;> omega
theorem wy_m_isSampled (hI : wy_iv P) (h3 : ∀ j, M 3 j = P 3 j) (ht : t < 4) (h1 : 1 ≤ by_) (h2 : by_ ≤ 10) {i : Nat} (hi : i < 40) : f_X9_isSampled (t : Int) (i : Int) by_ M = some ((if wy_sm P t by_ i then 1 else 0), M) := by
  unfold f_X9_isSampled
  generalize hkx : (fun (u2 : Int) (S3 : wq_St) => wq_ix ((40 * (t : Int)) + (i : Int)) 160 fun t4 => if wq_w (S3 3 t4) = 0 then some ((0 : Int), S3) else wq_gd (¬ wq_w by_ = 0) <| if wq_w (wq_rem u2 by_) = 0 then some (1, S3) else some (0, S3)) = kx
  have key := wy_up (fun n k (_ : Unit) => l_X9_isSampled_6 (t : Int) (i : Int) by_ kx n (wy_ct P t k) (k : Int) M = kx (wy_ct P t i) M) i (fun _ _ => True) ?_ ?_ wq_fu 0 () (by omega) (wy_fu' (by omega)) trivial
  · refine Eq.trans key ?_
    subst hkx
    have b3 := wy_b3 hI (40 * t + i)
    have hc := wy_ct_b P t i
    simp (disch := omega) only [wy_ix, wy_n40, h3, wq_w_id, wy_rem]
    by_cases h0 : P 3 (40 * t + i) = 0
    · rw [if_pos h0, if_neg (fun h => h.1 h0)]
    · rw [if_neg h0, wq_gd_t (by omega)]
      have hm : 0 ≤ wy_ct P t i % by_ ∧ wy_ct P t i % by_ < by_ := ⟨Int.emod_nonneg _ (by omega), Int.emod_lt_of_pos _ (by omega)⟩
      rw [wq_w_id (by omega) (by omega)]
      by_cases hz : wy_ct P t i % by_ = 0
      · rw [if_pos hz, if_pos ⟨h0, hz⟩]
      · rw [if_neg hz, if_neg (fun h => hz h.2)]
  · intro n k s hk _ ih
    have b3 := wy_b3 hI (40 * t + k)
    have ih := ih () trivial
    rw [l_X9_isSampled_6_s]
    unfold b_X9_isSampled_6
    simp (disch := omega) only [wy_ix, wy_n40, h3, wq_w_id]
    rw [if_neg (by omega)]
    have e : ((k : Int) + 1) = ((k + 1 : Nat) : Int) := by omega
    simp only [wy_ct] at ih
    rw [e]
    by_cases hc : P 3 (40 * t + k) = 0
    · rw [if_pos hc] at ih ⊢
      exact ih
    · rw [if_neg hc] at ih ⊢
      exact ih
  · intro n s _
    rw [l_X9_isSampled_6_s]
    unfold b_X9_isSampled_6
    rw [if_pos (Int.le_refl _)]
theorem wy_m_sample (hI : wy_iv P) (h2' : ∀ i, M 2 i = P 2 i) (h3 : ∀ j, M 3 j = P 3 j) (ht : t < 4) (h1 : 1 ≤ by_) (h2 : by_ ≤ 10) : f_X9_sample (t : Int) by_ M = some ((wy_ns P t by_ (P 2 t).toNat : Int), M) := by
  have b2 := wy_b2 hI t
  have hc := wy_ct_b P t (P 2 t).toNat
  unfold f_X9_sample
  rw [wy_bd (wy_m_rowsOf hI h2' h3 ht), wq_w_id (by omega) (by omega), wq_gd_t (by omega), wy_ns_ceil hI h1 h2]
  unfold wq_div
  rw [wq_w_id (by omega) (by omega), wq_w_id (by omega) (by omega), Int.tdiv_eq_ediv_of_nonneg (by omega)]
theorem wy_m_nx (hI : wy_iv P) (h3 : ∀ j, M 3 j = P 3 j) (h4 : ∀ j, M 4 j = P 4 j) (ht : t < 4) (h1 : 1 ≤ by_) (h2 : by_ ≤ 10) {c ρ : Nat} {v at_ y : Int} (hc : c < 3) (hρ : ρ < 40) (hv : 0 ≤ v ∧ v ≤ 999) (kx : Int → wq_St → Option (Int × wq_St)) : l_X9_renews_173 (t : Int) by_ (c : Int) at_ y (ρ : Int) v kx wq_fu 1 0 M = kx (wy_nx P t by_ c v ρ) M := by
  have key := wy_up (fun n k (_ : Unit) => l_X9_renews_173 (t : Int) by_ (c : Int) at_ y (ρ : Int) v kx n (wy_nx P t by_ c v k) (k : Int) M = kx (wy_nx P t by_ c v ρ) M) ρ (fun _ _ => True) ?_ ?_ wq_fu 0 () (by omega) (wy_fu' (by omega)) trivial
  · exact key
  · intro n k s hk _ ih
    have ih := ih () trivial
    have b4 : 0 ≤ wy_va P t c k ∧ wy_va P t c k ≤ 999 := wy_b4 hI _
    have hb := @wy_nx_b P t by_ c v k
    simp only [wy_nx] at ih
    have e : ((k : Int) + 1) = ((k + 1 : Nat) : Int) := by omega
    rw [l_X9_renews_173_s]
    unfold b_X9_renews_173
    rw [e]
    simp (disch := omega) only [wq_w_id]
    rw [if_neg (by omega)]
    by_cases h0 : wy_nx P t by_ c v k = 0
    · rw [if_pos h0] at ih ⊢
      exact ih
    · rw [if_neg h0] at ih ⊢
      rw [wy_bd (wy_m_isSampled hI h3 ht h1 h2 (by omega))]
      by_cases hm : wy_sm P t by_ k
      · rw [if_pos hm, if_neg (by decide), wy_bd (wy_m_valueAt h4 ht (by omega) hc), wq_w_id (by omega) (by omega)]
        by_cases hva : wy_va P t c k = v
        · rw [if_pos ⟨hm, hva⟩] at ih
          rw [if_pos hva]
          exact ih
        · rw [if_neg (fun h => hva h.2)] at ih
          rw [if_neg hva]
          exact ih
      · rw [if_neg (fun h => hm h.1)] at ih
        rw [if_neg hm, if_pos wq_w_0]
        exact ih
  · intro n s _
    rw [l_X9_renews_173_s]
    unfold b_X9_renews_173
    rw [if_pos (Int.le_refl _)]
def wy_m3 (M : wq_St) (a : Nat) (u l g : Int) : wq_St := wq_set (wq_set (wq_set M 7 a u) 8 a l) 9 a g
theorem wy_m3_7 {a : Nat} {u l g v : Int} : wq_set (wy_m3 M a u l g) 7 a v = wy_m3 M a v l g := by
  funext f j
  unfold wy_m3
  by_cases h : f = 7 ∧ j = a
  · rw [wy_set_at h.1 h.2, wy_set_ne (by omega), wy_set_ne (by omega), wy_set_at h.1 h.2]
  · rw [wy_set_ne h]
    by_cases h9 : f = 9 ∧ j = a
    · rw [wy_set_at h9.1 h9.2, wy_set_at h9.1 h9.2]
    · rw [wy_set_ne h9, wy_set_ne h9]
      by_cases h8 : f = 8 ∧ j = a
      · rw [wy_set_at h8.1 h8.2, wy_set_at h8.1 h8.2]
      · rw [wy_set_ne h8, wy_set_ne h8, wy_set_ne h, wy_set_ne h]
theorem wy_m3_8 {a : Nat} {u l g v : Int} : wq_set (wy_m3 M a u l g) 8 a v = wy_m3 M a u v g := by
  funext f j
  unfold wy_m3
  by_cases h : f = 8 ∧ j = a
  · rw [wy_set_at h.1 h.2, wy_set_ne (by omega), wy_set_at h.1 h.2]
  · rw [wy_set_ne h]
    by_cases h9 : f = 9 ∧ j = a
    · rw [wy_set_at h9.1 h9.2, wy_set_at h9.1 h9.2]
    · rw [wy_set_ne h9, wy_set_ne h9, wy_set_ne h, wy_set_ne h]
theorem wy_m3_9 {a : Nat} {u l g v : Int} : wq_set (wy_m3 M a u l g) 9 a v = wy_m3 M a u l v := by
  funext f j
  unfold wy_m3
  by_cases h : f = 9 ∧ j = a
  · rw [wy_set_at h.1 h.2, wy_set_at h.1 h.2]
  · rw [wy_set_ne h, wy_set_ne h, wy_set_ne h]
theorem wy_m3_r7 {a : Nat} {u l g : Int} : wy_m3 M a u l g 7 a = u := by
  unfold wy_m3
  rw [wy_set_ne (by omega), wy_set_ne (by omega), wy_set_at rfl rfl]
theorem wy_m3_r8 {a : Nat} {u l g : Int} : wy_m3 M a u l g 8 a = l := by
  unfold wy_m3
  rw [wy_set_ne (by omega), wy_set_at rfl rfl]
theorem wy_m3_r9 {a : Nat} {u l g : Int} : wy_m3 M a u l g 9 a = g := by
  unfold wy_m3
  rw [wy_set_at rfl rfl]
theorem wy_m3_o {a f j : Nat} {u l g : Int} (h : f ≠ 7 ∧ f ≠ 8 ∧ f ≠ 9) : wy_m3 M a u l g f j = M f j := by
  unfold wy_m3
  rw [wy_set_ne (by omega), wy_set_ne (by omega), wy_set_ne (by omega)]
end
end
section
section
variable {P : wq_St} {t : Nat} {by_ : Int} {S M : wq_St}
theorem wy_m_col (hI : wy_iv P) (h2' : ∀ j, M 2 j = P 2 j) (h3 : ∀ j, M 3 j = P 3 j) (h4 : ∀ j, M 4 j = P 4 j) (ht : t < 4) (h1 : 1 ≤ by_) (h2 : by_ ≤ 10) {c : Nat} (hc : c < 3) (kx : wq_St → Option (Int × wq_St)) :
    l_X9_renews_60 (t : Int) by_ (c : Int) (3 * (t : Int) + (c : Int)) kx wq_fu 0 0 (wy_m3 M (3 * t + c) 0 0 0) = kx (wy_m3 M (3 * t + c) (by_ * wy_un P t by_ c (P 2 t).toNat) (wy_le P t by_ c (P 2 t).toNat) (wy_gr P t by_ c (P 2 t).toNat)) := by
  have b2 := wy_b2 hI t
  have g2 : ∀ u l g j, wy_m3 M (3 * t + c) u l g 2 j = P 2 j := fun u l g j => by rw [wy_m3_o (by omega), h2']
  have g3 : ∀ u l g j, wy_m3 M (3 * t + c) u l g 3 j = P 3 j := fun u l g j => by rw [wy_m3_o (by omega), h3]
  have g4 : ∀ u l g j, wy_m3 M (3 * t + c) u l g 4 j = P 4 j := fun u l g j => by rw [wy_m3_o (by omega), h4]
  have key := wy_up (fun n i (_ : Unit) => l_X9_renews_60 (t : Int) by_ (c : Int) (3 * (t : Int) + (c : Int)) kx n (if wy_ns P t by_ i = 0 then 0 else 1) (i : Int) (wy_m3 M (3 * t + c) (by_ * wy_un P t by_ c i) (wy_le P t by_ c i) (wy_gr P t by_ c i)) = kx (wy_m3 M (3 * t + c) (by_ * wy_un P t by_ c (P 2 t).toNat) (wy_le P t by_ c (P 2 t).toNat) (wy_gr P t by_ c (P 2 t).toNat))) (P 2 t).toNat (fun _ _ => True) ?_ ?_ wq_fu 0 () (by omega) (wy_fu' (by omega)) trivial
  · simpa [wy_ns, wy_un, wy_le, wy_gr] using key
  · intro n i s hi _ ih
    have ih := ih () trivial
    have hlg := @wy_legr P t by_ hI c i
    have b4 : 0 ≤ wy_va P t c i ∧ wy_va P t c i ≤ 999 := wy_b4 hI _
    have hnb := @wy_nx_b P t by_ c (wy_va P t c i) i
    have e : ((i : Int) + 1) = ((i + 1 : Nat) : Int) := by omega
    rw [l_X9_renews_60_s]
    unfold b_X9_renews_60
    simp (disch := omega) only [wy_ix, Int.toNat_natCast, g2, wq_w_id]
    rw [if_neg (by omega), wy_bd (wy_m_isSampled hI (g3 _ _ _) ht h1 h2 (by omega))]
    by_cases hm : wy_sm P t by_ i
    · rw [if_pos hm, if_neg (by decide), wy_bd (wy_m_valueAt (g4 _ _ _) ht (by omega) hc)]
      rw [wy_ns_s1 hm] at ih
      simp only [wy_un, wy_le, wy_gr] at ih
      rw [if_neg (by omega), if_pos hm, if_pos hm] at ih
      have h163 : ∀ g' g l, g' = (if wy_ns P t by_ i = 0 ∨ wy_gr P t by_ c i < wy_va P t c i then wy_va P t c i else wy_gr P t by_ c i) → l = (if wy_ns P t by_ i = 0 ∨ wy_va P t c i < wy_le P t by_ c i then wy_va P t c i else wy_le P t by_ c i) →
          j_X9_renews_163 kx (l_X9_renews_60 (t : Int) by_ (c : Int) (3 * (t : Int) + (c : Int)) kx n) (t : Int) by_ (c : Int) (3 * (t : Int) + (c : Int)) (i : Int) (wy_va P t c i) g' (3 * (t : Int) + (c : Int)) (wy_m3 M (3 * t + c) (by_ * wy_un P t by_ c i) l g) = kx (wy_m3 M (3 * t + c) (by_ * wy_un P t by_ c (P 2 t).toNat) (wy_le P t by_ c (P 2 t).toNat) (wy_gr P t by_ c (P 2 t).toNat)) := by
        intro g' g l hg hl
        subst hg hl
        unfold j_X9_renews_163
        simp (disch := omega) only [wy_ix, wy_n3, wq_lt, wy_m3_9]
        rw [wy_m_nx hI (g3 _ _ _) (g4 _ _ _) ht h1 h2 hc (by omega) b4, e]
        simp only [wy_m3_7, wy_m3_r7]
        rcases hnb with hz | hz
        · rw [hz] at ih ⊢
          rw [if_neg (fun h => h.2 rfl)] at ih
          rw [if_pos wq_w_0]
          simp only [Int.add_zero] at ih ⊢
          exact ih
        · rw [hz] at ih ⊢
          rw [if_pos ⟨hm, by omega⟩, Int.mul_add, Int.mul_one] at ih
          rw [if_neg (by decide)]
          exact ih
      have h127 : ∀ l' , l' = (if wy_ns P t by_ i = 0 ∨ wy_va P t c i < wy_le P t by_ c i then wy_va P t c i else wy_le P t by_ c i) →
          j_X9_renews_127 kx (l_X9_renews_60 (t : Int) by_ (c : Int) (3 * (t : Int) + (c : Int)) kx n) (t : Int) by_ (c : Int) (3 * (t : Int) + (c : Int)) (if wy_ns P t by_ i = 0 then 0 else 1) (i : Int) (wy_va P t c i) l' (3 * (t : Int) + (c : Int)) (wy_m3 M (3 * t + c) (by_ * wy_un P t by_ c i) (wy_le P t by_ c i) (wy_gr P t by_ c i)) = kx (wy_m3 M (3 * t + c) (by_ * wy_un P t by_ c (P 2 t).toNat) (wy_le P t by_ c (P 2 t).toNat) (wy_gr P t by_ c (P 2 t).toNat)) := by
        intro l' hl
        unfold j_X9_renews_127 j_X9_renews_151
        simp (disch := omega) only [wy_ix, wy_n3, wq_lt, wy_m3_8, wy_m3_r9]
        by_cases hq : wy_ns P t by_ i = 0
        · rw [if_pos hq, if_pos wq_w_0]
          exact h163 _ _ _ (by rw [if_pos (Or.inl hq)]) hl
        · rw [if_neg hq, if_neg (by decide), wq_w_id (by omega) (by omega), wq_w_id (by omega) (by omega)]
          by_cases hg : wy_va P t c i ≤ wy_gr P t by_ c i
          · rw [if_pos hg]
            exact h163 _ _ _ (by rw [if_neg (by omega)]) hl
          · rw [if_neg hg]
            exact h163 _ _ _ (by rw [if_pos (by omega)]) hl
      unfold j_X9_renews_115
      simp (disch := omega) only [wy_ix, wy_n3, wy_m3_r8]
      by_cases hq : wy_ns P t by_ i = 0
      · have h127' := h127 (wy_va P t c i) (by rw [if_pos (Or.inl hq)])
        rw [if_pos hq] at h127' ⊢
        rw [if_pos (by decide)]
        exact h127'
      · have h127' := h127
        rw [if_neg hq] at h127' ⊢
        rw [if_neg (by decide), wq_w_id (by omega) (by omega), wq_w_id (by omega) (by omega)]
        by_cases hg : wy_le P t by_ c i ≤ wy_va P t c i
        · rw [if_pos hg]
          exact h127' _ (by rw [if_neg (by omega)])
        · rw [if_neg hg]
          exact h127' _ (by rw [if_pos (by omega)])
    · rw [if_neg hm, if_pos wq_w_0, e]
      rw [wy_ns_s0 hm] at ih
      simp only [wy_un, wy_le, wy_gr] at ih
      rw [if_neg (show ¬(wy_sm P t by_ i ∧ wy_nx P t by_ c (wy_va P t c i) i ≠ 0) from fun h => hm h.1), if_neg hm, if_neg hm, Int.add_zero] at ih
      exact ih
  · intro n s _
    rw [l_X9_renews_60_s]
    unfold b_X9_renews_60
    simp (disch := omega) only [wy_ix, Int.toNat_natCast, g2, wq_w_id]
    rw [if_pos (by omega)]
theorem wy_m_renews (hI : wy_iv P) (hM : wy_M wy_al M P) (ht : t < 4) (h1 : 1 ≤ by_) (h2 : by_ ≤ 10) : ∃ M', f_X9_renews (t : Int) by_ M = some (0, M') ∧ wy_M wy_al M' (wy_rn P t by_ (P 1 t).toNat) ∧ (∀ f j, ¬(6 ≤ f ∧ f ≤ 9) → M' f j = M f j) := by
  have b1 := wy_b1 hI t
  have b2 := wy_b2 hI t
  have hcb := wy_ct_b P t (P 2 t).toNat
  have m2 : ∀ j, M 2 j = P 2 j := fun j => wy_ma hM (by omega)
  have m3 : ∀ j, M 3 j = P 3 j := fun j => wy_ma hM (by omega)
  unfold f_X9_renews
  rw [wy_bd (wy_m_rowsOf hI m2 m3 ht)]
  simp (disch := omega) only [wy_ix, Int.toNat_natCast, wq_lt]
  have key := wy_up (fun n i (M1 : wq_St) => ∃ M', l_X9_renews_13 (t : Int) by_ (fun S45 => some (0, S45)) n (i : Int) M1 = some (0, M') ∧ wy_M wy_al M' (wy_rn P t by_ (P 1 t).toNat) ∧ (∀ f j, ¬(6 ≤ f ∧ f ≤ 9) → M' f j = M f j)) (P 1 t).toNat (fun i M1 => wy_M wy_al M1 (wy_rn P t by_ i) ∧ (∀ f j, ¬(6 ≤ f ∧ f ≤ 9) → M1 f j = M f j)) ?_ ?_ wq_fu 0 (wq_set M 6 t (wy_ct P t (P 2 t).toNat)) (by omega) (wy_fu' (by omega)) ⟨?_, ?_⟩
  · exact key
  · intro n i M1 hi ⟨hm, hf⟩ ih
    have q1 : M1 1 t = P 1 t := by rw [wy_ma hm (by omega), wy_rn_o (by omega)]
    have q2 : ∀ j, M1 2 j = P 2 j := fun j => by rw [wy_ma hm (by omega), wy_rn_o (by omega)]
    have q3 : ∀ j, M1 3 j = P 3 j := fun j => by rw [wy_ma hm (by omega), wy_rn_o (by omega)]
    have q4 : ∀ j, M1 4 j = P 4 j := fun j => by rw [wy_ma hm (by omega), wy_rn_o (by omega)]
    have q6 : M1 6 t = wy_ct P t (P 2 t).toNat := by
      rw [wy_ma hm (by omega)]
      unfold wy_rn
      rw [if_pos ⟨rfl, rfl⟩]
    have hu := @wy_un_b P t by_ i (P 2 t).toNat
    have hmb := wy_mul_b h1 h2 (y := wy_un P t by_ i (P 2 t).toNat) (by omega) (by omega)
    have e : ((i : Int) + 1) = ((i + 1 : Nat) : Int) := by omega
    rw [l_X9_renews_13_s]
    unfold b_X9_renews_13
    simp (disch := omega) only [wy_ix, Int.toNat_natCast, wy_n3, q1, wq_w_id, wq_lt]
    rw [if_neg (by omega)]
    have hcol : ∀ kx, l_X9_renews_60 (t : Int) by_ (i : Int) (3 * (t : Int) + (i : Int)) kx wq_fu 0 0 (wq_set (wq_set (wq_set M1 7 (3 * t + i) 0) 8 (3 * t + i) 0) 9 (3 * t + i) 0) = kx (wy_m3 M1 (3 * t + i) (by_ * wy_un P t by_ i (P 2 t).toNat) (wy_le P t by_ i (P 2 t).toNat) (wy_gr P t by_ i (P 2 t).toNat)) := fun kx => wy_m_col hI q2 q3 q4 ht h1 h2 (by omega) kx
    rw [hcol]
    simp only [wy_m3_r7, wy_m3_7]
    rw [wy_m3_o (by omega), q6, wq_w_id (by omega) (by omega), wq_w_id (by omega) (by omega), e]
    have fin : ∀ u, u = (if wy_ct P t (P 2 t).toNat < by_ * wy_un P t by_ i (P 2 t).toNat then wy_ct P t (P 2 t).toNat else by_ * wy_un P t by_ i (P 2 t).toNat) → wy_M wy_al (wy_m3 M1 (3 * t + i) u (wy_le P t by_ i (P 2 t).toNat) (wy_gr P t by_ i (P 2 t).toNat)) (wy_rn P t by_ (i + 1)) ∧ (∀ f j, ¬(6 ≤ f ∧ f ≤ 9) → wy_m3 M1 (3 * t + i) u (wy_le P t by_ i (P 2 t).toNat) (wy_gr P t by_ i (P 2 t).toNat) f j = M f j) := by
      intro u hu
      subst hu
      refine ⟨?_, fun f j h => by rw [wy_m3_o (by omega)]; exact hf f j h⟩
      rw [wy_rn_s]
      unfold wy_m3
      exact wy_M_set (wy_M_set (wy_M_set hm _ (by omega)) _ (by omega)) _ (by omega)
    by_cases hl : by_ * wy_un P t by_ i (P 2 t).toNat ≤ wy_ct P t (P 2 t).toNat
    · rw [if_pos hl]
      exact ih _ (fin _ (by rw [if_neg (by omega)]))
    · rw [if_neg hl]
      exact ih _ (fin _ (by rw [if_pos (by omega)]))
  · intro n M1 ⟨hm, hf⟩
    have q1 : M1 1 t = P 1 t := by rw [wy_ma hm (by omega), wy_rn_o (by omega)]
    rw [l_X9_renews_13_s]
    unfold b_X9_renews_13
    simp (disch := omega) only [wy_ix, Int.toNat_natCast, q1, wq_w_id]
    rw [if_pos (by omega)]
    exact ⟨M1, rfl, hm, hf⟩
  · rw [wy_rn_0]
    exact wy_M_set hM _ (by omega)
  · intro f j h
    exact wy_set_ne (by omega)
end
end
section
/-! PLANS: at which step a condition is asked -/
/-- the step of a source in an order; 3 if it has none -/
def wy_ps (o : Nat → Int) (x : Int) : Int := if o 0 = x then 0 else if o 1 = x then 1 else if o 2 = x then 2 else 3
def wy_cs (p : Int → Int) (P : wq_St) (r k : Nat) : Int := if P 16 (6 * r + k) = 3 ∧ p (P 17 (6 * r + k)) < p (P 20 (6 * r + k)) then p (P 20 (6 * r + k)) else p (P 17 (6 * r + k))
abbrev wy_as (P : wq_St) (r : Nat) (o : Nat → Int) (s k : Nat) : Prop := wy_cs (wy_ps o) P r k = (s : Int)
/-- the index of column c can be used at step s by condition k -/
abbrev wy_us (P : wq_St) (r : Nat) (o : Nat → Int) (s : Nat) (c : Int) (k : Nat) : Prop := (P 16 (6 * r + k) = 0 ∨ P 16 (6 * r + k) = 3) ∧ wy_as P r o s k ∧ (if P 17 (6 * r + k) = o s then P 18 (6 * r + k) else P 21 (6 * r + k)) = c
def wy_uo (P : wq_St) (r : Nat) (o : Nat → Int) (s : Nat) (c : Int) : Nat → Int
  | 0 => -1
  | n + 1 => if wy_uo P r o s c n ≠ -1 then wy_uo P r o s c n else if wy_us P r o s c n then (n : Int) else -1
/-- the table of a source -/
def wy_tb (P : wq_St) (r : Nat) (x : Int) : Nat := (P 14 (3 * r + x.toNat)).toNat
def wy_u1 (u : Int) : Int := if u < 1 then 1 else u
def wy_mx (a b : Int) : Int := if a < b then b else a
def wy_cl (part span : Int) : Int := if part < 0 then 0 else if span < part then span else part
abbrev wy_ce (P : wq_St) (r k : Nat) : Nat := 3 * wy_tb P r (P 17 (6 * r + k)) + (P 18 (6 * r + k)).toNat
abbrev wy_ce2 (P : wq_St) (r k : Nat) : Nat := 3 * wy_tb P r (P 20 (6 * r + k)) + (P 21 (6 * r + k)).toNat
/-- what is left of choices by a condition -/
def wy_cg (P : wq_St) (r k : Nat) (ch : Int) : Int :=
  if P 16 (6 * r + k) = 0 then Int.tdiv ch (wy_u1 (P 7 (wy_ce P r k)))
  else if P 16 (6 * r + k) = 1 then Int.tdiv (ch * wy_cl (P 19 (6 * r + k) - P 8 (wy_ce P r k)) (P 9 (wy_ce P r k) - P 8 (wy_ce P r k) + 1)) (P 9 (wy_ce P r k) - P 8 (wy_ce P r k) + 1)
  else if P 16 (6 * r + k) = 2 then Int.tdiv (ch * wy_cl (P 9 (wy_ce P r k) - P 19 (6 * r + k)) (P 9 (wy_ce P r k) - P 8 (wy_ce P r k) + 1)) (P 9 (wy_ce P r k) - P 8 (wy_ce P r k) + 1)
  else Int.tdiv ch (wy_mx (wy_u1 (P 7 (wy_ce P r k))) (P 7 (wy_ce2 P r k)))
def wy_bh (P : wq_St) (r : Nat) (o : Nat → Int) (s : Nat) : Nat → Int → Int
  | 0, ch => ch
  | k + 1, ch => if wy_as P r o s k then wy_cg P r k (wy_bh P r o s k ch) else wy_bh P r o s k ch
section
variable {P : wq_St} {r : Nat}
theorem wy_ps_b (o : Nat → Int) (x : Int) : 0 ≤ wy_ps o x ∧ wy_ps o x ≤ 3 := by
  unfold wy_ps
  repeat' split
  all_goals omega
theorem wy_ps_o {o : Nat → Int} {x : Int} {s : Nat} (hs : s < 3) (h : wy_ps o x = (s : Int)) : o s = x := by
  unfold wy_ps at h
  have : s = 0 ∨ s = 1 ∨ s = 2 := by omega
  rcases this with rfl | rfl | rfl <;> (repeat' split at h) <;> first | assumption | omega
theorem wy_ps_lt {o o' : Nat → Int} {s : Nat} (hs : s < 3) (h : ∀ j, j ≤ s → o j = o' j) (x : Int) : (wy_ps o x ≤ (s : Int) ∧ wy_ps o' x = wy_ps o x) ∨ ((s : Int) < wy_ps o x ∧ (s : Int) < wy_ps o' x) := by
  unfold wy_ps
  have : s = 0 ∨ s = 1 ∨ s = 2 := by omega
  rcases this with rfl | rfl | rfl
  · rw [← h 0 (by omega)]
    repeat' split
    all_goals omega
  · rw [← h 0 (by omega), ← h 1 (by omega)]
    repeat' split
    all_goals omega
  · rw [← h 0 (by omega), ← h 1 (by omega), ← h 2 (by omega)]
    repeat' split
    all_goals omega
theorem wy_cs_two {p p' : Int → Int} {s : Nat} (k : Nat) (h17 : (p (P 17 (6 * r + k)) ≤ (s : Int) ∧ p' (P 17 (6 * r + k)) = p (P 17 (6 * r + k))) ∨ ((s : Int) < p (P 17 (6 * r + k)) ∧ (s : Int) < p' (P 17 (6 * r + k)))) (h20 : P 16 (6 * r + k) = 3 → (p (P 20 (6 * r + k)) ≤ (s : Int) ∧ p' (P 20 (6 * r + k)) = p (P 20 (6 * r + k))) ∨ ((s : Int) < p (P 20 (6 * r + k)) ∧ (s : Int) < p' (P 20 (6 * r + k)))) : wy_cs p' P r k = (s : Int) ↔ wy_cs p P r k = (s : Int) := by
  unfold wy_cs
  by_cases hk : P 16 (6 * r + k) = 3
  · have h20 := h20 hk
    repeat' split
    all_goals omega
  · rw [if_neg (fun h => hk h.1), if_neg (fun h => hk h.1)]
    omega
theorem wy_as_congr {o o' : Nat → Int} {s : Nat} (hs : s < 3) (h : ∀ j, j ≤ s → o j = o' j) (k : Nat) : wy_as P r o' s k ↔ wy_as P r o s k :=
  wy_cs_two k (wy_ps_lt hs h _) fun _ => wy_ps_lt hs h _
theorem wy_us_congr {o o' : Nat → Int} {s : Nat} (hs : s < 3) (h : ∀ j, j ≤ s → o j = o' j) (c : Int) (k : Nat) : wy_us P r o' s c k ↔ wy_us P r o s c k := by
  unfold wy_us
  rw [wy_as_congr hs h k, h s (Nat.le_refl s)]
theorem wy_uo_congr {o o' : Nat → Int} {s : Nat} (hs : s < 3) (h : ∀ j, j ≤ s → o j = o' j) (c : Int) : ∀ n, wy_uo P r o' s c n = wy_uo P r o s c n
  | 0 => rfl
  | n + 1 => by
    simp only [wy_uo]
    rw [wy_uo_congr hs h c n]
    by_cases hu : wy_us P r o s c n
    · rw [if_pos hu, if_pos ((wy_us_congr hs h c n).mpr hu)]
    · rw [if_neg hu, if_neg (fun hh => hu ((wy_us_congr hs h c n).mp hh))]
theorem wy_bh_congr {o o' : Nat → Int} {s : Nat} (hs : s < 3) (h : ∀ j, j ≤ s → o j = o' j) (ch : Int) : ∀ n, wy_bh P r o' s n ch = wy_bh P r o s n ch
  | 0 => rfl
  | n + 1 => by
    simp only [wy_bh]
    rw [wy_bh_congr hs h ch n]
    by_cases hu : wy_as P r o s n
    · rw [if_pos hu, if_pos ((wy_as_congr hs h n).mpr hu)]
    · rw [if_neg hu, if_neg (fun hh => hu ((wy_as_congr hs h n).mp hh))]
theorem wy_uo_b (o : Nat → Int) (s : Nat) (c : Int) : ∀ n : Nat, -1 ≤ wy_uo P r o s c n ∧ wy_uo P r o s c n < (n : Int)
  | 0 => by simp [wy_uo]
  | n + 1 => by
    have h := wy_uo_b o s c n
    simp only [wy_uo]
    repeat' split
    all_goals omega
theorem wy_uo_hit {o : Nat → Int} {s : Nat} {c : Int} {i : Nat} (h0 : wy_uo P r o s c i = -1) (h1 : wy_us P r o s c i) : ∀ {n : Nat}, i < n → wy_uo P r o s c n = (i : Int)
  | 0, h => by omega
  | n + 1, h => by
    simp only [wy_uo]
    by_cases e : i = n
    · subst e
      rw [if_neg (fun hh => hh h0), if_pos h1]
    · rw [wy_uo_hit h0 h1 (by omega), if_pos (by omega)]
theorem wy_uo_is {o : Nat → Int} {s : Nat} {c : Int} : ∀ {n : Nat}, wy_uo P r o s c n ≠ -1 → ∃ k, k < n ∧ wy_us P r o s c k ∧ wy_uo P r o s c n = (k : Int)
  | 0, h => absurd rfl h
  | n + 1, h => by
    simp only [wy_uo] at h ⊢
    by_cases h0 : wy_uo P r o s c n ≠ -1
    · rw [if_pos h0]
      obtain ⟨k, h1, h2⟩ := wy_uo_is h0
      exact ⟨k, by omega, h2⟩
    · rw [if_neg h0] at h ⊢
      by_cases hu : wy_us P r o s c n
      · rw [if_pos hu]
        exact ⟨n, by omega, hu, rfl⟩
      · rw [if_neg hu] at h
        exact absurd rfl h
/-! bounds -/
theorem wy_tdiv_b {a b : Int} (ha : 0 ≤ a) (hb : 1 ≤ b) : 0 ≤ Int.tdiv a b ∧ Int.tdiv a b ≤ a := by
  rw [Int.tdiv_eq_ediv_of_nonneg ha]
  refine ⟨Int.ediv_nonneg ha (by omega), Int.ediv_le_self b ha⟩
theorem wy_mul_le {a b n : Int} (ha : 0 ≤ a) (hb : 0 ≤ b) (hn : b ≤ n) : 0 ≤ a * b ∧ a * b ≤ a * n :=
  ⟨Int.mul_nonneg ha hb, Int.mul_le_mul_of_nonneg_left hn ha⟩
theorem wy_cl_b {p s : Int} (hs : 1 ≤ s) : 0 ≤ wy_cl p s ∧ wy_cl p s ≤ s := by
  unfold wy_cl
  repeat' split
  all_goals omega
theorem wy_sh_b {a p s : Int} (ha : 0 ≤ a) (hs : 1 ≤ s) : 0 ≤ Int.tdiv (a * wy_cl p s) s ∧ Int.tdiv (a * wy_cl p s) s ≤ a := by
  have h := @wy_cl_b p s hs
  have h2 := wy_mul_le ha h.1 h.2
  rw [Int.tdiv_eq_ediv_of_nonneg h2.1]
  exact ⟨Int.ediv_nonneg h2.1 (by omega), Int.ediv_le_of_le_mul (by omega) h2.2⟩
theorem wy_u1_b (u : Int) : 1 ≤ wy_u1 u := by unfold wy_u1; split <;> omega
theorem wy_mx_b {a b : Int} (h : 1 ≤ a) : 1 ≤ wy_mx a b := by unfold wy_mx; split <;> omega
theorem wy_cg_b (hI : wy_iv P) {k : Nat} {ch : Int} (h : 0 ≤ ch) : 0 ≤ wy_cg P r k ch ∧ wy_cg P r k ch ≤ ch := by
  have hL := hI.2.2.2.2.1 (wy_ce P r k)
  unfold wy_cg
  split
  · exact wy_tdiv_b h (wy_u1_b _)
  · split
    · exact wy_sh_b h (by omega)
    · split
      · exact wy_sh_b h (by omega)
      · exact wy_tdiv_b h (wy_mx_b (wy_u1_b _))
theorem wy_bh_b (hI : wy_iv P) {o : Nat → Int} {s : Nat} {ch : Int} (h : 0 ≤ ch) : ∀ n, 0 ≤ wy_bh P r o s n ch ∧ wy_bh P r o s n ch ≤ ch
  | 0 => ⟨h, Int.le_refl _⟩
  | n + 1 => by
    have h1 := wy_bh_b hI h (o := o) (s := s) n
    have h2 := wy_cg_b hI h1.1 (k := n) (r := r)
    simp only [wy_bh]
    split <;> omega
end
end
section
/-! the class: steps of conditions, indexes that can be used, what is left of choices -/
def wy_sp (P : wq_St) (r : Nat) (o : Nat → Int) (s q : Nat) (S : wq_St) : Prop := ∀ k : Nat, (k : Int) < P 15 r → ∃ v, f_X1_stepIn (199 + 9 * r + 3 + k) q S = some (v, S) ∧ wq_w v = v ∧ (v = (s : Int) ↔ wy_as P r o s k)
section
variable {P S : wq_St} {r : Nat} {o : Nat → Int} {s q : Nat}
theorem wy_sp_of (hI : wy_iv P) (hR : wy_R wy_co S P) (hr : r < 8) {n : Nat} (hsn : s < n) (hn : n ≤ 3) (hst : ∀ x : Nat, (x : Int) < P 13 r → S (q + 3) x = if wy_ps o x < (n : Int) then wy_ps o x else 3) : wy_sp P r o s q S := by
  intro k hk
  have b15 := wy_b15 hI r
  have b13 := wy_b13 hI r
  have b16 := wy_b16 hI (6 * r + k)
  have b17 := wy_b17 hI (6 * r + k)
  have b20 := wy_b20 hI (6 * r + k)
  have hk6 : k < 6 := by omega
  obtain ⟨h17, h20⟩ := hI.2.2.2.2.2.2.1 r k hk
  have e16 := wy_c16 hR hr hk6
  have e17 := wy_c17 hR hr hk6
  have e20 := wy_c20 hR hr hk6
  have p17 := wy_ps_b o (P 17 (6 * r + k))
  have p20 := wy_ps_b o (P 20 (6 * r + k))
  have s17 := hst (P 17 (6 * r + k)).toNat (by omega)
  rw [Int.toNat_of_nonneg b17.1] at s17
  have tw := @wy_cs_two P r (wy_ps o) (fun x => if wy_ps o x < (n : Int) then wy_ps o x else 3) s k (by split <;> omega) (fun _ => by split <;> omega)
  have hv17 : 0 ≤ S (q + 3) (P 17 (6 * r + k)).toNat ∧ S (q + 3) (P 17 (6 * r + k)).toNat ≤ 3 := by rw [s17]; split <;> omega
  refine ⟨wy_cs (fun x => if wy_ps o x < (n : Int) then wy_ps o x else 3) P r k, ?_, ?_, tw⟩
  · unfold f_X1_stepIn wy_cs
    by_cases h3 : P 16 (6 * r + k) = 3
    · have s20 := hst (P 20 (6 * r + k)).toNat (by have := h20 h3; omega)
      rw [Int.toNat_of_nonneg b20.1] at s20
      have hv20 : 0 ≤ S (q + 3) (P 20 (6 * r + k)).toNat ∧ S (q + 3) (P 20 (6 * r + k)).toNat ≤ 3 := by rw [s20]; split <;> omega
      simp (disch := omega) only [e16, e17, e20, wy_ix, wq_w_id]
      rw [if_pos h3]
      by_cases hl : S (q + 3) (P 20 (6 * r + k)).toNat ≤ S (q + 3) (P 17 (6 * r + k)).toNat
      · rw [if_pos hl, if_neg (by rw [← s17, ← s20]; omega), s17]
      · rw [if_neg hl, if_pos (by rw [← s17, ← s20]; omega), s20]
    · simp (disch := omega) only [e16, e17, wy_ix, wq_w_id]
      rw [if_neg h3, if_neg (fun h => h3 h.1), s17]
  · refine wq_w_id ?_ ?_
    · unfold wy_cs; dsimp only; repeat' split
      all_goals omega
    · unfold wy_cs; dsimp only; repeat' split
      all_goals omega
theorem wy_x_asks (hI : wy_iv P) (hR : wy_R wy_co S P) (hr : r < 8) (hs : s < 3) {k c : Nat} (hc : c < 3) (hk : (k : Int) < P 15 r) (ho : 0 ≤ o s ∧ o s ≤ 2) (hps : wy_ps o (o s) = (s : Int)) (ha : wy_as P r o s k) :
    f_X1_asksForOneValueOf (199 + 9 * r + 3 + k) (o s) (c : Int) S = some ((if wy_us P r o s (c : Int) k then 1 else 0), S) := by
  have b15 := wy_b15 hI r
  have b16 := wy_b16 hI (6 * r + k)
  have b17 := wy_b17 hI (6 * r + k)
  have b18 := wy_b18 hI (6 * r + k)
  have b20 := wy_b20 hI (6 * r + k)
  have b21 := wy_b21 hI (6 * r + k)
  have hk6 : k < 6 := by omega
  obtain ⟨h17, h20⟩ := hI.2.2.2.2.2.2.1 r k hk
  unfold f_X1_asksForOneValueOf j_X1_asksForOneValueOf_15 j_X1_asksForOneValueOf_33
  simp (disch := omega) only [wy_c16 hR hr hk6, wy_c17 hR hr hk6, wy_c18 hR hr hk6, wy_c20 hR hr hk6, wy_c21 hR hr hk6, wq_w_id]
  have hap : wy_as P r o s k := ha
  unfold wy_as wy_cs at ha
  by_cases k0 : P 16 (6 * r + k) = 0
  · rw [if_pos k0]
    rw [if_neg (fun h => by omega)] at ha
    have hso := wy_ps_o hs ha
    rw [if_pos hso.symm]
    by_cases hcc : P 18 (6 * r + k) = (c : Int)
    · rw [if_pos hcc, if_pos ⟨Or.inl k0, hap, by rw [if_pos hso.symm]; exact hcc⟩]
    · rw [if_neg hcc, if_neg (by omega), if_neg (fun h => hcc (by have := h.2.2; rw [if_pos hso.symm] at this; exact this))]
  · rw [if_neg k0]
    by_cases k3 : P 16 (6 * r + k) = 3
    · have h20' := h20 k3
      rw [if_pos k3]
      by_cases hso : P 17 (6 * r + k) = o s
      · rw [if_pos hso]
        by_cases hcc : P 18 (6 * r + k) = (c : Int)
        · rw [if_pos hcc, if_pos ⟨Or.inr k3, hap, by rw [if_pos hso]; exact hcc⟩]
        · rw [if_neg hcc, if_pos k3, if_neg (by omega), if_neg (fun h => hcc (by have := h.2.2; rw [if_pos hso] at this; exact this))]
      · rw [if_neg hso, if_pos k3]
        have hot : P 20 (6 * r + k) = o s := by
          by_cases hlt : wy_ps o (P 17 (6 * r + k)) < wy_ps o (P 20 (6 * r + k))
          · rw [if_pos ⟨k3, hlt⟩] at ha
            exact (wy_ps_o hs ha).symm
          · rw [if_neg (fun h => hlt h.2)] at ha
            exact absurd (wy_ps_o hs ha).symm hso
        rw [if_pos hot]
        by_cases hcc : P 21 (6 * r + k) = (c : Int)
        · rw [if_pos hcc, if_pos ⟨Or.inr k3, hap, by rw [if_neg hso]; exact hcc⟩]
        · rw [if_neg hcc, if_neg (fun h => hcc (by have := h.2.2; rw [if_neg hso] at this; exact this))]
    · rw [if_neg k3, if_neg k3, if_neg (fun h => by omega)]
theorem wy_x_cfi (hI : wy_iv P) (hR : wy_R wy_co S P) (hr : r < 8) (hs : s < 3) {c : Nat} (hc : c < 3) (hsp : wy_sp P r o s q S) (hord : S (q + 1) s = o s) (ho : 0 ≤ o s ∧ o s ≤ 2) (hps : wy_ps o (o s) = (s : Int)) :
    f_X5_conditionForIndex (199 + 9 * r) q (s : Int) (c : Int) S = some (wy_uo P r o s (c : Int) (P 15 r).toNat, S) := by
  have b15 := wy_b15 hI r
  unfold f_X5_conditionForIndex
  simp (disch := omega) only [wy_ix, Int.toNat_natCast, hord]
  have key := wy_up (fun n i (_ : Unit) => l_X5_conditionForIndex_11 (199 + 9 * r) q (s : Int) (c : Int) (o s) (fun S7 => some ((-1), S7)) n (i : Int) S = some (wy_uo P r o s (c : Int) (P 15 r).toNat, S)) (P 15 r).toNat (fun i _ => wy_uo P r o s (c : Int) i = -1) ?_ ?_ wq_fu 0 () (by omega) (wy_fu' (by omega)) rfl
  · exact key
  · intro n i _ hi h0 ih
    have hk : (i : Int) < P 15 r := by omega
    obtain ⟨v, e1, e2, e3⟩ := hsp i hk
    rw [l_X5_conditionForIndex_11_s]
    unfold b_X5_conditionForIndex_11
    simp (disch := omega) only [wy_ix, Int.toNat_natCast, wy_c15 hR hr, wq_w_id]
    rw [if_neg (by omega), wy_bd e1, e2]
    have e : ((i : Int) + 1) = ((i + 1 : Nat) : Int) := by omega
    rw [e]
    by_cases ha : v = (s : Int)
    · have hap := e3.mp ha
      rw [if_pos ha, wy_bd (wy_x_asks hI hR hr hs hc hk ho hps hap)]
      by_cases hu : wy_us P r o s (c : Int) i
      · rw [if_pos hu, if_neg (by decide), wy_uo_hit h0 hu hi]
      · rw [if_neg hu, if_pos wq_w_0]
        refine ih () ?_
        simp only [wy_uo]
        rw [if_neg (fun h => h h0), if_neg hu]
    · rw [if_neg ha]
      refine ih () ?_
      simp only [wy_uo]
      rw [if_neg (fun h => h h0), if_neg (fun h => ha (e3.mpr h.2.1))]
  · intro n _ h0
    rw [l_X5_conditionForIndex_11_s]
    unfold b_X5_conditionForIndex_11
    simp (disch := omega) only [wy_c15 hR hr, wq_w_id]
    rw [if_pos (by omega), h0]
theorem wy_wmax (u : Int) (h : 0 ≤ u ∧ u ≤ 40) : wq_max u 1 = wy_u1 u := by
  unfold wq_max wy_u1
  simp (disch := omega) only [wq_w_id]
theorem wy_x_narrow (hI : wy_iv P) (hR : wy_R wy_co S P) (hr : r < 8) {k : Nat} (hk : (k : Int) < P 15 r) {ch : Int} (hc : 0 ≤ ch ∧ ch ≤ 1000000000000) :
    f_X4_narrow (199 + 9 * r) (199 + 9 * r + 3 + k) ch S = some (wy_cg P r k ch, S) := by
  have b15 := wy_b15 hI r
  have b16 := wy_b16 hI (6 * r + k)
  have b17 := wy_b17 hI (6 * r + k)
  have b18 := wy_b18 hI (6 * r + k)
  have b19 := wy_b19 hI (6 * r + k)
  have b20 := wy_b20 hI (6 * r + k)
  have b21 := wy_b21 hI (6 * r + k)
  have hk6 : k < 6 := by omega
  have s17 := wy_c14 hR hr (j := (P 17 (6 * r + k)).toNat) (by omega)
  have s20 := wy_c14 hR hr (j := (P 20 (6 * r + k)).toNat) (by omega)
  have b14 := wy_b14 hI (3 * r + (P 17 (6 * r + k)).toNat)
  have b14' := wy_b14 hI (3 * r + (P 20 (6 * r + k)).toNat)
  have et : (P 14 (3 * r + (P 17 (6 * r + k)).toNat)).toNat = wy_tb P r (P 17 (6 * r + k)) := rfl
  have et' : (P 14 (3 * r + (P 20 (6 * r + k)).toNat)).toNat = wy_tb P r (P 20 (6 * r + k)) := rfl
  have ht : wy_tb P r (P 17 (6 * r + k)) < 4 := by omega
  have ht' : wy_tb P r (P 20 (6 * r + k)) < 4 := by omega
  have hc18 : (P 18 (6 * r + k)).toNat < 3 := by omega
  have hc21 : (P 21 (6 * r + k)).toNat < 3 := by omega
  have b7 := wy_b7 hI (wy_ce P r k)
  have b8 := wy_b8 hI (wy_ce P r k)
  have b9 := wy_b9 hI (wy_ce P r k)
  have b7' := wy_b7 hI (wy_ce2 P r k)
  have hL := hI.2.2.2.2.1 (wy_ce P r k)
  have u1 : 1 ≤ wy_u1 (P 7 (wy_ce P r k)) ∧ wy_u1 (P 7 (wy_ce P r k)) ≤ 40 := by unfold wy_u1; split <;> omega
  have mx : 1 ≤ wy_mx (wy_u1 (P 7 (wy_ce P r k))) (P 7 (wy_ce2 P r k)) ∧ wy_mx (wy_u1 (P 7 (wy_ce P r k))) (P 7 (wy_ce2 P r k)) ≤ 40 := by unfold wy_mx; split <;> omega
  have c7 : S (6 + 48 * wy_tb P r (P 17 (6 * r + k)) + 45 + (P 18 (6 * r + k)).toNat) 1 = P 7 (wy_ce P r k) := wy_c7 hR ht hc18
  have c8 : S (6 + 48 * wy_tb P r (P 17 (6 * r + k)) + 45 + (P 18 (6 * r + k)).toNat) 2 = P 8 (wy_ce P r k) := wy_c8 hR ht hc18
  have c9 : S (6 + 48 * wy_tb P r (P 17 (6 * r + k)) + 45 + (P 18 (6 * r + k)).toNat) 3 = P 9 (wy_ce P r k) := wy_c9 hR ht hc18
  have c7' : S (6 + 48 * wy_tb P r (P 20 (6 * r + k)) + 45 + (P 21 (6 * r + k)).toNat) 1 = P 7 (wy_ce2 P r k) := wy_c7 hR ht' hc21
  have em : wq_max (wy_u1 (P 7 (wy_ce P r k))) (P 7 (wy_ce2 P r k)) = wy_mx (wy_u1 (P 7 (wy_ce P r k))) (P 7 (wy_ce2 P r k)) := by
    unfold wq_max wy_mx
    simp (disch := omega) only [wq_w_id]
  have share : ∀ part, -1000 ≤ part → part ≤ 1000 → f_X4_share ch part (6 + 48 * wy_tb P r (P 17 (6 * r + k)) + 45 + (P 18 (6 * r + k)).toNat) S = some (Int.tdiv (ch * wy_cl part (P 9 (wy_ce P r k) - P 8 (wy_ce P r k) + 1)) (P 9 (wy_ce P r k) - P 8 (wy_ce P r k) + 1), S) := by
    intro part hp1 hp2
    have hcl := @wy_cl_b part (P 9 (wy_ce P r k) - P 8 (wy_ce P r k) + 1) (by omega)
    have hml := @wy_mul_le ch _ 1000 hc.1 hcl.1 (by omega)
    unfold f_X4_share
    simp only [c8, c9, wq_lt]
    have e1 : wq_max (P 9 (wy_ce P r k) - P 8 (wy_ce P r k) + 1) 1 = P 9 (wy_ce P r k) - P 8 (wy_ce P r k) + 1 := by
      unfold wq_max
      simp (disch := omega) only [wq_w_id]
      rw [if_neg (by omega)]
    have e2 : wq_max 0 (wq_min part (P 9 (wy_ce P r k) - P 8 (wy_ce P r k) + 1)) = wy_cl part (P 9 (wy_ce P r k) - P 8 (wy_ce P r k) + 1) := by
      unfold wq_max wq_min wy_cl
      simp (disch := omega) only [wq_w_id]
      repeat' split
      all_goals omega
    rw [e1, e2]
    unfold wq_divL
    rw [wq_w_id (x := wy_cl _ _) (by omega) (by omega), wq_w_id (by omega) (by omega), wq_v_id (x := P 9 (wy_ce P r k) - P 8 (wy_ce P r k) + 1) (by omega) (by omega), wq_v_id (by omega) (by omega), wq_gd_t (by omega)]
  unfold f_X4_narrow
  simp (disch := omega) only [wy_c16 hR hr hk6, wy_c17 hR hr hk6, wy_c18 hR hr hk6, wy_c19 hR hr hk6, wy_c20 hR hr hk6, wy_c21 hR hr hk6, wy_ix, s17, s20, et, et', c7, c8, c9, c7', wy_wmax, wq_lt, wq_w_id, wq_v_id, wq_gd_t, em, wq_divL]
  unfold wy_cg
  by_cases k0 : P 16 (6 * r + k) = 0
  · rw [if_pos k0, if_pos k0]
  · rw [if_neg k0, if_neg k0]
    by_cases k1 : P 16 (6 * r + k) = 1
    · rw [if_pos k1, if_pos k1, wy_bd (share _ (by omega) (by omega))]
    · rw [if_neg k1, if_neg k1]
      by_cases k2 : P 16 (6 * r + k) = 2
      · rw [if_pos k2, if_pos k2, wy_bd (share _ (by omega) (by omega))]
      · rw [if_neg k2, if_neg k2]
end
end
section
/-! the first of the least -/
def wy_mn {α : Type} (x y : Option (Int × α)) : Option (Int × α) := match x, y with
  | none, y => y
  | some a, none => some a
  | some a, some b => if b.1 < a.1 then some b else some a
def wy_mf {α : Type} (g : Nat → Option (Int × α)) : Nat → Option (Int × α)
  | 0 => none
  | n + 1 => wy_mn (wy_mf g n) (g n)
theorem wy_mn_0 {α : Type} (x : Option (Int × α)) : wy_mn x none = x := by cases x <;> rfl
theorem wy_mn_1 {α : Type} (x : Option (Int × α)) : wy_mn none x = x := by cases x <;> rfl
theorem wy_mn_s {α : Type} (a b : Int × α) : wy_mn (some a) (some b) = if b.1 < a.1 then some b else some a := rfl
theorem wy_mn_a {α : Type} (x y z : Option (Int × α)) : wy_mn (wy_mn x y) z = wy_mn x (wy_mn y z) := by
  cases x with
  | none => rw [wy_mn_1, wy_mn_1]
  | some a =>
    cases y with
    | none => rw [wy_mn_0, wy_mn_1]
    | some b =>
      cases z with
      | none => rw [wy_mn_0, wy_mn_0]
      | some c =>
        rw [wy_mn_s, wy_mn_s]
        by_cases h1 : b.1 < a.1
        · rw [if_pos h1, wy_mn_s]
          by_cases h2 : c.1 < b.1
          · rw [if_pos h2, wy_mn_s, if_pos (by omega)]
          · rw [if_neg h2, wy_mn_s, if_pos h1]
        · rw [if_neg h1, wy_mn_s]
          by_cases h2 : c.1 < b.1
          · rw [if_pos h2, wy_mn_s]
          · rw [if_neg h2, wy_mn_s, if_neg h1, if_neg (by omega)]
theorem wy_mf_none {α : Type} {g : Nat → Option (Int × α)} {a : Nat} : ∀ {b : Nat}, a ≤ b → (∀ i, a ≤ i → i < b → g i = none) → wy_mf g b = wy_mf g a
  | 0, h, _ => by rw [Nat.le_zero.mp h]
  | b + 1, h, hg => by
    by_cases e : a = b + 1
    · rw [e]
    · simp only [wy_mf]
      rw [hg b (by omega) (by omega), wy_mn_0]
      exact wy_mf_none (by omega) fun i h1 h2 => hg i h1 (by omega)
theorem wy_mf_congr {α : Type} {g g' : Nat → Option (Int × α)} : ∀ {b : Nat}, (∀ i, i < b → g i = g' i) → wy_mf g b = wy_mf g' b
  | 0, _ => rfl
  | b + 1, h => by
    simp only [wy_mf]
    rw [h b (by omega), wy_mf_congr fun i hi => h i (by omega)]
/-! ways of a step, and plans -/
/-- by the index of column i at step s, with ch choices ahead of it -/
def wy_wi (P : wq_St) (r : Nat) (o : Nat → Int) (s : Nat) (ch : Int) (i : Nat) : Option (Int × Int) :=
  if (i : Int) < P 1 (wy_tb P r (o s)) ∧ P 5 (3 * wy_tb P r (o s) + i) ≠ 0 ∧ wy_uo P r o s (i : Int) (P 15 r).toNat ≠ -1 then some (ch + Int.tdiv (ch * P 6 (wy_tb P r (o s))) (wy_u1 (P 7 (3 * wy_tb P r (o s) + i))), (i : Int)) else none
def wy_wy (P : wq_St) (r : Nat) (o : Nat → Int) (s : Nat) (ch : Int) : Nat → Option (Int × Int)
  | 0 => some (ch * P 6 (wy_tb P r (o s)), -1)
  | i + 1 => wy_wi P r o s ch i
def wy_bw (P : wq_St) (r : Nat) (o : Nat → Int) (s : Nat) (ch : Int) : Int × Int := (wy_mf (wy_wy P r o s ch) 4).getD (0, -1)
def wy_nt (P : wq_St) (r : Nat) (o : Nat → Int) (s : Nat) (ch : Int) : Int := wy_bh P r o s (P 15 r).toNat (ch * P 6 (wy_tb P r (o s)))
def wy_ud (o : Nat → Int) (s : Nat) (x : Int) : Nat → Int := fun j => if j = s then x else o j
abbrev wy_pl : Type := (Nat → Int) × (Nat → Int)
def wy_T (P : wq_St) (r : Nat) : Nat → Nat → (Nat → Int) → (Nat → Int) → Int → Int → Option (Int × wy_pl)
  | 0, _, o, w, _, sp => some (sp, (o, w))
  | d + 1, s, o, w, ch, sp => wy_mf (fun x => if wy_ps o (x : Int) < (s : Int) then none else wy_T P r d (s + 1) (wy_ud o s (x : Int)) (wy_ud w s (wy_bw P r (wy_ud o s (x : Int)) s ch).2) (wy_nt P r (wy_ud o s (x : Int)) s ch) (sp + (wy_bw P r (wy_ud o s (x : Int)) s ch).1)) (P 13 r).toNat
def wy_cb : Nat → Int
  | 0 => 1000
  | s + 1 => 40 * wy_cb s
theorem wy_cb_b : ∀ {s : Nat}, s ≤ 4 → 1000 ≤ wy_cb s ∧ wy_cb s ≤ 2560000000
  | 0, _ => by decide
  | 1, _ => by decide
  | 2, _ => by decide
  | 3, _ => by decide
  | 4, _ => by decide
  | s + 5, h => by omega
section
variable {P S : wq_St} {r : Nat} {o : Nat → Int} {s : Nat} {ch : Int}
theorem wy_tb_lt (hI : wy_iv P) (x : Int) : wy_tb P r x < 4 := by
  have h := wy_b14 hI (3 * r + x.toNat)
  unfold wy_tb
  omega
theorem wy_mf_wy (hI : wy_iv P) (hc : 0 ≤ ch) : ∀ n, ∃ a w, wy_mf (wy_wy P r o s ch) (n + 1) = some (a, w) ∧ 0 ≤ a ∧ a ≤ ch * P 6 (wy_tb P r (o s)) ∧ -1 ≤ w ∧ w < (n : Int)
  | 0 => by
    have b6 := wy_b6 hI (wy_tb P r (o s))
    have hm := wy_mul_le hc b6.1 b6.2
    refine ⟨_, _, wy_mn_1 _, hm.1, Int.le_refl _, by decide, by decide⟩
  | n + 1 => by
    obtain ⟨a, w, h1, h2, h3, h4, h5⟩ := wy_mf_wy hI hc n
    have b6 := wy_b6 hI (wy_tb P r (o s))
    have hm := wy_mul_le hc b6.1 b6.2
    rw [wy_mf, h1]
    simp only [wy_wy]
    unfold wy_wi
    split
    · rw [wy_mn_s]
      have hd := @wy_tdiv_b _ (wy_u1 (P 7 (3 * wy_tb P r (o s) + n))) hm.1 (wy_u1_b _)
      split
      · rename_i hlt
        dsimp only at hlt
        exact ⟨_, _, rfl, by omega, by omega, by omega, by omega⟩
      · exact ⟨a, w, rfl, h2, h3, h4, by omega⟩
    · rw [wy_mn_0]
      exact ⟨a, w, rfl, h2, h3, h4, by omega⟩
theorem wy_bw_b (hI : wy_iv P) (hc : 0 ≤ ch) : wy_mf (wy_wy P r o s ch) 4 = some (wy_bw P r o s ch) ∧ 0 ≤ (wy_bw P r o s ch).1 ∧ (wy_bw P r o s ch).1 ≤ ch * P 6 (wy_tb P r (o s)) ∧ -1 ≤ (wy_bw P r o s ch).2 ∧ (wy_bw P r o s ch).2 ≤ 2 := by
  obtain ⟨a, w, h1, h2, h3, h4, h5⟩ := @wy_mf_wy P r o s ch hI hc 3
  unfold wy_bw
  rw [h1]
  exact ⟨rfl, h2, h3, h4, by simp only [Option.getD_some]; omega⟩
theorem wy_x_behind (hI : wy_iv P) (hR : wy_R wy_co S P) (hr : r < 8) (hs : s < 3) (hsp : wy_sp P r o s 272 S) (hord : S (272 + 1) s = o s) (ho : 0 ≤ o s ∧ o s ≤ 2) (hc : 0 ≤ ch ∧ ch ≤ 2560000000) :
    f_X4_choicesBehind (199 + 9 * r) (s : Int) ch S = some (wy_nt P r o s ch, S) := by
  have b15 := wy_b15 hI r
  have s14 := wy_c14 hR hr (j := (o s).toNat) (by omega)
  have b14 := wy_b14 hI (3 * r + (o s).toNat)
  have et : (P 14 (3 * r + (o s).toNat)).toNat = wy_tb P r (o s) := rfl
  have ht := @wy_tb_lt P r hI (o s)
  have b6 := wy_b6 hI (wy_tb P r (o s))
  have hm := wy_mul_le hc.1 b6.1 b6.2
  unfold f_X4_choicesBehind
  simp (disch := omega) only [wy_ix, Int.toNat_natCast, hord, s14, et, wy_c6 hR ht, wq_w_id, wq_lt]
  have key := wy_up (fun n i (_ : Unit) => l_X4_choicesBehind_34 (199 + 9 * r) (s : Int) (fun u11 S12 => some (u11, S12)) n (wy_bh P r o s i (ch * P 6 (wy_tb P r (o s)))) (i : Int) S = some (wy_nt P r o s ch, S)) (P 15 r).toNat (fun _ _ => True) ?_ ?_ wq_fu 0 () (by omega) (wy_fu' (by omega)) trivial
  · exact key
  · intro n i _ hi _ ih
    have ih := ih () trivial
    have hk : (i : Int) < P 15 r := by omega
    obtain ⟨v, e1, e2, e3⟩ := hsp i hk
    have hb := @wy_bh_b P r hI o s _ hm.1 i
    rw [l_X4_choicesBehind_34_s]
    unfold b_X4_choicesBehind_34
    simp (disch := omega) only [wy_ix, Int.toNat_natCast, wy_c15 hR hr, wq_w_id]
    rw [if_neg (by omega), wy_bd e1, e2]
    have e : ((i : Int) + 1) = ((i + 1 : Nat) : Int) := by omega
    rw [e]
    simp only [wy_bh] at ih
    by_cases ha : v = (s : Int)
    · rw [if_pos (e3.mp ha)] at ih
      rw [if_pos ha, wy_bd (wy_x_narrow hI hR hr hk ⟨hb.1, by omega⟩)]
      exact ih
    · rw [if_neg (fun h => ha (e3.mpr h))] at ih
      rw [if_neg ha]
      exact ih
  · intro n _ _
    rw [l_X4_choicesBehind_34_s]
    unfold b_X4_choicesBehind_34
    simp (disch := omega) only [wy_c15 hR hr, wq_w_id]
    rw [if_pos (by omega)]
    rfl
theorem wy_cmp0 {a b : Int} (h1 : -9223372036854775808 ≤ a) (h2 : a < 9223372036854775808) (h3 : -9223372036854775808 ≤ b) (h4 : b < 9223372036854775808) : (0 ≤ wq_w (wq_cmp a b)) ↔ ¬(a < b) := by
  unfold wq_cmp
  rw [wq_v_id h1 h2, wq_v_id h3 h4]
  by_cases h : a < b
  · rw [if_pos h]
    simp [h]
    decide
  · rw [if_neg h]
    by_cases h' : a = b
    · rw [if_pos h']
      simp [h]
      decide
    · rw [if_neg h']
      simp [h]
      decide
theorem wy_x_ways (hI : wy_iv P) (hR : wy_R wy_co S P) (hr : r < 8) (hs : s < 3) (hsp : wy_sp P r o s 272 S) (hord : S (272 + 1) s = o s) (ho : 0 ≤ o s ∧ o s ≤ 2) (hps : wy_ps o (o s) = (s : Int)) (hc : 0 ≤ ch ∧ ch ≤ 2560000000) :
    ∃ S', f_X4_takeCheapestWay (199 + 9 * r) (s : Int) ch S = some ((wy_bw P r o s ch).1, S') ∧ S' 274 s = (wy_bw P r o s ch).2 ∧ ∀ k j, ¬(k = 274 ∧ j = s) → S' k j = S k j := by
  have s14 := wy_c14 hR hr (j := (o s).toNat) (by omega)
  have b14 := wy_b14 hI (3 * r + (o s).toNat)
  have et : (P 14 (3 * r + (o s).toNat)).toNat = wy_tb P r (o s) := rfl
  have ht := @wy_tb_lt P r hI (o s)
  have b6 := wy_b6 hI (wy_tb P r (o s))
  have b1 := wy_b1 hI (wy_tb P r (o s))
  have hm := wy_mul_le hc.1 b6.1 b6.2
  unfold f_X4_takeCheapestWay
  simp (disch := omega) only [wy_ix, Int.toNat_natCast, hord, s14, et, wy_c6 hR ht, wq_w_id, wq_lt]
  have key := wy_up (fun n i (q : Int × wq_St) => ∃ S', l_X4_takeCheapestWay_48 (199 + 9 * r) (s : Int) ch (6 + 48 * wy_tb P r (o s)) (ch * P 6 (wy_tb P r (o s))) (fun u13 S14 => some (u13, S14)) n q.1 (i : Int) q.2 = some ((wy_bw P r o s ch).1, S') ∧ S' 274 s = (wy_bw P r o s ch).2 ∧ ∀ k j, ¬(k = 274 ∧ j = s) → S' k j = S k j) (P 1 (wy_tb P r (o s))).toNat (fun i q => wy_mf (wy_wy P r o s ch) (i + 1) = some (q.1, q.2 274 s) ∧ ∀ k j, ¬(k = 274 ∧ j = s) → q.2 k j = S k j) ?_ ?_ wq_fu 0 (ch * P 6 (wy_tb P r (o s)), wq_set S (272 + 2) s (-1)) (by omega) (wy_fu' (by omega)) ⟨?_, ?_⟩
  · exact key
  · intro n i ⟨y, S1⟩ hi ⟨h0, hf⟩ ih
    dsimp only at h0 hf ih ⊢
    obtain ⟨a, w', g1, g2, g3, g4, g5⟩ := @wy_mf_wy P r o s ch hI hc.1 i
    have hy : 0 ≤ y ∧ y ≤ ch * P 6 (wy_tb P r (o s)) := by
      rw [h0] at g1
      cases g1
      exact ⟨g2, g3⟩
    have hR1 : wy_R wy_co S1 P := fun f j hcf hij => by
      have h := (wy_ok hij).2
      rw [hf _ _ (fun e => h (by unfold wy_scr; omega))]
      exact hR f j hcf hij
    have hsp1 : wy_sp P r o s 272 S1 := by
      intro k hk
      obtain ⟨v, e1, e2, e3⟩ := hsp k hk
      refine ⟨v, ?_, e2, e3⟩
      have hk6 : k < 6 := by have := wy_b15 hI r; omega
      have q0 : ∀ j, S1 (199 + 9 * r + 3 + k) j = S (199 + 9 * r + 3 + k) j := fun j => hf _ _ (by omega)
      have q1 : ∀ j, S1 (272 + 3) j = S (272 + 3) j := fun j => hf _ _ (by omega)
      unfold f_X1_stepIn at e1 ⊢
      simp only [q0, q1]
      have b16 := wy_b16 hI (6 * r + k)
      have b17 := wy_b17 hI (6 * r + k)
      have b20 := wy_b20 hI (6 * r + k)
      simp (disch := omega) only [wy_c16 hR hr hk6, wy_c17 hR hr hk6, wy_c20 hR hr hk6, wy_ix, wq_w_id] at e1 ⊢
      by_cases h3 : P 16 (6 * r + k) = 3
      · rw [if_pos h3] at e1 ⊢
        by_cases hl : wq_w (S (272 + 3) (P 20 (6 * r + k)).toNat) ≤ wq_w (S (272 + 3) (P 17 (6 * r + k)).toNat)
        · rw [if_pos hl] at e1 ⊢
          cases e1; rfl
        · rw [if_neg hl] at e1 ⊢
          cases e1; rfl
      · rw [if_neg h3] at e1 ⊢
        cases e1; rfl
    have hord1 : S1 (272 + 1) s = o s := by rw [hf _ _ (by omega)]; exact hord
    have b5 := wy_b5 hI (3 * wy_tb P r (o s) + i)
    have b7 := wy_b7 hI (3 * wy_tb P r (o s) + i)
    have hu1 := wy_u1_b (P 7 (3 * wy_tb P r (o s) + i))
    have hu2 : wy_u1 (P 7 (3 * wy_tb P r (o s) + i)) ≤ 40 := by unfold wy_u1; split <;> omega
    have hd := @wy_tdiv_b _ (wy_u1 (P 7 (3 * wy_tb P r (o s) + i))) hm.1 hu1
    have hub := @wy_uo_b P r o s (i : Int) (P 15 r).toNat
    have hkb := wy_b15 hI r
    rw [l_X4_takeCheapestWay_48_s]
    unfold b_X4_takeCheapestWay_48
    simp (disch := omega) only [wy_ix, Int.toNat_natCast, wy_c1 hR1 ht, wy_c5 hR1 ht, wq_w_id]
    rw [if_neg (by omega)]
    have e : ((i : Int) + 1) = ((i + 1 : Nat) : Int) := by omega
    rw [e]
    have hskip : wy_wi P r o s ch i = none → wy_mf (wy_wy P r o s ch) (i + 1 + 1) = some (y, S1 274 s) := fun hn => by
      rw [wy_mf, h0]
      simp only [wy_wy]
      rw [hn, wy_mn_0]
    by_cases h5 : P 5 (3 * wy_tb P r (o s) + i) = 0
    · rw [if_pos h5]
      refine ih (y, S1) ⟨hskip ?_, hf⟩
      unfold wy_wi
      rw [if_neg (fun h => h.2.1 h5)]
    · rw [if_neg h5, wy_bd (wy_x_cfi hI hR1 hr hs (by omega) hsp1 hord1 ho hps), wq_w_id (by omega) (by omega)]
      by_cases hu : wy_uo P r o s (i : Int) (P 15 r).toNat = -1
      · rw [if_pos hu]
        refine ih (y, S1) ⟨hskip ?_, hf⟩
        unfold wy_wi
        rw [if_neg (fun h => h.2.2 hu)]
      · rw [if_neg hu]
        have hwi : wy_wi P r o s ch i = some (ch + Int.tdiv (ch * P 6 (wy_tb P r (o s))) (wy_u1 (P 7 (3 * wy_tb P r (o s) + i))), (i : Int)) := by
          unfold wy_wi
          rw [if_pos ⟨by omega, h5, hu⟩]
        have c7 : S1 (6 + 48 * wy_tb P r (o s) + 45 + i) 1 = P 7 (3 * wy_tb P r (o s) + i) := wy_c7 hR1 ht (by omega)
        simp (disch := omega) only [c7, wy_wmax, wq_w_id, wq_v_id, wq_gd_t, wq_divL, wq_lt, wy_cmp0]
        by_cases hlt : ch + Int.tdiv (ch * P 6 (wy_tb P r (o s))) (wy_u1 (P 7 (3 * wy_tb P r (o s) + i))) < y
        · rw [if_neg (fun h => h hlt)]
          refine ih (ch + Int.tdiv (ch * P 6 (wy_tb P r (o s))) (wy_u1 (P 7 (3 * wy_tb P r (o s) + i))), wq_set S1 (272 + 2) s (i : Int)) ⟨?_, ?_⟩
          · dsimp only
            rw [wy_mf, h0]
            simp only [wy_wy]
            rw [hwi, wy_mn_s, if_pos hlt, wy_set_at rfl rfl]
          · intro k j hkj
            dsimp only
            rw [wy_set_ne (by omega)]
            exact hf k j hkj
        · rw [if_pos hlt]
          refine ih (y, S1) ⟨?_, hf⟩
          rw [wy_mf, h0]
          simp only [wy_wy]
          rw [hwi, wy_mn_s, if_neg hlt]
  · intro n ⟨y, S1⟩ ⟨h0, hf⟩
    dsimp only at h0 hf ⊢
    have r4 : S1 (6 + 48 * wy_tb P r (o s)) 4 = P 1 (wy_tb P r (o s)) := by rw [hf _ _ (by omega)]; exact wy_c1 hR ht
    rw [l_X4_takeCheapestWay_48_s]
    unfold b_X4_takeCheapestWay_48
    simp (disch := omega) only [r4, wq_w_id]
    rw [if_pos (by omega)]
    have hb := @wy_bw_b P r o s ch hI hc.1
    have e4 : wy_mf (wy_wy P r o s ch) 4 = wy_mf (wy_wy P r o s ch) ((P 1 (wy_tb P r (o s))).toNat + 1) := wy_mf_none (by omega) fun i h1 h2 => by
      obtain ⟨c, rfl⟩ : ∃ c, i = c + 1 := ⟨i - 1, by omega⟩
      simp only [wy_wy]
      unfold wy_wi
      rw [if_neg (fun h => by omega)]
    rw [e4, h0] at hb
    have e5 := Option.some.inj hb.1
    exact ⟨S1, by rw [← e5], by rw [← e5], hf⟩
  · simp only [wy_mf, wy_wy]
    rw [wy_mn_1, wy_set_at rfl rfl]
  · intro k j hkj
    exact wy_set_ne hkj
end
end
section
/-! the class tries all orders -/
def wy_fr (S S' : wq_St) : Prop := ∀ k j, ¬(272 ≤ k ∧ k ≤ 279) → S' k j = S k j
def wy_dr (S : wq_St) (o w : Nat → Int) (s : Nat) : Prop := (∀ j, j < s → S 273 j = o j ∧ S 274 j = w j) ∧ ∀ x : Nat, x < 3 → S 275 x = if wy_ps o (x : Int) < (s : Int) then wy_ps o (x : Int) else 3
def wy_bs (P : wq_St) (r : Nat) (S : wq_St) (b : Option (Int × wy_pl)) : Prop := match b with
  | none => S 276 3 = 9223372036854775807
  | some p => S 276 3 = p.1 ∧ 0 ≤ p.1 ∧ p.1 ≤ 1000000000000000 ∧ (∀ j : Nat, (j : Int) < P 13 r → S 277 j = p.2.1 j ∧ S 278 j = p.2.2 j) ∧ ∀ x : Nat, x < 3 → S 279 x = if wy_ps p.2.1 (x : Int) < P 13 r then wy_ps p.2.1 (x : Int) else 3
section
variable {P S : wq_St} {r : Nat} {o w : Nat → Int} {s : Nat} {ch : Int}
theorem wy_R_fr {C : Nat → Prop} {S' : wq_St} (h : wy_R C S P) (hf : ∀ k j, ¬wy_scr k → S' k j = S k j) : wy_R C S' P := fun f i hc hi => by
  rw [hf _ _ (wy_ok hi).2]
  exact h f i hc hi
theorem wy_fr_R {C : Nat → Prop} {S' : wq_St} (h : wy_R C S P) (hf : wy_fr S S') : wy_R C S' P := wy_R_fr h fun k j hk => hf k j fun h => hk (by unfold wy_scr; omega)
theorem wy_fr_t {S' S'' : wq_St} (h1 : wy_fr S S') (h2 : wy_fr S' S'') : wy_fr S S'' := fun k j hk => by rw [h2 k j hk, h1 k j hk]
theorem wy_fr_s {S' : wq_St} (h1 : wy_fr S S') {k j : Nat} {v : Int} (hk : 272 ≤ k ∧ k ≤ 279) : wy_fr S (wq_set S' k j v) := fun k' j' h => by
  rw [wy_set_ne (by omega)]
  exact h1 k' j' h
theorem wy_ps_ud {x : Int} (hs : s < 3) (hx : (s : Int) ≤ wy_ps o x) (y : Int) : (y = x → wy_ps (wy_ud o s x) y = (s : Int)) ∧ (y ≠ x → (wy_ps o y < (s : Int) ∧ wy_ps (wy_ud o s x) y = wy_ps o y) ∨ ((s : Int) ≤ wy_ps o y ∧ (s : Int) < wy_ps (wy_ud o s x) y)) := by
  have h3 : s = 0 ∨ s = 1 ∨ s = 2 := by omega
  unfold wy_ps at *
  unfold wy_ud
  rcases h3 with rfl | rfl | rfl
  · simp
    constructor
    · intro e; simp [e]
    · intro e
      have e' : ¬x = y := fun h => e h.symm
      repeat' split
      all_goals first | omega | simp_all
  · simp at hx ⊢
    constructor
    · intro e
      subst e
      repeat' split at hx
      all_goals first | omega | simp_all
    · intro e
      have e' : ¬x = y := fun h => e h.symm
      repeat' split
      all_goals first | omega | simp_all
  · simp at hx ⊢
    constructor
    · intro e
      subst e
      repeat' split at hx
      all_goals first | omega | simp_all
    · intro e
      have e' : ¬x = y := fun h => e h.symm
      repeat' split
      all_goals first | omega | simp_all
theorem wy_x_copy (S : wq_St) (v : Int) : ∃ S', f_X3_copyFrom 276 272 v S = some (0, S') ∧ S' 276 3 = v ∧ (∀ j, j < 3 → S' 277 j = S 273 j ∧ S' 278 j = S 274 j ∧ S' 279 j = S 275 j) ∧ (∀ k j, ¬(276 ≤ k ∧ k ≤ 279) → S' k j = S k j) := by
  unfold f_X3_copyFrom
  have key := wy_up (fun n i (S1 : wq_St) => ∃ S', l_X3_copyFrom_3 276 272 v (fun S10 => some (0, wq_set S10 276 3 v)) n (i : Int) S1 = some (0, S') ∧ S' 276 3 = v ∧ (∀ j, j < 3 → S' 277 j = S 273 j ∧ S' 278 j = S 274 j ∧ S' 279 j = S 275 j) ∧ (∀ k j, ¬(276 ≤ k ∧ k ≤ 279) → S' k j = S k j)) 3 (fun i S1 => (∀ j, j < i → S1 277 j = S 273 j ∧ S1 278 j = S 274 j ∧ S1 279 j = S 275 j) ∧ (∀ k j, ¬(276 ≤ k ∧ k ≤ 279) → S1 k j = S k j)) ?_ ?_ wq_fu 0 S (by omega) (wy_fu' (by omega)) ⟨fun j hj => by omega, fun _ _ _ => rfl⟩
  · exact key
  · intro n i S1 hi ⟨hc, hf⟩ ih
    rw [l_X3_copyFrom_3_s]
    unfold b_X3_copyFrom_3
    simp (disch := omega) only [wy_ix, Int.toNat_natCast, wq_w_id, wq_lt, wy_set_ne]
    rw [if_neg (by omega)]
    have e : ((i : Int) + 1) = ((i + 1 : Nat) : Int) := by omega
    rw [e]
    refine ih _ ⟨?_, ?_⟩
    · intro j hj
      by_cases ej : j = i
      · subst ej
        simp (disch := omega) only [wy_set_ne, wy_set_at, hf]
        exact ⟨trivial, trivial, trivial⟩
      · have h := hc j (by omega)
        simp (disch := omega) only [wy_set_ne]
        exact h
    · intro k j hk
      simp (disch := omega) only [wy_set_ne]
      exact hf k j hk
  · intro n S1 ⟨hc, hf⟩
    rw [l_X3_copyFrom_3_s]
    unfold b_X3_copyFrom_3
    simp (disch := omega) only [wq_w_id]
    rw [if_pos (by omega)]
    refine ⟨_, rfl, wy_set_at rfl rfl, ?_, ?_⟩
    · intro j hj
      have h := hc j hj
      simp (disch := omega) only [wy_set_ne]
      exact h
    · intro k j hk
      simp (disch := omega) only [wy_set_ne]
      exact hf k j hk
theorem wy_x_ext (hI : wy_iv P) (hr : r < 8) : ∀ (d n s : Nat) (o w : Nat → Int) (ch sp : Int) (b : Option (Int × wy_pl)) (S : wq_St), (d : Int) + (s : Int) = P 13 r → d < n → wy_R wy_co S P → wy_dr S o w s → wy_bs P r S b → 0 ≤ ch ∧ ch ≤ wy_cb s → 0 ≤ sp ∧ sp ≤ wy_cb (s + 1) →
    ∃ S', f_X4_extend n (199 + 9 * r) (s : Int) ch sp S = some (0, S') ∧ wy_dr S' o w s ∧ wy_bs P r S' (wy_mn b (wy_T P r d s o w ch sp)) ∧ wy_fr S S'
  | d, 0, s, o, w, ch, sp, b, S, _, h, _, _, _, _, _ => by omega
  | 0, n + 1, s, o, w, ch, sp, b, S, hd, _, hR, hdr, hbs, hch, hsp => by
    have b13 := wy_b13 hI r
    have hcb := @wy_cb_b (s + 1) (by omega)
    unfold f_X4_extend fb_X4_extend
    simp (disch := omega) only [wy_c13 hR hr, wq_w_id]
    rw [if_neg (by omega)]
    have hcopy := wy_x_copy S sp
    obtain ⟨S', e1, e2, e3, e4⟩ := hcopy
    have hnew : wy_bs P r S' (some (sp, (o, w))) := by
      refine ⟨e2, hsp.1, by dsimp only; omega, fun j hj => ?_, fun x hx => ?_⟩
      · have h := e3 j (by omega)
        have h' := hdr.1 j (by omega)
        exact ⟨by rw [h.1]; exact h'.1, by rw [h.2.1]; exact h'.2⟩
      · rw [(e3 x hx).2.2, hdr.2 x hx]
        have hs : (s : Int) = P 13 r := by omega
        rw [hs]
    have hdr' : wy_dr S' o w s := ⟨fun j hj => by rw [e4 _ _ (by omega), e4 _ _ (by omega)]; exact hdr.1 j hj, fun x hx => by rw [e4 _ _ (by omega)]; exact hdr.2 x hx⟩
    have hfr' : wy_fr S S' := fun k j hk => e4 k j (by omega)
    simp only [wy_T]
    cases b with
    | none =>
      have hb : S 276 3 = 9223372036854775807 := hbs
      rw [wy_mn_1, hb]
      have hcm := @wy_cmp0 sp 9223372036854775807 (by omega) (by omega) (by omega) (by omega)
      rw [if_neg (by rw [hcm]; omega), wy_bd e1]
      exact ⟨S', rfl, hdr', hnew, hfr'⟩
    | some p =>
      obtain ⟨hb1, hb2, hb3, hb4, hb5⟩ := hbs
      rw [wy_mn_s, hb1]
      have hcm := @wy_cmp0 sp p.1 (by omega) (by omega) (by omega) (by omega)
      dsimp only
      by_cases hlt : sp < p.1
      · rw [if_neg (by rw [hcm]; omega), wy_bd e1, if_pos hlt]
        exact ⟨S', rfl, hdr', hnew, hfr'⟩
      · rw [if_pos (by rw [hcm]; omega), if_neg hlt]
        exact ⟨S, rfl, hdr, ⟨hb1, hb2, hb3, hb4, hb5⟩, fun _ _ _ => rfl⟩
  | d + 1, n + 1, s, o, w, ch, sp, b, S, hd, hn, hR, hdr, hbs, hch, hsp => by
    have b13 := wy_b13 hI r
    have hs : s < 3 := by omega
    have hcb := @wy_cb_b s (by omega)
    have hcb1 : wy_cb (s + 1) = 40 * wy_cb s := rfl
    have hcb2 : wy_cb (s + 1 + 1) = 40 * wy_cb (s + 1) := rfl
    unfold f_X4_extend fb_X4_extend
    simp (disch := omega) only [wy_c13 hR hr, wq_w_id]
    rw [if_pos (by omega)]
    simp only [wy_T]
    have key := wy_up (fun n' i (S1 : wq_St) => ∃ S', l_X4_extend_42 (f_X4_extend n) (199 + 9 * r) (s : Int) ch sp (fun S12 => some (0, S12)) n' (i : Int) S1 = some (0, S') ∧ wy_dr S' o w s ∧ wy_bs P r S' (wy_mn b (wy_mf (fun x => if wy_ps o (x : Int) < (s : Int) then none else wy_T P r d (s + 1) (wy_ud o s (x : Int)) (wy_ud w s (wy_bw P r (wy_ud o s (x : Int)) s ch).2) (wy_nt P r (wy_ud o s (x : Int)) s ch) (sp + (wy_bw P r (wy_ud o s (x : Int)) s ch).1)) (P 13 r).toNat)) ∧ wy_fr S S') (P 13 r).toNat (fun i S1 => wy_dr S1 o w s ∧ wy_bs P r S1 (wy_mn b (wy_mf (fun x => if wy_ps o (x : Int) < (s : Int) then none else wy_T P r d (s + 1) (wy_ud o s (x : Int)) (wy_ud w s (wy_bw P r (wy_ud o s (x : Int)) s ch).2) (wy_nt P r (wy_ud o s (x : Int)) s ch) (sp + (wy_bw P r (wy_ud o s (x : Int)) s ch).1)) i)) ∧ wy_fr S S1) ?_ ?_ wq_fu 0 S (by omega) (wy_fu' (by omega)) ⟨hdr, by simp only [wy_mf]; rw [wy_mn_0]; exact hbs, fun _ _ _ => rfl⟩
    · exact key
    · intro n' i S1 hi ⟨hd1, hb1, hf1⟩ ih
      have hR1 := wy_fr_R hR hf1
      have h275 := hd1.2 i (by omega)
      have hpb := wy_ps_b o (i : Int)
      have hv : 0 ≤ S1 (272 + 3) i ∧ S1 (272 + 3) i ≤ 3 := by rw [show S1 (272 + 3) i = _ from h275]; split <;> omega
      rw [l_X4_extend_42_s]
      unfold b_X4_extend_42
      simp (disch := omega) only [wy_ix, Int.toNat_natCast, wy_c13 hR1 hr, wq_w_id]
      rw [if_neg (by omega)]
      have e : ((i : Int) + 1) = ((i + 1 : Nat) : Int) := by omega
      rw [e, show S1 (272 + 3) i = _ from h275]
      by_cases hu : wy_ps o (i : Int) < (s : Int)
      · rw [if_pos hu, if_neg (by omega)]
        refine ih S1 ⟨hd1, ?_, hf1⟩
        simp only [wy_mf]
        rw [if_pos hu, wy_mn_0]
        exact hb1
      · rw [if_neg hu, if_pos rfl]
        have hud := @wy_ps_ud o s (i : Int) hs (by omega)
        have hpl : f_X3_place 272 (s : Int) (i : Int) S1 = some (0, wq_set (wq_set S1 273 s (i : Int)) 275 i (s : Int)) := by
          unfold f_X3_place
          simp (disch := omega) only [wy_ix, Int.toNat_natCast, wq_lt]
        rw [wy_bd hpl]
        have hos : wy_ud o s (i : Int) s = (i : Int) := if_pos rfl
        have hpsi := (hud (i : Int)).1 rfl
        have h275' : ∀ x : Nat, x < 3 → wq_set (wq_set S1 273 s (i : Int)) 275 i (s : Int) 275 x = if wy_ps (wy_ud o s (i : Int)) (x : Int) < ((s + 1 : Nat) : Int) then wy_ps (wy_ud o s (i : Int)) (x : Int) else 3 := by
          intro x hx
          by_cases ex : x = i
          · subst ex
            rw [wy_set_at rfl rfl, hpsi, if_pos (by omega)]
          · rw [wy_set_ne (by omega), wy_set_ne (by omega), hd1.2 x hx]
            rcases (hud (x : Int)).2 (by omega) with h | h
            · rw [if_pos h.1, if_pos (by omega), h.2]
            · rw [if_neg (by omega), if_neg (by omega)]
        generalize hS3 : wq_set (wq_set S1 273 s (i : Int)) 275 i (s : Int) = S3 at h275' ⊢
        have hf3 : wy_fr S S3 := by rw [← hS3]; exact wy_fr_s (wy_fr_s hf1 (by omega)) (by omega)
        have hR3 := wy_fr_R hR hf3
        have hord3 : S3 (272 + 1) s = wy_ud o s (i : Int) s := by rw [← hS3, hos, wy_set_ne (by omega), wy_set_at rfl rfl]
        have hsp3 : wy_sp P r (wy_ud o s (i : Int)) s 272 S3 := wy_sp_of hI hR3 hr (n := s + 1) (by omega) (by omega) fun x hx => h275' x (by omega)
        have hbo : 0 ≤ wy_ud o s (i : Int) s ∧ wy_ud o s (i : Int) s ≤ 2 := by rw [hos]; omega
        obtain ⟨S5, e5, g5, f5⟩ := wy_x_ways hI hR3 hr hs hsp3 hord3 hbo (by rw [hos]; exact hpsi) (ch := ch) ⟨hch.1, by omega⟩
        rw [wy_bd e5]
        have hf5 : wy_fr S S5 := fun k j hk => by rw [f5 k j (by omega)]; exact hf3 k j hk
        have hR5 := wy_fr_R hR hf5
        have hsp5 : wy_sp P r (wy_ud o s (i : Int)) s 272 S5 := wy_sp_of hI hR5 hr (n := s + 1) (by omega) (by omega) fun x hx => by rw [f5 _ _ (by omega)]; exact h275' x (by omega)
        have e6 := wy_x_behind hI hR5 hr hs hsp5 (by rw [f5 _ _ (by omega)]; exact hord3) hbo (ch := ch) ⟨hch.1, by omega⟩
        rw [wy_bd e6]
        have hbw := @wy_bw_b P r (wy_ud o s (i : Int)) s ch hI hch.1
        have b6 := wy_b6 hI (wy_tb P r (wy_ud o s (i : Int) s))
        have hm := wy_mul_le hch.1 b6.1 b6.2
        have hnt := @wy_bh_b P r hI (wy_ud o s (i : Int)) s _ hm.1 (P 15 r).toNat
        have hd5 : wy_dr S5 (wy_ud o s (i : Int)) (wy_ud w s (wy_bw P r (wy_ud o s (i : Int)) s ch).2) (s + 1) := by
          refine ⟨fun j hj => ?_, fun x hx => by rw [f5 _ _ (by omega)]; exact h275' x hx⟩
          by_cases ej : j = s
          · subst ej
            refine ⟨by rw [f5 _ _ (by omega)]; exact hord3, ?_⟩
            rw [g5]
            exact (if_pos rfl).symm
          · have h := hd1.1 j (by omega)
            have u1 : wy_ud o s (i : Int) j = o j := if_neg ej
            have u2 : wy_ud w s (wy_bw P r (wy_ud o s (i : Int)) s ch).2 j = w j := if_neg ej
            rw [u1, u2, f5 _ _ (by omega), f5 _ _ (by omega), ← hS3, wy_set_ne (by omega), wy_set_ne (by omega), wy_set_ne (by omega), wy_set_ne (by omega)]
            exact h
        have hb5 : wy_bs P r S5 (wy_mn b (wy_mf (fun x => if wy_ps o (x : Int) < (s : Int) then none else wy_T P r d (s + 1) (wy_ud o s (x : Int)) (wy_ud w s (wy_bw P r (wy_ud o s (x : Int)) s ch).2) (wy_nt P r (wy_ud o s (x : Int)) s ch) (sp + (wy_bw P r (wy_ud o s (x : Int)) s ch).1)) i)) := by
          have q : ∀ k j, 276 ≤ k → S5 k j = S1 k j := fun k j hk => by rw [f5 _ _ (by omega), ← hS3, wy_set_ne (by omega), wy_set_ne (by omega)]
          revert hb1
          generalize wy_mn b _ = bb
          intro hb1
          cases bb with
          | none => exact (q 276 3 (by omega)).trans hb1
          | some p =>
            obtain ⟨z1, z2, z3, z4, z5⟩ := hb1
            exact ⟨(q 276 3 (by omega)).trans z1, z2, z3, fun j hj => by rw [q 277 j (by omega), q 278 j (by omega)]; exact z4 j hj, fun x hx => by rw [q 279 x (by omega)]; exact z5 x hx⟩
        have hnt' : wy_nt P r (wy_ud o s (i : Int)) s ch ≤ wy_cb (s + 1) := by
          have h := hnt.2
          unfold wy_nt
          omega
        obtain ⟨S9, e9, d9, b9, f9⟩ := wy_x_ext hI hr d n (s + 1) (wy_ud o s (i : Int)) (wy_ud w s (wy_bw P r (wy_ud o s (i : Int)) s ch).2) (wy_nt P r (wy_ud o s (i : Int)) s ch) (sp + (wy_bw P r (wy_ud o s (i : Int)) s ch).1) _ S5 (by omega) (by omega) hR5 hd5 hb5 ⟨hnt.1, hnt'⟩ ⟨by omega, by omega⟩
        have ec : ((s : Int) + 1) = ((s + 1 : Nat) : Int) := by omega
        rw [ec, wy_bd e9]
        simp only [wq_lt]
        have hf9 := wy_fr_t hf5 f9
        refine ih _ ⟨⟨fun j hj => ?_, fun x hx => ?_⟩, ?_, wy_fr_s hf9 (by omega)⟩
        · have h := d9.1 j (by omega)
          have u1 : wy_ud o s (i : Int) j = o j := if_neg (by omega)
          have u2 : wy_ud w s (wy_bw P r (wy_ud o s (i : Int)) s ch).2 j = w j := if_neg (by omega)
          rw [u1, u2] at h
          rw [wy_set_ne (by omega), wy_set_ne (by omega)]
          exact h
        · by_cases ex : x = i
          · subst ex
            rw [wy_set_at rfl rfl, if_neg hu]
          · rw [wy_set_ne (by omega), d9.2 x hx]
            rcases (hud (x : Int)).2 (by omega) with h | h
            · rw [if_pos h.1, if_pos (by omega), h.2]
            · rw [if_neg (by omega), if_neg (by omega)]
        · simp only [wy_mf]
          rw [if_neg hu, ← wy_mn_a]
          revert b9
          generalize wy_mn (wy_mn b _) _ = bb
          intro b9
          cases bb with
          | none => exact (wy_set_ne (by omega)).trans b9
          | some p =>
            obtain ⟨z1, z2, z3, z4, z5⟩ := b9
            exact ⟨(wy_set_ne (by omega)).trans z1, z2, z3, fun j hj => by rw [wy_set_ne (by omega), wy_set_ne (by omega)]; exact z4 j hj, fun x hx => by rw [wy_set_ne (by omega)]; exact z5 x hx⟩
    · intro n' S1 ⟨hd1, hb1, hf1⟩
      have hR1 := wy_fr_R hR hf1
      rw [l_X4_extend_42_s]
      unfold b_X4_extend_42
      simp (disch := omega) only [wy_c13 hR1 hr, wq_w_id]
      rw [if_pos (by omega)]
      exact ⟨S1, rfl, hd1, hb1, hf1⟩
end
end
section
/-! the model: steps of conditions, what is left of choices -/
section
variable {P M : wq_St} {r : Nat} {o w : Nat → Int} {s : Nat} {ch : Int}
def wy_pm (o : Nat → Int) : Prop := (∀ j, j < 3 → 0 ≤ o j ∧ o j ≤ 2) ∧ ∀ x : Int, 0 ≤ x → x ≤ 2 → wy_ps o x < 3
theorem wy_m_stepOf (hp : wy_pm o) (h27 : ∀ j, j < 3 → M 27 j = o j) {x : Int} (h0 : 0 ≤ x) (h2 : x ≤ 2) : f_X9_stepOf x M = some (wy_ps o x, M) := by
  unfold f_X9_stepOf
  have hx := hp.2 x h0 h2
  have key := wy_up (fun n i (_ : Unit) => l_X9_stepOf_2 x (fun u2 S3 => some (u2, S3)) n (i : Int) M = some (wy_ps o x, M)) 3 (fun i _ => ∀ j, j < i → o j ≠ x) ?_ ?_ wq_fu 0 () (by omega) (wy_fu' (by omega)) (fun j hj => by omega)
  · exact key
  · intro n i _ hi hv ih
    have hb := hp.1 i hi
    rw [l_X9_stepOf_2_s]
    unfold b_X9_stepOf_2
    simp (disch := omega) only [wy_ix, Int.toNat_natCast, h27, wq_w_id]
    by_cases e : o i = x
    · rw [if_pos e]
      have : i = 0 ∨ i = 1 ∨ i = 2 := by omega
      unfold wy_ps
      rcases this with rfl | rfl | rfl
      · rw [if_pos e]; rfl
      · rw [if_neg (hv 0 (by omega)), if_pos e]; rfl
      · rw [if_neg (hv 0 (by omega)), if_neg (hv 1 (by omega)), if_pos e]; rfl
    · rw [if_neg e]
      refine ih () fun j hj => ?_
      by_cases ej : j = i
      · rw [ej]; exact e
      · exact hv j (by omega)
  · intro n _ hv
    exfalso
    unfold wy_ps at hx
    rw [if_neg (hv 0 (by omega)), if_neg (hv 1 (by omega)), if_neg (hv 2 (by omega))] at hx
    omega
theorem wy_m_soc (hI : wy_iv P) (hM : wy_M wy_co M P) (hp : wy_pm o) (h27 : ∀ j, j < 3 → M 27 j = o j) (hr : r < 8) {k : Nat} (hk : k < 6) : f_X9_stepOfCondition (6 * (r : Int) + (k : Int)) M = some (wy_cs (wy_ps o) P r k, M) := by
  have b16 := wy_b16 hI (6 * r + k)
  have b17 := wy_b17 hI (6 * r + k)
  have b20 := wy_b20 hI (6 * r + k)
  have e16 : M 16 (6 * r + k) = P 16 (6 * r + k) := wy_m hM (by omega)
  have e17 : M 17 (6 * r + k) = P 17 (6 * r + k) := wy_m hM (by omega)
  have e20 : M 20 (6 * r + k) = P 20 (6 * r + k) := wy_m hM (by omega)
  have p17 := wy_ps_b o (P 17 (6 * r + k))
  have p20 := wy_ps_b o (P 20 (6 * r + k))
  unfold f_X9_stepOfCondition wy_cs
  simp (disch := omega) only [wy_ix, wy_n6, e17]
  rw [wy_bd (wy_m_stepOf hp h27 b17.1 b17.2)]
  simp (disch := omega) only [e16, e20, wq_w_id]
  by_cases h3 : P 16 (6 * r + k) = 3
  · rw [if_pos h3, wy_bd (wy_m_stepOf hp h27 b20.1 b20.2)]
    simp (disch := omega) only [wq_w_id]
    by_cases hl : wy_ps o (P 20 (6 * r + k)) ≤ wy_ps o (P 17 (6 * r + k))
    · rw [if_pos hl, if_neg (by omega)]
    · rw [if_neg hl, if_pos (by omega)]
  · rw [if_neg h3, if_pos (Int.le_refl _), if_neg (fun h => h3 h.1)]
theorem wy_cs_b (o : Nat → Int) (k : Nat) : 0 ≤ wy_cs (wy_ps o) P r k ∧ wy_cs (wy_ps o) P r k ≤ 3 := by
  have p17 := wy_ps_b o (P 17 (6 * r + k))
  have p20 := wy_ps_b o (P 20 (6 * r + k))
  unfold wy_cs
  split <;> omega
theorem wy_m_useOf (hI : wy_iv P) (hM : wy_M wy_co M P) (hp : wy_pm o) (h27 : ∀ j, j < 3 → M 27 j = o j) (hr : r < 8) (hs : s < 3) {c : Int} (hc : -1000 ≤ c ∧ c ≤ 1000) : f_X9_useOf (r : Int) (s : Int) c M = some ((if wy_uo P r o s c (P 15 r).toNat = -1 then -1 else 6 * (r : Int) + wy_uo P r o s c (P 15 r).toNat), M) := by
  have b15 := wy_b15 hI r
  have e15 : M 15 r = P 15 r := wy_m hM (by omega)
  unfold f_X9_useOf
  have key := wy_up (fun n i (_ : Unit) => l_X9_useOf_6 (r : Int) (s : Int) c (fun S8 => some ((-1), S8)) n (6 * (r : Int) + (i : Int)) M = some ((if wy_uo P r o s c (P 15 r).toNat = -1 then -1 else 6 * (r : Int) + wy_uo P r o s c (P 15 r).toNat), M)) (P 15 r).toNat (fun i _ => wy_uo P r o s c i = -1) ?_ ?_ wq_fu 0 () (by omega) (wy_fu' (by omega)) rfl
  · simpa using key
  · intro n i _ hi h0 ih
    have b16 := wy_b16 hI (6 * r + i)
    have b17 := wy_b17 hI (6 * r + i)
    have b18 := wy_b18 hI (6 * r + i)
    have b21 := wy_b21 hI (6 * r + i)
    have bs := hp.1 s hs
    have hcs := @wy_cs_b P r o i
    have e16 : M 16 (6 * r + i) = P 16 (6 * r + i) := wy_m hM (by omega)
    have e17 : M 17 (6 * r + i) = P 17 (6 * r + i) := wy_m hM (by omega)
    have e18 : M 18 (6 * r + i) = P 18 (6 * r + i) := wy_m hM (by omega)
    have e21 : M 21 (6 * r + i) = P 21 (6 * r + i) := wy_m hM (by omega)
    have e : (6 * (r : Int) + (i : Int) + 1) = 6 * (r : Int) + ((i + 1 : Nat) : Int) := by omega
    have hcol : f_X9_columnAt (6 * (r : Int) + (i : Int)) (s : Int) M = some ((if P 17 (6 * r + i) = o s then P 18 (6 * r + i) else P 21 (6 * r + i)), M) := by
      unfold f_X9_columnAt
      simp (disch := omega) only [wy_ix, wy_n6, Int.toNat_natCast, e17, e18, e21, h27, wq_w_id]
      split <;> rfl
    have hcb : 0 ≤ (if P 17 (6 * r + i) = o s then P 18 (6 * r + i) else P 21 (6 * r + i)) ∧ (if P 17 (6 * r + i) = o s then P 18 (6 * r + i) else P 21 (6 * r + i)) ≤ 2 := by split <;> omega
    rw [l_X9_useOf_6_s]
    unfold b_X9_useOf_6 j_X9_useOf_43
    simp (disch := omega) only [wy_ix, wy_n6, Int.toNat_natCast, e15, e16, wq_w_id]
    rw [if_neg (by omega)]
    have nxt : ¬wy_us P r o s c i → wy_uo P r o s c (i + 1) = -1 := fun h => by
      simp only [wy_uo]
      rw [if_neg (fun h => h h0), if_neg h]
    have mid : P 16 (6 * r + i) = 0 ∨ P 16 (6 * r + i) = 3 → (wq_bd (f_X9_stepOfCondition (6 * (r : Int) + (i : Int)) M) fun r3 S4 => if wq_w r3 = wq_w (s : Int) then wq_bd (f_X9_columnAt (6 * (r : Int) + (i : Int)) (s : Int) S4) fun r5 S6 => if wq_w r5 = wq_w c then some (6 * (r : Int) + (i : Int), S6) else l_X9_useOf_6 (r : Int) (s : Int) c (fun S8 => some ((-1), S8)) n (6 * (r : Int) + (i : Int) + 1) S6 else l_X9_useOf_6 (r : Int) (s : Int) c (fun S8 => some ((-1), S8)) n (6 * (r : Int) + (i : Int) + 1) S4) = some ((if wy_uo P r o s c (P 15 r).toNat = -1 then -1 else 6 * (r : Int) + wy_uo P r o s c (P 15 r).toNat), M) := by
      intro hkd
      rw [wy_bd (wy_m_soc hI hM hp h27 hr (by omega)), e]
      simp (disch := omega) only [wq_w_id]
      by_cases ha : wy_cs (wy_ps o) P r i = (s : Int)
      · rw [if_pos ha, wy_bd hcol]
        rw [wq_w_id (by omega) (by omega)]
        by_cases hcc : (if P 17 (6 * r + i) = o s then P 18 (6 * r + i) else P 21 (6 * r + i)) = c
        · rw [if_pos hcc, wy_uo_hit h0 ⟨hkd, ha, hcc⟩ hi, if_neg (by omega)]
        · rw [if_neg hcc]
          exact ih () (nxt fun h => hcc h.2.2)
      · rw [if_neg ha]
        exact ih () (nxt fun h => ha h.2.1)
    by_cases k0 : P 16 (6 * r + i) = 0
    · rw [if_pos k0]
      have h := mid (Or.inl k0)
      rw [wq_w_id (x := (s : Int)) (by omega) (by omega), wq_w_id (x := c) (by omega) (by omega)] at h
      exact h
    · rw [if_neg k0]
      by_cases k3 : P 16 (6 * r + i) = 3
      · rw [if_pos k3]
        have h := mid (Or.inr k3)
        rw [wq_w_id (x := (s : Int)) (by omega) (by omega), wq_w_id (x := c) (by omega) (by omega)] at h
        exact h
      · rw [if_neg k3, e]
        exact ih () (nxt fun h => by have := h.1; omega)
  · intro n _ h0
    rw [l_X9_useOf_6_s]
    unfold b_X9_useOf_6
    simp (disch := omega) only [wy_ix, Int.toNat_natCast, e15, wq_w_id]
    rw [if_pos (by omega), if_pos h0]
theorem wy_m_changed (hI : wy_iv P) (hM : wy_M wy_co M P) (hr : r < 8) {k : Nat} (hk : k < 6) (hc : 0 ≤ ch ∧ ch ≤ 1000000000000) : f_X9_changed (r : Int) (6 * (r : Int) + (k : Int)) ch M = some (wy_cg P r k ch, M) := by
  have b16 := wy_b16 hI (6 * r + k)
  have b17 := wy_b17 hI (6 * r + k)
  have b18 := wy_b18 hI (6 * r + k)
  have b19 := wy_b19 hI (6 * r + k)
  have b20 := wy_b20 hI (6 * r + k)
  have b21 := wy_b21 hI (6 * r + k)
  have e16 : M 16 (6 * r + k) = P 16 (6 * r + k) := wy_m hM (by omega)
  have e17 : M 17 (6 * r + k) = P 17 (6 * r + k) := wy_m hM (by omega)
  have e18 : M 18 (6 * r + k) = P 18 (6 * r + k) := wy_m hM (by omega)
  have e19 : M 19 (6 * r + k) = P 19 (6 * r + k) := wy_m hM (by omega)
  have e20 : M 20 (6 * r + k) = P 20 (6 * r + k) := wy_m hM (by omega)
  have e21 : M 21 (6 * r + k) = P 21 (6 * r + k) := wy_m hM (by omega)
  have e14 : ∀ j, M 14 j = P 14 j := fun j => wy_m hM (by omega)
  have e7 : ∀ j, M 7 j = P 7 j := fun j => wy_m hM (by omega)
  have e8 : ∀ j, M 8 j = P 8 j := fun j => wy_m hM (by omega)
  have e9 : ∀ j, M 9 j = P 9 j := fun j => wy_m hM (by omega)
  have b14 := wy_b14 hI (3 * r + (P 17 (6 * r + k)).toNat)
  have b14' := wy_b14 hI (3 * r + (P 20 (6 * r + k)).toNat)
  have b7 := wy_b7 hI (wy_ce P r k)
  have b8 := wy_b8 hI (wy_ce P r k)
  have b9 := wy_b9 hI (wy_ce P r k)
  have b7' := wy_b7 hI (wy_ce2 P r k)
  have hL := hI.2.2.2.2.1 (wy_ce P r k)
  have u1 : 1 ≤ wy_u1 (P 7 (wy_ce P r k)) ∧ wy_u1 (P 7 (wy_ce P r k)) ≤ 40 := by unfold wy_u1; split <;> omega
  have hcell : f_X9_cellAt (r : Int) (P 17 (6 * r + k)) (P 18 (6 * r + k)) M = some (((wy_ce P r k : Nat) : Int), M) := by
    unfold f_X9_cellAt
    have en : (3 * (r : Int) + P 17 (6 * r + k)).toNat = 3 * r + (P 17 (6 * r + k)).toNat := by omega
    simp (disch := omega) only [wy_ix, en, e14]
    have : 3 * P 14 (3 * r + (P 17 (6 * r + k)).toNat) + P 18 (6 * r + k) = ((wy_ce P r k : Nat) : Int) := by
      unfold wy_ce wy_tb
      omega
    rw [this]
  have hcell' : f_X9_cellAt (r : Int) (P 20 (6 * r + k)) (P 21 (6 * r + k)) M = some (((wy_ce2 P r k : Nat) : Int), M) := by
    unfold f_X9_cellAt
    have en : (3 * (r : Int) + P 20 (6 * r + k)).toNat = 3 * r + (P 20 (6 * r + k)).toNat := by omega
    simp (disch := omega) only [wy_ix, en, e14]
    have : 3 * P 14 (3 * r + (P 20 (6 * r + k)).toNat) + P 21 (6 * r + k) = ((wy_ce2 P r k : Nat) : Int) := by
      unfold wy_ce2 wy_tb
      omega
    rw [this]
  have hce : wy_ce P r k < 12 := by unfold wy_ce wy_tb; omega
  have hce' : wy_ce2 P r k < 12 := by unfold wy_ce2 wy_tb; omega
  have h189 : ∀ part, -1000 ≤ part → part ≤ 1000 → j_X9_changed_189 ch (P 9 (wy_ce P r k) - P 8 (wy_ce P r k) + 1) part M = some (Int.tdiv (ch * wy_cl part (P 9 (wy_ce P r k) - P 8 (wy_ce P r k) + 1)) (P 9 (wy_ce P r k) - P 8 (wy_ce P r k) + 1), M) := by
    intro part hp1 hp2
    have hcl := @wy_cl_b part (P 9 (wy_ce P r k) - P 8 (wy_ce P r k) + 1) (by omega)
    have hml := @wy_mul_le ch _ 1000 hc.1 hcl.1 (by omega)
    unfold j_X9_changed_189
    by_cases h0 : 0 ≤ part
    · by_cases h1 : part ≤ P 9 (wy_ce P r k) - P 8 (wy_ce P r k) + 1
      · have ec : wy_cl part (P 9 (wy_ce P r k) - P 8 (wy_ce P r k) + 1) = part := by unfold wy_cl; rw [if_neg (by omega), if_neg (by omega)]
        rw [ec] at hml ⊢
        simp (disch := omega) only [wq_w_id, wq_v_id, wq_gd_t, wq_divL]
        rw [if_pos h0, if_pos h1]
      · have ec : wy_cl part (P 9 (wy_ce P r k) - P 8 (wy_ce P r k) + 1) = P 9 (wy_ce P r k) - P 8 (wy_ce P r k) + 1 := by unfold wy_cl; rw [if_neg (by omega), if_pos (by omega)]
        rw [ec] at hml ⊢
        simp (disch := omega) only [wq_w_id, wq_v_id, wq_gd_t, wq_divL]
        rw [if_pos h0, if_neg h1]
    · have ec : wy_cl part (P 9 (wy_ce P r k) - P 8 (wy_ce P r k) + 1) = 0 := by unfold wy_cl; rw [if_pos (by omega)]
      rw [ec] at hml ⊢
      simp (disch := omega) only [wq_w_id, wq_v_id, wq_gd_t, wq_divL]
      rw [if_neg h0]
  have h60 : ∀ z, z = wy_u1 (P 7 (wy_ce P r k)) → j_X9_changed_60 (r : Int) (6 * (r : Int) + (k : Int)) ch z M = some ((if P 16 (6 * r + k) = 3 then Int.tdiv ch (wy_mx (wy_u1 (P 7 (wy_ce P r k))) (P 7 (wy_ce2 P r k))) else Int.tdiv ch (wy_u1 (P 7 (wy_ce P r k)))), M) := by
    intro z hz
    subst hz
    unfold j_X9_changed_60
    simp (disch := omega) only [wy_ix, wy_n6, e16, e20, e21, wq_w_id]
    by_cases h3 : P 16 (6 * r + k) = 3
    · rw [if_pos h3, if_pos h3, wy_bd hcell']
      simp (disch := omega) only [wy_ix, Int.toNat_natCast, e7, e20, e21, wq_w_id]
      unfold wy_mx
      by_cases hl : P 7 (wy_ce2 P r k) ≤ wy_u1 (P 7 (wy_ce P r k))
      · rw [if_pos hl, if_neg (by omega)]
        unfold wq_divL
        simp (disch := omega) only [wq_v_id, wq_gd_t]
      · rw [if_neg hl, if_pos (by omega), wy_bd hcell']
        simp (disch := omega) only [wy_ix, Int.toNat_natCast, e7, wq_w_id, wq_divL, wq_v_id, wq_gd_t]
    · rw [if_neg h3, if_neg h3]
      unfold wq_divL
      simp (disch := omega) only [wq_v_id, wq_gd_t]
  have h38 : j_X9_changed_38 (r : Int) (6 * (r : Int) + (k : Int)) ch ((wy_ce P r k : Nat) : Int) M = some ((if P 16 (6 * r + k) = 3 then Int.tdiv ch (wy_mx (wy_u1 (P 7 (wy_ce P r k))) (P 7 (wy_ce2 P r k))) else Int.tdiv ch (wy_u1 (P 7 (wy_ce P r k)))), M) := by
    unfold j_X9_changed_38
    simp (disch := omega) only [wy_ix, Int.toNat_natCast, e7, wq_w_id]
    by_cases h1 : 1 ≤ P 7 (wy_ce P r k)
    · rw [if_pos h1]
      exact h60 _ (by unfold wy_u1; rw [if_neg (by omega)])
    · rw [if_neg h1]
      exact h60 _ (by unfold wy_u1; rw [if_pos (by omega)])
  unfold f_X9_changed
  simp (disch := omega) only [wy_ix, wy_n6, e17, e18]
  rw [wy_bd hcell]
  simp (disch := omega) only [wy_ix, Int.toNat_natCast, e16, e19, e8, e9, wq_w_id, wq_lt]
  unfold wy_cg
  by_cases k0 : P 16 (6 * r + k) = 0
  · rw [if_pos k0, if_pos k0, h38, if_neg (by omega)]
  · rw [if_neg k0, if_neg k0]
    by_cases k3 : P 16 (6 * r + k) = 3
    · rw [if_pos k3, if_neg (by omega), if_neg (by omega), h38, if_pos k3]
    · rw [if_neg k3]
      by_cases k1 : P 16 (6 * r + k) = 1
      · rw [if_pos k1, if_pos k1]
        exact h189 _ (by omega) (by omega)
      · rw [if_neg k1, if_neg k1, if_pos (by omega)]
        exact h189 _ (by omega) (by omega)
end
end
section
/-! the model: what a plan costs -/
def wy_ck (P : wq_St) (r : Nat) (o w : Nat → Int) : Nat → Nat → Int → Int → Option Int
  | 0, _, _, sm => some sm
  | d + 1, s, ch, sm => match wy_wy P r o s ch (w s + 1).toNat with
    | none => none
    | some a => wy_ck P r o w d (s + 1) (wy_nt P r o s ch) (sm + a.1)
section
variable {P M : wq_St} {r : Nat} {o w : Nat → Int} {s : Nat} {ch : Int}
theorem wy_wy_b (hI : wy_iv P) (hc : 0 ≤ ch) (i : Nat) {a : Int × Int} (h : wy_wy P r o s ch i = some a) : 0 ≤ a.1 ∧ a.1 ≤ ch + ch * P 6 (wy_tb P r (o s)) := by
  have b6 := wy_b6 hI (wy_tb P r (o s))
  have hm := wy_mul_le hc b6.1 b6.2
  cases i with
  | zero =>
    cases h
    dsimp only
    omega
  | succ i =>
    simp only [wy_wy] at h
    unfold wy_wi at h
    split at h
    · cases h
      have hd := @wy_tdiv_b _ (wy_u1 (P 7 (3 * wy_tb P r (o s) + i))) hm.1 (wy_u1_b _)
      dsimp only
      omega
    · cases h
theorem wy_nt_b (hI : wy_iv P) (hc : 0 ≤ ch) : 0 ≤ wy_nt P r o s ch ∧ wy_nt P r o s ch ≤ 40 * ch := by
  have b6 := wy_b6 hI (wy_tb P r (o s))
  have hm := wy_mul_le hc b6.1 b6.2
  have h := @wy_bh_b P r hI o s _ hm.1 (P 15 r).toNat
  unfold wy_nt
  omega
theorem wy_ck_b (hI : wy_iv P) : ∀ (d s : Nat) (ch sm : Int), d + s ≤ 3 → 0 ≤ ch ∧ ch ≤ wy_cb s → 0 ≤ sm ∧ sm ≤ 2 * wy_cb (s + 1) → ∀ c, wy_ck P r o w d s ch sm = some c → 0 ≤ c ∧ c ≤ 1000000000000
  | 0, s, ch, sm, hd, hc, hs, c, h => by
    cases h
    have := @wy_cb_b (s + 1) (by omega)
    omega
  | d + 1, s, ch, sm, hd, hc, hs, c, h => by
    have hcb1 : wy_cb (s + 1) = 40 * wy_cb s := rfl
    have hcb2 : wy_cb (s + 1 + 1) = 40 * wy_cb (s + 1) := rfl
    have b6 := wy_b6 hI (wy_tb P r (o s))
    have hm := wy_mul_le hc.1 b6.1 b6.2
    have hn := @wy_nt_b P r o s ch hI hc.1
    simp only [wy_ck] at h
    split at h
    · cases h
    · rename_i a ha
      have hab := wy_wy_b hI hc.1 _ ha
      exact wy_ck_b hI d (s + 1) _ _ (by omega) ⟨hn.1, by omega⟩ ⟨by omega, by omega⟩ c h
theorem wy_m_behind (hI : wy_iv P) (hM : wy_M wy_co M P) (hp : wy_pm o) (h27 : ∀ j, j < 3 → M 27 j = o j) (hr : r < 8) (hs : s < 3) (hc : 0 ≤ ch ∧ ch ≤ 1000000000000) (y4 : Int) (kx : Int → wq_St → Option (Int × wq_St)) :
    l_X9_cost_197 (r : Int) y4 (s : Int) kx wq_fu ch (6 * (r : Int)) M = kx (wy_bh P r o s (P 15 r).toNat ch) M := by
  have b15 := wy_b15 hI r
  have e15 : M 15 r = P 15 r := wy_m hM (by omega)
  have key := wy_up (fun n i (_ : Unit) => l_X9_cost_197 (r : Int) y4 (s : Int) kx n (wy_bh P r o s i ch) (6 * (r : Int) + (i : Int)) M = kx (wy_bh P r o s (P 15 r).toNat ch) M) (P 15 r).toNat (fun _ _ => True) ?_ ?_ wq_fu 0 () (by omega) (wy_fu' (by omega)) trivial
  · simpa [wy_bh] using key
  · intro n i _ hi _ ih
    have ih := ih () trivial
    have hcs := @wy_cs_b P r o i
    have hb := @wy_bh_b P r hI o s ch hc.1 i
    have e : (6 * (r : Int) + (i : Int) + 1) = 6 * (r : Int) + ((i + 1 : Nat) : Int) := by omega
    rw [l_X9_cost_197_s]
    unfold b_X9_cost_197
    simp (disch := omega) only [wy_ix, Int.toNat_natCast, e15, wq_w_id]
    rw [if_neg (by omega), wy_bd (wy_m_soc hI hM hp h27 hr (by omega)), e, wq_w_id (by omega) (by omega)]
    simp only [wy_bh] at ih
    by_cases ha : wy_cs (wy_ps o) P r i = (s : Int)
    · rw [if_pos ha] at ih ⊢
      rw [wy_bd (wy_m_changed hI hM hr (by omega) ⟨hb.1, by omega⟩)]
      exact ih
    · rw [if_neg ha] at ih ⊢
      exact ih
  · intro n _ _
    rw [l_X9_cost_197_s]
    unfold b_X9_cost_197
    simp (disch := omega) only [wy_ix, Int.toNat_natCast, e15, wq_w_id]
    rw [if_pos (by omega)]
theorem wy_m_cost (hI : wy_iv P) (hM : wy_M wy_co M P) (hp : wy_pm o) (h27 : ∀ j, j < 3 → M 27 j = o j) (h28 : ∀ j, j < 3 → M 28 j = w j) (hw : ∀ j, j < 3 → -1 ≤ w j ∧ w j ≤ 2) (hr : r < 8) :
    f_X9_cost (r : Int) M = some ((wy_ck P r o w (P 13 r).toNat 0 1000 0).getD (-1), M) := by
  have b13 := wy_b13 hI r
  have e13 : M 13 r = P 13 r := wy_m hM (by omega)
  have e1 : ∀ j, M 1 j = P 1 j := fun j => wy_m hM (by omega)
  have e5 : ∀ j, M 5 j = P 5 j := fun j => wy_m hM (by omega)
  have e6 : ∀ j, M 6 j = P 6 j := fun j => wy_m hM (by omega)
  have e7 : ∀ j, M 7 j = P 7 j := fun j => wy_m hM (by omega)
  unfold f_X9_cost
  have key := wy_up (fun n i (q : Int × Int) => l_X9_cost_10 (r : Int) (fun u26 S27 => some (u26, S27)) n q.1 q.2 (i : Int) M = some ((wy_ck P r o w ((P 13 r).toNat - i) i q.1 q.2).getD (-1), M)) (P 13 r).toNat (fun i q => 0 ≤ q.1 ∧ q.1 ≤ wy_cb i) ?_ ?_ wq_fu 0 (1000, 0) (by omega) (wy_fu' (by omega)) ⟨by decide, by decide⟩
  · exact key
  · intro n i ⟨c0, sm⟩ hi hc ih
    dsimp only at hc ih ⊢
    have hcb := @wy_cb_b i (by omega)
    have hcb1 : wy_cb (i + 1) = 40 * wy_cb i := rfl
    have bo := hp.1 i (by omega)
    have bw := hw i (by omega)
    have b14 := wy_b14 hI (3 * r + (o i).toNat)
    have ht := @wy_tb_lt P r hI (o i)
    have e14 : M 14 (3 * r + (o i).toNat) = ((wy_tb P r (o i) : Nat) : Int) := by
      rw [wy_m hM (by omega)]
      unfold wy_tb
      omega
    have en : (3 * (r : Int) + o i).toNat = 3 * r + (o i).toNat := by omega
    have q27 := h27 i (by omega)
    have q28 := h28 i (by omega)
    have b1 := wy_b1 hI (wy_tb P r (o i))
    have b6 := wy_b6 hI (wy_tb P r (o i))
    have hm := wy_mul_le hc.1 b6.1 b6.2
    have hn := @wy_nt_b P r o i c0 hI hc.1
    have e : ((i : Int) + 1) = ((i + 1 : Nat) : Int) := by omega
    have ed : (P 13 r).toNat - i = ((P 13 r).toNat - (i + 1)) + 1 := by omega
    have h180 : ∀ sm', j_X9_cost_180 (fun u26 S27 => some (u26, S27)) (l_X9_cost_10 (r : Int) (fun u26 S27 => some (u26, S27)) n) (r : Int) c0 sm' (i : Int) ((wy_tb P r (o i) : Nat) : Int) M = some ((wy_ck P r o w ((P 13 r).toNat - (i + 1)) (i + 1) (wy_nt P r o i c0) sm').getD (-1), M) := by
      intro sm'
      unfold j_X9_cost_180
      simp (disch := omega) only [wy_ix, Int.toNat_natCast, e6, wq_w_id]
      rw [wy_m_behind hI hM hp h27 hr (by omega) ⟨hm.1, by omega⟩, e]
      exact ih (wy_nt P r o i c0, sm') ⟨hn.1, by omega⟩
    rw [l_X9_cost_10_s]
    unfold b_X9_cost_10
    simp (disch := omega) only [wy_ix, Int.toNat_natCast, e13, q27, q28, en, e14, wq_w_id, wq_lt, e6, e1]
    rw [if_neg (by omega), ed]
    simp only [wy_ck]
    by_cases hw1 : w i = -1
    · rw [if_pos hw1, hw1]
      exact h180 _
    · rw [if_neg hw1]
      obtain ⟨c, hcw⟩ : ∃ c : Nat, w i = (c : Int) := ⟨(w i).toNat, by omega⟩
      have hcw1 : (w i + 1).toNat = c + 1 := by omega
      rw [hcw1]
      simp only [wy_wy]
      unfold wy_wi
      rw [hcw]
      by_cases g1 : P 1 (wy_tb P r (o i)) ≤ (c : Int)
      · rw [if_pos g1, if_neg (fun h => by omega)]
        rfl
      · have b5 := wy_b5 hI (3 * wy_tb P r (o i) + c)
        have b7 := wy_b7 hI (3 * wy_tb P r (o i) + c)
        have hub := @wy_uo_b P r o i (c : Int) (P 15 r).toNat
        have b15 := wy_b15 hI r
        rw [if_neg g1]
        simp (disch := omega) only [wy_ix, wy_n3, e5, e7, wq_w_id]
        by_cases g2 : P 5 (3 * wy_tb P r (o i) + c) = 0
        · rw [if_pos g2, if_neg (fun h => h.2.1 g2)]
          rfl
        · rw [if_neg g2, wy_bd (wy_m_useOf hI hM hp h27 hr (by omega) (by omega))]
          by_cases g3 : wy_uo P r o i (c : Int) (P 15 r).toNat = -1
          · rw [if_pos g3, if_pos (by decide), if_neg (fun h => h.2.2 g3)]
            rfl
          · rw [if_neg g3, wq_w_id (by omega) (by omega), if_neg (by omega), if_pos ⟨by omega, g2, g3⟩]
            simp (disch := omega) only [wy_ix, Int.toNat_natCast, q28, hcw, wy_n3, e7, e6, wq_w_id]
            have h167 : ∀ z, z = wy_u1 (P 7 (3 * wy_tb P r (o i) + c)) → j_X9_cost_167 (fun u26 S27 => some (u26, S27)) (l_X9_cost_10 (r : Int) (fun u26 S27 => some (u26, S27)) n) (r : Int) c0 (i : Int) ((wy_tb P r (o i) : Nat) : Int) z (c0 * P 6 (wy_tb P r (o i))) c0 sm M = some ((wy_ck P r o w ((P 13 r).toNat - (i + 1)) (i + 1) (wy_nt P r o i c0) (sm + (c0 + Int.tdiv (c0 * P 6 (wy_tb P r (o i))) (wy_u1 (P 7 (3 * wy_tb P r (o i) + c)))))).getD (-1), M) := by
              intro z hz
              have hz1 := wy_u1_b (P 7 (3 * wy_tb P r (o i) + c))
              have hz2 : wy_u1 (P 7 (3 * wy_tb P r (o i) + c)) ≤ 40 := by unfold wy_u1; split <;> omega
              rw [hz]
              unfold j_X9_cost_167 wq_divL
              simp (disch := omega) only [wq_w_id, wq_v_id, wq_gd_t, wq_lt]
              exact h180 _
            by_cases g4 : 1 ≤ P 7 (3 * wy_tb P r (o i) + c)
            · rw [if_pos g4]
              exact h167 _ (by unfold wy_u1; rw [if_neg (by omega)])
            · rw [if_neg g4]
              exact h167 _ (by unfold wy_u1; rw [if_pos (by omega)])
  · intro n ⟨c0, sm⟩ hc
    rw [l_X9_cost_10_s]
    unfold b_X9_cost_10
    simp (disch := omega) only [wy_ix, Int.toNat_natCast, e13, wq_w_id]
    rw [if_pos (by omega), Nat.sub_self]
    rfl
end
end
section
/-! the model tries all ways of all orders -/
def wy_fm (M M' : wq_St) : Prop := ∀ f j, ¬(28 ≤ f ∧ f ≤ 30) → ¬(f = 0 ∧ j = 37) → M' f j = M f j
def wy_bm (M : wq_St) (b : Option (Int × wy_pl)) : Prop := match b with
  | none => M 0 37 = -1
  | some p => M 0 37 = p.1 ∧ 0 ≤ p.1 ∧ p.1 ≤ 1000000000000000 ∧ ∀ j : Nat, j < 3 → M 29 j = p.2.1 j ∧ M 30 j = p.2.2 j
def wy_w3 (a b c : Int) : Nat → Int := wy_ud (wy_ud (wy_ud (fun _ => -1) 0 a) 1 b) 2 c
def wy_o3 (a b c : Int) : Nat → Int := wy_ud (wy_ud (wy_ud (fun j => (j : Int)) 0 a) 1 b) 2 c
def wy_cd (P : wq_St) (r : Nat) (o : Nat → Int) (a b c : Int) : Option (Int × wy_pl) := match wy_ck P r o (wy_w3 a b c) (P 13 r).toNat 0 1000 0 with
  | none => none
  | some z => some (z, (o, wy_w3 a b c))
def wy_nc (P : wq_St) (r : Nat) (k : Int) : Nat := if P 13 r ≤ k then 1 else 4
def wy_g1 (P : wq_St) (r : Nat) (o : Nat → Int) (a b : Int) : Option (Int × wy_pl) := wy_mf (fun i => wy_cd P r o a b ((i : Int) - 1)) (wy_nc P r 2)
def wy_g2 (P : wq_St) (r : Nat) (o : Nat → Int) (a : Int) : Option (Int × wy_pl) := wy_mf (fun i => wy_g1 P r o a ((i : Int) - 1)) (wy_nc P r 1)
def wy_g3 (P : wq_St) (r : Nat) (o : Nat → Int) : Option (Int × wy_pl) := wy_mf (fun i => wy_g2 P r o ((i : Int) - 1)) 4
section
variable {P M : wq_St} {r : Nat} {o w : Nat → Int} {s : Nat} {ch : Int}
theorem wy_w3_0 (a b c : Int) : wy_w3 a b c 0 = a := rfl
theorem wy_w3_1 (a b c : Int) : wy_w3 a b c 1 = b := rfl
theorem wy_w3_2 (a b c : Int) : wy_w3 a b c 2 = c := rfl
theorem wy_fm_M {C : Nat → Prop} {M' : wq_St} (h : wy_M C M P) (hf : wy_fm M M') : wy_M C M' P := fun f i h1 h2 h3 h4 => by
  rw [hf f i (by omega) (fun e => by have := h3 e.1; omega)]
  exact h f i h1 h2 h3 h4
theorem wy_fm_t {M' M'' : wq_St} (h1 : wy_fm M M') (h2 : wy_fm M' M'') : wy_fm M M'' := fun f j a b => by rw [h2 f j a b, h1 f j a b]
theorem wy_m_copyb (M : wq_St) (c1 c2 c3 c4 c5 : Int) (kx : wq_St → Option (Int × wq_St)) : ∃ M', l_X9_triesWays_119 c1 c2 c3 c4 c5 kx wq_fu 0 M = kx M' ∧ (∀ j, j < 3 → M' 29 j = M 27 j ∧ M' 30 j = M 28 j) ∧ (∀ f j, ¬(29 ≤ f ∧ f ≤ 30) → M' f j = M f j) := by
  have key := wy_up (fun n i (M1 : wq_St) => ∃ M', l_X9_triesWays_119 c1 c2 c3 c4 c5 kx n (i : Int) M1 = kx M' ∧ (∀ j, j < 3 → M' 29 j = M 27 j ∧ M' 30 j = M 28 j) ∧ (∀ f j, ¬(29 ≤ f ∧ f ≤ 30) → M' f j = M f j)) 3 (fun i M1 => (∀ j, j < i → M1 29 j = M 27 j ∧ M1 30 j = M 28 j) ∧ (∀ f j, ¬(29 ≤ f ∧ f ≤ 30) → M1 f j = M f j)) ?_ ?_ wq_fu 0 M (by omega) (wy_fu' (by omega)) ⟨fun j hj => by omega, fun _ _ _ => rfl⟩
  · exact key
  · intro n i M1 hi ⟨hc, hf⟩ ih
    rw [l_X9_triesWays_119_s]
    unfold b_X9_triesWays_119
    simp (disch := omega) only [wy_ix, Int.toNat_natCast, wq_w_id, wq_lt, wy_set_ne]
    rw [if_neg (by omega)]
    have e : ((i : Int) + 1) = ((i + 1 : Nat) : Int) := by omega
    rw [e]
    refine ih _ ⟨?_, ?_⟩
    · intro j hj
      by_cases ej : j = i
      · subst ej
        simp (disch := omega) only [wy_set_ne, wy_set_at, hf]
        exact ⟨trivial, trivial⟩
      · have h := hc j (by omega)
        simp (disch := omega) only [wy_set_ne]
        exact h
    · intro k j hk
      simp (disch := omega) only [wy_set_ne]
      exact hf k j hk
  · intro n M1 ⟨hc, hf⟩
    rw [l_X9_triesWays_119_s]
    unfold b_X9_triesWays_119
    simp (disch := omega) only [wq_w_id]
    rw [if_pos (by omega)]
    exact ⟨M1, rfl, hc, hf⟩
theorem wy_cmpE {a b : Int} (h1 : -9223372036854775808 ≤ a) (h2 : a < 9223372036854775808) (h3 : -9223372036854775808 ≤ b) (h4 : b < 9223372036854775808) : (wq_w (wq_cmp a b) = 0) ↔ a = b := by
  unfold wq_cmp
  rw [wq_v_id h1 h2, wq_v_id h3 h4]
  by_cases h : a < b
  · rw [if_pos h]
    have : a ≠ b := by omega
    simp [this]
    decide
  · rw [if_neg h]
    by_cases h' : a = b
    · rw [if_pos h']
      simp [h']
      decide
    · rw [if_neg h']
      simp [h']
      decide
theorem wy_cmpN : wq_w (wq_cmp (-1) (-1)) = 0 := by
  unfold wq_cmp
  rw [if_neg (Int.lt_irrefl _), if_pos rfl]
  rfl
theorem wy_v1 : wq_v (-1) = -1 := rfl
theorem wy_cmpM {a : Int} (h1 : 0 ≤ a) (h2 : a ≤ 1000000000000000) : ¬(wq_w (wq_cmp a (-1)) = 0) := by
  unfold wq_cmp
  rw [wq_v_id (by omega) (by omega), wy_v1, if_neg (by omega), if_neg (by omega)]
  decide
theorem wy_lt {α β : Type} {e : β} {k : β → Option α} : wq_lt e k = k e := by rw [wq_lt]
theorem wy_ix0 {α : Type} {k : Nat → Option α} : wq_ix 0 3 k = k 0 := wq_ix_t 0 rfl (by omega) (by omega)
theorem wy_ix1 {α : Type} {k : Nat → Option α} : wq_ix 1 3 k = k 1 := wq_ix_t 1 rfl (by omega) (by omega)
theorem wy_ix2 {α : Type} {k : Nat → Option α} : wq_ix 2 3 k = k 2 := wq_ix_t 2 rfl (by omega) (by omega)
/-- one choice of ways -/
theorem wy_m_try (hI : wy_iv P) (hM : wy_M wy_co M P) (hp : wy_pm o) (h27 : ∀ j, j < 3 → M 27 j = o j) (hr : r < 8) {a b c : Int} (ha : -1 ≤ a ∧ a ≤ 2) (hb : -1 ≤ b ∧ b ≤ 2) (hc : -1 ≤ c ∧ c ≤ 2) {B : Option (Int × wy_pl)} (hB : wy_bm M B) {z : Int} (hz : z = 0 ∨ z = 3) (hcz : c < z) (kx : wq_St → Option (Int × wq_St)) (rec : Int → wq_St → Option (Int × wq_St)) (x2 : Int) :
    ∃ M', j_X9_triesWays_47 kx rec (r : Int) x2 a b c z c M = rec (c + 1) M' ∧ wy_fm M M' ∧ wy_bm M' (wy_mn B (wy_cd P r o a b c)) := by
  unfold j_X9_triesWays_47
  rw [wy_ix0, wy_lt, wy_ix1, wy_lt, wy_ix2, wy_lt]
  rw [wq_w_id (x := z) (by omega) (by omega), wq_w_id (x := c) (by omega) (by omega), if_neg (by omega)]
  have hf5 : wy_fm M (wq_set (wq_set (wq_set M 28 0 a) 28 1 b) 28 2 c) := fun f j h1 h2 => by
    rw [wy_set_ne (by omega), wy_set_ne (by omega), wy_set_ne (by omega)]
  have h28 : ∀ j, j < 3 → wq_set (wq_set (wq_set M 28 0 a) 28 1 b) 28 2 c 28 j = wy_w3 a b c j := fun j hj => by
    have : j = 0 ∨ j = 1 ∨ j = 2 := by omega
    rcases this with rfl | rfl | rfl
    · rw [wy_set_ne (by omega), wy_set_ne (by omega), wy_set_at rfl rfl]; rfl
    · rw [wy_set_ne (by omega), wy_set_at rfl rfl]; rfl
    · rw [wy_set_at rfl rfl]; rfl
  have hB5 : ∀ M1 : wq_St, (∀ f j, (f = 29 ∨ f = 30 ∨ (f = 0 ∧ j = 37)) → M1 f j = M f j) → wy_bm M1 B := fun M1 hq => by
    cases B with
    | none => exact (hq 0 37 (by omega)).trans hB
    | some p =>
      obtain ⟨z1, z2, z3, z4⟩ := hB
      exact ⟨(hq 0 37 (by omega)).trans z1, z2, z3, fun j hj => by rw [hq 29 j (by omega), hq 30 j (by omega)]; exact z4 j hj⟩
  generalize hM5 : wq_set (wq_set (wq_set M 28 0 a) 28 1 b) 28 2 c = M5 at hf5 h28 ⊢
  have q5 : ∀ f j, (f = 29 ∨ f = 30 ∨ (f = 0 ∧ j = 37)) → M5 f j = M f j := fun f j h => by
    rw [← hM5, wy_set_ne (by omega), wy_set_ne (by omega), wy_set_ne (by omega)]
  have hM' := wy_fm_M hM hf5
  have h27' : ∀ j, j < 3 → M5 27 j = o j := fun j hj => by rw [hf5 _ _ (by omega) (by omega)]; exact h27 j hj
  have hwb : ∀ j, j < 3 → -1 ≤ wy_w3 a b c j ∧ wy_w3 a b c j ≤ 2 := fun j hj => by
    have : j = 0 ∨ j = 1 ∨ j = 2 := by omega
    rcases this with rfl | rfl | rfl
    · exact ha
    · exact hb
    · exact hc
  rw [wy_bd (wy_m_cost hI hM' hp h27' h28 hwb hr)]
  have b13 := wy_b13 hI r
  have hck := @wy_ck_b P r o (wy_w3 a b c) hI (P 13 r).toNat 0 1000 0 (by omega) ⟨by decide, by decide⟩ ⟨by decide, by have := @wy_cb_b (0 + 1) (by omega); omega⟩
  unfold wy_cd
  cases hk : wy_ck P r o (wy_w3 a b c) (P 13 r).toNat 0 1000 0 with
  | none =>
    simp only [Option.getD_none]
    rw [if_pos (wy_cmpN), wy_mn_0]
    exact ⟨M5, rfl, hf5, hB5 _ q5⟩
  | some y =>
    have hy := hck y hk
    simp only [Option.getD_some]
    rw [if_neg (wy_cmpM (by omega) (by omega))]
    have h110 : ∃ M', j_X9_triesWays_110 kx rec (r : Int) x2 a b c y M5 = rec (c + 1) M' ∧ wy_fm M M' ∧ wy_bm M' (some (y, (o, wy_w3 a b c))) := by
      unfold j_X9_triesWays_110
      simp only [wq_lt]
      obtain ⟨M', e1, e2, e3⟩ := wy_m_copyb (wq_set M5 0 37 y) (r : Int) x2 a b c (fun S17 => rec (c + 1) S17)
      refine ⟨M', e1, fun f j h1 h2 => ?_, ?_, by dsimp only; omega, by dsimp only; omega, fun j hj => ?_⟩
      · rw [e3 f j (by omega), wy_set_ne (by omega)]
        exact hf5 f j h1 h2
      · rw [e3 0 37 (by omega), wy_set_at rfl rfl]
      · have h := e2 j hj
        rw [wy_set_ne (by omega), wy_set_ne (by omega), h27' j hj, h28 j hj] at h
        exact h
    cases B with
    | none =>
      have hb0 : M5 0 37 = -1 := (q5 0 37 (by omega)).trans hB
      rw [hb0, if_pos (wy_cmpN), wy_mn_1]
      exact h110
    | some p =>
      obtain ⟨z1, z2, z3, z4⟩ := hB
      have hb0 : M5 0 37 = p.1 := (q5 0 37 (by omega)).trans z1
      have hcm3 := @wy_cmp0 y p.1 (by omega) (by omega) (by omega) (by omega)
      rw [hb0, if_neg (wy_cmpM (by omega) (by omega)), wy_mn_s]
      dsimp only
      by_cases hlt : y < p.1
      · rw [if_neg (by rw [hcm3]; omega), if_pos hlt]
        exact h110
      · rw [if_pos (by rw [hcm3]; omega), if_neg hlt]
        exact ⟨M5, rfl, hf5, hB5 _ q5⟩
theorem wy_m_tw1 (hI : wy_iv P) (hM : wy_M wy_co M P) (hp : wy_pm o) (h27 : ∀ j, j < 3 → M 27 j = o j) (hr : r < 8) {a b : Int} (ha : -1 ≤ a ∧ a ≤ 2) (hb : -1 ≤ b ∧ b ≤ 2) {B : Option (Int × wy_pl)} (hB : wy_bm M B) (kx : wq_St → Option (Int × wq_St)) :
    ∃ M', l_X9_triesWays_35 (r : Int) (P 13 r) a b kx wq_fu (-1) M = kx M' ∧ wy_fm M M' ∧ wy_bm M' (wy_mn B (wy_g1 P r o a b)) := by
  have b13 := wy_b13 hI r
  have hnc : wy_nc P r 2 ≤ 4 := by unfold wy_nc; split <;> omega
  have key := wy_up (fun n i (M1 : wq_St) => ∃ M', l_X9_triesWays_35 (r : Int) (P 13 r) a b kx n ((i : Int) - 1) M1 = kx M' ∧ wy_fm M M' ∧ wy_bm M' (wy_mn B (wy_g1 P r o a b))) (wy_nc P r 2) (fun i M1 => wy_fm M M1 ∧ wy_bm M1 (wy_mn B (wy_mf (fun i => wy_cd P r o a b ((i : Int) - 1)) i))) ?_ ?_ wq_fu 0 M (by omega) (wy_fu' (by omega)) ⟨fun _ _ _ _ => rfl, by simp only [wy_mf]; rw [wy_mn_0]; exact hB⟩
  · exact key
  · intro n i M1 hi ⟨hf, hb1⟩ ih
    have hM1 := wy_fm_M hM hf
    have h27' : ∀ j, j < 3 → M1 27 j = o j := fun j hj => by rw [hf _ _ (by omega) (by omega)]; exact h27 j hj
    have e : ((i : Int) - 1 + 1) = ((i + 1 : Nat) : Int) - 1 := by omega
    rw [l_X9_triesWays_35_s]
    unfold b_X9_triesWays_35
    simp (disch := omega) only [wq_w_id]
    have fin : ∀ z, (z = 0 ∨ z = 3) → (i : Int) - 1 < z → ∃ M', j_X9_triesWays_47 kx (l_X9_triesWays_35 (r : Int) (P 13 r) a b kx n) (r : Int) (P 13 r) a b ((i : Int) - 1) z ((i : Int) - 1) M1 = kx M' ∧ wy_fm M M' ∧ wy_bm M' (wy_mn B (wy_g1 P r o a b)) := by
      intro z hz hcz
      obtain ⟨M2, e1, e2, e3⟩ := wy_m_try hI hM1 hp h27' hr ha hb (c := (i : Int) - 1) (by omega) hb1 hz hcz kx (l_X9_triesWays_35 (r : Int) (P 13 r) a b kx n) (P 13 r)
      rw [e1, e]
      refine ih M2 ⟨wy_fm_t hf e2, ?_⟩
      simp only [wy_mf]
      rw [← wy_mn_a]
      exact e3
    unfold wy_nc at hi
    by_cases h2 : P 13 r ≤ 2
    · rw [if_pos h2] at hi ⊢
      exact fin 0 (by omega) (by omega)
    · rw [if_neg h2] at hi ⊢
      exact fin 3 (by omega) (by omega)
  · intro n M1 ⟨hf, hb1⟩
    rw [l_X9_triesWays_35_s]
    unfold b_X9_triesWays_35 j_X9_triesWays_47
    refine ⟨M1, ?_, hf, hb1⟩
    unfold wy_nc
    simp (disch := omega) only [wq_w_id]
    by_cases h2 : P 13 r ≤ 2
    · rw [if_pos h2, if_pos h2, if_pos (by decide)]
    · rw [if_neg h2, if_neg h2, if_pos (by decide)]
theorem wy_m_tw2 (hI : wy_iv P) (hM : wy_M wy_co M P) (hp : wy_pm o) (h27 : ∀ j, j < 3 → M 27 j = o j) (hr : r < 8) {a : Int} (ha : -1 ≤ a ∧ a ≤ 2) {B : Option (Int × wy_pl)} (hB : wy_bm M B) (kx : wq_St → Option (Int × wq_St)) :
    ∃ M', l_X9_triesWays_17 (r : Int) (P 13 r) a kx wq_fu (-1) M = kx M' ∧ wy_fm M M' ∧ wy_bm M' (wy_mn B (wy_g2 P r o a)) := by
  have b13 := wy_b13 hI r
  have hnc : wy_nc P r 1 ≤ 4 := by unfold wy_nc; split <;> omega
  have key := wy_up (fun n i (M1 : wq_St) => ∃ M', l_X9_triesWays_17 (r : Int) (P 13 r) a kx n ((i : Int) - 1) M1 = kx M' ∧ wy_fm M M' ∧ wy_bm M' (wy_mn B (wy_g2 P r o a))) (wy_nc P r 1) (fun i M1 => wy_fm M M1 ∧ wy_bm M1 (wy_mn B (wy_mf (fun i => wy_g1 P r o a ((i : Int) - 1)) i))) ?_ ?_ wq_fu 0 M (by omega) (wy_fu' (by omega)) ⟨fun _ _ _ _ => rfl, by simp only [wy_mf]; rw [wy_mn_0]; exact hB⟩
  · exact key
  · intro n i M1 hi ⟨hf, hb1⟩ ih
    have hM1 := wy_fm_M hM hf
    have h27' : ∀ j, j < 3 → M1 27 j = o j := fun j hj => by rw [hf _ _ (by omega) (by omega)]; exact h27 j hj
    have e : ((i : Int) - 1 + 1) = ((i + 1 : Nat) : Int) - 1 := by omega
    rw [l_X9_triesWays_17_s]
    unfold b_X9_triesWays_17
    simp (disch := omega) only [wq_w_id]
    have fin : ∀ z, (z = 0 ∨ z = 3) → (i : Int) - 1 < z → ∃ M', j_X9_triesWays_29 kx (l_X9_triesWays_17 (r : Int) (P 13 r) a kx n) (r : Int) (P 13 r) a ((i : Int) - 1) z ((i : Int) - 1) M1 = kx M' ∧ wy_fm M M' ∧ wy_bm M' (wy_mn B (wy_g2 P r o a)) := by
      intro z hz hcz
      unfold j_X9_triesWays_29
      simp (disch := omega) only [wq_w_id]
      rw [if_neg (by omega)]
      obtain ⟨M2, e1, e2, e3⟩ := wy_m_tw1 hI hM1 hp h27' hr ha (b := (i : Int) - 1) (by omega) hb1 (fun S18 => l_X9_triesWays_17 (r : Int) (P 13 r) a kx n ((i : Int) - 1 + 1) S18)
      rw [e1, e]
      refine ih M2 ⟨wy_fm_t hf e2, ?_⟩
      simp only [wy_mf]
      rw [← wy_mn_a]
      exact e3
    unfold wy_nc at hi
    by_cases h2 : P 13 r ≤ 1
    · rw [if_pos h2] at hi ⊢
      exact fin 0 (by omega) (by omega)
    · rw [if_neg h2] at hi ⊢
      exact fin 3 (by omega) (by omega)
  · intro n M1 ⟨hf, hb1⟩
    rw [l_X9_triesWays_17_s]
    unfold b_X9_triesWays_17 j_X9_triesWays_29
    refine ⟨M1, ?_, hf, hb1⟩
    unfold wy_nc
    simp (disch := omega) only [wq_w_id]
    by_cases h2 : P 13 r ≤ 1
    · rw [if_pos h2, if_pos h2, if_pos (by decide)]
    · rw [if_neg h2, if_neg h2, if_pos (by decide)]
theorem wy_m_tw3 (hI : wy_iv P) (hM : wy_M wy_co M P) (hp : wy_pm o) (h27 : ∀ j, j < 3 → M 27 j = o j) (hr : r < 8) {B : Option (Int × wy_pl)} (hB : wy_bm M B) :
    ∃ M', f_X9_triesWays (r : Int) M = some (0, M') ∧ wy_fm M M' ∧ wy_bm M' (wy_mn B (wy_g3 P r o)) := by
  have e13 : M 13 r = P 13 r := wy_m hM (by omega)
  unfold f_X9_triesWays
  simp (disch := omega) only [wy_ix, Int.toNat_natCast, e13]
  have key := wy_up (fun n i (M1 : wq_St) => ∃ M', l_X9_triesWays_9 (r : Int) (P 13 r) (fun S20 => some (0, S20)) n ((i : Int) - 1) M1 = some (0, M') ∧ wy_fm M M' ∧ wy_bm M' (wy_mn B (wy_g3 P r o))) 4 (fun i M1 => wy_fm M M1 ∧ wy_bm M1 (wy_mn B (wy_mf (fun i => wy_g2 P r o ((i : Int) - 1)) i))) ?_ ?_ wq_fu 0 M (by omega) (wy_fu' (by omega)) ⟨fun _ _ _ _ => rfl, by simp only [wy_mf]; rw [wy_mn_0]; exact hB⟩
  · exact key
  · intro n i M1 hi ⟨hf, hb1⟩ ih
    have hM1 := wy_fm_M hM hf
    have h27' : ∀ j, j < 3 → M1 27 j = o j := fun j hj => by rw [hf _ _ (by omega) (by omega)]; exact h27 j hj
    have e : ((i : Int) - 1 + 1) = ((i + 1 : Nat) : Int) - 1 := by omega
    rw [l_X9_triesWays_9_s]
    unfold b_X9_triesWays_9
    simp (disch := omega) only [wq_w_id]
    rw [if_neg (by omega)]
    obtain ⟨M2, e1, e2, e3⟩ := wy_m_tw2 hI hM1 hp h27' hr (a := (i : Int) - 1) (by omega) hb1 (fun S19 => l_X9_triesWays_9 (r : Int) (P 13 r) (fun S20 => some (0, S20)) n ((i : Int) - 1 + 1) S19)
    rw [e1, e]
    refine ih M2 ⟨wy_fm_t hf e2, ?_⟩
    simp only [wy_mf]
    rw [← wy_mn_a]
    exact e3
  · intro n M1 ⟨hf, hb1⟩
    rw [l_X9_triesWays_9_s]
    unfold b_X9_triesWays_9
    simp (disch := omega) only [wq_w_id]
    rw [if_pos (by decide)]
    exact ⟨M1, rfl, hf, hb1⟩
end
end
section
/-! both find the same plan: ways apart, step by step -/
section
variable {P : wq_St} {r : Nat} {o : Nat → Int}
theorem wy_mn_map {α β : Type} {g : Int → Int} {F : α → β} (hg : ∀ x y : Int, g x < g y ↔ x < y) (x y : Option (Int × α)) : wy_mn (x.map fun A => (g A.1, F A.2)) (y.map fun A => (g A.1, F A.2)) = (wy_mn x y).map fun A => (g A.1, F A.2) := by
  cases x with
  | none => rw [wy_mn_1]; simp only [Option.map_none]; rw [wy_mn_1]
  | some a =>
    cases y with
    | none => rw [wy_mn_0]; simp only [Option.map_none]; rw [wy_mn_0]
    | some b =>
      simp only [Option.map_some]
      rw [wy_mn_s, wy_mn_s]
      dsimp only
      by_cases h : b.1 < a.1
      · rw [if_pos h, if_pos ((hg _ _).mpr h)]; rfl
      · rw [if_neg h, if_neg (fun hh => h ((hg _ _).mp hh))]; rfl
theorem wy_mf_map {α β : Type} {g : Int → Int} {F : α → β} (hg : ∀ x y : Int, g x < g y ↔ x < y) (f : Nat → Option (Int × α)) : ∀ n, wy_mf (fun i => (f i).map fun A => (g A.1, F A.2)) n = (wy_mf f n).map fun A => (g A.1, F A.2)
  | 0 => rfl
  | n + 1 => by
    simp only [wy_mf]
    rw [wy_mf_map hg f n, wy_mn_map hg]
theorem wy_mf_non {α : Type} : ∀ n, wy_mf (fun _ => (none : Option (Int × α))) n = none
  | 0 => rfl
  | n + 1 => by
    simp only [wy_mf]
    rw [wy_mf_non n]
    rfl
theorem wy_wy_2 {s i : Nat} {ch : Int} {A : Int × Int} (h : wy_wy P r o s ch i = some A) : A.2 = (i : Int) - 1 := by
  cases i with
  | zero => cases h; rfl
  | succ i =>
    simp only [wy_wy] at h
    unfold wy_wi at h
    split at h
    · cases h
      dsimp only
      omega
    · cases h
theorem wy_idx (i : Nat) : ((i : Int) - 1 + 1).toNat = i := by omega
theorem wy_g3_3 (hI : wy_iv P) (hm : P 13 r = 3) : wy_g3 P r o = some ((wy_bw P r o 0 1000).1 + (wy_bw P r o 1 (wy_nt P r o 0 1000)).1 + (wy_bw P r o 2 (wy_nt P r o 1 (wy_nt P r o 0 1000))).1, (o, wy_w3 (wy_bw P r o 0 1000).2 (wy_bw P r o 1 (wy_nt P r o 0 1000)).2 (wy_bw P r o 2 (wy_nt P r o 1 (wy_nt P r o 0 1000))).2)) := by
  have h1 := (@wy_nt_b P r o 0 1000 hI (by decide)).1
  have h2 := (@wy_nt_b P r o 1 _ hI h1).1
  have e0 := (@wy_bw_b P r o 0 1000 hI (by decide)).1
  have e1 := (@wy_bw_b P r o 1 _ hI h1).1
  have e2 := (@wy_bw_b P r o 2 _ hI h2).1
  have hm3 : (P 13 r).toNat = 3 := by omega
  have n2 : wy_nc P r 2 = 4 := by unfold wy_nc; rw [if_neg (by omega)]
  have n1 : wy_nc P r 1 = 4 := by unfold wy_nc; rw [if_neg (by omega)]
  generalize hb0 : wy_bw P r o 0 1000 = b0 at *
  generalize hc1 : wy_nt P r o 0 1000 = c1 at *
  generalize hb1 : wy_bw P r o 1 c1 = b1 at *
  generalize hc2 : wy_nt P r o 1 c1 = c2 at *
  generalize hb2 : wy_bw P r o 2 c2 = b2 at *
  have hcd : ∀ i j k : Nat, wy_cd P r o ((i : Int) - 1) ((j : Int) - 1) ((k : Int) - 1) = (wy_wy P r o 0 1000 i).bind fun A => (wy_wy P r o 1 c1 j).bind fun B => (wy_wy P r o 2 c2 k).map fun C => (A.1 + B.1 + C.1, (o, wy_w3 A.2 B.2 C.2)) := by
    intro i j k
    unfold wy_cd
    rw [hm3]
    simp only [wy_ck, Nat.zero_add, Nat.reduceAdd, wy_w3_0, wy_w3_1, wy_w3_2, wy_idx, hc1, hc2]
    cases hA : wy_wy P r o 0 1000 i with
    | none => rfl
    | some A =>
      simp only [Option.bind_some]
      cases hB : wy_wy P r o 1 c1 j with
      | none => rfl
      | some B =>
        simp only [Option.bind_some]
        cases hC : wy_wy P r o 2 c2 k with
        | none => rfl
        | some C =>
          simp only [Option.map_some]
          rw [wy_wy_2 hA, wy_wy_2 hB, wy_wy_2 hC, Int.zero_add]
  have hg1 : ∀ i j : Nat, wy_g1 P r o ((i : Int) - 1) ((j : Int) - 1) = (wy_wy P r o 0 1000 i).bind fun A => (wy_wy P r o 1 c1 j).map fun B => (A.1 + B.1 + b2.1, (o, wy_w3 A.2 B.2 b2.2)) := by
    intro i j
    unfold wy_g1
    rw [n2, wy_mf_congr fun k _ => hcd i j k]
    cases hA : wy_wy P r o 0 1000 i with
    | none => exact wy_mf_non 4
    | some A =>
      simp only [Option.bind_some]
      cases hB : wy_wy P r o 1 c1 j with
      | none => exact wy_mf_non 4
      | some B =>
        simp only [Option.bind_some, Option.map_some]
        have h := wy_mf_map (g := fun x => A.1 + B.1 + x) (F := fun c => (o, wy_w3 A.2 B.2 c)) (fun x y => by omega) (wy_wy P r o 2 c2) 4
        rw [e2] at h
        exact h
  have hg2 : ∀ i : Nat, wy_g2 P r o ((i : Int) - 1) = (wy_wy P r o 0 1000 i).map fun A => (A.1 + b1.1 + b2.1, (o, wy_w3 A.2 b1.2 b2.2)) := by
    intro i
    unfold wy_g2
    rw [n1, wy_mf_congr fun j _ => hg1 i j]
    cases hA : wy_wy P r o 0 1000 i with
    | none => exact wy_mf_non 4
    | some A =>
      simp only [Option.bind_some, Option.map_some]
      have h := wy_mf_map (g := fun x => A.1 + x + b2.1) (F := fun c => (o, wy_w3 A.2 c b2.2)) (fun x y => by omega) (wy_wy P r o 1 c1) 4
      rw [e1] at h
      exact h
  unfold wy_g3
  rw [wy_mf_congr fun i _ => hg2 i]
  have h := wy_mf_map (g := fun x => x + b1.1 + b2.1) (F := fun c => (o, wy_w3 c b1.2 b2.2)) (fun x y => by omega) (wy_wy P r o 0 1000) 4
  rw [e0] at h
  exact h
theorem wy_g3_2 (hI : wy_iv P) (hm : P 13 r = 2) : wy_g3 P r o = some ((wy_bw P r o 0 1000).1 + (wy_bw P r o 1 (wy_nt P r o 0 1000)).1, (o, wy_w3 (wy_bw P r o 0 1000).2 (wy_bw P r o 1 (wy_nt P r o 0 1000)).2 (-1))) := by
  have h1 := (@wy_nt_b P r o 0 1000 hI (by decide)).1
  have e0 := (@wy_bw_b P r o 0 1000 hI (by decide)).1
  have e1 := (@wy_bw_b P r o 1 _ hI h1).1
  have hm3 : (P 13 r).toNat = 2 := by omega
  have n2 : wy_nc P r 2 = 1 := by unfold wy_nc; rw [if_pos (by omega)]
  have n1 : wy_nc P r 1 = 4 := by unfold wy_nc; rw [if_neg (by omega)]
  generalize hb0 : wy_bw P r o 0 1000 = b0 at *
  generalize hc1 : wy_nt P r o 0 1000 = c1 at *
  generalize hb1 : wy_bw P r o 1 c1 = b1 at *
  have hg1 : ∀ i j : Nat, wy_g1 P r o ((i : Int) - 1) ((j : Int) - 1) = (wy_wy P r o 0 1000 i).bind fun A => (wy_wy P r o 1 c1 j).map fun B => (A.1 + B.1, (o, wy_w3 A.2 B.2 (-1))) := by
    intro i j
    unfold wy_g1
    rw [n2]
    simp only [wy_mf]
    rw [wy_mn_1]
    unfold wy_cd
    rw [hm3]
    simp only [wy_ck, Nat.zero_add, Nat.reduceAdd, wy_w3_0, wy_w3_1, wy_idx, hc1]
    cases hA : wy_wy P r o 0 1000 i with
    | none => rfl
    | some A =>
      simp only [Option.bind_some]
      cases hB : wy_wy P r o 1 c1 j with
      | none => rfl
      | some B =>
        simp only [Option.map_some]
        rw [wy_wy_2 hA, wy_wy_2 hB, Int.zero_add]
        rfl
  have hg2 : ∀ i : Nat, wy_g2 P r o ((i : Int) - 1) = (wy_wy P r o 0 1000 i).map fun A => (A.1 + b1.1, (o, wy_w3 A.2 b1.2 (-1))) := by
    intro i
    unfold wy_g2
    rw [n1, wy_mf_congr fun j _ => hg1 i j]
    cases hA : wy_wy P r o 0 1000 i with
    | none => exact wy_mf_non 4
    | some A =>
      simp only [Option.bind_some, Option.map_some]
      have h := wy_mf_map (g := fun x => A.1 + x) (F := fun c => (o, wy_w3 A.2 c (-1))) (fun x y => by omega) (wy_wy P r o 1 c1) 4
      rw [e1] at h
      exact h
  unfold wy_g3
  rw [wy_mf_congr fun i _ => hg2 i]
  have h := wy_mf_map (g := fun x => x + b1.1) (F := fun c => (o, wy_w3 c b1.2 (-1))) (fun x y => by omega) (wy_wy P r o 0 1000) 4
  rw [e0] at h
  exact h
theorem wy_g3_1 (hI : wy_iv P) (hm : P 13 r = 1) : wy_g3 P r o = some ((wy_bw P r o 0 1000).1, (o, wy_w3 (wy_bw P r o 0 1000).2 (-1) (-1))) := by
  have e0 := (@wy_bw_b P r o 0 1000 hI (by decide)).1
  have hm3 : (P 13 r).toNat = 1 := by omega
  have n2 : wy_nc P r 2 = 1 := by unfold wy_nc; rw [if_pos (by omega)]
  have n1 : wy_nc P r 1 = 1 := by unfold wy_nc; rw [if_pos (by omega)]
  generalize hb0 : wy_bw P r o 0 1000 = b0 at *
  have hg2 : ∀ i : Nat, wy_g2 P r o ((i : Int) - 1) = (wy_wy P r o 0 1000 i).map fun A => (A.1, (o, wy_w3 A.2 (-1) (-1))) := by
    intro i
    unfold wy_g2
    rw [n1]
    simp only [wy_mf]
    rw [wy_mn_1]
    unfold wy_g1
    rw [n2]
    simp only [wy_mf]
    rw [wy_mn_1]
    unfold wy_cd
    rw [hm3]
    simp only [wy_ck, Nat.zero_add, Nat.reduceAdd, wy_w3_0, wy_idx]
    cases hA : wy_wy P r o 0 1000 i with
    | none => rfl
    | some A =>
      simp only [Option.map_some]
      rw [wy_wy_2 hA, Int.zero_add]
      rfl
  unfold wy_g3
  rw [wy_mf_congr fun i _ => hg2 i]
  have h := wy_mf_map (g := fun x => x) (F := fun c => (o, wy_w3 c (-1) (-1))) (fun x y => Iff.rfl) (wy_wy P r o 0 1000) 4
  rw [e0] at h
  exact h
end
end
section
/-! the plan of a report -/
def wy_pn (P : wq_St) (r : Nat) : Option (Int × wy_pl) := wy_T P r (P 13 r).toNat 0 (fun j => (j : Int)) (fun _ => -1) 1000 0
def wy_on (a b c : Nat) : Nat → Int := wy_o3 (a : Int) (b : Int) (c : Int)
def wy_o1 (a : Nat) : Nat → Int := wy_ud (fun j => (j : Int)) 0 (a : Int)
def wy_o2 (a b : Nat) : Nat → Int := wy_ud (wy_o1 a) 1 (b : Int)
section
variable {P : wq_St} {r : Nat} {o : Nat → Int}
theorem wy_wy_congr {o o' : Nat → Int} {s : Nat} {ch : Int} (hs : s < 3) (h : ∀ j, j ≤ s → o j = o' j) : wy_wy P r o' s ch = wy_wy P r o s ch := by
  funext i
  have e := h s (Nat.le_refl s)
  cases i with
  | zero => simp only [wy_wy]; rw [e]
  | succ i =>
    simp only [wy_wy]
    unfold wy_wi
    rw [wy_uo_congr hs h, e]
theorem wy_bw_congr {o o' : Nat → Int} {s : Nat} {ch : Int} (hs : s < 3) (h : ∀ j, j ≤ s → o j = o' j) : wy_bw P r o' s ch = wy_bw P r o s ch := by
  unfold wy_bw
  rw [wy_wy_congr hs h]
theorem wy_nt_congr {o o' : Nat → Int} {s : Nat} {ch : Int} (hs : s < 3) (h : ∀ j, j ≤ s → o j = o' j) : wy_nt P r o' s ch = wy_nt P r o s ch := by
  unfold wy_nt
  rw [wy_bh_congr hs h, h s (Nat.le_refl s)]
theorem wy_o1_on (a b c j : Nat) (h : j ≤ 0) : wy_o1 a j = wy_on a b c j := by
  have : j = 0 := by omega
  subst this
  rfl
theorem wy_o2_on (a b c j : Nat) (h : j ≤ 1) : wy_o2 a b j = wy_on a b c j := by
  have : j = 0 ∨ j = 1 := by omega
  rcases this with rfl | rfl <;> rfl
theorem wy_T_s (d s : Nat) (o w : Nat → Int) (ch sp : Int) : wy_T P r (d + 1) s o w ch sp = wy_mf (fun x => if wy_ps o (x : Int) < (s : Int) then none else wy_T P r d (s + 1) (wy_ud o s (x : Int)) (wy_ud w s (wy_bw P r (wy_ud o s (x : Int)) s ch).2) (wy_nt P r (wy_ud o s (x : Int)) s ch) (sp + (wy_bw P r (wy_ud o s (x : Int)) s ch).1)) (P 13 r).toNat := rfl
/-- which sources are left -/
def wy_F0 (n : Nat) (L : (Nat → Option (Int × wy_pl)) → Option (Int × wy_pl)) : Prop := ∀ F : Nat → Option (Int × wy_pl), wy_mf (fun x => if wy_ps (fun j => (j : Int)) (x : Int) < ((0 : Nat) : Int) then none else F x) n = L F
def wy_F1 (a n : Nat) (L : (Nat → Option (Int × wy_pl)) → Option (Int × wy_pl)) : Prop := ∀ F : Nat → Option (Int × wy_pl), wy_mf (fun x => if wy_ps (wy_o1 a) (x : Int) < ((1 : Nat) : Int) then none else F x) n = L F
def wy_F2 (a b n : Nat) (L : (Nat → Option (Int × wy_pl)) → Option (Int × wy_pl)) : Prop := ∀ F : Nat → Option (Int × wy_pl), wy_mf (fun x => if wy_ps (wy_o2 a b) (x : Int) < ((2 : Nat) : Int) then none else F x) n = L F
theorem wy_F0_1 : wy_F0 1 fun F => F 0 := fun F => by simp [wy_mf, wy_ps, wy_mn_1]
theorem wy_F0_2 : wy_F0 2 fun F => wy_mn (F 0) (F 1) := fun F => by simp [wy_mf, wy_ps, wy_mn_1]
theorem wy_F0_3 : wy_F0 3 fun F => wy_mn (wy_mn (F 0) (F 1)) (F 2) := fun F => by simp [wy_mf, wy_ps, wy_mn_1]
theorem wy_F1_20 : wy_F1 0 2 fun F => F 1 := fun F => by simp [wy_mf, wy_ps, wy_o1, wy_ud, wy_mn_0, wy_mn_1]
theorem wy_F1_21 : wy_F1 1 2 fun F => F 0 := fun F => by simp [wy_mf, wy_ps, wy_o1, wy_ud, wy_mn_0, wy_mn_1]
theorem wy_F1_30 : wy_F1 0 3 fun F => wy_mn (F 1) (F 2) := fun F => by simp [wy_mf, wy_ps, wy_o1, wy_ud, wy_mn_0, wy_mn_1]
theorem wy_F1_31 : wy_F1 1 3 fun F => wy_mn (F 0) (F 2) := fun F => by simp [wy_mf, wy_ps, wy_o1, wy_ud, wy_mn_0, wy_mn_1]
theorem wy_F1_32 : wy_F1 2 3 fun F => wy_mn (F 0) (F 1) := fun F => by simp [wy_mf, wy_ps, wy_o1, wy_ud, wy_mn_0, wy_mn_1]
theorem wy_F2_01 : wy_F2 0 1 3 fun F => F 2 := fun F => by simp [wy_mf, wy_ps, wy_o2, wy_o1, wy_ud, wy_mn_0, wy_mn_1]
theorem wy_F2_02 : wy_F2 0 2 3 fun F => F 1 := fun F => by simp [wy_mf, wy_ps, wy_o2, wy_o1, wy_ud, wy_mn_0, wy_mn_1]
theorem wy_F2_10 : wy_F2 1 0 3 fun F => F 2 := fun F => by simp [wy_mf, wy_ps, wy_o2, wy_o1, wy_ud, wy_mn_0, wy_mn_1]
theorem wy_F2_12 : wy_F2 1 2 3 fun F => F 0 := fun F => by simp [wy_mf, wy_ps, wy_o2, wy_o1, wy_ud, wy_mn_0, wy_mn_1]
theorem wy_F2_20 : wy_F2 2 0 3 fun F => F 1 := fun F => by simp [wy_mf, wy_ps, wy_o2, wy_o1, wy_ud, wy_mn_0, wy_mn_1]
theorem wy_F2_21 : wy_F2 2 1 3 fun F => F 0 := fun F => by simp [wy_mf, wy_ps, wy_o2, wy_o1, wy_ud, wy_mn_0, wy_mn_1]
theorem wy_L3 (hI : wy_iv P) (hm : P 13 r = 3) {a b c : Nat} (hf : wy_F2 a b 3 fun F => F c) :
    wy_T P r 1 2 (wy_o2 a b) (wy_ud (wy_ud (fun _ => -1) 0 (wy_bw P r (wy_o1 a) 0 1000).2) 1 (wy_bw P r (wy_o2 a b) 1 (wy_nt P r (wy_o1 a) 0 1000)).2) (wy_nt P r (wy_o2 a b) 1 (wy_nt P r (wy_o1 a) 0 1000)) (0 + (wy_bw P r (wy_o1 a) 0 1000).1 + (wy_bw P r (wy_o2 a b) 1 (wy_nt P r (wy_o1 a) 0 1000)).1) = wy_g3 P r (wy_on a b c) := by
  have hm3 : (P 13 r).toNat = 3 := by omega
  rw [wy_T_s, hm3, hf, wy_g3_3 hI hm]
  rw [wy_bw_congr (o := wy_o1 a) (o' := wy_on a b c) (by omega) (wy_o1_on a b c), wy_nt_congr (o := wy_o1 a) (o' := wy_on a b c) (by omega) (wy_o1_on a b c), wy_bw_congr (o := wy_o2 a b) (o' := wy_on a b c) (by omega) (wy_o2_on a b c), wy_nt_congr (o := wy_o2 a b) (o' := wy_on a b c) (by omega) (wy_o2_on a b c), Int.zero_add]
  rfl
theorem wy_pn3 (hI : wy_iv P) (hm : P 13 r = 3) : wy_pn P r = wy_mn (wy_mn (wy_mn (wy_g3 P r (wy_on 0 1 2)) (wy_g3 P r (wy_on 0 2 1))) (wy_mn (wy_g3 P r (wy_on 1 0 2)) (wy_g3 P r (wy_on 1 2 0)))) (wy_mn (wy_g3 P r (wy_on 2 0 1)) (wy_g3 P r (wy_on 2 1 0))) := by
  have hm3 : (P 13 r).toNat = 3 := by omega
  have L2 : ∀ a b b' : Nat, wy_F1 a 3 (fun F => wy_mn (F b) (F b')) → ∀ w ch sp, wy_T P r 2 1 (wy_o1 a) w ch sp = wy_mn (wy_T P r 1 2 (wy_o2 a b) (wy_ud w 1 (wy_bw P r (wy_o2 a b) 1 ch).2) (wy_nt P r (wy_o2 a b) 1 ch) (sp + (wy_bw P r (wy_o2 a b) 1 ch).1)) (wy_T P r 1 2 (wy_o2 a b') (wy_ud w 1 (wy_bw P r (wy_o2 a b') 1 ch).2) (wy_nt P r (wy_o2 a b') 1 ch) (sp + (wy_bw P r (wy_o2 a b') 1 ch).1)) := by
    intro a b b' hf w ch sp
    rw [wy_T_s, hm3, hf]
    rfl
  unfold wy_pn
  rw [hm3, wy_T_s, hm3, wy_F0_3]
  simp only [Nat.zero_add]
  rw [show wy_ud (fun j => (j : Int)) 0 ((0 : Nat) : Int) = wy_o1 0 from rfl, show wy_ud (fun j => (j : Int)) 0 ((1 : Nat) : Int) = wy_o1 1 from rfl, show wy_ud (fun j => (j : Int)) 0 ((2 : Nat) : Int) = wy_o1 2 from rfl]
  rw [L2 0 1 2 wy_F1_30, L2 1 0 2 wy_F1_31, L2 2 0 1 wy_F1_32]
  rw [wy_L3 hI hm wy_F2_01, wy_L3 hI hm wy_F2_02, wy_L3 hI hm wy_F2_10, wy_L3 hI hm wy_F2_12, wy_L3 hI hm wy_F2_20, wy_L3 hI hm wy_F2_21]
theorem wy_o2_2 (a b : Nat) : wy_o2 a b = wy_on a b 2 := by
  funext j
  unfold wy_o2 wy_o1 wy_on wy_o3
  unfold wy_ud
  by_cases h : j = 2
  · subst h; rfl
  · rw [if_neg h]
theorem wy_o1_2 (a : Nat) : wy_o1 a = wy_on a 1 2 := by
  rw [← wy_o2_2]
  funext j
  unfold wy_o2 wy_o1
  unfold wy_ud
  by_cases h : j = 1
  · subst h; rfl
  · rw [if_neg h]
theorem wy_w2_2 (a b : Int) : wy_ud (wy_ud (fun _ => -1) 0 a) 1 b = wy_w3 a b (-1) := by
  funext j
  unfold wy_w3
  by_cases h : j = 2
  · subst h; rfl
  · exact (if_neg h).symm
theorem wy_w1_2 (a : Int) : wy_ud (fun _ => -1) 0 a = wy_w3 a (-1) (-1) := by
  rw [← wy_w2_2]
  funext j
  by_cases h : j = 1
  · subst h; rfl
  · exact (if_neg h).symm
theorem wy_pn2 (hI : wy_iv P) (hm : P 13 r = 2) : wy_pn P r = wy_mn (wy_g3 P r (wy_on 0 1 2)) (wy_g3 P r (wy_on 1 0 2)) := by
  have hm3 : (P 13 r).toNat = 2 := by omega
  have L2 : ∀ a b : Nat, wy_F1 a 2 (fun F => F b) → wy_T P r 1 1 (wy_o1 a) (wy_ud (fun _ => -1) 0 (wy_bw P r (wy_o1 a) 0 1000).2) (wy_nt P r (wy_o1 a) 0 1000) (0 + (wy_bw P r (wy_o1 a) 0 1000).1) = wy_g3 P r (wy_on a b 2) := by
    intro a b hf
    rw [wy_T_s, hm3, hf, wy_g3_2 hI hm]
    rw [wy_bw_congr (o := wy_o1 a) (o' := wy_on a b 2) (by omega) (wy_o1_on a b 2), wy_nt_congr (o := wy_o1 a) (o' := wy_on a b 2) (by omega) (wy_o1_on a b 2), Int.zero_add]
    rw [← wy_w2_2, ← wy_o2_2]
    rfl
  unfold wy_pn
  rw [hm3, wy_T_s, hm3, wy_F0_2]
  simp only [Nat.zero_add]
  rw [show wy_ud (fun j => (j : Int)) 0 ((0 : Nat) : Int) = wy_o1 0 from rfl, show wy_ud (fun j => (j : Int)) 0 ((1 : Nat) : Int) = wy_o1 1 from rfl]
  rw [L2 0 1 wy_F1_20, L2 1 0 wy_F1_21]
theorem wy_pn1 (hI : wy_iv P) (hm : P 13 r = 1) : wy_pn P r = wy_g3 P r (wy_on 0 1 2) := by
  have hm3 : (P 13 r).toNat = 1 := by omega
  unfold wy_pn
  rw [hm3, wy_T_s, hm3, wy_F0_1, wy_g3_1 hI hm]
  simp only [Nat.zero_add]
  rw [show wy_ud (fun j => (j : Int)) 0 ((0 : Nat) : Int) = wy_o1 0 from rfl, wy_o1_2, wy_w1_2, Int.zero_add]
  rfl
theorem wy_pn0 (hm : P 13 r = 0) : wy_pn P r = some ((0 : Int), ((fun j : Nat => (j : Int)), fun _ : Nat => (-1 : Int))) := by
  have hm3 : (P 13 r).toNat = 0 := by omega
  unfold wy_pn
  rw [hm3]
  rfl
/-! all codes of orders -/
def wy_vd (m : Int) (x y z : Nat) : Prop := (x ≠ y ∧ x ≠ z ∧ y ≠ z) ∧ (m = 3 ∨ (z = 2 ∧ (m = 2 ∨ y = 1)))
def wy_vdb (m : Int) (i : Nat) : Bool := decide ((i / 9 ≠ i / 3 % 3 ∧ i / 9 ≠ i % 3 ∧ i / 3 % 3 ≠ i % 3) ∧ (m = 3 ∨ (i % 3 = 2 ∧ (m = 2 ∨ i / 3 % 3 = 1))))
def wy_gc (P : wq_St) (r : Nat) (i : Nat) : Option (Int × wy_pl) := if wy_vdb (P 13 r) i = true then wy_g3 P r (wy_on (i / 9) (i / 3 % 3) (i % 3)) else none
theorem wy_gc_0 {i : Nat} (h : wy_vdb (P 13 r) i = false) : wy_gc P r i = none := by
  unfold wy_gc
  rw [if_neg (by rw [h]; decide)]
theorem wy_gc_1 {i : Nat} (h : wy_vdb (P 13 r) i = true) : wy_gc P r i = wy_g3 P r (wy_on (i / 9) (i / 3 % 3) (i % 3)) := by
  unfold wy_gc
  rw [if_pos h]
theorem wy_gc_all (hI : wy_iv P) (h1 : 1 ≤ P 13 r) : wy_mf (wy_gc P r) 27 = wy_pn P r := by
  have b13 := wy_b13 hI r
  have h : P 13 r = 1 ∨ P 13 r = 2 ∨ P 13 r = 3 := by omega
  rcases h with h | h | h
  · have q0 : ∀ i, i < 27 → i ≠ 5 → wy_gc P r i = none := fun i hi h5 => wy_gc_0 (by
      rw [h]
      have : ∀ i, i < 27 → i ≠ 5 → wy_vdb 1 i = false := by decide
      exact this i hi h5)
    have q5 : wy_gc P r 5 = wy_g3 P r (wy_on 0 1 2) := wy_gc_1 (by rw [h]; decide)
    rw [wy_pn1 hI h, wy_mf_none (a := 6) (by omega) (fun i h1 h2 => q0 i (by omega) (by omega))]
    simp only [wy_mf]
    rw [q0 0 (by omega) (by omega), q0 1 (by omega) (by omega), q0 2 (by omega) (by omega), q0 3 (by omega) (by omega), q0 4 (by omega) (by omega), q5]
    simp only [wy_mn_0, wy_mn_1]
  · have q0 : ∀ i, i < 27 → i ≠ 5 → i ≠ 11 → wy_gc P r i = none := fun i hi h5 h11 => wy_gc_0 (by
      rw [h]
      have : ∀ i, i < 27 → i ≠ 5 → i ≠ 11 → wy_vdb 2 i = false := by decide
      exact this i hi h5 h11)
    have q5 : wy_gc P r 5 = wy_g3 P r (wy_on 0 1 2) := wy_gc_1 (by rw [h]; decide)
    have q11 : wy_gc P r 11 = wy_g3 P r (wy_on 1 0 2) := wy_gc_1 (by rw [h]; decide)
    rw [wy_pn2 hI h, wy_mf_none (a := 12) (by omega) (fun i h1 h2 => q0 i (by omega) (by omega) (by omega))]
    rw [wy_mf, wy_mf_none (a := 6) (b := 11) (by omega) (fun i h1 h2 => q0 i (by omega) (by omega) (by omega)), wy_mf, wy_mf_none (a := 0) (b := 5) (by omega) (fun i h1 h2 => q0 i (by omega) (by omega) (by omega)), q5, q11]
    simp only [wy_mf, wy_mn_0, wy_mn_1]
  · have q0 : ∀ i, i < 27 → i ≠ 5 ∧ i ≠ 7 ∧ i ≠ 11 ∧ i ≠ 15 ∧ i ≠ 19 ∧ i ≠ 21 → wy_gc P r i = none := fun i hi h5 => wy_gc_0 (by
      rw [h]
      have : ∀ i, i < 27 → i ≠ 5 ∧ i ≠ 7 ∧ i ≠ 11 ∧ i ≠ 15 ∧ i ≠ 19 ∧ i ≠ 21 → wy_vdb 3 i = false := by decide
      exact this i hi h5)
    have q5 : wy_gc P r 5 = wy_g3 P r (wy_on 0 1 2) := wy_gc_1 (by rw [h]; decide)
    have q7 : wy_gc P r 7 = wy_g3 P r (wy_on 0 2 1) := wy_gc_1 (by rw [h]; decide)
    have q11 : wy_gc P r 11 = wy_g3 P r (wy_on 1 0 2) := wy_gc_1 (by rw [h]; decide)
    have q15 : wy_gc P r 15 = wy_g3 P r (wy_on 1 2 0) := wy_gc_1 (by rw [h]; decide)
    have q19 : wy_gc P r 19 = wy_g3 P r (wy_on 2 0 1) := wy_gc_1 (by rw [h]; decide)
    have q21 : wy_gc P r 21 = wy_g3 P r (wy_on 2 1 0) := wy_gc_1 (by rw [h]; decide)
    rw [wy_pn3 hI h, wy_mf_none (a := 22) (by omega) (fun i h1 h2 => q0 i (by omega) (by omega))]
    rw [wy_mf, wy_mf_none (a := 20) (b := 21) (by omega) (fun i h1 h2 => q0 i (by omega) (by omega)), wy_mf, wy_mf_none (a := 16) (b := 19) (by omega) (fun i h1 h2 => q0 i (by omega) (by omega)), wy_mf, wy_mf_none (a := 12) (b := 15) (by omega) (fun i h1 h2 => q0 i (by omega) (by omega)), wy_mf, wy_mf_none (a := 8) (b := 11) (by omega) (fun i h1 h2 => q0 i (by omega) (by omega)), wy_mf, wy_mf_none (a := 6) (b := 7) (by omega) (fun i h1 h2 => q0 i (by omega) (by omega)), wy_mf, wy_mf_none (a := 0) (b := 5) (by omega) (fun i h1 h2 => q0 i (by omega) (by omega)), q5, q7, q11, q15, q19, q21]
    simp only [wy_mf, wy_mn_1, wy_mn_a]
end
end
section
/-! plans, on both sides -/
def wy_fo (M M' : wq_St) : Prop := ∀ f j, ¬(27 ≤ f ∧ f ≤ 30) → ¬(f = 0 ∧ j = 37) → M' f j = M f j
section
variable {P S M : wq_St} {r : Nat} {o : Nat → Int}
theorem wy_fo_M {C : Nat → Prop} {M' : wq_St} (h : wy_M C M P) (hf : wy_fo M M') : wy_M C M' P := fun f i h1 h2 h3 h4 => by
  rw [hf f i (by omega) (fun e => by have := h3 e.1; omega)]
  exact h f i h1 h2 h3 h4
theorem wy_fo_fm {M' : wq_St} (h : wy_fm M M') : wy_fo M M' := fun f j a b => h f j (by omega) b
theorem wy_fo_t {M' M'' : wq_St} (h1 : wy_fo M M') (h2 : wy_fo M' M'') : wy_fo M M'' := fun f j a b => by rw [h2 f j a b, h1 f j a b]
theorem wy_pm_on {x y z : Nat} (hx : x < 3) (hy : y < 3) (hz : z < 3) (h1 : x ≠ y) (h2 : x ≠ z) (h3 : y ≠ z) : wy_pm (wy_on x y z) := by
  refine ⟨fun j hj => ?_, fun v h0 h2' => ?_⟩
  · have : j = 0 ∨ j = 1 ∨ j = 2 := by omega
    rcases this with rfl | rfl | rfl
    · show 0 ≤ (x : Int) ∧ (x : Int) ≤ 2
      omega
    · show 0 ≤ (y : Int) ∧ (y : Int) ≤ 2
      omega
    · show 0 ≤ (z : Int) ∧ (z : Int) ≤ 2
      omega
  · show (if (x : Int) = v then (0 : Int) else if (y : Int) = v then 1 else if (z : Int) = v then 2 else 3) < 3
    repeat' split
    all_goals omega
theorem wy_div9 {i : Nat} (h : i < 27) : wq_div (i : Int) 9 = ((i / 9 : Nat) : Int) := by
  unfold wq_div
  rw [wq_w_id (by omega) (by omega), wq_w_id (by omega) (by omega), Int.tdiv_eq_ediv_of_nonneg (by omega)]
  omega
theorem wy_div3 {i : Nat} (h : i < 27) : wq_div (i : Int) 3 = ((i / 3 : Nat) : Int) := by
  unfold wq_div
  rw [wq_w_id (by omega) (by omega), wq_w_id (by omega) (by omega), Int.tdiv_eq_ediv_of_nonneg (by omega)]
  omega
theorem wy_rem3 {i : Nat} (h : i < 27) : wq_rem (i : Int) 3 = ((i % 3 : Nat) : Int) := by
  unfold wq_rem
  rw [wy_div3 h]
  omega
theorem wy_plans_skip (kx : wq_St → Option (Int × wq_St)) (rec : Int → wq_St → Option (Int × wq_St)) (j1 j2 j3 : Int) (S : wq_St) : j_X9_plans_114 kx rec j1 j2 j3 0 S = rec (j3 + 1) S := by
  unfold j_X9_plans_114
  rw [wy_ix2, wy_ix1, wq_w_0]
  repeat' split
  all_goals first | rfl | contradiction
theorem wy_plans_try (kx : wq_St → Option (Int × wq_St)) (rec : Int → wq_St → Option (Int × wq_St)) (j1 j2 j3 : Int) (S : wq_St) (h2 : 1 ≤ j2 ∧ j2 ≤ 3) {y z : Nat} (hy : y < 3) (hz : z < 3) (e1 : S 27 1 = (y : Int)) (e2 : S 27 2 = (z : Int)) :
    j_X9_plans_114 kx rec j1 j2 j3 1 S = if j2 = 3 ∨ (z = 2 ∧ (j2 = 2 ∨ y = 1)) then (wq_bd (f_X9_triesWays j1 S) fun r11 S12 => rec (j3 + 1) S12) else rec (j3 + 1) S := by
  have w1 : wq_w 1 = 1 := rfl
  have w0 : wq_w 0 = 0 := rfl
  unfold j_X9_plans_114
  rw [wy_ix2, wy_ix1, w1, w0, wq_w_id (x := j2) (by omega) (by omega), e1, e2, wq_w_id (x := (y : Int)) (by omega) (by omega), wq_w_id (x := (z : Int)) (by omega) (by omega), wq_w_id (x := 3) (by omega) (by omega), wq_w_id (x := 2) (by omega) (by omega)]
  by_cases h3 : j2 = 3
  · rw [if_pos h3, if_neg (by omega), if_neg (by omega), if_pos (Or.inl h3)]
  · rw [if_neg h3]
    by_cases hz2 : (z : Int) = 2
    · rw [if_pos hz2]
      by_cases h2' : j2 = 2
      · rw [if_pos h2', if_neg (by omega), if_neg (by omega), if_pos (Or.inr ⟨by omega, Or.inl h2'⟩)]
      · rw [if_neg h2']
        by_cases hy1 : (y : Int) = 1
        · rw [if_pos hy1, if_neg (by omega), if_neg (by omega), if_pos (Or.inr ⟨by omega, Or.inr (by omega)⟩)]
        · rw [if_neg hy1, if_neg (by omega), if_pos rfl, if_neg (by omega)]
    · rw [if_neg hz2, if_neg (by omega), if_pos rfl, if_neg (by omega)]
theorem wy_m_copyo (M : wq_St) (kx : wq_St → Option (Int × wq_St)) : ∃ M', l_X9_plans_176 kx wq_fu 0 M = kx M' ∧ (∀ j, j < 3 → M' 27 j = M 29 j ∧ M' 28 j = M 30 j) ∧ (∀ f j, ¬(27 ≤ f ∧ f ≤ 28) → M' f j = M f j) := by
  have key := wy_up (fun n i (M1 : wq_St) => ∃ M', l_X9_plans_176 kx n (i : Int) M1 = kx M' ∧ (∀ j, j < 3 → M' 27 j = M 29 j ∧ M' 28 j = M 30 j) ∧ (∀ f j, ¬(27 ≤ f ∧ f ≤ 28) → M' f j = M f j)) 3 (fun i M1 => (∀ j, j < i → M1 27 j = M 29 j ∧ M1 28 j = M 30 j) ∧ (∀ f j, ¬(27 ≤ f ∧ f ≤ 28) → M1 f j = M f j)) ?_ ?_ wq_fu 0 M (by omega) (wy_fu' (by omega)) ⟨fun j hj => by omega, fun _ _ _ => rfl⟩
  · exact key
  · intro n i M1 hi ⟨hc, hf⟩ ih
    rw [l_X9_plans_176_s]
    unfold b_X9_plans_176
    simp (disch := omega) only [wy_ix, Int.toNat_natCast, wq_w_id, wq_lt, wy_set_ne]
    rw [if_neg (by omega)]
    have e : ((i : Int) + 1) = ((i + 1 : Nat) : Int) := by omega
    rw [e]
    refine ih _ ⟨?_, ?_⟩
    · intro j hj
      by_cases ej : j = i
      · subst ej
        simp (disch := omega) only [wy_set_ne, wy_set_at, hf]
        exact ⟨trivial, trivial⟩
      · have h := hc j (by omega)
        simp (disch := omega) only [wy_set_ne]
        exact h
    · intro k j hk
      simp (disch := omega) only [wy_set_ne]
      exact hf k j hk
  · intro n M1 ⟨hc, hf⟩
    rw [l_X9_plans_176_s]
    unfold b_X9_plans_176
    simp (disch := omega) only [wq_w_id]
    rw [if_pos (by omega)]
    exact ⟨M1, rfl, hc, hf⟩
theorem wy_m_codes (hI : wy_iv P) (hM : wy_M wy_co M P) (hr : r < 8) (h1 : 1 ≤ P 13 r) (hB : wy_bm M none) (kx : wq_St → Option (Int × wq_St)) : ∃ M', l_X9_plans_24 (r : Int) (P 13 r) kx wq_fu 0 M = kx M' ∧ wy_fo M M' ∧ wy_bm M' (wy_pn P r) := by
  have b13 := wy_b13 hI r
  have key := wy_up (fun n i (M1 : wq_St) => ∃ M', l_X9_plans_24 (r : Int) (P 13 r) kx n (i : Int) M1 = kx M' ∧ wy_fo M M' ∧ wy_bm M' (wy_pn P r)) 27 (fun i M1 => wy_fo M M1 ∧ wy_bm M1 (wy_mf (wy_gc P r) i)) ?_ ?_ wq_fu 0 M (by omega) (wy_fu' (by omega)) ⟨fun _ _ _ _ => rfl, hB⟩
  · exact key
  · intro n i M1 hi ⟨hf, hb1⟩ ih
    have w9 : wq_w 9 = 9 := rfl
    have w3 : wq_w 3 = 3 := rfl
    have w27 : wq_w 27 = 27 := rfl
    have e : ((i : Int) + 1) = ((i + 1 : Nat) : Int) := by omega
    rw [l_X9_plans_24_s]
    unfold b_X9_plans_24
    rw [w9, w3, w27, wq_w_id (x := (i : Int)) (by omega) (by omega), wq_w_id (x := P 13 r) (by omega) (by omega), if_neg (by omega), if_neg (by omega), wq_gd_t (by omega), wy_ix0, wy_lt, wq_gd_t (by omega), wq_gd_t (by omega), wy_ix1, wy_lt, wq_gd_t (by omega), wy_ix2, wy_lt, wy_ix0, wy_ix1]
    rw [wy_div9 hi, wy_div3 hi, wy_rem3 (i := i / 3) (by omega), wy_rem3 hi]
    have hx : i / 9 < 3 := by omega
    have hy : i / 3 % 3 < 3 := by omega
    have hz : i % 3 < 3 := by omega
    have hvd : wy_vdb (P 13 r) i = true ↔ ((i / 9 ≠ i / 3 % 3 ∧ i / 9 ≠ i % 3 ∧ i / 3 % 3 ≠ i % 3) ∧ (P 13 r = 3 ∨ (i % 3 = 2 ∧ (P 13 r = 2 ∨ i / 3 % 3 = 1)))) := by
      unfold wy_vdb
      exact decide_eq_true_iff
    have hgc : wy_mf (wy_gc P r) (i + 1) = wy_mn (wy_mf (wy_gc P r) i) (wy_gc P r i) := rfl
    have hg1 : wy_vdb (P 13 r) i = true → wy_gc P r i = wy_g3 P r (wy_on (i / 9) (i / 3 % 3) (i % 3)) := wy_gc_1
    have hg0 : ¬(wy_vdb (P 13 r) i = true) → wy_gc P r i = none := fun h => wy_gc_0 (by simpa using h)
    generalize i / 9 = x at *
    generalize i / 3 % 3 = y at *
    generalize i % 3 = z at *
    have q0 : wq_set (wq_set (wq_set M1 27 0 (x : Int)) 27 1 (y : Int)) 27 2 (z : Int) 27 0 = (x : Int) := by rw [wy_set_ne (by omega), wy_set_ne (by omega), wy_set_at rfl rfl]
    have q1 : wq_set (wq_set (wq_set M1 27 0 (x : Int)) 27 1 (y : Int)) 27 2 (z : Int) 27 1 = (y : Int) := by rw [wy_set_ne (by omega), wy_set_at rfl rfl]
    have q2 : wq_set (wq_set (wq_set M1 27 0 (x : Int)) 27 1 (y : Int)) 27 2 (z : Int) 27 2 = (z : Int) := wy_set_at rfl rfl
    have qf : wy_fo M (wq_set (wq_set (wq_set M1 27 0 (x : Int)) 27 1 (y : Int)) 27 2 (z : Int)) := fun f j h1 h2 => by
      rw [wy_set_ne (by omega), wy_set_ne (by omega), wy_set_ne (by omega)]
      exact hf f j h1 h2
    have qb : wy_bm (wq_set (wq_set (wq_set M1 27 0 (x : Int)) 27 1 (y : Int)) 27 2 (z : Int)) (wy_mf (wy_gc P r) i) := by
      revert hb1
      generalize wy_mf (wy_gc P r) i = bb
      intro hb1
      cases bb with
      | none => exact (by rw [wy_set_ne (by omega), wy_set_ne (by omega), wy_set_ne (by omega)]; exact hb1 : wq_set (wq_set (wq_set M1 27 0 (x : Int)) 27 1 (y : Int)) 27 2 (z : Int) 0 37 = -1)
      | some p =>
        obtain ⟨z1, z2, z3, z4⟩ := hb1
        exact ⟨by rw [wy_set_ne (by omega), wy_set_ne (by omega), wy_set_ne (by omega)]; exact z1, z2, z3, fun j hj => by rw [wy_set_ne (by omega), wy_set_ne (by omega), wy_set_ne (by omega), wy_set_ne (by omega), wy_set_ne (by omega), wy_set_ne (by omega)]; exact z4 j hj⟩
    generalize wq_set (wq_set (wq_set M1 27 0 (x : Int)) 27 1 (y : Int)) 27 2 (z : Int) = M8 at *
    rw [wy_ix0, wy_ix2, wy_ix1, wy_ix2, q0, q1, q2, wq_w_id (x := (x : Int)) (by omega) (by omega), wq_w_id (x := (y : Int)) (by omega) (by omega), wq_w_id (x := (z : Int)) (by omega) (by omega)]
    unfold j_X9_plans_113
    rw [wy_plans_skip, e]
    have skip : ¬(wy_vdb (P 13 r) i = true) → ∃ M', l_X9_plans_24 (r : Int) (P 13 r) kx n ((i + 1 : Nat) : Int) M8 = kx M' ∧ wy_fo M M' ∧ wy_bm M' (wy_pn P r) := fun hn => ih M8 ⟨qf, by
      rw [hgc, hg0 hn, wy_mn_0]
      exact qb⟩
    by_cases hxy : (x : Int) = (y : Int)
    · rw [if_pos hxy]
      exact skip fun h => by have := hvd.mp h; omega
    · rw [if_neg hxy]
      by_cases hxz : (x : Int) = (z : Int)
      · rw [if_pos hxz]
        exact skip fun h => by have := hvd.mp h; omega
      · rw [if_neg hxz]
        by_cases hyz : (y : Int) = (z : Int)
        · rw [if_pos hyz]
          exact skip fun h => by have := hvd.mp h; omega
        · rw [if_neg hyz, wy_plans_try _ _ _ _ _ _ ⟨h1, b13.2⟩ hy hz q1 q2, e]
          by_cases hfit : P 13 r = 3 ∨ (z = 2 ∧ (P 13 r = 2 ∨ y = 1))
          · rw [if_pos hfit]
            have hpm := wy_pm_on hx hy hz (by omega) (by omega) (by omega)
            have h27 : ∀ j, j < 3 → M8 27 j = wy_on x y z j := fun j hj => by
              have : j = 0 ∨ j = 1 ∨ j = 2 := by omega
              rcases this with rfl | rfl | rfl
              · exact q0
              · exact q1
              · exact q2
            obtain ⟨M9, e1, e2, e3⟩ := wy_m_tw3 hI (wy_fo_M hM qf) hpm h27 hr qb
            rw [wy_bd e1]
            refine ih M9 ⟨wy_fo_t qf (wy_fo_fm e2), ?_⟩
            rw [hgc, hg1 (hvd.mpr ⟨⟨by omega, by omega, by omega⟩, hfit⟩)]
            exact e3
          · rw [if_neg hfit]
            exact skip fun h => hfit (hvd.mp h).2
  · intro n M1 ⟨hf, hb1⟩
    rw [l_X9_plans_24_s]
    unfold b_X9_plans_24
    rw [if_pos (by decide)]
    rw [wy_gc_all hI h1] at hb1
    exact ⟨M1, rfl, hf, hb1⟩
theorem wy_pn_some (hI : wy_iv P) : ∃ p, wy_pn P r = some p := by
  have b13 := wy_b13 hI r
  have hmn : ∀ {x y : Option (Int × wy_pl)}, (∃ p, x = some p) → (∃ p, y = some p) → ∃ p, wy_mn x y = some p := by
    rintro _ _ ⟨a, rfl⟩ ⟨b, rfl⟩
    rw [wy_mn_s]
    split
    · exact ⟨b, rfl⟩
    · exact ⟨a, rfl⟩
  have h : P 13 r = 0 ∨ P 13 r = 1 ∨ P 13 r = 2 ∨ P 13 r = 3 := by omega
  rcases h with h | h | h | h
  · exact ⟨_, wy_pn0 h⟩
  · exact ⟨_, (wy_pn1 hI h).trans (wy_g3_1 hI h)⟩
  · rw [wy_pn2 hI h]
    exact hmn ⟨_, wy_g3_2 hI h⟩ ⟨_, wy_g3_2 hI h⟩
  · rw [wy_pn3 hI h]
    exact hmn (hmn (hmn ⟨_, wy_g3_3 hI h⟩ ⟨_, wy_g3_3 hI h⟩) (hmn ⟨_, wy_g3_3 hI h⟩ ⟨_, wy_g3_3 hI h⟩)) (hmn ⟨_, wy_g3_3 hI h⟩ ⟨_, wy_g3_3 hI h⟩)
def wy_pp (P : wq_St) (r : Nat) : Int × wy_pl := (wy_pn P r).getD (0, ((fun j => (j : Int)), fun _ => -1))
theorem wy_pn_pp (hI : wy_iv P) : wy_pn P r = some (wy_pp P r) := by
  obtain ⟨p, hp⟩ := @wy_pn_some P r hI
  unfold wy_pp
  rw [hp]
  rfl
/-- the model lays the plan at hand -/
theorem wy_m_plans (hI : wy_iv P) (hM : wy_M wy_co M P) (hr : r < 8) : ∃ M', f_X9_plans (r : Int) M = some (0, M') ∧ wy_fo M M' ∧ M' 0 37 = (wy_pp P r).1 ∧ (1 ≤ P 13 r → ∀ j, j < 3 → M' 27 j = (wy_pp P r).2.1 j ∧ M' 28 j = (wy_pp P r).2.2 j) := by
  have b13 := wy_b13 hI r
  have e13 : M 13 r = P 13 r := wy_m hM (by omega)
  have hpp := @wy_pn_pp P r hI
  unfold f_X9_plans
  rw [wy_ix (by omega) (by omega) (by omega), Int.toNat_natCast, e13, wq_w_id (x := P 13 r) (by omega) (by omega)]
  unfold j_X9_plans_19 j_X9_plans_174
  rw [wy_lt, wy_lt]
  by_cases h0 : P 13 r = 0
  · rw [if_pos h0]
    rw [wy_pn0 h0] at hpp
    have hpp' := Option.some.inj hpp
    obtain ⟨n, hn⟩ : ∃ n, wq_fu = n + 1 := ⟨9999999, rfl⟩
    have e24 : ∀ S kx, l_X9_plans_24 (r : Int) (P 13 r) kx wq_fu 0 S = kx S := fun S kx => by
      rw [hn, l_X9_plans_24_s]
      unfold b_X9_plans_24
      rw [if_neg (by decide), wq_w_id (x := P 13 r) (by omega) (by omega), if_pos (by omega)]
    rw [e24]
    obtain ⟨M', e1, e2, e3⟩ := wy_m_copyo (wq_set M 0 37 0) (fun S34 => some (0, S34))
    refine ⟨M', e1, fun f j h1 h2 => by rw [e3 f j (by omega), wy_set_ne (by omega)], ?_, fun h => by omega⟩
    rw [e3 0 37 (by omega), wy_set_at rfl rfl, ← hpp']
  · rw [if_neg h0]
    have hM1 : wy_M wy_co (wq_set M 0 37 (-1)) P := wy_M_off hM (by omega)
    obtain ⟨M1, e1, e2, e3⟩ := wy_m_codes hI hM1 hr (by omega) (wy_set_at rfl rfl) (fun S27 => l_X9_plans_176 (fun S34 => some (0, S34)) wq_fu 0 S27)
    rw [e1]
    obtain ⟨M', e4, e5, e6⟩ := wy_m_copyo M1 (fun S34 => some (0, S34))
    rw [hpp] at e3
    obtain ⟨z1, z2, z3, z4⟩ := e3
    refine ⟨M', e4, fun f j h1 h2 => by rw [e6 f j (by omega), e2 f j h1 h2, wy_set_ne (by omega)], ?_, fun _ j hj => ?_⟩
    · rw [e6 0 37 (by omega)]
      exact z1
    · rw [(e5 j hj).1, (e5 j hj).2]
      exact z4 j hj
/-- the class chooses it -/
theorem wy_x_choose (hI : wy_iv P) (hR : wy_R wy_co S P) (hr : r < 8) : ∃ S', f_X4_choose (199 + 9 * r) S = some (276, S') ∧ wy_fr S S' ∧ wy_bs P r S' (some (wy_pp P r)) := by
  have b13 := wy_b13 hI r
  have hclear : ∃ S1, f_X3_clear 272 S = some (0, S1) ∧ (∀ x, x < 3 → S1 275 x = 3) ∧ ∀ k j, k ≠ 275 → S1 k j = S k j := by
    unfold f_X3_clear
    have key := wy_up (fun n i (S1 : wq_St) => ∃ S', l_X3_clear_2 272 (fun S3 => some (0, S3)) n (i : Int) S1 = some (0, S') ∧ (∀ x, x < 3 → S' 275 x = 3) ∧ ∀ k j, k ≠ 275 → S' k j = S k j) 3 (fun i S1 => (∀ x, x < i → S1 275 x = 3) ∧ ∀ k j, k ≠ 275 → S1 k j = S k j) ?_ ?_ wq_fu 0 S (by omega) (wy_fu' (by omega)) ⟨fun j hj => by omega, fun _ _ _ => rfl⟩
    · exact key
    · intro n i S1 hi ⟨hc, hf⟩ ih
      have w3 : wq_w 3 = 3 := rfl
      rw [l_X3_clear_2_s]
      unfold b_X3_clear_2
      rw [w3, wq_w_id (x := (i : Int)) (by omega) (by omega), if_neg (by omega), wy_ix (by omega) (by omega) (by omega), wy_lt, Int.toNat_natCast]
      have e : ((i : Int) + 1) = ((i + 1 : Nat) : Int) := by omega
      rw [e]
      refine ih _ ⟨fun x hx => ?_, fun k j hk => ?_⟩
      · by_cases ex : x = i
        · subst ex
          exact wy_set_at rfl rfl
        · rw [wy_set_ne (by omega)]
          exact hc x (by omega)
      · rw [wy_set_ne (by omega)]
        exact hf k j hk
    · intro n S1 ⟨hc, hf⟩
      rw [l_X3_clear_2_s]
      unfold b_X3_clear_2
      rw [if_pos (by decide)]
      exact ⟨S1, rfl, hc, hf⟩
  obtain ⟨S1, e1, c1, f1⟩ := hclear
  unfold f_X4_choose
  rw [wy_bd e1, wy_lt]
  have hfr : wy_fr S (wq_set S1 276 3 9223372036854775807) := fun k j hk => by
    rw [wy_set_ne (by omega)]
    exact f1 k j (by omega)
  obtain ⟨S2, e2, d2, b2, f2⟩ := wy_x_ext hI hr (P 13 r).toNat wq_dp 0 (fun j => (j : Int)) (fun _ => -1) 1000 0 none (wq_set S1 276 3 9223372036854775807) (by omega) (by unfold wq_dp; omega) (wy_fr_R hR hfr) ⟨fun j hj => by omega, fun x hx => by
      rw [wy_set_ne (by omega), c1 x hx, if_neg (by have := wy_ps_b (fun j => (j : Int)) (x : Int); omega)]⟩ (wy_set_at rfl rfl) ⟨by decide, by decide⟩ ⟨by decide, by decide⟩
  have e2' : f_X4_extend wq_dp (199 + 9 * r) 0 1000 0 (wq_set S1 276 3 9223372036854775807) = some (0, S2) := e2
  rw [wy_bd e2']
  refine ⟨S2, rfl, wy_fr_t hfr f2, ?_⟩
  rw [wy_mn_1] at b2
  have hpp := @wy_pn_pp P r hI
  unfold wy_pn at hpp
  rw [hpp] at b2
  exact b2
end
end
section
/-! RUNS -/
def wy_su (f : Nat → Int) : Nat → Int
  | 0 => 0
  | n + 1 => wy_su f n + f n
def wy_gu (g : Nat → Nat) (x : Int) (i : Nat) : Nat → Nat := fun y => if y = x.toNat then i else g y
/-- the value of a column of the row that is chosen of a source -/
def wy_gv (P : wq_St) (r : Nat) (g : Nat → Nat) (x c : Int) : Int := wy_va P (wy_tb P r x) c.toNat (g x.toNat)
abbrev wy_ho (P : wq_St) (r : Nat) (g : Nat → Nat) (k : Nat) : Prop :=
  (P 16 (6 * r + k) = 0 → wy_gv P r g (P 17 (6 * r + k)) (P 18 (6 * r + k)) = P 19 (6 * r + k)) ∧
  (P 16 (6 * r + k) = 1 → wy_gv P r g (P 17 (6 * r + k)) (P 18 (6 * r + k)) < P 19 (6 * r + k)) ∧
  (P 16 (6 * r + k) = 2 → P 19 (6 * r + k) < wy_gv P r g (P 17 (6 * r + k)) (P 18 (6 * r + k))) ∧
  (P 16 (6 * r + k) = 3 → wy_gv P r g (P 17 (6 * r + k)) (P 18 (6 * r + k)) = wy_gv P r g (P 20 (6 * r + k)) (P 21 (6 * r + k)))
/-- all conditions of step s hold, of the first n -/
def wy_ha (P : wq_St) (r : Nat) (o : Nat → Int) (s : Nat) (g : Nat → Nat) : Nat → Bool
  | 0 => true
  | k + 1 => wy_ha P r o s g k && decide (wy_as P r o s k → wy_ho P r g k)
/-- the value that the index is asked for -/
def wy_wa (P : wq_St) (r : Nat) (o : Nat → Int) (s : Nat) (g : Nat → Nat) (k : Nat) : Int :=
  if P 16 (6 * r + k) = 0 then P 19 (6 * r + k) else if P 17 (6 * r + k) = o s then wy_gv P r g (P 20 (6 * r + k)) (P 21 (6 * r + k)) else wy_gv P r g (P 17 (6 * r + k)) (P 18 (6 * r + k))
def wy_cw (P : wq_St) (t c : Nat) (v : Int) : Nat → Int
  | 0 => 0
  | i + 1 => wy_cw P t c v i + (if P 3 (40 * t + i) ≠ 0 ∧ wy_va P t c i = v then 1 else 0)
abbrev wy_is (P : wq_St) (r : Nat) (o : Nat → Int) (s : Nat) : Nat := (P 2 (wy_tb P r (o s))).toNat
def wy_mi (P : wq_St) (r : Nat) (o w : Nat → Int) (s : Nat) (g : Nat → Nat) : Int :=
  if w s = -1 then wy_ct P (wy_tb P r (o s)) (wy_is P r o s) else 1 + wy_cw P (wy_tb P r (o s)) (w s).toNat (wy_wa P r o s g (wy_uo P r o s (w s) (P 15 r).toNat).toNat) (wy_is P r o s)
abbrev wy_gg (P : wq_St) (r : Nat) (o : Nat → Int) (s : Nat) (g : Nat → Nat) (i : Nat) : Prop := P 3 (40 * wy_tb P r (o s) + i) ≠ 0 ∧ wy_ha P r o s (wy_gu g (o s) i) (P 15 r).toNat = true
def wy_rw (f : (Nat → Nat) → Int) (P : wq_St) (r : Nat) (o : Nat → Int) : Nat → Nat → (Nat → Nat) → Int
  | 0, _, g => f g
  | d + 1, s, g => wy_su (fun i => if wy_gg P r o s g i then wy_rw f P r o d (s + 1) (wy_gu g (o s) i) else 0) (wy_is P r o s)
def wy_rt (P : wq_St) (r : Nat) (o w : Nat → Int) : Nat → Nat → (Nat → Nat) → Int
  | 0, _, _ => 0
  | d + 1, s, g => wy_mi P r o w s g + wy_su (fun i => if wy_gg P r o s g i then wy_rt P r o w d (s + 1) (wy_gu g (o s) i) else 0) (wy_is P r o s)
/-- the weight of a choice: what is summed up -/
def wy_sv (P : wq_St) (r : Nat) (g : Nat → Nat) : Int := if P 22 r = -1 then 0 else wy_gv P r g (P 22 r) (P 28 r)
/-- a plan that can be run -/
def wy_vp (P : wq_St) (r : Nat) (o w : Nat → Int) : Prop := wy_pm o ∧ (∀ j : Nat, (j : Int) < P 13 r → o j < P 13 r ∧ wy_ps o (o j) = (j : Int)) ∧ (∀ x : Int, 0 ≤ x → x < P 13 r → wy_ps o x < P 13 r) ∧ ∀ s : Nat, (s : Int) < P 13 r → -1 ≤ w s ∧ w s ≤ 2 ∧ (w s ≠ -1 → wy_uo P r o s (w s) (P 15 r).toNat ≠ -1)
def wy_pf (P : wq_St) (r q : Nat) (S : wq_St) (o w : Nat → Int) : Prop := (∀ j : Nat, (j : Int) < P 13 r → S (q + 1) j = o j ∧ S (q + 2) j = w j) ∧ ∀ x : Nat, (x : Int) < P 13 r → S (q + 3) x = wy_ps o (x : Int)
section
variable {P S : wq_St} {r q s : Nat} {o w : Nat → Int} {g : Nat → Nat}
theorem wy_pf_sp (hI : wy_iv P) (hR : wy_R wy_co S P) (hr : r < 8) (hv : wy_vp P r o w) (hp : wy_pf P r q S o w) (hs : (s : Int) < P 13 r) : wy_sp P r o s q S := by
  have b13 := wy_b13 hI r
  refine wy_sp_of hI hR hr (n := (P 13 r).toNat) (by omega) (by omega) fun x hx => ?_
  rw [hp.2 x hx, if_pos]
  have h := hv.2.2.1 (x : Int) (by omega) hx
  omega
theorem wy_gv_b (hI : wy_iv P) (x c : Int) : 0 ≤ wy_gv P r g x c ∧ wy_gv P r g x c ≤ 999 := wy_b4 hI _
theorem wy_x_chosen (hI : wy_iv P) (hR : wy_R wy_co S P) (hr : r < 8) {x c : Int} (hx : 0 ≤ x ∧ x ≤ 2) (hc : 0 ≤ c ∧ c ≤ 2) (hg : S 281 x.toNat = (g x.toNat : Int)) (hb : g x.toNat < 40) : f_X6_chosenValue (199 + 9 * r) x c S = some (wy_gv P r g x c, S) := by
  have s14 := wy_c14 hR hr (j := x.toNat) (by omega)
  have b14 := wy_b14 hI (3 * r + x.toNat)
  have et : (P 14 (3 * r + x.toNat)).toNat = wy_tb P r x := rfl
  have ht := @wy_tb_lt P r hI x
  have c4 := wy_c4 hR ht hb (c := c.toNat) (by omega)
  unfold f_X6_chosenValue
  simp (disch := omega) only [wy_ix, s14, et, hg, Int.toNat_natCast, c4]
  rfl
/-- what is chosen of the sources of the steps ahead of s -/
def wy_ch (P : wq_St) (o : Nat → Int) (s : Nat) (S : wq_St) (g : Nat → Nat) : Prop := ∀ j : Nat, j < s → S 281 (o j).toNat = (g (o j).toNat : Int) ∧ g (o j).toNat < 40
theorem wy_ch_x (hs : s < 3) (hch : wy_ch P o (s + 1) S g) {x : Int} (hx : wy_ps o x ≤ (s : Int)) : S 281 x.toNat = (g x.toNat : Int) ∧ g x.toNat < 40 := by
  have hb := wy_ps_b o x
  have h := @wy_ps_o o x (wy_ps o x).toNat (by omega) (by omega)
  have h2 := hch (wy_ps o x).toNat (by omega)
  rw [h] at h2
  exact h2
theorem wy_as_le {k : Nat} (h : wy_as P r o s k) : wy_ps o (P 17 (6 * r + k)) ≤ (s : Int) ∧ (P 16 (6 * r + k) = 3 → wy_ps o (P 20 (6 * r + k)) ≤ (s : Int)) := by
  unfold wy_as wy_cs at h
  split at h
  · omega
  · refine ⟨by omega, fun h3 => ?_⟩
    rename_i hn
    have : ¬(wy_ps o (P 17 (6 * r + k)) < wy_ps o (P 20 (6 * r + k))) := fun hh => hn ⟨h3, hh⟩
    omega
theorem wy_x_holds (hI : wy_iv P) (hR : wy_R wy_co S P) (hr : r < 8) (hs : s < 3) (hch : wy_ch P o (s + 1) S g) {k : Nat} (hk : (k : Int) < P 15 r) (ha : wy_as P r o s k) : f_X6_holds (199 + 9 * r) (199 + 9 * r + 3 + k) S = some ((if wy_ho P r g k then 1 else 0), S) := by
  have b15 := wy_b15 hI r
  have b16 := wy_b16 hI (6 * r + k)
  have b17 := wy_b17 hI (6 * r + k)
  have b18 := wy_b18 hI (6 * r + k)
  have b19 := wy_b19 hI (6 * r + k)
  have b20 := wy_b20 hI (6 * r + k)
  have b21 := wy_b21 hI (6 * r + k)
  have hk6 : k < 6 := by omega
  have hle := wy_as_le ha
  have h1 := wy_ch_x (P := P) hs hch hle.1
  have hv1 := @wy_gv_b P r g hI (P 17 (6 * r + k)) (P 18 (6 * r + k))
  have hv2 := @wy_gv_b P r g hI (P 20 (6 * r + k)) (P 21 (6 * r + k))
  unfold f_X6_holds
  rw [wy_c17 hR hr hk6, wy_c18 hR hr hk6, wy_bd (wy_x_chosen hI hR hr ⟨b17.1, b17.2⟩ ⟨b18.1, b18.2⟩ h1.1 h1.2)]
  simp (disch := omega) only [wy_c16 hR hr hk6, wy_c19 hR hr hk6, wy_c20 hR hr hk6, wy_c21 hR hr hk6, wq_w_id]
  by_cases k0 : P 16 (6 * r + k) = 0
  · rw [if_pos k0]
    by_cases e : wy_gv P r g (P 17 (6 * r + k)) (P 18 (6 * r + k)) = P 19 (6 * r + k)
    · rw [if_pos e, if_pos ⟨fun _ => e, fun h => by omega, fun h => by omega, fun h => by omega⟩]
    · rw [if_neg e, if_neg (fun h => e (h.1 k0))]
  · rw [if_neg k0]
    by_cases k1 : P 16 (6 * r + k) = 1
    · rw [if_pos k1]
      by_cases e : P 19 (6 * r + k) ≤ wy_gv P r g (P 17 (6 * r + k)) (P 18 (6 * r + k))
      · rw [if_pos e, if_neg (fun h => by have := h.2.1 k1; omega)]
      · rw [if_neg e, if_pos ⟨fun h => by omega, fun h => by omega, fun h => by omega, fun h => by omega⟩]
    · rw [if_neg k1]
      by_cases k2 : P 16 (6 * r + k) = 2
      · rw [if_pos k2]
        by_cases e : wy_gv P r g (P 17 (6 * r + k)) (P 18 (6 * r + k)) ≤ P 19 (6 * r + k)
        · rw [if_pos e, if_neg (fun h => by have := h.2.2.1 k2; omega)]
        · rw [if_neg e, if_pos ⟨fun h => by omega, fun h => by omega, fun h => by omega, fun h => by omega⟩]
      · have k3 : P 16 (6 * r + k) = 3 := by omega
        have h2 := wy_ch_x (P := P) hs hch (hle.2 k3)
        rw [if_neg k2, wy_bd (wy_x_chosen hI hR hr ⟨b20.1, b20.2⟩ ⟨b21.1, b21.2⟩ h2.1 h2.2)]
        by_cases e : wy_gv P r g (P 17 (6 * r + k)) (P 18 (6 * r + k)) = wy_gv P r g (P 20 (6 * r + k)) (P 21 (6 * r + k))
        · rw [wq_w_id (by omega) (by omega), if_pos e, if_pos ⟨fun h => by omega, fun h => by omega, fun h => by omega, fun _ => e⟩]
        · rw [wq_w_id (by omega) (by omega), if_neg e, if_neg (fun h => e (h.2.2.2 k3))]
theorem wy_ha_s (k : Nat) : wy_ha P r o s g (k + 1) = (wy_ha P r o s g k && decide (wy_as P r o s k → wy_ho P r g k)) := rfl
theorem wy_ha_f {k : Nat} (ha : wy_as P r o s k) (hn : ¬wy_ho P r g k) : ∀ {n : Nat}, k < n → wy_ha P r o s g n = false
  | 0, h => by omega
  | n + 1, h => by
    rw [wy_ha_s]
    by_cases e : k = n
    · subst e
      rw [decide_eq_false (fun h => hn (h ha)), Bool.and_false]
    · rw [wy_ha_f ha hn (by omega), Bool.false_and]
theorem wy_ha_t {k : Nat} : ∀ {n : Nat}, wy_ha P r o s g n = true → k < n → wy_as P r o s k → wy_ho P r g k
  | 0, _, h, _ => by omega
  | n + 1, h, hk, ha => by
    rw [wy_ha_s, Bool.and_eq_true] at h
    by_cases e : k = n
    · subst e
      exact (of_decide_eq_true h.2) ha
    · exact wy_ha_t h.1 (by omega) ha
theorem wy_x_hold (hI : wy_iv P) (hR : wy_R wy_co S P) (hr : r < 8) (hs : s < 3) (hsp : wy_sp P r o s q S) (hch : wy_ch P o (s + 1) S g) : f_X6_conditionsHold (199 + 9 * r) q (s : Int) S = some ((if wy_ha P r o s g (P 15 r).toNat = true then 1 else 0), S) := by
  have b15 := wy_b15 hI r
  unfold f_X6_conditionsHold
  have key := wy_up (fun n i (_ : Unit) => l_X6_conditionsHold_3 (199 + 9 * r) q (s : Int) (fun S6 => some (1, S6)) n (i : Int) S = some ((if wy_ha P r o s g (P 15 r).toNat = true then 1 else 0), S)) (P 15 r).toNat (fun i _ => wy_ha P r o s g i = true) ?_ ?_ wq_fu 0 () (by omega) (wy_fu' (by omega)) rfl
  · exact key
  · intro n i _ hi h0 ih
    have hk : (i : Int) < P 15 r := by omega
    obtain ⟨v, e1, e2, e3⟩ := hsp i hk
    have e : ((i : Int) + 1) = ((i + 1 : Nat) : Int) := by omega
    rw [l_X6_conditionsHold_3_s]
    unfold b_X6_conditionsHold_3
    simp (disch := omega) only [wy_ix, Int.toNat_natCast, wy_c15 hR hr, wq_w_id]
    rw [if_neg (by omega), wy_bd e1, e2, e]
    by_cases ha : v = (s : Int)
    · have hap := e3.mp ha
      rw [if_pos ha, wy_bd (wy_x_holds hI hR hr hs hch hk hap)]
      by_cases ho : wy_ho P r g i
      · rw [if_pos ho, if_neg (by decide)]
        refine ih () ?_
        rw [wy_ha_s, h0, decide_eq_true (fun _ => ho)]
        rfl
      · rw [if_neg ho, if_pos wq_w_0, wy_ha_f hap ho hi, if_neg (by decide)]
    · rw [if_neg ha]
      refine ih () ?_
      rw [wy_ha_s, h0, decide_eq_true (fun h => absurd (e3.mpr h) ha)]
      rfl
  · intro n _ h0
    rw [l_X6_conditionsHold_3_s]
    unfold b_X6_conditionsHold_3
    simp (disch := omega) only [wy_c15 hR hr, wq_w_id]
    rw [if_pos (by omega), if_pos h0]
theorem wy_x_wanted (hI : wy_iv P) (hR : wy_R wy_co S P) (hr : r < 8) (hv : wy_vp P r o w) (hp : wy_pf P r q S o w) (hs : (s : Int) < P 13 r) (hw : w s ≠ -1) (hch : wy_ch P o s S g) : f_X6_valueLookedFor (199 + 9 * r) q (s : Int) S = some (wy_wa P r o s g (wy_uo P r o s (w s) (P 15 r).toNat).toNat, S) := by
  have b13 := wy_b13 hI r
  have b15 := wy_b15 hI r
  have hs3 : s < 3 := by omega
  have hws := hv.2.2.2 s hs
  have hos := hv.1.1 s hs3
  have hps := (hv.2.1 s hs).2
  obtain ⟨c, hc⟩ : ∃ c : Nat, w s = (c : Int) := ⟨(w s).toNat, by omega⟩
  have hsp := wy_pf_sp hI hR hr hv hp hs
  obtain ⟨k, hk, hu, hku⟩ := wy_uo_is (hws.2.2 hw)
  have hcfi := wy_x_cfi hI hR hr hs3 (c := c) (by omega) hsp (hp.1 s hs).1 hos hps
  rw [← hc] at hcfi
  have b16 := wy_b16 hI (6 * r + k)
  have b17 := wy_b17 hI (6 * r + k)
  have b18 := wy_b18 hI (6 * r + k)
  have b20 := wy_b20 hI (6 * r + k)
  have b21 := wy_b21 hI (6 * r + k)
  have hk6 : k < 6 := by omega
  have hoth := hI.2.2.2.2.2.2.1 r k (by omega)
  unfold f_X6_valueLookedFor
  rw [wy_ix (by omega) (by omega) (by omega), Int.toNat_natCast, (hp.1 s hs).2, wy_bd hcfi, hku, Int.toNat_natCast]
  have hqo := (hp.1 s hs).1
  simp (disch := omega) only [wy_ix, Int.toNat_natCast, hqo, wy_c16 hR hr hk6, wy_c17 hR hr hk6, wy_c18 hR hr hk6, wy_c19 hR hr hk6, wy_c20 hR hr hk6, wy_c21 hR hr hk6, wq_w_id]
  rw [if_neg (by omega)]
  unfold wy_wa
  have hle := wy_as_le hu.2.1
  have chx : ∀ x : Int, wy_ps o x < (s : Int) → S 281 x.toNat = (g x.toNat : Int) ∧ g x.toNat < 40 := fun x hx => by
    have hb := wy_ps_b o x
    have h := @wy_ps_o o x (wy_ps o x).toNat (by omega) (by omega)
    have h2 := hch (wy_ps o x).toNat (by omega)
    rw [h] at h2
    exact h2
  rcases hu.1 with k0 | k3
  · rw [if_neg (by omega), if_pos k0]
  · have n0 : ¬P 16 (6 * r + k) = 0 := by omega
    rw [if_pos k3, if_neg n0]
    have hne := hoth.2 k3
    by_cases e : P 17 (6 * r + k) = o s
    · have hx : wy_ps o (P 20 (6 * r + k)) < (s : Int) := by
        have h1 := hle.2 k3
        by_cases h2 : wy_ps o (P 20 (6 * r + k)) = (s : Int)
        · have := wy_ps_o hs3 h2
          omega
        · omega
      have h2 := chx _ hx
      rw [if_pos e, if_pos e, wy_bd (wy_x_chosen hI hR hr ⟨b20.1, b20.2⟩ ⟨b21.1, b21.2⟩ h2.1 h2.2)]
    · have hx : wy_ps o (P 17 (6 * r + k)) < (s : Int) := by
        have h1 := hle.1
        by_cases h2 : wy_ps o (P 17 (6 * r + k)) = (s : Int)
        · exact absurd (wy_ps_o hs3 h2).symm e
        · omega
      have h2 := chx _ hx
      rw [if_neg e, if_neg e, wy_bd (wy_x_chosen hI hR hr ⟨b17.1, b17.2⟩ ⟨b18.1, b18.2⟩ h2.1 h2.2)]
end
end
section
/-! the class runs a plan -/
def wy_f2 (S S' : wq_St) : Prop := ∀ k j, ¬(k = 280 ∨ k = 281) → S' k j = S k j
section
variable {P S : wq_St} {r q s : Nat} {o w : Nat → Int} {g : Nat → Nat}
theorem wy_f2_R {C : Nat → Prop} {S' : wq_St} (h : wy_R C S P) (hf : wy_f2 S S') : wy_R C S' P := wy_R_fr h fun k j hk => hf k j fun h => hk (by unfold wy_scr; omega)
theorem wy_f2_t {S' S'' : wq_St} (h1 : wy_f2 S S') (h2 : wy_f2 S' S'') : wy_f2 S S'' := fun k j hk => by rw [h2 k j hk, h1 k j hk]
theorem wy_f2_s {S' : wq_St} (h1 : wy_f2 S S') {k j : Nat} {v : Int} (hk : k = 280 ∨ k = 281) : wy_f2 S (wq_set S' k j v) := fun k' j' h => by
  rw [wy_set_ne (fun e => h (by omega))]
  exact h1 k' j' h
theorem wy_f2_pf {S' : wq_St} (hq : q + 3 < 280) (h : wy_pf P r q S o w) (hf : wy_f2 S S') : wy_pf P r q S' o w := ⟨fun j hj => by rw [hf _ _ (by omega), hf _ _ (by omega)]; exact h.1 j hj, fun x hx => by rw [hf _ _ (by omega)]; exact h.2 x hx⟩
theorem wy_gu_at {x : Int} {i : Nat} : wy_gu g x i x.toNat = i := if_pos rfl
theorem wy_gu_ne {x y : Int} {i : Nat} (h : y.toNat ≠ x.toNat) : wy_gu g x i y.toNat = g y.toNat := if_neg h
/-- a row that passes the conditions has the value that the index is asked for -/
theorem wy_use_val (hI : wy_iv P) (hv : wy_vp P r o w) (hs : (s : Int) < P 13 r) (hw : w s ≠ -1) {i : Nat} (h : wy_ha P r o s (wy_gu g (o s) i) (P 15 r).toNat = true) : wy_va P (wy_tb P r (o s)) (w s).toNat i = wy_wa P r o s g (wy_uo P r o s (w s) (P 15 r).toNat).toNat := by
  have b13 := wy_b13 hI r
  have b15 := wy_b15 hI r
  have hs3 : s < 3 := by omega
  have hws := hv.2.2.2 s hs
  have hos := hv.1.1 s hs3
  obtain ⟨k, hk, hu, hku⟩ := wy_uo_is (hws.2.2 hw)
  have hh := wy_ha_t h hk hu.2.1
  have b17 := wy_b17 hI (6 * r + k)
  have b20 := wy_b20 hI (6 * r + k)
  have hoth := hI.2.2.2.2.2.2.1 r k (by omega)
  rw [hku, Int.toNat_natCast]
  unfold wy_wa
  have hcol := hu.2.2
  have has := hu.2.1
  unfold wy_as wy_cs at has
  rcases hu.1 with k0 | k3
  · rw [if_pos k0]
    have n3 : ¬P 16 (6 * r + k) = 3 := by omega
    rw [if_neg (fun h => n3 h.1)] at has
    have hso := wy_ps_o hs3 has
    rw [if_pos hso.symm] at hcol
    have h1 := hh.1 k0
    unfold wy_gv at h1
    rw [← hso, wy_gu_at, hcol] at h1
    exact h1
  · have n0 : ¬P 16 (6 * r + k) = 0 := by omega
    rw [if_neg n0]
    have h1 := hh.2.2.2 k3
    have hne := (hoth.2 k3).2
    unfold wy_gv at h1 ⊢
    by_cases e : P 17 (6 * r + k) = o s
    · rw [if_pos e] at hcol ⊢
      rw [e, wy_gu_at, hcol, wy_gu_ne (by omega)] at h1
      exact h1
    · have hot : P 20 (6 * r + k) = o s := by
        by_cases hlt : wy_ps o (P 17 (6 * r + k)) < wy_ps o (P 20 (6 * r + k))
        · rw [if_pos ⟨k3, hlt⟩] at has
          exact (wy_ps_o hs3 has).symm
        · rw [if_neg (fun h => hlt h.2)] at has
          exact absurd (wy_ps_o hs3 has).symm e
      rw [if_neg e] at hcol ⊢
      rw [hot, wy_gu_at, hcol, wy_gu_ne (by omega)] at h1
      exact h1.symm
theorem wy_ch_lt (hs : s ≤ 3) (hch : wy_ch P o s S g) {x : Int} (hx : wy_ps o x < (s : Int)) : S 281 x.toNat = (g x.toNat : Int) ∧ g x.toNat < 40 := by
  have hb := wy_ps_b o x
  have h := @wy_ps_o o x (wy_ps o x).toNat (by omega) (by omega)
  have h2 := hch (wy_ps o x).toNat (by omega)
  rw [h] at h2
  exact h2
theorem wy_ch_f2 {S' : wq_St} (h : wy_ch P o s S g) (hf : ∀ j, S' 281 j = S 281 j) : wy_ch P o s S' g := fun j hj => by rw [hf]; exact h j hj
theorem wy_x_step (hI : wy_iv P) (hr : r < 8) (hv : wy_vp P r o w) (hq : q + 3 < 280) : ∀ (d n s : Nat) (g : Nat → Nat) (S : wq_St), (d : Int) + (s : Int) = P 13 r → d < n → wy_R wy_co S P → wy_pf P r q S o w → wy_ch P o s S g →
    ∃ S', f_X6_takeStep n (199 + 9 * r) q (s : Int) S = some (0, S') ∧ S' 280 2 = S 280 2 + wy_rt P r o w d s g ∧ S' 280 3 = S 280 3 + wy_rw (fun _ => 1) P r o d s g ∧ S' 280 4 = S 280 4 + wy_rw (wy_sv P r) P r o d s g ∧ wy_f2 S S' ∧ wy_ch P o s S' g
  | d, 0, s, g, S, _, h, _, _, _ => by omega
  | 0, n + 1, s, g, S, hd, _, hR, hpf, hch => by
    have b13 := wy_b13 hI r
    have b22 := wy_b22 hI r
    unfold f_X6_takeStep fb_X6_takeStep
    simp (disch := omega) only [wy_c13 hR hr, wq_w_id]
    rw [if_neg (by omega)]
    unfold f_X6_countChoice
    rw [wy_lt]
    have hR1 : wy_R wy_co (wq_set S 280 3 (S 280 3 + 1)) P := wy_R_scr hR (by unfold wy_scr; omega)
    have w1 : wq_w (-1) = -1 := rfl
    rw [wy_c22 hR1 hr, wy_c28 hR1 hr, w1, wq_w_id (by omega) (by omega)]
    simp only [wy_rt, wy_rw]
    unfold wy_sv
    by_cases h22 : P 22 r = -1
    · rw [if_pos h22, if_pos h22]
      refine ⟨_, rfl, ?_, ?_, ?_, wy_f2_s (fun _ _ _ => rfl) (by omega), wy_ch_f2 hch fun j => wy_set_ne (by omega)⟩
      · rw [wy_set_ne (by omega)]; omega
      · rw [wy_set_at rfl rfl]
      · rw [wy_set_ne (by omega)]; omega
    · have hS := hI.2.2.2.2.2.2.2.1 r h22
      have hps := hv.2.2.1 (P 22 r) (by omega) hS.1
      have hx := wy_ch_lt (P := P) (by omega) hch (x := P 22 r) (by omega)
      rw [if_neg h22, if_neg h22]
      have hcv := wy_x_chosen (g := g) hI hR1 hr (x := P 22 r) (c := P 28 r) (by omega) (by omega) (by rw [wy_set_ne (by omega)]; exact hx.1) hx.2
      rw [wy_bd hcv]
      refine ⟨_, rfl, ?_, ?_, ?_, wy_f2_s (wy_f2_s (fun _ _ _ => rfl) (by omega)) (by omega), wy_ch_f2 hch fun j => by rw [wy_set_ne (by omega), wy_set_ne (by omega)]⟩
      · rw [wy_set_ne (by omega), wy_set_ne (by omega)]; omega
      · rw [wy_set_ne (by omega), wy_set_at rfl rfl]
      · rw [wy_set_at rfl rfl, wy_set_ne (by omega)]
  | d + 1, n + 1, s, g, S, hd, hn, hR, hpf, hch => by
    have b13 := wy_b13 hI r
    have hs : (s : Int) < P 13 r := by omega
    have hs3 : s < 3 := by omega
    have hos := hv.1.1 s hs3
    have hps := (hv.2.1 s hs).2
    have hws := hv.2.2.2 s hs
    have hqo := (hpf.1 s hs).1
    have hqw := (hpf.1 s hs).2
    have s14 := wy_c14 hR hr (j := (o s).toNat) (by omega)
    have b14 := wy_b14 hI (3 * r + (o s).toNat)
    have et : (P 14 (3 * r + (o s).toNat)).toNat = wy_tb P r (o s) := rfl
    have ht := @wy_tb_lt P r hI (o s)
    have b2 := wy_b2 hI (wy_tb P r (o s))
    have w1 : wq_w (-1) = -1 := rfl
    -- the loop over rows
    have loop : ∀ (wanted : Int) (S0 : wq_St), (w s ≠ -1 → wanted = wy_wa P r o s g (wy_uo P r o s (w s) (P 15 r).toNat).toNat) → wq_w wanted = wanted → wy_f2 S S0 → wy_ch P o s S0 g → ∃ S', j_X6_takeStep_72 (f_X6_takeStep n) (199 + 9 * r) q (s : Int) (o s) (6 + 48 * wy_tb P r (o s)) (w s) wanted S0 = some (0, S') ∧ S' 280 2 = S0 280 2 + (if w s = -1 then wy_ct P (wy_tb P r (o s)) (wy_is P r o s) else wy_cw P (wy_tb P r (o s)) (w s).toNat wanted (wy_is P r o s)) + wy_su (fun i => if wy_gg P r o s g i then wy_rt P r o w d (s + 1) (wy_gu g (o s) i) else 0) (wy_is P r o s) ∧ S' 280 3 = S0 280 3 + wy_su (fun i => if wy_gg P r o s g i then wy_rw (fun _ => 1) P r o d (s + 1) (wy_gu g (o s) i) else 0) (wy_is P r o s) ∧ S' 280 4 = S0 280 4 + wy_su (fun i => if wy_gg P r o s g i then wy_rw (wy_sv P r) P r o d (s + 1) (wy_gu g (o s) i) else 0) (wy_is P r o s) ∧ wy_f2 S S' ∧ wy_ch P o s S' g := by
      intro wanted S0 hwan hww hf0 hch0
      unfold j_X6_takeStep_72
      refine wy_up (fun n' i (S1 : wq_St) => ∃ S', l_X6_takeStep_75 (f_X6_takeStep n) (199 + 9 * r) q (s : Int) (o s) (6 + 48 * wy_tb P r (o s)) (w s) wanted (fun S15 => some (0, S15)) n' (i : Int) S1 = some (0, S') ∧ S' 280 2 = S0 280 2 + (if w s = -1 then wy_ct P (wy_tb P r (o s)) (wy_is P r o s) else wy_cw P (wy_tb P r (o s)) (w s).toNat wanted (wy_is P r o s)) + wy_su (fun i => if wy_gg P r o s g i then wy_rt P r o w d (s + 1) (wy_gu g (o s) i) else 0) (wy_is P r o s) ∧ S' 280 3 = S0 280 3 + wy_su (fun i => if wy_gg P r o s g i then wy_rw (fun _ => 1) P r o d (s + 1) (wy_gu g (o s) i) else 0) (wy_is P r o s) ∧ S' 280 4 = S0 280 4 + wy_su (fun i => if wy_gg P r o s g i then wy_rw (wy_sv P r) P r o d (s + 1) (wy_gu g (o s) i) else 0) (wy_is P r o s) ∧ wy_f2 S S' ∧ wy_ch P o s S' g) (wy_is P r o s) (fun i S1 => S1 280 2 = S0 280 2 + (if w s = -1 then wy_ct P (wy_tb P r (o s)) i else wy_cw P (wy_tb P r (o s)) (w s).toNat wanted i) + wy_su (fun i => if wy_gg P r o s g i then wy_rt P r o w d (s + 1) (wy_gu g (o s) i) else 0) i ∧ S1 280 3 = S0 280 3 + wy_su (fun i => if wy_gg P r o s g i then wy_rw (fun _ => 1) P r o d (s + 1) (wy_gu g (o s) i) else 0) i ∧ S1 280 4 = S0 280 4 + wy_su (fun i => if wy_gg P r o s g i then wy_rw (wy_sv P r) P r o d (s + 1) (wy_gu g (o s) i) else 0) i ∧ wy_f2 S S1 ∧ wy_ch P o s S1 g) ?_ ?_ wq_fu 0 S0 (by omega) (wy_fu' (by unfold wy_is; omega)) ⟨?_, ?_, ?_, hf0, hch0⟩
      · intro n' i S1 hi ⟨h2, h3, h4, hf1, hch1⟩ ih
        have hR1 := wy_f2_R hR hf1
        have hpf1 := wy_f2_pf hq hpf hf1
        have hi40 : i < 40 := by unfold wy_is at hi; omega
        have hii : (i : Int) < P 2 (wy_tb P r (o s)) := by unfold wy_is at hi; omega
        have b3 := wy_b3 hI (40 * wy_tb P r (o s) + i)
        have e : ((i : Int) + 1) = ((i + 1 : Nat) : Int) := by omega
        rw [l_X6_takeStep_75_s]
        unfold b_X6_takeStep_75
        rw [wy_c2 hR1 ht, wq_w_id (x := P 2 (wy_tb P r (o s))) (by omega) (by omega), wq_w_id (x := (i : Int)) (by omega) (by omega), if_neg (by omega), wy_ix (by omega) (by omega) (by omega), Int.toNat_natCast, wy_c3 hR1 ht hi40, wq_w_id (x := P 3 (40 * wy_tb P r (o s) + i)) (by omega) (by omega), w1, wq_w_id (x := w s) (by omega) (by omega), e]
        -- a row that is visited
        have visit : P 3 (40 * wy_tb P r (o s) + i) ≠ 0 → (w s ≠ -1 → wy_va P (wy_tb P r (o s)) (w s).toNat i = wanted) → ∃ S', j_X6_takeStep_121 (f_X6_takeStep n) (fun S15 => some (0, S15)) (l_X6_takeStep_75 (f_X6_takeStep n) (199 + 9 * r) q (s : Int) (o s) (6 + 48 * wy_tb P r (o s)) (w s) wanted (fun S15 => some (0, S15)) n') (199 + 9 * r) q (s : Int) (o s) (6 + 48 * wy_tb P r (o s)) (w s) wanted (i : Int) S1 = some (0, S') ∧ S' 280 2 = S0 280 2 + (if w s = -1 then wy_ct P (wy_tb P r (o s)) (wy_is P r o s) else wy_cw P (wy_tb P r (o s)) (w s).toNat wanted (wy_is P r o s)) + wy_su (fun i => if wy_gg P r o s g i then wy_rt P r o w d (s + 1) (wy_gu g (o s) i) else 0) (wy_is P r o s) ∧ S' 280 3 = S0 280 3 + wy_su (fun i => if wy_gg P r o s g i then wy_rw (fun _ => 1) P r o d (s + 1) (wy_gu g (o s) i) else 0) (wy_is P r o s) ∧ S' 280 4 = S0 280 4 + wy_su (fun i => if wy_gg P r o s g i then wy_rw (wy_sv P r) P r o d (s + 1) (wy_gu g (o s) i) else 0) (wy_is P r o s) ∧ wy_f2 S S' ∧ wy_ch P o s S' g := by
          intro h0 hval
          unfold j_X6_takeStep_121
          rw [wy_lt, wy_ix (by omega) (by omega) (by omega), wy_lt]
          have hf8 : wy_f2 S (wq_set (wq_set S1 280 2 (S1 280 2 + 1)) 281 (o s).toNat (i : Int)) := wy_f2_s (wy_f2_s hf1 (by omega)) (by omega)
          have hch8 : wy_ch P o (s + 1) (wq_set (wq_set S1 280 2 (S1 280 2 + 1)) 281 (o s).toNat (i : Int)) (wy_gu g (o s) i) := by
            intro j hj
            by_cases ej : j = s
            · subst ej
              rw [wy_set_at rfl rfl, wy_gu_at]
              exact ⟨rfl, hi40⟩
            · have hj1 := hv.2.1 j (by omega)
              have hj2 := hv.1.1 j (by omega)
              have hjs : o j ≠ o s := fun e => by
                rw [e, hps] at hj1
                omega
              have h := hch1 j (by omega)
              rw [wy_set_ne (by omega), wy_set_ne (by omega), wy_gu_ne (by omega)]
              exact h
          have c2 : wq_set (wq_set S1 280 2 (S1 280 2 + 1)) 281 (o s).toNat (i : Int) 280 2 = S1 280 2 + 1 := by rw [wy_set_ne (by omega), wy_set_at rfl rfl]
          have c3 : wq_set (wq_set S1 280 2 (S1 280 2 + 1)) 281 (o s).toNat (i : Int) 280 3 = S1 280 3 := by rw [wy_set_ne (by omega), wy_set_ne (by omega)]
          have c4 : wq_set (wq_set S1 280 2 (S1 280 2 + 1)) 281 (o s).toNat (i : Int) 280 4 = S1 280 4 := by rw [wy_set_ne (by omega), wy_set_ne (by omega)]
          have c5 : ∀ j, (wq_set (wq_set S1 280 2 (S1 280 2 + 1)) 281 (o s).toNat (i : Int)) 281 j = if j = (o s).toNat then (i : Int) else S1 281 j := fun j => by
            by_cases ej : j = (o s).toNat
            · rw [if_pos ej, wy_set_at rfl ej]
            · rw [if_neg ej, wy_set_ne (by omega), wy_set_ne (by omega)]
          generalize wq_set (wq_set S1 280 2 (S1 280 2 + 1)) 281 (o s).toNat (i : Int) = S8 at *
          have hR8 := wy_f2_R hR hf8
          have hpf8 := wy_f2_pf hq hpf hf8
          have hsp8 := wy_pf_sp hI hR8 hr hv hpf8 hs
          rw [wy_bd (wy_x_hold hI hR8 hr hs3 hsp8 hch8)]
          have keepch : ∀ S9 : wq_St, (∀ j, j < s + 1 → S9 281 (o j).toNat = ((wy_gu g (o s) i) (o j).toNat : Int)) → wy_ch P o s S9 g := fun S9 h9 j hj => by
            have hj1 := hv.2.1 j (by omega)
            have hj2 := hv.1.1 j (by omega)
            have hjs : o j ≠ o s := fun e => by
              rw [e, hps] at hj1
              omega
            have h := h9 j (by omega)
            rw [wy_gu_ne (by omega)] at h
            exact ⟨h, (hch1 j hj).2⟩
          have cnt : (if w s = -1 then wy_ct P (wy_tb P r (o s)) (i + 1) else wy_cw P (wy_tb P r (o s)) (w s).toNat wanted (i + 1)) = (if w s = -1 then wy_ct P (wy_tb P r (o s)) i else wy_cw P (wy_tb P r (o s)) (w s).toNat wanted i) + 1 := by
            by_cases hw1 : w s = -1
            · rw [if_pos hw1, if_pos hw1]
              simp only [wy_ct]
              rw [if_neg h0]
            · rw [if_neg hw1, if_neg hw1]
              simp only [wy_cw]
              rw [if_pos ⟨h0, hval hw1⟩]
          by_cases hha : wy_ha P r o s (wy_gu g (o s) i) (P 15 r).toNat = true
          · rw [if_pos hha, if_neg (by decide)]
            have hgg : wy_gg P r o s g i := ⟨h0, hha⟩
            obtain ⟨S9, e9, z2, z3, z4, hf9, hch9⟩ := wy_x_step hI hr hv hq d n (s + 1) (wy_gu g (o s) i) S8 (by omega) (by omega) hR8 hpf8 hch8
            have es : ((s : Int) + 1) = ((s + 1 : Nat) : Int) := by omega
            rw [es, wy_bd e9, e]
            refine ih S9 ⟨?_, ?_, ?_, wy_f2_t hf8 hf9, keepch S9 fun j hj => (hch9 j hj).1⟩
            · rw [z2, c2, h2, cnt]
              simp only [wy_su]
              rw [if_pos hgg]
              omega
            · rw [z3, c3, h3]
              simp only [wy_su]
              rw [if_pos hgg]
              omega
            · rw [z4, c4, h4]
              simp only [wy_su]
              rw [if_pos hgg]
              omega
          · rw [if_neg hha, if_pos wq_w_0, e]
            have hgg : ¬wy_gg P r o s g i := fun h => hha h.2
            refine ih S8 ⟨?_, ?_, ?_, hf8, keepch S8 fun j hj => (hch8 j hj).1⟩
            · rw [c2, h2, cnt]
              simp only [wy_su]
              rw [if_neg hgg]
              omega
            · rw [c3, h3]
              simp only [wy_su]
              rw [if_neg hgg]
              omega
            · rw [c4, h4]
              simp only [wy_su]
              rw [if_neg hgg]
              omega
        have pass : ¬wy_gg P r o s g i → (P 3 (40 * wy_tb P r (o s) + i) = 0 ∨ (w s ≠ -1 ∧ wy_va P (wy_tb P r (o s)) (w s).toNat i ≠ wanted)) → ∃ S', l_X6_takeStep_75 (f_X6_takeStep n) (199 + 9 * r) q (s : Int) (o s) (6 + 48 * wy_tb P r (o s)) (w s) wanted (fun S15 => some (0, S15)) n' ((i + 1 : Nat) : Int) S1 = some (0, S') ∧ S' 280 2 = S0 280 2 + (if w s = -1 then wy_ct P (wy_tb P r (o s)) (wy_is P r o s) else wy_cw P (wy_tb P r (o s)) (w s).toNat wanted (wy_is P r o s)) + wy_su (fun i => if wy_gg P r o s g i then wy_rt P r o w d (s + 1) (wy_gu g (o s) i) else 0) (wy_is P r o s) ∧ S' 280 3 = S0 280 3 + wy_su (fun i => if wy_gg P r o s g i then wy_rw (fun _ => 1) P r o d (s + 1) (wy_gu g (o s) i) else 0) (wy_is P r o s) ∧ S' 280 4 = S0 280 4 + wy_su (fun i => if wy_gg P r o s g i then wy_rw (wy_sv P r) P r o d (s + 1) (wy_gu g (o s) i) else 0) (wy_is P r o s) ∧ wy_f2 S S' ∧ wy_ch P o s S' g := by
          intro hgg hno
          refine ih S1 ⟨?_, ?_, ?_, hf1, hch1⟩
          · rw [h2]
            simp only [wy_su, wy_ct, wy_cw]
            rw [if_neg hgg]
            by_cases hw1 : w s = -1
            · rw [if_pos hw1, if_pos hw1, if_pos (by rcases hno with h | h; exact h; exact absurd hw1 h.1)]
              omega
            · rw [if_neg hw1, if_neg hw1, if_neg (fun h => by rcases hno with h' | h'; exact h.1 h'; exact h'.2 h.2)]
              omega
          · rw [h3]
            simp only [wy_su]
            rw [if_neg hgg]
            omega
          · rw [h4]
            simp only [wy_su]
            rw [if_neg hgg]
            omega
        by_cases h0 : P 3 (40 * wy_tb P r (o s) + i) = 0
        · rw [if_pos h0]
          exact pass (fun h => h.1 h0) (Or.inl h0)
        · rw [if_neg h0]
          by_cases hw1 : w s = -1
          · rw [if_pos hw1]
            exact visit h0 fun h => absurd hw1 h
          · have c4 := wy_c4 hR1 ht hi40 (c := (w s).toNat) (by omega)
            have b4 : 0 ≤ wy_va P (wy_tb P r (o s)) (w s).toNat i ∧ wy_va P (wy_tb P r (o s)) (w s).toNat i ≤ 999 := wy_b4 hI _
            rw [if_neg hw1, wy_ix (by omega) (by omega) (by omega), Int.toNat_natCast, wy_ix (by omega) (by omega) (by omega), c4]
            rw [show P 4 (3 * (40 * wy_tb P r (o s) + i) + (w s).toNat) = wy_va P (wy_tb P r (o s)) (w s).toNat i from rfl, hww, wq_w_id (by omega) (by omega)]
            by_cases hval : wy_va P (wy_tb P r (o s)) (w s).toNat i = wanted
            · rw [if_pos hval]
              exact visit h0 fun _ => hval
            · rw [if_neg hval]
              exact pass (fun h => hval (by rw [hwan hw1]; exact wy_use_val hI hv hs hw1 h.2)) (Or.inr ⟨hw1, hval⟩)
      · intro n' S1 ⟨h2, h3, h4, hf1, hch1⟩
        have hR1 := wy_f2_R hR hf1
        rw [l_X6_takeStep_75_s]
        unfold b_X6_takeStep_75
        rw [wy_c2 hR1 ht, wq_w_id (x := P 2 (wy_tb P r (o s))) (by omega) (by omega), wq_w_id (x := ((wy_is P r o s : Nat) : Int)) (by unfold wy_is; omega) (by unfold wy_is; omega), if_pos (by unfold wy_is; omega)]
        exact ⟨S1, rfl, h2, h3, h4, hf1, hch1⟩
      · simp only [wy_su, wy_ct, wy_cw]
        split <;> omega
      · simp only [wy_su]
        omega
      · simp only [wy_su]
        omega
    unfold f_X6_takeStep fb_X6_takeStep
    simp only [wy_rt, wy_rw]
    rw [wy_c13 hR hr, wq_w_id (x := (s : Int)) (by omega) (by omega), wq_w_id (x := P 13 r) (by omega) (by omega), if_pos hs, wy_ix (by omega) (by omega) (by omega), Int.toNat_natCast, hqo, wy_ix (by omega) (by omega) (by omega), s14, wy_ix (by omega) (by omega) (by omega), et, wy_ix (by omega) (by omega) (by omega), Int.toNat_natCast, hqw, w1, wq_w_id (x := w s) (by omega) (by omega)]
    unfold wy_mi
    by_cases hw1 : w s = -1
    · rw [if_pos hw1, if_pos hw1]
      obtain ⟨S', e1, z2, z3, z4, hf, hc⟩ := loop (-1) S (fun h => absurd hw1 h) rfl (fun _ _ _ => rfl) hch
      rw [if_pos hw1] at z2
      exact ⟨S', e1, by omega, z3, z4, hf, hc⟩
    · have hwa := wy_x_wanted hI hR hr hv hpf hs hw1 hch
      rw [if_neg hw1, if_neg hw1, wy_bd hwa, wy_lt]
      have hwb : wq_w (wy_wa P r o s g (wy_uo P r o s (w s) (P 15 r).toNat).toNat) = wy_wa P r o s g (wy_uo P r o s (w s) (P 15 r).toNat).toNat := by
        unfold wy_wa
        have b19 := wy_b19 hI (6 * r + (wy_uo P r o s (w s) (P 15 r).toNat).toNat)
        have v1 := @wy_gv_b P r g hI (P 17 (6 * r + (wy_uo P r o s (w s) (P 15 r).toNat).toNat)) (P 18 (6 * r + (wy_uo P r o s (w s) (P 15 r).toNat).toNat))
        have v2 := @wy_gv_b P r g hI (P 20 (6 * r + (wy_uo P r o s (w s) (P 15 r).toNat).toNat)) (P 21 (6 * r + (wy_uo P r o s (w s) (P 15 r).toNat).toNat))
        split
        · exact wq_w_id (by omega) (by omega)
        · split
          · exact wq_w_id (by omega) (by omega)
          · exact wq_w_id (by omega) (by omega)
      obtain ⟨S', e1, z2, z3, z4, hf, hc⟩ := loop _ (wq_set S 280 2 (S 280 2 + 1)) (fun _ => rfl) hwb (wy_f2_s (fun _ _ _ => rfl) (by omega)) (wy_ch_f2 hch fun j => wy_set_ne (by omega))
      rw [if_neg hw1, wy_set_at rfl rfl] at z2
      rw [wy_set_ne (by omega)] at z3 z4
      exact ⟨S', e1, by omega, z3, z4, hf, hc⟩
end
end
section
/-! a run as a whole; the model's pieces of it -/
def wy_g0 : Nat → Nat := fun _ => 0
def wy_tk (P : wq_St) (r : Nat) (o w : Nat → Int) : Int := wy_rt P r o w (P 13 r).toNat 0 wy_g0
def wy_fn (f : (Nat → Nat) → Int) (P : wq_St) (r : Nat) (o : Nat → Int) : Int := if P 13 r ≤ 0 then 0 else wy_rw f P r o (P 13 r).toNat 0 wy_g0
section
variable {P S M : wq_St} {r q s : Nat} {o w : Nat → Int} {g : Nat → Nat}
theorem wy_x_go (hI : wy_iv P) (hR : wy_R wy_co S P) (hr : r < 8) (hv : 1 ≤ P 13 r → wy_vp P r o w) (hq : q + 3 < 280) (hpf : 1 ≤ P 13 r → wy_pf P r q S o w) : ∃ S', f_X6_goThrough (199 + 9 * r) q S = some (0, S') ∧ S' 280 2 = wy_tk P r o w ∧ S' 280 3 = wy_fn (fun _ => 1) P r o ∧ S' 280 4 = wy_fn (wy_sv P r) P r o ∧ wy_f2 S S' := by
  have b13 := wy_b13 hI r
  have hf3 : wy_f2 S (wq_set (wq_set (wq_set S 280 2 0) 280 3 0) 280 4 0) := wy_f2_s (wy_f2_s (wy_f2_s (fun _ _ _ => rfl) (by omega)) (by omega)) (by omega)
  have c2 : wq_set (wq_set (wq_set S 280 2 0) 280 3 0) 280 4 0 280 2 = 0 := by rw [wy_set_ne (by omega), wy_set_ne (by omega), wy_set_at rfl rfl]
  have c3 : wq_set (wq_set (wq_set S 280 2 0) 280 3 0) 280 4 0 280 3 = 0 := by rw [wy_set_ne (by omega), wy_set_at rfl rfl]
  have c4 : wq_set (wq_set (wq_set S 280 2 0) 280 3 0) 280 4 0 280 4 = 0 := wy_set_at rfl rfl
  unfold f_X6_goThrough
  rw [wy_lt, wy_lt, wy_lt]
  generalize wq_set (wq_set (wq_set S 280 2 0) 280 3 0) 280 4 0 = S3 at *
  have hR3 := wy_f2_R hR hf3
  rw [wy_c13 hR3 hr, wq_w_id (by omega) (by omega)]
  unfold wy_fn wy_tk
  by_cases h0 : P 13 r ≤ 0
  · have e0 : (P 13 r).toNat = 0 := by omega
    rw [if_pos h0, if_pos h0, if_pos h0, e0]
    exact ⟨S3, rfl, c2, c3, c4, hf3⟩
  · rw [if_neg h0, if_neg h0, if_neg h0]
    obtain ⟨S', e1, z2, z3, z4, hf, -⟩ := wy_x_step hI hr (hv (by omega)) hq (P 13 r).toNat wq_dp 0 wy_g0 S3 (by omega) (by unfold wq_dp; omega) hR3 (wy_f2_pf hq (hpf (by omega)) hf3) (fun j hj => by omega)
    have e1' : f_X6_takeStep wq_dp (199 + 9 * r) q 0 S3 = some (0, S') := e1
    rw [wy_bd e1']
    exact ⟨S', rfl, by omega, by omega, by omega, wy_f2_t hf3 hf⟩
/-- the model's picks of the steps ahead of s -/
def wy_cm (o : Nat → Int) (s : Nat) (M : wq_St) (g : Nat → Nat) : Prop := ∀ j : Nat, j < s → M 31 j = (g (o j).toNat : Int) ∧ g (o j).toNat < 40
theorem wy_cm_x (hs : s ≤ 3) (hch : wy_cm o s M g) {x : Int} (hx : wy_ps o x < (s : Int)) : M 31 (wy_ps o x).toNat = (g x.toNat : Int) ∧ g x.toNat < 40 := by
  have hb := wy_ps_b o x
  have h := @wy_ps_o o x (wy_ps o x).toNat (by omega) (by omega)
  have h2 := hch (wy_ps o x).toNat (by omega)
  rw [h] at h2
  exact h2
theorem wy_m_picked (hI : wy_iv P) (hM : wy_M wy_co M P) (hp : wy_pm o) (h27 : ∀ j, j < 3 → M 27 j = o j) (hr : r < 8) {x c : Int} (hx : 0 ≤ x ∧ x ≤ 2) (hc : 0 ≤ c ∧ c ≤ 2) (hg : M 31 (wy_ps o x).toNat = (g x.toNat : Int)) (hb : g x.toNat < 40) : f_X9_pickedAt (r : Int) x c M = some (wy_gv P r g x c, M) := by
  have ht := @wy_tb_lt P r hI x
  have b14 := wy_b14 hI (3 * r + x.toNat)
  have hps := wy_ps_b o x
  have hps3 := hp.2 x hx.1 hx.2
  have e14 : M 14 (3 * r + x.toNat) = ((wy_tb P r x : Nat) : Int) := by
    rw [wy_m hM (by omega)]
    unfold wy_tb
    omega
  have en : (3 * (r : Int) + x).toNat = 3 * r + x.toNat := by omega
  obtain ⟨c', hc'⟩ : ∃ c' : Nat, c = (c' : Int) := ⟨c.toNat, by omega⟩
  subst hc'
  unfold f_X9_pickedAt
  rw [wy_ix (by omega) (by omega) (by omega), en, wy_bd (wy_m_stepOf hp h27 hx.1 hx.2), wy_ix (by omega) (by omega) (by omega), e14, hg, wy_bd (wy_m_valueAt (P := P) (fun j => wy_m hM (by omega)) ht hb (by omega))]
  unfold wy_gv
  rw [Int.toNat_natCast]
theorem wy_m_holds (hI : wy_iv P) (hM : wy_M wy_co M P) (hp : wy_pm o) (h27 : ∀ j, j < 3 → M 27 j = o j) (hr : r < 8) (hs : s < 3) (hch : wy_cm o (s + 1) M g) {k : Nat} (hk : k < 6) (ha : wy_as P r o s k) : f_X9_holds (r : Int) (6 * (r : Int) + (k : Int)) M = some ((if wy_ho P r g k then 1 else 0), M) := by
  have b16 := wy_b16 hI (6 * r + k)
  have b17 := wy_b17 hI (6 * r + k)
  have b18 := wy_b18 hI (6 * r + k)
  have b19 := wy_b19 hI (6 * r + k)
  have b20 := wy_b20 hI (6 * r + k)
  have b21 := wy_b21 hI (6 * r + k)
  have e16 : M 16 (6 * r + k) = P 16 (6 * r + k) := wy_m hM (by omega)
  have e17 : M 17 (6 * r + k) = P 17 (6 * r + k) := wy_m hM (by omega)
  have e18 : M 18 (6 * r + k) = P 18 (6 * r + k) := wy_m hM (by omega)
  have e19 : M 19 (6 * r + k) = P 19 (6 * r + k) := wy_m hM (by omega)
  have e20 : M 20 (6 * r + k) = P 20 (6 * r + k) := wy_m hM (by omega)
  have e21 : M 21 (6 * r + k) = P 21 (6 * r + k) := wy_m hM (by omega)
  have hle := wy_as_le ha
  have h1 := wy_cm_x (o := o) (by omega) hch (x := P 17 (6 * r + k)) (by omega)
  have hv1 := @wy_gv_b P r g hI (P 17 (6 * r + k)) (P 18 (6 * r + k))
  have hv2 := @wy_gv_b P r g hI (P 20 (6 * r + k)) (P 21 (6 * r + k))
  have w1 : wq_w 1 = 1 := rfl
  have w2 : wq_w 2 = 2 := rfl
  have en : (6 * (r : Int) + (k : Int)).toNat = 6 * r + k := by omega
  have ix48 : ∀ {α : Type} {f : Nat → Option α}, wq_ix (6 * (r : Int) + (k : Int)) 48 f = f (6 * r + k) := fun {α f} => by rw [wy_ix (by omega) (by omega) (by omega), en]
  unfold f_X9_holds
  rw [ix48, ix48, e17, e18, wy_bd (wy_m_picked hI hM hp h27 hr ⟨b17.1, b17.2⟩ ⟨b18.1, b18.2⟩ h1.1 h1.2), ix48, e16, wq_w_id (x := P 16 (6 * r + k)) (by omega) (by omega)]
  by_cases k0 : P 16 (6 * r + k) = 0
  · rw [if_pos k0, ix48, e19, wq_w_id (by omega) (by omega), wq_w_id (by omega) (by omega)]
    by_cases e : wy_gv P r g (P 17 (6 * r + k)) (P 18 (6 * r + k)) = P 19 (6 * r + k)
    · rw [if_pos e, if_pos ⟨fun _ => e, fun h => by omega, fun h => by omega, fun h => by omega⟩]
    · rw [if_neg e, if_neg (fun h => e (h.1 k0))]
  · rw [if_neg k0, ix48, e16, wq_w_id (x := P 16 (6 * r + k)) (by omega) (by omega), w1]
    by_cases k1 : P 16 (6 * r + k) = 1
    · rw [if_pos k1, ix48, e19, wq_w_id (by omega) (by omega), wq_w_id (by omega) (by omega)]
      by_cases e : P 19 (6 * r + k) ≤ wy_gv P r g (P 17 (6 * r + k)) (P 18 (6 * r + k))
      · rw [if_pos e, if_neg (fun h => by have := h.2.1 k1; omega)]
      · rw [if_neg e, if_pos ⟨fun h => by omega, fun h => by omega, fun h => by omega, fun h => by omega⟩]
    · rw [if_neg k1, ix48, e16, wq_w_id (x := P 16 (6 * r + k)) (by omega) (by omega), w2]
      by_cases k2 : P 16 (6 * r + k) = 2
      · rw [if_pos k2, ix48, e19, wq_w_id (by omega) (by omega), wq_w_id (by omega) (by omega)]
        by_cases e : wy_gv P r g (P 17 (6 * r + k)) (P 18 (6 * r + k)) ≤ P 19 (6 * r + k)
        · rw [if_pos e, if_neg (fun h => by have := h.2.2.1 k2; omega)]
        · rw [if_neg e, if_pos ⟨fun h => by omega, fun h => by omega, fun h => by omega, fun h => by omega⟩]
      · have k3 : P 16 (6 * r + k) = 3 := by omega
        have hle2 := hle.2 k3
        have h2 := wy_cm_x (o := o) (by omega) hch (x := P 20 (6 * r + k)) (by omega)
        rw [if_neg k2, ix48, ix48, e20, e21, wy_bd (wy_m_picked hI hM hp h27 hr ⟨b20.1, b20.2⟩ ⟨b21.1, b21.2⟩ h2.1 h2.2), wq_w_id (by omega) (by omega), wq_w_id (by omega) (by omega)]
        by_cases e : wy_gv P r g (P 17 (6 * r + k)) (P 18 (6 * r + k)) = wy_gv P r g (P 20 (6 * r + k)) (P 21 (6 * r + k))
        · rw [if_pos e, if_pos ⟨fun h => by omega, fun h => by omega, fun h => by omega, fun _ => e⟩]
        · rw [if_neg e, if_neg (fun h => e (h.2.2.2 k3))]
theorem wy_m_holdsAt (hI : wy_iv P) (hM : wy_M wy_co M P) (hp : wy_pm o) (h27 : ∀ j, j < 3 → M 27 j = o j) (hr : r < 8) (hs : s < 3) (hch : wy_cm o (s + 1) M g) : f_X9_holdsAt (r : Int) (s : Int) M = some ((if wy_ha P r o s g (P 15 r).toNat = true then 1 else 0), M) := by
  have b15 := wy_b15 hI r
  have e15 : M 15 r = P 15 r := wy_m hM (by omega)
  unfold f_X9_holdsAt
  have key := wy_up (fun n i (_ : Unit) => l_X9_holdsAt_8 (r : Int) (s : Int) (fun u6 S7 => wq_gd (u6 = 0 ∨ u6 = 1) <| some (u6, S7)) n (if wy_ha P r o s g i = true then 1 else 0) (6 * (r : Int) + (i : Int)) M = some ((if wy_ha P r o s g (P 15 r).toNat = true then 1 else 0), M)) (P 15 r).toNat (fun _ _ => True) ?_ ?_ wq_fu 0 () (by omega) (wy_fu' (by omega)) trivial
  · have e0 : (6 * (r : Int) + ((0 : Nat) : Int)) = 6 * (r : Int) := by omega
    rw [e0] at key
    exact key
  · intro n i _ hi _ ih
    have ih := ih () trivial
    have hcs := @wy_cs_b P r o i
    have e : (6 * (r : Int) + (i : Int) + 1) = 6 * (r : Int) + ((i + 1 : Nat) : Int) := by omega
    rw [l_X9_holdsAt_8_s]
    unfold b_X9_holdsAt_8
    rw [wy_ix (by omega) (by omega) (by omega), Int.toNat_natCast, e15, wq_w_id (x := 6 * (r : Int) + P 15 r) (by omega) (by omega), wq_w_id (x := 6 * (r : Int) + (i : Int)) (by omega) (by omega), if_neg (by omega), e]
    rw [wy_ha_s] at ih
    by_cases h0 : wy_ha P r o s g i = true
    · rw [h0, Bool.true_and] at ih
      rw [if_pos h0, if_neg (by decide), wy_bd (wy_m_soc hI hM hp h27 hr (by omega)), wq_w_id (by omega) (by omega), wq_w_id (by omega) (by omega)]
      by_cases ha : wy_cs (wy_ps o) P r i = (s : Int)
      · rw [if_pos ha, wy_bd (wy_m_holds hI hM hp h27 hr hs hch (by omega) ha)]
        by_cases ho : wy_ho P r g i
        · rw [if_pos ho, if_neg (by decide)]
          rw [decide_eq_true (fun _ => ho), if_pos rfl] at ih
          exact ih
        · rw [if_neg ho, if_pos wq_w_0]
          rw [decide_eq_false (fun h => ho (h ha)), if_neg (by decide)] at ih
          exact ih
      · rw [if_neg ha]
        rw [decide_eq_true (fun h => absurd h ha), if_pos rfl] at ih
        exact ih
    · have hf : wy_ha P r o s g i = false := by simpa using h0
      rw [hf, Bool.false_and, if_neg (by decide)] at ih
      rw [if_neg h0, if_pos wq_w_0]
      exact ih
  · intro n _ _
    rw [l_X9_holdsAt_8_s]
    unfold b_X9_holdsAt_8
    rw [wy_ix (by omega) (by omega) (by omega), Int.toNat_natCast, e15, if_pos (by rw [wq_w_id (by omega) (by omega), wq_w_id (by omega) (by omega)]; omega)]
    exact wq_gd_t (by split <;> omega)
theorem wy_m_minutes (hI : wy_iv P) (hM : wy_M wy_co M P) (hv : wy_vp P r o w) (h27 : ∀ j, j < 3 → M 27 j = o j) (h28 : ∀ j, j < 3 → M 28 j = w j) (hr : r < 8) (hs : (s : Int) < P 13 r) (hch : wy_cm o s M g) : f_X9_minutesAt (r : Int) (s : Int) M = some (wy_mi P r o w s g, M) := by
  have b13 := wy_b13 hI r
  have b15 := wy_b15 hI r
  have hs3 : s < 3 := by omega
  have hp := hv.1
  have hos := hp.1 s hs3
  have hws := hv.2.2.2 s hs
  have ht := @wy_tb_lt P r hI (o s)
  have b2 := wy_b2 hI (wy_tb P r (o s))
  have b14 := wy_b14 hI (3 * r + (o s).toNat)
  have m2 : ∀ j, M 2 j = P 2 j := fun j => wy_m hM (by omega)
  have m3 : ∀ j, M 3 j = P 3 j := fun j => wy_m hM (by omega)
  have m4 : ∀ j, M 4 j = P 4 j := fun j => wy_m hM (by omega)
  have e14 : M 14 (3 * r + (o s).toNat) = ((wy_tb P r (o s) : Nat) : Int) := by
    rw [wy_m hM (by omega)]
    unfold wy_tb
    omega
  have en : (3 * (r : Int) + o s).toNat = 3 * r + (o s).toNat := by omega
  have w1 : wq_w (-1) = -1 := rfl
  have q28 := h28 s hs3
  have q27 := h27 s hs3
  have ixs : ∀ {α : Type} {f : Nat → Option α}, wq_ix (s : Int) 3 f = f s := fun {α f} => by rw [wy_ix (by omega) (by omega) (by omega), Int.toNat_natCast]
  unfold f_X9_minutesAt wy_mi
  rw [ixs, q27, wy_ix (by omega) (by omega) (by omega), en, e14, ixs, q28, w1, wq_w_id (x := w s) (by omega) (by omega)]
  by_cases hw1 : w s = -1
  · rw [if_pos hw1, if_pos hw1, wy_bd (wy_m_rowsOf hI m2 m3 ht)]
  · rw [if_neg hw1, if_neg hw1, ixs, q28, wy_bd (wy_m_useOf hI hM hp h27 hr hs3 (by omega)), if_neg (hws.2.2 hw1)]
    obtain ⟨k, hk, hu, hku⟩ := wy_uo_is (hws.2.2 hw1)
    rw [hku, Int.toNat_natCast]
    have hk6 : k < 6 := by omega
    have b16 := wy_b16 hI (6 * r + k)
    have b17 := wy_b17 hI (6 * r + k)
    have b18 := wy_b18 hI (6 * r + k)
    have b19 := wy_b19 hI (6 * r + k)
    have b20 := wy_b20 hI (6 * r + k)
    have b21 := wy_b21 hI (6 * r + k)
    have e16 : M 16 (6 * r + k) = P 16 (6 * r + k) := wy_m hM (by omega)
    have e17 : M 17 (6 * r + k) = P 17 (6 * r + k) := wy_m hM (by omega)
    have e18 : M 18 (6 * r + k) = P 18 (6 * r + k) := wy_m hM (by omega)
    have e19 : M 19 (6 * r + k) = P 19 (6 * r + k) := wy_m hM (by omega)
    have e20 : M 20 (6 * r + k) = P 20 (6 * r + k) := wy_m hM (by omega)
    have e21 : M 21 (6 * r + k) = P 21 (6 * r + k) := wy_m hM (by omega)
    have hoth := hI.2.2.2.2.2.2.1 r k (by omega)
    have en6 : (6 * (r : Int) + (k : Int)).toNat = 6 * r + k := by omega
    have ix48 : ∀ {α : Type} {f : Nat → Option α}, wq_ix (6 * (r : Int) + (k : Int)) 48 f = f (6 * r + k) := fun {α f} => by rw [wy_ix (by omega) (by omega) (by omega), en6]
    -- the count
    have cnt : ∀ v : Int, 0 ≤ v ∧ v ≤ 999 → j_X9_minutesAt_123 (s : Int) ((wy_tb P r (o s) : Nat) : Int) v M = some (1 + wy_cw P (wy_tb P r (o s)) (w s).toNat v (wy_is P r o s), M) := by
      intro v hvb
      unfold j_X9_minutesAt_123
      have key := wy_up (fun n i (_ : Unit) => l_X9_minutesAt_131 (s : Int) ((wy_tb P r (o s) : Nat) : Int) v (fun u19 S20 => some (u19, S20)) n (1 + wy_cw P (wy_tb P r (o s)) (w s).toNat v i) (i : Int) M = some (1 + wy_cw P (wy_tb P r (o s)) (w s).toNat v (wy_is P r o s), M)) (wy_is P r o s) (fun _ _ => True) ?_ ?_ wq_fu 0 () (by omega) (wy_fu' (by unfold wy_is; omega)) trivial
      · exact key
      · intro n i _ hi _ ih
        have ih := ih () trivial
        have hi40 : i < 40 := by unfold wy_is at hi; omega
        have hii : (i : Int) < P 2 (wy_tb P r (o s)) := by unfold wy_is at hi; omega
        have b3 := wy_b3 hI (40 * wy_tb P r (o s) + i)
        have b4 : 0 ≤ wy_va P (wy_tb P r (o s)) (w s).toNat i ∧ wy_va P (wy_tb P r (o s)) (w s).toNat i ≤ 999 := wy_b4 hI _
        have e : ((i : Int) + 1) = ((i + 1 : Nat) : Int) := by omega
        have hwc : w s = (((w s).toNat : Nat) : Int) := by omega
        rw [l_X9_minutesAt_131_s]
        unfold b_X9_minutesAt_131
        rw [wy_ix (by omega) (by omega) (by omega), Int.toNat_natCast, m2, wq_w_id (x := P 2 (wy_tb P r (o s))) (by omega) (by omega), wq_w_id (x := (i : Int)) (by omega) (by omega), if_neg (by omega), wy_ix (by omega) (by omega) (by omega), wy_n40, m3, wq_w_id (x := P 3 (40 * wy_tb P r (o s) + i)) (by omega) (by omega), e]
        simp only [wy_cw] at ih
        by_cases h0 : P 3 (40 * wy_tb P r (o s) + i) = 0
        · rw [if_neg (fun h => h.1 h0)] at ih
          rw [if_pos h0, Int.add_assoc]
          exact ih
        · have hval := wy_m_valueAt (P := P) m4 ht hi40 (c := (w s).toNat) (by omega)
          rw [← hwc] at hval
          rw [if_neg h0, ixs, q28, wy_bd hval, wq_w_id (by omega) (by omega), wq_w_id (by omega) (by omega)]
          by_cases hva : wy_va P (wy_tb P r (o s)) (w s).toNat i = v
          · rw [if_pos ⟨h0, hva⟩] at ih
            rw [if_pos hva, Int.add_assoc]
            exact ih
          · rw [if_neg (fun h => hva h.2)] at ih
            rw [if_neg hva, Int.add_assoc]
            exact ih
      · intro n _ _
        rw [l_X9_minutesAt_131_s]
        unfold b_X9_minutesAt_131
        rw [wy_ix (by omega) (by omega) (by omega), Int.toNat_natCast, m2, if_pos (by rw [wq_w_id (by omega) (by omega), wq_w_id (by unfold wy_is; omega) (by unfold wy_is; omega)]; unfold wy_is; omega)]
    have hv1 := @wy_gv_b P r g hI (P 17 (6 * r + k)) (P 18 (6 * r + k))
    have hv2 := @wy_gv_b P r g hI (P 20 (6 * r + k)) (P 21 (6 * r + k))
    have hle := wy_as_le hu.2.1
    unfold wy_wa
    rw [ix48, e16, wq_w_id (x := P 16 (6 * r + k)) (by omega) (by omega)]
    rcases hu.1 with k0 | k3
    · rw [if_pos k0, if_pos k0, ix48, e19]
      exact cnt _ b19
    · have n0 : ¬P 16 (6 * r + k) = 0 := by omega
      have hne := (hoth.2 k3).2
      rw [if_neg n0, if_neg n0, ix48, e17, ixs, q27, wq_w_id (by omega) (by omega), wq_w_id (by omega) (by omega)]
      by_cases e : P 17 (6 * r + k) = o s
      · have hx : wy_ps o (P 20 (6 * r + k)) < (s : Int) := by
          have h1 := hle.2 k3
          by_cases h2 : wy_ps o (P 20 (6 * r + k)) = (s : Int)
          · have := wy_ps_o hs3 h2
            omega
          · omega
        have h2 := wy_cm_x (by omega) hch hx
        rw [if_pos e, if_pos e, ix48, ix48, e20, e21, wy_bd (wy_m_picked hI hM hp h27 hr ⟨b20.1, b20.2⟩ ⟨b21.1, b21.2⟩ h2.1 h2.2)]
        exact cnt _ hv2
      · have hx : wy_ps o (P 17 (6 * r + k)) < (s : Int) := by
          have h1 := hle.1
          by_cases h2 : wy_ps o (P 17 (6 * r + k)) = (s : Int)
          · exact absurd (wy_ps_o hs3 h2).symm e
          · omega
        have h2 := wy_cm_x (by omega) hch hx
        rw [if_neg e, if_neg e, ix48, ix48, e17, e18, wy_bd (wy_m_picked hI hM hp h27 hr ⟨b17.1, b17.2⟩ ⟨b18.1, b18.2⟩ h2.1 h2.2)]
        exact cnt _ hv1
end
end
section
/-! the model's run: rows picked in turn, step by step -/
def wy_fk (M M' : wq_St) : Prop := ∀ f j, f ≠ 31 → ¬(f = 0 ∧ (j = 39 ∨ j = 40 ∨ j = 41)) → M' f j = M f j
def wy_ob : Nat → Nat
  | 0 => 1
  | d + 1 => 2 + 40 * wy_ob d
/-- the model's cells of a run at step s -/
def wy_mq (P : wq_St) (o w : Nat → Int) (s : Nat) (M : wq_St) (g : Nat → Nat) : Prop := wy_M wy_co M P ∧ (∀ j, j < 3 → M 27 j = o j) ∧ (∀ j, j < 3 → M 28 j = w j) ∧ wy_cm o s M g
/-- what goes on when a row is found good -/
def wy_kk (r : Int) (m : Int) (rec : Int → wq_St → Option (Int × wq_St)) (s : Int) (S15 : wq_St) : Option (Int × wq_St) :=
  if wq_w s = wq_w (m - 1) then
    wq_lt (wq_set S15 0 40 ((S15 0 40) + 1)) fun S20 =>
    wq_ix r 8 fun t21 =>
    if wq_w (S20 22 t21) = wq_w (-1) then
      rec s (wq_set S20 0 41 ((S20 0 41) + 0))
    else
      wq_ix r 8 fun t22 =>
      wq_ix r 8 fun t23 =>
      wq_bd (f_X9_pickedAt r (S20 22 t22) (S20 23 t23) S20) fun r24 S25 =>
      rec s (wq_set S25 0 41 ((S20 0 41) + r24))
  else
    wq_bd (f_X9_minutesAt r (s + 1) S15) fun r16 S17 =>
    wq_lt (wq_set S17 0 39 ((S15 0 39) + r16)) fun S18 =>
    wq_ix (s + 1) 3 fun t19 =>
    rec (s + 1) (wq_set S18 31 t19 (-1))
def wy_rk (P : wq_St) (r : Nat) (o w : Nat → Int) (kx : wq_St → Option (Int × wq_St)) (d s : Nat) : Prop := ∀ (g : Nat → Nat) (M : wq_St), wy_mq P o w (s + 1) M g → ∃ u M', u + 1 ≤ wy_ob d ∧ (∀ n, wy_kk (r : Int) (P 13 r) (l_X9_runs_45 (r : Int) (P 13 r) kx (n + u)) (s : Int) M = l_X9_runs_45 (r : Int) (P 13 r) kx n (s : Int) M') ∧ wy_fk M M' ∧ wy_cm o (s + 1) M' g ∧ M' 0 39 = M 0 39 + wy_rt P r o w d (s + 1) g ∧ M' 0 40 = M 0 40 + wy_rw (fun _ => 1) P r o d (s + 1) g ∧ M' 0 41 = M 0 41 + wy_rw (wy_sv P r) P r o d (s + 1) g
def wy_od (P : wq_St) (r : Nat) (o w : Nat → Int) (kx : wq_St → Option (Int × wq_St)) (d s : Nat) : Prop := ∀ (g : Nat → Nat) (k i : Nat) (M : wq_St), i + k = wy_is P r o s → wy_mq P o w s M g → M 31 s = (i : Int) - 1 →
  ∃ u M', u ≤ k * wy_ob d + 1 ∧ (∀ n, l_X9_runs_45 (r : Int) (P 13 r) kx (n + u) (s : Int) M = l_X9_runs_45 (r : Int) (P 13 r) kx n ((s : Int) + (-1)) M') ∧ wy_fk M M' ∧ wy_cm o s M' g ∧
    M' 0 39 + wy_su (fun i => if wy_gg P r o s g i then wy_rt P r o w d (s + 1) (wy_gu g (o s) i) else 0) i = M 0 39 + wy_su (fun i => if wy_gg P r o s g i then wy_rt P r o w d (s + 1) (wy_gu g (o s) i) else 0) (wy_is P r o s) ∧
    M' 0 40 + wy_su (fun i => if wy_gg P r o s g i then wy_rw (fun _ => 1) P r o d (s + 1) (wy_gu g (o s) i) else 0) i = M 0 40 + wy_su (fun i => if wy_gg P r o s g i then wy_rw (fun _ => 1) P r o d (s + 1) (wy_gu g (o s) i) else 0) (wy_is P r o s) ∧
    M' 0 41 + wy_su (fun i => if wy_gg P r o s g i then wy_rw (wy_sv P r) P r o d (s + 1) (wy_gu g (o s) i) else 0) i = M 0 41 + wy_su (fun i => if wy_gg P r o s g i then wy_rw (wy_sv P r) P r o d (s + 1) (wy_gu g (o s) i) else 0) (wy_is P r o s)
section
variable {P M : wq_St} {r q s : Nat} {o w : Nat → Int} {g : Nat → Nat} {kx : wq_St → Option (Int × wq_St)}
theorem wy_fk_t {M' M'' : wq_St} (h1 : wy_fk M M') (h2 : wy_fk M' M'') : wy_fk M M'' := fun f j a b => by rw [h2 f j a b, h1 f j a b]
theorem wy_fk_s {M' : wq_St} (h1 : wy_fk M M') {k j : Nat} {v : Int} (hk : k = 31 ∨ (k = 0 ∧ (j = 39 ∨ j = 40 ∨ j = 41))) : wy_fk M (wq_set M' k j v) := fun f i a b => by
  rw [wy_set_ne (fun e => by omega)]
  exact h1 f i a b
theorem wy_fk_q {M' : wq_St} {s' : Nat} {g' : Nat → Nat} (h : wy_mq P o w s M g) (hf : wy_fk M M') (hc : wy_cm o s' M' g') : wy_mq P o w s' M' g' := ⟨fun f i h1 h2 h3 h4 => by
  rw [hf f i (by omega) (fun e => by have := h3 e.1; omega)]
  exact h.1 f i h1 h2 h3 h4, fun j hj => by rw [hf _ _ (by omega) (by omega)]; exact h.2.1 j hj, fun j hj => by rw [hf _ _ (by omega) (by omega)]; exact h.2.2.1 j hj, hc⟩
theorem wy_rk0 (hI : wy_iv P) (hr : r < 8) (hrn : (r : Int) < P 0 28) (hv : wy_vp P r o w) (hs : (s : Int) + 1 = P 13 r) : wy_rk P r o w kx 0 s := by
  intro g M hq
  have b13 := wy_b13 hI r
  have b22 := wy_b22 hI r
  have b23 := wy_b23 hI r
  have w1 : wq_w (-1) = -1 := rfl
  have ix8 : ∀ {α : Type} {f : Nat → Option α}, wq_ix (r : Int) 8 f = f r := fun {α f} => by rw [wy_ix (by omega) (by omega) (by omega), Int.toNat_natCast]
  unfold wy_kk
  have hf20 : wy_fk M (wq_set M 0 40 (M 0 40 + 1)) := wy_fk_s (fun _ _ _ _ => rfl) (by omega)
  have hc20 : wy_cm o (s + 1) (wq_set M 0 40 (M 0 40 + 1)) g := fun j hj => by rw [wy_set_ne (by omega)]; exact hq.2.2.2 j hj
  have hq20 := wy_fk_q hq hf20 hc20
  have e22 : wq_set M 0 40 (M 0 40 + 1) 22 r = P 22 r := hq20.1 22 r (by decide) (by omega) (by omega) (fun _ => hrn)
  have e23 : wq_set M 0 40 (M 0 40 + 1) 23 r = P 23 r := wy_m hq20.1 (by omega)
  simp only [wy_rt, wy_rw]
  unfold wy_sv
  by_cases h22 : P 22 r = -1
  · rw [if_pos h22]
    refine ⟨0, wq_set (wq_set M 0 40 (M 0 40 + 1)) 0 41 (wq_set M 0 40 (M 0 40 + 1) 0 41 + 0), by decide, fun n => ?_, wy_fk_s hf20 (by omega), fun j hj => by rw [wy_set_ne (by omega)]; exact hc20 j hj, ?_, ?_, ?_⟩
    · rw [wq_w_id (x := (s : Int)) (by omega) (by omega), wq_w_id (by omega) (by omega), if_pos (by omega), wy_lt, ix8, e22, h22, if_pos rfl]
      rfl
    · rw [wy_set_ne (by omega), wy_set_ne (by omega)]; omega
    · rw [wy_set_ne (by omega), wy_set_at rfl rfl]
    · rw [wy_set_at rfl rfl, wy_set_ne (by omega)]
  · have hS := hI.2.2.2.2.2.2.2.1 r h22
    have hps := hv.2.2.1 (P 22 r) (by omega) hS.1
    have hx := wy_cm_x (o := o) (by omega) hc20 (x := P 22 r) (by omega)
    have hpk := wy_m_picked (g := g) hI hq20.1 hv.1 hq20.2.1 hr (x := P 22 r) (c := P 28 r) (by omega) (by omega) hx.1 hx.2
    rw [if_neg h22]
    refine ⟨0, wq_set (wq_set M 0 40 (M 0 40 + 1)) 0 41 (wq_set M 0 40 (M 0 40 + 1) 0 41 + wy_gv P r g (P 22 r) (P 28 r)), by decide, fun n => ?_, wy_fk_s hf20 (by omega), fun j hj => by rw [wy_set_ne (by omega)]; exact hc20 j hj, ?_, ?_, ?_⟩
    · rw [wq_w_id (x := (s : Int)) (by omega) (by omega), wq_w_id (by omega) (by omega), if_pos (by omega), wy_lt, ix8, e22, wq_w_id (x := P 22 r) (by omega) (by omega), w1, if_neg h22, ix8, ix8, e22, e23, hS.2.1, wy_bd hpk]
      rfl
    · rw [wy_set_ne (by omega), wy_set_ne (by omega)]; omega
    · rw [wy_set_ne (by omega), wy_set_at rfl rfl]
    · rw [wy_set_at rfl rfl, wy_set_ne (by omega)]
theorem wy_rk1 (hI : wy_iv P) (hr : r < 8) (hv : wy_vp P r o w) {d : Nat} (hs : (d : Int) + 1 + ((s : Int) + 1) = P 13 r) (hod : wy_od P r o w kx d (s + 1)) : wy_rk P r o w kx (d + 1) s := by
  intro g M hq
  have b13 := wy_b13 hI r
  have b2 := wy_b2 hI (wy_tb P r (o (s + 1)))
  have es : ((s : Int) + 1) = ((s + 1 : Nat) : Int) := by omega
  have hmi := wy_m_minutes hI hq.1 hv hq.2.1 hq.2.2.1 hr (s := s + 1) (by omega) hq.2.2.2
  have hf18 : wy_fk M (wq_set (wq_set M 0 39 (M 0 39 + wy_mi P r o w (s + 1) g)) 31 (s + 1) (-1)) := wy_fk_s (wy_fk_s (fun _ _ _ _ => rfl) (by omega)) (by omega)
  have hc18 : wy_cm o (s + 1) (wq_set (wq_set M 0 39 (M 0 39 + wy_mi P r o w (s + 1) g)) 31 (s + 1) (-1)) g := fun j hj => by rw [wy_set_ne (by omega), wy_set_ne (by omega)]; exact hq.2.2.2 j hj
  obtain ⟨u, M', hu, hl, hf, hc, z1, z2, z3⟩ := hod g (wy_is P r o (s + 1)) 0 _ (by omega) (wy_fk_q hq hf18 hc18) (by rw [wy_set_at rfl rfl]; rfl)
  refine ⟨u, M', ?_, fun n => ?_, wy_fk_t hf18 hf, hc, ?_, ?_, ?_⟩
  · have h40 : wy_is P r o (s + 1) ≤ 40 := by unfold wy_is; omega
    have := Nat.mul_le_mul_right (wy_ob d) h40
    simp only [wy_ob]
    omega
  · unfold wy_kk
    rw [wq_w_id (x := (s : Int)) (by omega) (by omega), wq_w_id (by omega) (by omega), if_neg (by omega), es, wy_bd hmi, wy_lt, wy_ix (by omega) (by omega) (by omega), Int.toNat_natCast, hl n]
    congr 1
    omega
  · simp only [wy_su] at z1
    simp only [wy_rt]
    rw [wy_set_ne (by omega), wy_set_at rfl rfl] at z1
    omega
  · simp only [wy_su] at z2
    simp only [wy_rw]
    rw [wy_set_ne (by omega), wy_set_ne (by omega)] at z2
    omega
  · simp only [wy_su] at z3
    simp only [wy_rw]
    rw [wy_set_ne (by omega), wy_set_ne (by omega)] at z3
    omega
end
end
section
section
variable {P M : wq_St} {r q s : Nat} {o w : Nat → Int} {g : Nat → Nat} {kx : wq_St → Option (Int × wq_St)}
theorem wy_cm_gu (hI : wy_iv P) (hv : wy_vp P r o w) (hs : (s : Int) < P 13 r) {i : Nat} (h : wy_cm o (s + 1) M (wy_gu g (o s) i)) (h0 : ∀ j, j < s → g (o j).toNat < 40) : wy_cm o s M g := fun j hj => by
  have b13 := wy_b13 hI r
  have hj1 := hv.2.1 j (by omega)
  have hj2 := hv.1.1 j (by omega)
  have hs1 := hv.2.1 s hs
  have hs2 := hv.1.1 s (by omega)
  have hjs : o j ≠ o s := fun e => by
    rw [e, hs1.2] at hj1
    omega
  have h' := h j (by omega)
  rw [wy_gu_ne (by omega)] at h'
  exact h'
theorem wy_od_k (hI : wy_iv P) (hr : r < 8) (hv : wy_vp P r o w) {d : Nat} (hs : (d : Int) + 1 + (s : Int) = P 13 r) (hrk : wy_rk P r o w kx d s) : wy_od P r o w kx d s := by
  intro g k
  have b13 := wy_b13 hI r
  have hs3 : s < 3 := by omega
  have hos := hv.1.1 s hs3
  have ht := @wy_tb_lt P r hI (o s)
  have b2 := wy_b2 hI (wy_tb P r (o s))
  have h40 : wy_is P r o s ≤ 40 := by unfold wy_is; omega
  have b14 := wy_b14 hI (3 * r + (o s).toNat)
  have en : (3 * (r : Int) + o s).toNat = 3 * r + (o s).toNat := by omega
  have ixs : ∀ {α : Type} {f : Nat → Option α}, wq_ix (s : Int) 3 f = f s := fun {α f} => by rw [wy_ix (by omega) (by omega) (by omega), Int.toNat_natCast]
  have hs1 := hv.2.1 s (by omega)
  -- the head of the loop's body
  have body : ∀ (n i : Nat) (M : wq_St), wy_mq P o w s M g → M 31 s = (i : Int) - 1 → i ≤ 40 → l_X9_runs_45 (r : Int) (P 13 r) kx (n + 1) (s : Int) M = (if (i : Int) < P 2 (wy_tb P r (o s)) then (wq_ix ((40 * ((wy_tb P r (o s) : Nat) : Int)) + (i : Int)) 160 fun t13 => if wq_w (wq_set M 31 s (i : Int) 3 t13) = 0 then l_X9_runs_45 (r : Int) (P 13 r) kx n (s : Int) (wq_set M 31 s (i : Int)) else wq_bd (f_X9_holdsAt (r : Int) (s : Int) (wq_set M 31 s (i : Int))) fun r14 S15 => if wq_w r14 = 0 then l_X9_runs_45 (r : Int) (P 13 r) kx n (s : Int) S15 else wy_kk (r : Int) (P 13 r) (l_X9_runs_45 (r : Int) (P 13 r) kx n) (s : Int) S15) else l_X9_runs_45 (r : Int) (P 13 r) kx n ((s : Int) + (-1)) (wq_set M 31 s (i : Int))) := by
    intro n i M hq h31 hi
    have q27 := hq.2.1 s hs3
    have e14 : M 14 (3 * r + (o s).toNat) = ((wy_tb P r (o s) : Nat) : Int) := by
      rw [wy_m hq.1 (by omega)]
      unfold wy_tb
      omega
    have e2 : M 2 (wy_tb P r (o s)) = P 2 (wy_tb P r (o s)) := wy_m hq.1 (by omega)
    rw [l_X9_runs_45_s]
    unfold b_X9_runs_45
    rw [wq_w_id (x := P 13 r) (by omega) (by omega), if_neg (by omega), wq_w_id (x := (s : Int)) (by omega) (by omega), if_neg (by omega), ixs, q27, wy_ix (by omega) (by omega) (by omega), en, ixs, ixs, h31, wy_lt]
    have e1 : (i : Int) - 1 + 1 = (i : Int) := by omega
    rw [e1, ixs, e14, wy_ix (by omega) (by omega) (by omega), Int.toNat_natCast, wy_set_at rfl rfl, wy_set_ne (by omega), e2, wq_w_id (x := (i : Int)) (by omega) (by omega), wq_w_id (x := P 2 (wy_tb P r (o s))) (by omega) (by omega)]
    by_cases hlt : (i : Int) < P 2 (wy_tb P r (o s))
    · rw [if_pos hlt, if_pos hlt, ixs, wy_set_at rfl rfl]
      unfold wy_kk
      rw [wq_w_id (x := (s : Int)) (by omega) (by omega)]
    · rw [if_neg hlt, if_neg hlt]
  induction k with
  | zero =>
    intro i M hik hq h31
    have hf : wy_fk M (wq_set M 31 s (i : Int)) := wy_fk_s (fun _ _ _ _ => rfl) (by omega)
    refine ⟨1, wq_set M 31 s (i : Int), by omega, fun n => ?_, hf, fun j hj => by rw [wy_set_ne (by omega)]; exact hq.2.2.2 j hj, ?_, ?_, ?_⟩
    · rw [body n i M hq h31 (by omega), if_neg (by unfold wy_is at hik; omega)]
    · rw [wy_set_ne (by omega)]
      have : i = wy_is P r o s := by omega
      rw [← this]
    · rw [wy_set_ne (by omega)]
      have : i = wy_is P r o s := by omega
      rw [← this]
    · rw [wy_set_ne (by omega)]
      have : i = wy_is P r o s := by omega
      rw [← this]
  | succ k ih =>
    intro i M hik hq h31
    have hi40 : i < 40 := by omega
    have hlt : (i : Int) < P 2 (wy_tb P r (o s)) := by unfold wy_is at hik; omega
    have hf9 : wy_fk M (wq_set M 31 s (i : Int)) := wy_fk_s (fun _ _ _ _ => rfl) (by omega)
    have hc9 : wy_cm o (s + 1) (wq_set M 31 s (i : Int)) (wy_gu g (o s) i) := by
      intro j hj
      by_cases ej : j = s
      · subst ej
        rw [wy_set_at rfl rfl, wy_gu_at]
        exact ⟨rfl, hi40⟩
      · have hj1 := hv.2.1 j (by omega)
        have hj2 := hv.1.1 j (by omega)
        have hjs : o j ≠ o s := fun e => by
          rw [e, hs1.2] at hj1
          omega
        have h := hq.2.2.2 j (by omega)
        rw [wy_set_ne (by omega), wy_gu_ne (by omega)]
        exact h
    have c39 : wq_set M 31 s (i : Int) 0 39 = M 0 39 := wy_set_ne (by omega)
    have c40 : wq_set M 31 s (i : Int) 0 40 = M 0 40 := wy_set_ne (by omega)
    have c41 : wq_set M 31 s (i : Int) 0 41 = M 0 41 := wy_set_ne (by omega)
    have c31 : wq_set M 31 s (i : Int) 31 s = (i : Int) := wy_set_at rfl rfl
    have hbody := fun n => body n i M hq h31 (by omega)
    generalize wq_set M 31 s (i : Int) = M9 at *
    have hq9 := wy_fk_q hq hf9 hc9
    have b3 := wy_b3 hI (40 * wy_tb P r (o s) + i)
    have e3 : M9 3 (40 * wy_tb P r (o s) + i) = P 3 (40 * wy_tb P r (o s) + i) := wy_m hq9.1 (by omega)
    have hbody2 : ∀ n, l_X9_runs_45 (r : Int) (P 13 r) kx (n + 1) (s : Int) M = (if P 3 (40 * wy_tb P r (o s) + i) = 0 then l_X9_runs_45 (r : Int) (P 13 r) kx n (s : Int) M9 else if wy_ha P r o s (wy_gu g (o s) i) (P 15 r).toNat = true then wy_kk (r : Int) (P 13 r) (l_X9_runs_45 (r : Int) (P 13 r) kx n) (s : Int) M9 else l_X9_runs_45 (r : Int) (P 13 r) kx n (s : Int) M9) := fun n => by
      rw [hbody n, if_pos hlt, wy_ix (by omega) (by omega) (by omega), wy_n40, e3, wq_w_id (by omega) (by omega)]
      by_cases h0 : P 3 (40 * wy_tb P r (o s) + i) = 0
      · rw [if_pos h0, if_pos h0]
      · rw [if_neg h0, if_neg h0, wy_bd (wy_m_holdsAt hI hq9.1 hv.1 hq9.2.1 hr hs3 hc9)]
        by_cases hh : wy_ha P r o s (wy_gu g (o s) i) (P 15 r).toNat = true
        · rw [if_pos hh, if_neg (by decide), if_pos hh]
        · rw [if_neg hh, if_pos wq_w_0, if_neg hh]
    have hob : (k + 1) * wy_ob d = k * wy_ob d + wy_ob d := Nat.succ_mul k (wy_ob d)
    have hob1 : 1 ≤ wy_ob d := by cases d <;> simp only [wy_ob] <;> omega
    have hq9s : wy_mq P o w s M9 g := wy_fk_q hq hf9 (wy_cm_gu hI hv (by omega) hc9 fun j hj => (hq.2.2.2 j hj).2)
    by_cases hgg : wy_gg P r o s g i
    · obtain ⟨u1, M1, hu1, hl1, hf1, hc1, y1, y2, y3⟩ := hrk (wy_gu g (o s) i) M9 hq9
      have hcs := wy_cm_gu hI hv (by omega) hc1 fun j hj => (hq.2.2.2 j hj).2
      have h31' := (hc1 s (by omega)).1
      rw [wy_gu_at] at h31'
      obtain ⟨u2, M2, hu2, hl2, hf2, hc2, z1, z2, z3⟩ := ih (i + 1) M1 (by omega) (wy_fk_q hq9s hf1 hcs) (by omega)
      refine ⟨u2 + u1 + 1, M2, by omega, fun n => ?_, wy_fk_t hf9 (wy_fk_t hf1 hf2), hc2, ?_, ?_, ?_⟩
      · have e : n + (u2 + u1 + 1) = (n + u2) + u1 + 1 := by omega
        rw [e, hbody2, if_neg hgg.1, if_pos hgg.2, hl1 (n + u2), hl2 n]
      · simp only [wy_su] at z1
        rw [if_pos hgg] at z1
        omega
      · simp only [wy_su] at z2
        rw [if_pos hgg] at z2
        omega
      · simp only [wy_su] at z3
        rw [if_pos hgg] at z3
        omega
    · obtain ⟨u2, M2, hu2, hl2, hf2, hc2, z1, z2, z3⟩ := ih (i + 1) M9 (by omega) hq9s (by omega)
      refine ⟨u2 + 1, M2, by omega, fun n => ?_, wy_fk_t hf9 hf2, hc2, ?_, ?_, ?_⟩
      · have e : n + (u2 + 1) = (n + u2) + 1 := by omega
        rw [e, hbody2]
        by_cases h0 : P 3 (40 * wy_tb P r (o s) + i) = 0
        · rw [if_pos h0, hl2 n]
        · rw [if_neg h0, if_neg (fun h => hgg ⟨h0, h⟩), hl2 n]
      · simp only [wy_su] at z1
        rw [if_neg hgg] at z1
        omega
      · simp only [wy_su] at z2
        rw [if_neg hgg] at z2
        omega
      · simp only [wy_su] at z3
        rw [if_neg hgg] at z3
        omega
theorem wy_od_all (hI : wy_iv P) (hr : r < 8) (hrn : (r : Int) < P 0 28) (hv : wy_vp P r o w) : ∀ (d s : Nat), (d : Int) + 1 + (s : Int) = P 13 r → wy_od P r o w kx d s
  | 0, s, h => wy_od_k hI hr hv h (wy_rk0 hI hr hrn hv (by omega))
  | d + 1, s, h => wy_od_k hI hr hv h (wy_rk1 hI hr hv (by omega) (wy_od_all hI hr hrn hv d (s + 1) (by omega)))
end
end
section
/-! the model runs a plan; the plan can be run -/
section
variable {P S M : wq_St} {r q s : Nat} {o w : Nat → Int} {g : Nat → Nat}
theorem wy_m_runs (hI : wy_iv P) (hM : wy_M wy_co M P) (hr : r < 8) (hrn : (r : Int) < P 0 28) (hv : 1 ≤ P 13 r → wy_vp P r o w) (h27 : 1 ≤ P 13 r → ∀ j, j < 3 → M 27 j = o j ∧ M 28 j = w j) : ∃ M', f_X9_runs (r : Int) M = some (0, M') ∧ wy_fk M M' ∧ M' 0 39 = wy_tk P r o w ∧ M' 0 40 = wy_fn (fun _ => 1) P r o ∧ M' 0 41 = wy_fn (wy_sv P r) P r o := by
  have b13 := wy_b13 hI r
  have hf3 : wy_fk M (wq_set (wq_set (wq_set M 0 39 0) 0 40 0) 0 41 0) := wy_fk_s (wy_fk_s (wy_fk_s (fun _ _ _ _ => rfl) (by omega)) (by omega)) (by omega)
  have c39 : wq_set (wq_set (wq_set M 0 39 0) 0 40 0) 0 41 0 0 39 = 0 := by rw [wy_set_ne (by omega), wy_set_ne (by omega), wy_set_at rfl rfl]
  have c40 : wq_set (wq_set (wq_set M 0 39 0) 0 40 0) 0 41 0 0 40 = 0 := by rw [wy_set_ne (by omega), wy_set_at rfl rfl]
  have c41 : wq_set (wq_set (wq_set M 0 39 0) 0 40 0) 0 41 0 0 41 = 0 := wy_set_at rfl rfl
  unfold f_X9_runs
  rw [wy_lt, wy_lt, wy_lt]
  generalize wq_set (wq_set (wq_set M 0 39 0) 0 40 0) 0 41 0 = M3 at *
  have hM3 : wy_M wy_co M3 P := fun f i h1 h2 h3 h4 => by
    rw [hf3 f i (by omega) (fun e => by have := h3 e.1; omega)]
    exact hM f i h1 h2 h3 h4
  have e13 : M3 13 r = P 13 r := wy_m hM3 (by omega)
  rw [wy_ix (by omega) (by omega) (by omega), Int.toNat_natCast, e13, wq_w_id (x := P 13 r) (by omega) (by omega)]
  obtain ⟨nf, hnf⟩ : ∃ nf, wq_fu = nf + 1 := ⟨9999999, rfl⟩
  unfold wy_fn wy_tk
  by_cases h0 : P 13 r ≤ 0
  · have e0 : (P 13 r).toNat = 0 := by omega
    rw [if_pos h0, if_pos h0, if_pos h0, e0, hnf, l_X9_runs_45_s]
    unfold b_X9_runs_45
    rw [wq_w_id (x := P 13 r) (by omega) (by omega), if_pos h0]
    exact ⟨M3, rfl, hf3, c39, c40, c41⟩
  · have hv' := hv (by omega)
    have h27' := h27 (by omega)
    rw [if_neg h0, if_neg h0, if_neg h0]
    have q27 : ∀ j, j < 3 → M3 27 j = o j := fun j hj => by rw [hf3 _ _ (by omega) (by omega)]; exact (h27' j hj).1
    have q28 : ∀ j, j < 3 → M3 28 j = w j := fun j hj => by rw [hf3 _ _ (by omega) (by omega)]; exact (h27' j hj).2
    have hmi := wy_m_minutes (g := wy_g0) hI hM3 hv' q27 q28 hr (s := 0) (by omega) (fun j hj => by omega)
    have hmi' : f_X9_minutesAt (r : Int) 0 M3 = some (wy_mi P r o w 0 wy_g0, M3) := hmi
    rw [wy_bd hmi', wy_lt, wy_ix0, wy_lt]
    have hf5 : wy_fk M3 (wq_set (wq_set M3 0 39 (wy_mi P r o w 0 wy_g0)) 31 0 (-1)) := wy_fk_s (wy_fk_s (fun _ _ _ _ => rfl) (by omega)) (by omega)
    have d39 : wq_set (wq_set M3 0 39 (wy_mi P r o w 0 wy_g0)) 31 0 (-1) 0 39 = wy_mi P r o w 0 wy_g0 := by rw [wy_set_ne (by omega), wy_set_at rfl rfl]
    have d40 : wq_set (wq_set M3 0 39 (wy_mi P r o w 0 wy_g0)) 31 0 (-1) 0 40 = 0 := by rw [wy_set_ne (by omega), wy_set_ne (by omega), c40]
    have d41 : wq_set (wq_set M3 0 39 (wy_mi P r o w 0 wy_g0)) 31 0 (-1) 0 41 = 0 := by rw [wy_set_ne (by omega), wy_set_ne (by omega), c41]
    have d31 : wq_set (wq_set M3 0 39 (wy_mi P r o w 0 wy_g0)) 31 0 (-1) 31 0 = -1 := wy_set_at rfl rfl
    generalize wq_set (wq_set M3 0 39 (wy_mi P r o w 0 wy_g0)) 31 0 (-1) = M5 at *
    have hq3 : wy_mq P o w 0 M3 wy_g0 := ⟨hM3, q27, q28, fun j hj => by omega⟩
    have hq5 : wy_mq P o w 0 M5 wy_g0 := wy_fk_q hq3 hf5 (fun j hj => by omega)
    obtain ⟨d, hd⟩ : ∃ d : Nat, P 13 r = (d : Int) + 1 := ⟨(P 13 r).toNat - 1, by omega⟩
    have hd2 : d ≤ 2 := by omega
    obtain ⟨u, M', hu, hl, hf, -, z1, z2, z3⟩ := wy_od_all (kx := fun S32 => some (0, S32)) hI hr hrn hv' d 0 (by omega) wy_g0 (wy_is P r o 0) 0 M5 (by omega) hq5 (by rw [d31]; rfl)
    have b2 := wy_b2 hI (wy_tb P r (o 0))
    have h40 : wy_is P r o 0 ≤ 40 := by unfold wy_is; omega
    have hob : wy_ob d ≤ 1682 := by
      have : d = 0 ∨ d = 1 ∨ d = 2 := by omega
      rcases this with rfl | rfl | rfl <;> decide
    have hmul := Nat.mul_le_mul h40 hob
    have hfu : wq_fu = (wq_fu - u - 1 + 1) + u := by unfold wq_fu; omega
    have hl' : l_X9_runs_45 (r : Int) (P 13 r) (fun S32 => some (0, S32)) wq_fu 0 M5 = some (0, M') := by
      rw [hfu]
      refine (hl _).trans ?_
      rw [l_X9_runs_45_s]
      unfold b_X9_runs_45
      rw [wq_w_id (x := P 13 r) (by omega) (by omega), if_neg h0, if_pos (by decide)]
    have em : (P 13 r).toNat = d + 1 := by omega
    refine ⟨M', hl', wy_fk_t hf3 (wy_fk_t hf5 hf), ?_, ?_, ?_⟩
    · rw [em]
      simp only [wy_su] at z1
      simp only [wy_rt]
      omega
    · rw [em]
      simp only [wy_su] at z2
      simp only [wy_rw]
      omega
    · rw [em]
      simp only [wy_su] at z3
      simp only [wy_rw]
      omega
theorem wy_mf_mem {α : Type} {f : Nat → Option (Int × α)} {p : Int × α} : ∀ {n : Nat}, wy_mf f n = some p → ∃ i, i < n ∧ f i = some p
  | 0, h => by cases h
  | n + 1, h => by
    simp only [wy_mf] at h
    have hh : wy_mf f n = some p ∨ f n = some p := by
      revert h
      cases h1 : wy_mf f n with
      | none => intro h; rw [wy_mn_1] at h; exact Or.inr h
      | some a =>
        cases h2 : f n with
        | none => intro h; rw [wy_mn_0] at h; exact Or.inl h
        | some b =>
          rw [wy_mn_s]
          intro h
          split at h
          · exact Or.inr h
          · exact Or.inl h
    rcases hh with hh | hh
    · obtain ⟨i, h1, h2⟩ := wy_mf_mem hh
      exact ⟨i, by omega, h2⟩
    · exact ⟨n, by omega, hh⟩
theorem wy_bw_use (hI : wy_iv P) {ch : Int} (hc : 0 ≤ ch) : -1 ≤ (wy_bw P r o s ch).2 ∧ (wy_bw P r o s ch).2 ≤ 2 ∧ ((wy_bw P r o s ch).2 ≠ -1 → wy_uo P r o s (wy_bw P r o s ch).2 (P 15 r).toNat ≠ -1) := by
  have h := @wy_bw_b P r o s ch hI hc
  refine ⟨h.2.2.2.1, h.2.2.2.2, fun hn => ?_⟩
  obtain ⟨i, -, h2⟩ := wy_mf_mem h.1
  cases i with
  | zero =>
    have : (wy_bw P r o s ch).2 = -1 := by
      have e := Option.some.inj h2
      rw [← e]
    exact absurd this hn
  | succ i =>
    simp only [wy_wy] at h2
    unfold wy_wi at h2
    split at h2
    · rename_i hc2
      have e := Option.some.inj h2
      rw [← e]
      exact hc2.2.2
    · cases h2
theorem wy_vp_on (hI : wy_iv P) {x y z : Nat} (hx : x < 3) (hy : y < 3) (hz : z < 3) (h1 : x ≠ y) (h2 : x ≠ z) (h3 : y ≠ z) (hm : P 13 r = 3 ∨ (P 13 r = 2 ∧ z = 2) ∨ (P 13 r = 1 ∧ y = 1 ∧ z = 2)) {p : Int × wy_pl} (hp : wy_g3 P r (wy_on x y z) = some p) : wy_vp P r p.2.1 p.2.2 := by
  have n1 := (@wy_nt_b P r (wy_on x y z) 0 1000 hI (by decide)).1
  have n2 := (@wy_nt_b P r (wy_on x y z) 1 _ hI n1).1
  have u0 := @wy_bw_use P r 0 (wy_on x y z) hI 1000 (by decide)
  have u1 := @wy_bw_use P r 1 (wy_on x y z) hI _ n1
  have u2 := @wy_bw_use P r 2 (wy_on x y z) hI _ n2
  have base : ∀ w : Nat → Int, (∀ s : Nat, (s : Int) < P 13 r → -1 ≤ w s ∧ w s ≤ 2 ∧ (w s ≠ -1 → wy_uo P r (wy_on x y z) s (w s) (P 15 r).toNat ≠ -1)) → wy_vp P r (wy_on x y z) w := by
    intro w hw
    refine ⟨wy_pm_on hx hy hz h1 h2 h3, fun j hj => ?_, fun v hv0 hv1 => ?_, hw⟩
    · have hj3 : j = 0 ∨ j = 1 ∨ j = 2 := by omega
      rcases hj3 with rfl | rfl | rfl
      · refine ⟨?_, ?_⟩
        · show (x : Int) < P 13 r
          omega
        · show (if (x : Int) = (x : Int) then (0 : Int) else if (y : Int) = (x : Int) then 1 else if (z : Int) = (x : Int) then 2 else 3) = 0
          rw [if_pos rfl]
      · refine ⟨?_, ?_⟩
        · show (y : Int) < P 13 r
          omega
        · show (if (x : Int) = (y : Int) then (0 : Int) else if (y : Int) = (y : Int) then 1 else if (z : Int) = (y : Int) then 2 else 3) = 1
          rw [if_neg (by omega), if_pos rfl]
      · refine ⟨?_, ?_⟩
        · show (z : Int) < P 13 r
          omega
        · show (if (x : Int) = (z : Int) then (0 : Int) else if (y : Int) = (z : Int) then 1 else if (z : Int) = (z : Int) then 2 else 3) = 2
          rw [if_neg (by omega), if_neg (by omega), if_pos rfl]
    · show (if (x : Int) = v then (0 : Int) else if (y : Int) = v then 1 else if (z : Int) = v then 2 else 3) < P 13 r
      repeat' split
      all_goals omega
  rcases hm with hm | hm | hm
  · rw [wy_g3_3 hI hm] at hp
    rw [← Option.some.inj hp]
    refine base _ fun s hs => ?_
    have : s = 0 ∨ s = 1 ∨ s = 2 := by omega
    rcases this with rfl | rfl | rfl
    · exact u0
    · exact u1
    · exact u2
  · rw [wy_g3_2 hI hm.1] at hp
    rw [← Option.some.inj hp]
    refine base _ fun s hs => ?_
    have : s = 0 ∨ s = 1 := by omega
    rcases this with rfl | rfl
    · exact u0
    · exact u1
  · rw [wy_g3_1 hI hm.1] at hp
    rw [← Option.some.inj hp]
    refine base _ fun s hs => ?_
    have : s = 0 := by omega
    subst this
    exact u0
theorem wy_mn_or {α : Type} {x y : Option (Int × α)} {p : Int × α} (h : wy_mn x y = some p) : x = some p ∨ y = some p := by
  cases x with
  | none => rw [wy_mn_1] at h; exact Or.inr h
  | some a =>
    cases y with
    | none => rw [wy_mn_0] at h; exact Or.inl h
    | some b =>
      rw [wy_mn_s] at h
      split at h
      · exact Or.inr h
      · exact Or.inl h
theorem wy_vp_pp (hI : wy_iv P) (h1 : 1 ≤ P 13 r) : wy_vp P r (wy_pp P r).2.1 (wy_pp P r).2.2 := by
  have b13 := wy_b13 hI r
  have hpp := @wy_pn_pp P r hI
  have h : P 13 r = 1 ∨ P 13 r = 2 ∨ P 13 r = 3 := by omega
  rcases h with h | h | h
  · rw [wy_pn1 hI h] at hpp
    exact wy_vp_on hI (by omega) (by omega) (by omega) (by omega) (by omega) (by omega) (Or.inr (Or.inr ⟨h, rfl, rfl⟩)) hpp
  · rw [wy_pn2 hI h] at hpp
    rcases wy_mn_or hpp with hp | hp
    · exact wy_vp_on hI (by omega) (by omega) (by omega) (by omega) (by omega) (by omega) (Or.inr (Or.inl ⟨h, rfl⟩)) hp
    · exact wy_vp_on hI (by omega) (by omega) (by omega) (by omega) (by omega) (by omega) (Or.inr (Or.inl ⟨h, rfl⟩)) hp
  · rw [wy_pn3 hI h] at hpp
    rcases wy_mn_or hpp with hp | hp
    · rcases wy_mn_or hp with hp | hp
      · rcases wy_mn_or hp with hp | hp
        · exact wy_vp_on hI (by omega) (by omega) (by omega) (by omega) (by omega) (by omega) (Or.inl h) hp
        · exact wy_vp_on hI (by omega) (by omega) (by omega) (by omega) (by omega) (by omega) (Or.inl h) hp
      · rcases wy_mn_or hp with hp | hp
        · exact wy_vp_on hI (by omega) (by omega) (by omega) (by omega) (by omega) (by omega) (Or.inl h) hp
        · exact wy_vp_on hI (by omega) (by omega) (by omega) (by omega) (by omega) (by omega) (Or.inl h) hp
    · rcases wy_mn_or hp with hp | hp
      · exact wy_vp_on hI (by omega) (by omega) (by omega) (by omega) (by omega) (by omega) (Or.inl h) hp
      · exact wy_vp_on hI (by omega) (by omega) (by omega) (by omega) (by omega) (by omega) (Or.inl h) hp
end
end
section
/-! the answer does not hang on the order -/
def wy_tv (P : wq_St) (r : Nat) (g : Nat → Nat) : Nat → Bool
  | 0 => true
  | x + 1 => wy_tv P r g x && decide (P 3 (40 * wy_tb P r (x : Int) + g x) ≠ 0)
def wy_hk (P : wq_St) (r : Nat) (g : Nat → Nat) : Nat → Bool
  | 0 => true
  | k + 1 => wy_hk P r g k && decide (wy_ho P r g k)
def wy_A (f : (Nat → Nat) → Int) (P : wq_St) (r : Nat) (g : Nat → Nat) : Int := if wy_tv P r g (P 13 r).toNat = true ∧ wy_hk P r g (P 15 r).toNat = true then f g else 0
def wy_NS (f : (Nat → Nat) → Int) (P : wq_St) (r : Nat) (o : Nat → Int) : Nat → Nat → (Nat → Nat) → Int
  | 0, _, g => wy_A f P r g
  | d + 1, s, g => wy_su (fun i => wy_NS f P r o d (s + 1) (wy_gu g (o s) i)) (wy_is P r o s)
section
variable {P : wq_St} {r s : Nat} {o w : Nat → Int} {g g' : Nat → Nat} {f : (Nat → Nat) → Int}
theorem wy_su_congr {a b : Nat → Int} : ∀ {n : Nat}, (∀ i, i < n → a i = b i) → wy_su a n = wy_su b n
  | 0, _ => rfl
  | n + 1, h => by
    simp only [wy_su]
    rw [h n (by omega), wy_su_congr fun i hi => h i (by omega)]
theorem wy_su_0 : ∀ n : Nat, wy_su (fun _ => 0) n = 0
  | 0 => rfl
  | n + 1 => by
    simp only [wy_su]
    rw [wy_su_0 n]
    rfl
theorem wy_su_add (a b : Nat → Int) : ∀ n : Nat, wy_su (fun i => a i + b i) n = wy_su a n + wy_su b n
  | 0 => rfl
  | n + 1 => by
    simp only [wy_su]
    rw [wy_su_add a b n]
    omega
theorem wy_su_swap (a : Nat → Nat → Int) (n : Nat) : ∀ m : Nat, wy_su (fun i => wy_su (fun j => a i j) n) m = wy_su (fun j => wy_su (fun i => a i j) m) n
  | 0 => by
    simp only [wy_su]
    exact (wy_su_0 n).symm
  | m + 1 => by
    simp only [wy_su]
    rw [wy_su_swap a n m, wy_su_add]
theorem wy_tv_t {x : Nat} : ∀ {n : Nat}, wy_tv P r g n = true → x < n → P 3 (40 * wy_tb P r (x : Int) + g x) ≠ 0
  | 0, _, h => by omega
  | n + 1, h, hx => by
    simp only [wy_tv, Bool.and_eq_true] at h
    by_cases e : x = n
    · subst e
      exact of_decide_eq_true h.2
    · exact wy_tv_t h.1 (by omega)
theorem wy_tv_i : ∀ {n : Nat}, (∀ x : Nat, x < n → P 3 (40 * wy_tb P r (x : Int) + g x) ≠ 0) → wy_tv P r g n = true
  | 0, _ => rfl
  | n + 1, h => by
    simp only [wy_tv, Bool.and_eq_true]
    exact ⟨wy_tv_i fun x hx => h x (by omega), decide_eq_true (h n (by omega))⟩
theorem wy_hk_t {k : Nat} : ∀ {n : Nat}, wy_hk P r g n = true → k < n → wy_ho P r g k
  | 0, _, h => by omega
  | n + 1, h, hk => by
    rw [wy_hk, Bool.and_eq_true] at h
    by_cases e : k = n
    · subst e
      exact of_decide_eq_true h.2
    · exact wy_hk_t h.1 (by omega)
theorem wy_hk_i : ∀ {n : Nat}, (∀ k : Nat, k < n → wy_ho P r g k) → wy_hk P r g n = true
  | 0, _ => rfl
  | n + 1, h => by
    rw [wy_hk, Bool.and_eq_true]
    exact ⟨wy_hk_i fun k hk => h k (by omega), decide_eq_true (h n (by omega))⟩
theorem wy_ha_i : ∀ {n : Nat}, (∀ k : Nat, k < n → wy_as P r o s k → wy_ho P r g k) → wy_ha P r o s g n = true
  | 0, _ => rfl
  | n + 1, h => by
    rw [wy_ha_s, Bool.and_eq_true]
    exact ⟨wy_ha_i fun k hk => h k (by omega), decide_eq_true (h n (by omega))⟩
/-- sums of nothing -/
theorem wy_NS_0 : ∀ (d s : Nat) (g : Nat → Nat), (∀ g' : Nat → Nat, (∀ y : Nat, (∀ j : Nat, s ≤ j → j < s + d → y ≠ (o j).toNat) → g' y = g y) → wy_A f P r g' = 0) → wy_NS f P r o d s g = 0
  | 0, s, g, h => h g fun _ _ => rfl
  | d + 1, s, g, h => by
    simp only [wy_NS]
    rw [wy_su_congr (b := fun _ => 0), wy_su_0]
    intro i _
    refine wy_NS_0 d (s + 1) _ fun g' hg => h g' fun y hy => ?_
    rw [hg y fun j h1 h2 => hy j (by omega) (by omega)]
    exact if_neg (hy s (by omega) (by omega))
theorem wy_ho_congr (hI : wy_iv P) {k : Nat} (h17 : g (P 17 (6 * r + k)).toNat = g' (P 17 (6 * r + k)).toNat) (h20 : P 16 (6 * r + k) = 3 → g (P 20 (6 * r + k)).toNat = g' (P 20 (6 * r + k)).toNat) : wy_ho P r g k ↔ wy_ho P r g' k := by
  unfold wy_ho wy_gv
  rw [h17]
  by_cases h3 : P 16 (6 * r + k) = 3
  · rw [h20 h3]
  · constructor
    · intro h
      exact ⟨h.1, h.2.1, h.2.2.1, fun e => absurd e h3⟩
    · intro h
      exact ⟨h.1, h.2.1, h.2.2.1, fun e => absurd e h3⟩
end
end
section
section
variable {P : wq_St} {r s : Nat} {o w : Nat → Int} {g g' : Nat → Nat} {f : (Nat → Nat) → Int}
/-- an order of all sources -/
def wy_vo (P : wq_St) (r : Nat) (o : Nat → Int) : Prop := wy_pm o ∧ (∀ j : Nat, (j : Int) < P 13 r → o j < P 13 r ∧ wy_ps o (o j) = (j : Int)) ∧ (∀ x : Int, 0 ≤ x → x < P 13 r → wy_ps o x < P 13 r)
theorem wy_vo_ne (hI : wy_iv P) (hv : wy_vo P r o) {i j : Nat} (hi : (i : Int) < P 13 r) (hj : (j : Int) < P 13 r) (h : i ≠ j) : (o i).toNat ≠ (o j).toNat := fun e => by
  have b13 := wy_b13 hI r
  have h1 := hv.2.1 i hi
  have h2 := hv.2.1 j hj
  have h3 := hv.1.1 i (by omega)
  have h4 := hv.1.1 j (by omega)
  have : o i = o j := by omega
  rw [this] at h1
  omega
/-- g is good up to step s -/
def wy_pg (P : wq_St) (r : Nat) (o : Nat → Int) (s : Nat) (g : Nat → Nat) : Prop := (∀ j : Nat, j < s → P 3 (40 * wy_tb P r (o j) + g (o j).toNat) ≠ 0) ∧ ∀ k : Nat, (k : Int) < P 15 r → wy_cs (wy_ps o) P r k < (s : Int) → wy_ho P r g k
theorem wy_cs_src {k : Nat} {n : Int} (h : wy_cs (wy_ps o) P r k < n) : wy_ps o (P 17 (6 * r + k)) < n ∧ (P 16 (6 * r + k) = 3 → wy_ps o (P 20 (6 * r + k)) < n) := by
  unfold wy_cs at h
  split at h
  · omega
  · refine ⟨by omega, fun h3 => ?_⟩
    rename_i hn
    have : ¬(wy_ps o (P 17 (6 * r + k)) < wy_ps o (P 20 (6 * r + k))) := fun hh => hn ⟨h3, hh⟩
    omega
theorem wy_src_ne (hv : wy_vo P r o) (hs : (s : Int) < P 13 r) {x : Int} (hx : 0 ≤ x) (h : wy_ps o x < (s : Int)) (hI : wy_iv P) : x.toNat ≠ (o s).toNat := fun e => by
  have b13 := wy_b13 hI r
  have h4 := hv.1.1 s (by omega)
  have h2 := hv.2.1 s hs
  have : x = o s := by omega
  rw [this] at h
  omega
theorem wy_rw_NS (hI : wy_iv P) (hv : wy_vo P r o) : ∀ (d s : Nat) (g : Nat → Nat), (d : Int) + (s : Int) = P 13 r → wy_pg P r o s g → wy_rw f P r o d s g = wy_NS f P r o d s g
  | 0, s, g, hd, hp => by
    have b13 := wy_b13 hI r
    have b15 := wy_b15 hI r
    have q1 : wy_tv P r g (P 13 r).toNat = true := by
      refine wy_tv_i fun x hx => ?_
      have hps := hv.2.2 (x : Int) (by omega) (by omega)
      have hb := wy_ps_b o (x : Int)
      have ho := @wy_ps_o o (x : Int) (wy_ps o (x : Int)).toNat (by omega) (by omega)
      have h := hp.1 (wy_ps o (x : Int)).toNat (by omega)
      rw [ho, Int.toNat_natCast] at h
      exact h
    have q2 : wy_hk P r g (P 15 r).toNat = true := by
      refine wy_hk_i fun k hk => ?_
      have hk' : (k : Int) < P 15 r := by omega
      obtain ⟨h17, h20⟩ := hI.2.2.2.2.2.2.1 r k hk'
      have b17 := wy_b17 hI (6 * r + k)
      have b20 := wy_b20 hI (6 * r + k)
      have p17 := hv.2.2 _ b17.1 h17
      refine hp.2 k hk' ?_
      unfold wy_cs
      by_cases h3 : P 16 (6 * r + k) = 3
      · have p20 := hv.2.2 _ b20.1 (h20 h3).1
        split <;> omega
      · rw [if_neg (fun h => h3 h.1)]
        omega
    simp only [wy_rw, wy_NS]
    unfold wy_A
    rw [if_pos ⟨q1, q2⟩]
  | d + 1, s, g, hd, hp => by
    have b13 := wy_b13 hI r
    have b15 := wy_b15 hI r
    have hs : (s : Int) < P 13 r := by omega
    have hs3 : s < 3 := by omega
    have hos := hv.1.1 s hs3
    have hos2 := hv.2.1 s hs
    simp only [wy_rw, wy_NS]
    refine wy_su_congr fun i _ => ?_
    have keep : ∀ k : Nat, (k : Int) < P 15 r → wy_cs (wy_ps o) P r k < (s : Int) → (wy_ho P r g k ↔ wy_ho P r (wy_gu g (o s) i) k) := fun k hk hc => by
      have b17 := wy_b17 hI (6 * r + k)
      have b20 := wy_b20 hI (6 * r + k)
      have hsrc := wy_cs_src hc
      exact wy_ho_congr hI (wy_gu_ne (wy_src_ne hv hs b17.1 hsrc.1 hI)).symm fun h3 => (wy_gu_ne (wy_src_ne hv hs b20.1 (hsrc.2 h3) hI)).symm
    by_cases hg : wy_gg P r o s g i
    · rw [if_pos hg]
      refine wy_rw_NS hI hv d (s + 1) _ (by omega) ⟨fun j hj => ?_, fun k hk hc => ?_⟩
      · by_cases e : j = s
        · subst e
          rw [wy_gu_at]
          exact hg.1
        · rw [wy_gu_ne (wy_vo_ne hI hv (by omega) hs e)]
          exact hp.1 j (by omega)
      · by_cases hcs : wy_cs (wy_ps o) P r k < (s : Int)
        · exact (keep k hk hcs).mp (hp.2 k hk hcs)
        · exact wy_ha_t hg.2 (by omega) (show wy_cs (wy_ps o) P r k = (s : Int) by omega)
    · rw [if_neg hg]
      refine (wy_NS_0 d (s + 1) _ fun g' hg' => ?_).symm
      unfold wy_A
      rw [if_neg]
      intro hh
      have hfix : ∀ x : Int, 0 ≤ x → wy_ps o x ≤ (s : Int) → g' x.toNat = wy_gu g (o s) i x.toNat := fun x hx hpx => hg' x.toNat fun j h1 h2 e => by
        have h3 := hv.2.1 j (by omega)
        have h4 := hv.1.1 j (by omega)
        have : x = o j := by omega
        rw [this] at hpx
        omega
      apply hg
      refine ⟨?_, wy_ha_i fun k hk has => ?_⟩
      · have h := wy_tv_t hh.1 (x := (o s).toNat) (by omega)
        have e1 := hfix (o s) hos.1 (by omega)
        rw [wy_gu_at] at e1
        rw [e1, Int.toNat_of_nonneg hos.1] at h
        exact h
      · have b17 := wy_b17 hI (6 * r + k)
        have b20 := wy_b20 hI (6 * r + k)
        have hle := wy_as_le has
        refine (wy_ho_congr hI (hfix _ b17.1 hle.1) fun h3 => hfix _ b20.1 (hle.2 h3)).mp (wy_hk_t hh.2 hk)
theorem wy_gu_comm {a b : Int} {i j : Nat} (h : a.toNat ≠ b.toNat) : wy_gu (wy_gu g a i) b j = wy_gu (wy_gu g b j) a i := by
  funext y
  unfold wy_gu
  by_cases h1 : y = b.toNat
  · rw [if_pos h1, if_neg (by omega), if_pos h1]
  · rw [if_neg h1]
    by_cases h2 : y = a.toNat
    · rw [if_pos h2, if_pos h2]
    · rw [if_neg h2, if_neg h2, if_neg h1]
end
end
section
section
variable {P : wq_St} {r s : Nat} {o w : Nat → Int} {g g' : Nat → Nat} {f : (Nat → Nat) → Int}
abbrev wy_it (P : wq_St) (r : Nat) (x : Int) : Nat := (P 2 (wy_tb P r x)).toNat
def wy_N2 (f : (Nat → Nat) → Int) (P : wq_St) (r : Nat) (a b : Int) (g : Nat → Nat) : Int := wy_su (fun i => wy_su (fun j => wy_A f P r (wy_gu (wy_gu g a i) b j)) (wy_it P r b)) (wy_it P r a)
def wy_N3 (f : (Nat → Nat) → Int) (P : wq_St) (r : Nat) (a b c : Int) (g : Nat → Nat) : Int := wy_su (fun i => wy_su (fun j => wy_su (fun k => wy_A f P r (wy_gu (wy_gu (wy_gu g a i) b j) c k)) (wy_it P r c)) (wy_it P r b)) (wy_it P r a)
theorem wy_N2_s {a b : Int} (h : a.toNat ≠ b.toNat) : wy_N2 f P r a b g = wy_N2 f P r b a g := by
  unfold wy_N2
  rw [wy_su_swap]
  refine wy_su_congr fun j _ => wy_su_congr fun i _ => ?_
  rw [wy_gu_comm h]
theorem wy_N3_12 {a b c : Int} (h : a.toNat ≠ b.toNat) : wy_N3 f P r a b c g = wy_N3 f P r b a c g := by
  unfold wy_N3
  rw [wy_su_swap]
  refine wy_su_congr fun j _ => wy_su_congr fun i _ => ?_
  rw [wy_gu_comm h]
theorem wy_N3_23 {a b c : Int} (h : b.toNat ≠ c.toNat) : wy_N3 f P r a b c g = wy_N3 f P r a c b g := by
  unfold wy_N3
  refine wy_su_congr fun i _ => ?_
  rw [wy_su_swap]
  refine wy_su_congr fun k _ => wy_su_congr fun j _ => ?_
  rw [wy_gu_comm h]
/-- an answer by any order -/
theorem wy_rw_any (hI : wy_iv P) {o o' : Nat → Int} (hv : wy_vo P r o) (hv' : wy_vo P r o') (h1 : 1 ≤ P 13 r) : wy_rw f P r o (P 13 r).toNat 0 wy_g0 = wy_rw f P r o' (P 13 r).toNat 0 wy_g0 := by
  have b13 := wy_b13 hI r
  have pg : ∀ o, wy_pg P r o 0 wy_g0 := fun o => ⟨fun j hj => by omega, fun k _ hc => by
    have h := @wy_cs_b P r o k
    omega⟩
  rw [wy_rw_NS hI hv _ _ _ (by omega) (pg o), wy_rw_NS hI hv' _ _ _ (by omega) (pg o')]
  have h : P 13 r = 1 ∨ P 13 r = 2 ∨ P 13 r = 3 := by omega
  rcases h with h | h | h
  · have e : (P 13 r).toNat = 1 := by omega
    have a0 := hv.2.1 0 (by omega)
    have a0' := hv'.2.1 0 (by omega)
    have c0 := hv.1.1 0 (by omega)
    have c0' := hv'.1.1 0 (by omega)
    have e0 : o 0 = o' 0 := by omega
    rw [e]
    simp only [wy_NS]
    unfold wy_is
    rw [e0]
  · have e : (P 13 r).toNat = 2 := by omega
    have a0 := hv.2.1 0 (by omega)
    have a1 := hv.2.1 1 (by omega)
    have a0' := hv'.2.1 0 (by omega)
    have a1' := hv'.2.1 1 (by omega)
    have c0 := hv.1.1 0 (by omega)
    have c1 := hv.1.1 1 (by omega)
    have c0' := hv'.1.1 0 (by omega)
    have c1' := hv'.1.1 1 (by omega)
    have n01 : o 0 ≠ o 1 := fun e => by rw [e] at a0; omega
    have n01' : o' 0 ≠ o' 1 := fun e => by rw [e] at a0'; omega
    have q : ∀ o : Nat → Int, wy_NS f P r o (P 13 r).toNat 0 wy_g0 = wy_N2 f P r (o 0) (o 1) wy_g0 := fun o => by rw [e]; rfl
    rw [q, q]
    have hc : (o 0 = o' 0 ∧ o 1 = o' 1) ∨ (o 0 = o' 1 ∧ o 1 = o' 0) := by omega
    rcases hc with hc | hc
    · rw [hc.1, hc.2]
    · rw [hc.1, hc.2]
      exact wy_N2_s (by omega)
  · have e : (P 13 r).toNat = 3 := by omega
    have q : ∀ o : Nat → Int, wy_NS f P r o (P 13 r).toNat 0 wy_g0 = wy_N3 f P r (o 0) (o 1) (o 2) wy_g0 := fun o => by rw [e]; rfl
    rw [q, q]
    have can : ∀ o : Nat → Int, wy_vo P r o → wy_N3 f P r (o 0) (o 1) (o 2) wy_g0 = wy_N3 f P r 0 1 2 wy_g0 := by
      intro o hv
      have a0 := hv.2.1 0 (by omega)
      have a1 := hv.2.1 1 (by omega)
      have a2 := hv.2.1 2 (by omega)
      have c0 := hv.1.1 0 (by omega)
      have c1 := hv.1.1 1 (by omega)
      have c2 := hv.1.1 2 (by omega)
      have n01 : o 0 ≠ o 1 := fun e => by rw [e] at a0; omega
      have n02 : o 0 ≠ o 2 := fun e => by rw [e] at a0; omega
      have n12 : o 1 ≠ o 2 := fun e => by rw [e] at a1; omega
      have hc : (o 0 = 0 ∧ o 1 = 1 ∧ o 2 = 2) ∨ (o 0 = 0 ∧ o 1 = 2 ∧ o 2 = 1) ∨ (o 0 = 1 ∧ o 1 = 0 ∧ o 2 = 2) ∨ (o 0 = 1 ∧ o 1 = 2 ∧ o 2 = 0) ∨ (o 0 = 2 ∧ o 1 = 0 ∧ o 2 = 1) ∨ (o 0 = 2 ∧ o 1 = 1 ∧ o 2 = 0) := by omega
      rcases hc with hc | hc | hc | hc | hc | hc
      · rw [hc.1, hc.2.1, hc.2.2]
      · rw [hc.1, hc.2.1, hc.2.2, wy_N3_23 (by decide)]
      · rw [hc.1, hc.2.1, hc.2.2, wy_N3_12 (by decide)]
      · rw [hc.1, hc.2.1, hc.2.2, wy_N3_23 (by decide), wy_N3_12 (by decide)]
      · rw [hc.1, hc.2.1, hc.2.2, wy_N3_12 (by decide), wy_N3_23 (by decide)]
      · rw [hc.1, hc.2.1, hc.2.2, wy_N3_12 (by decide), wy_N3_23 (by decide), wy_N3_12 (by decide)]
    rw [can o hv, can o' hv']
theorem wy_vp_vo (h : wy_vp P r o w) : wy_vo P r o := ⟨h.1, h.2.1, h.2.2.1⟩
theorem wy_vp_id (hI : wy_iv P) : wy_vp P r (fun j => (j : Int)) (fun _ => -1) := by
  have b13 := wy_b13 hI r
  refine ⟨⟨fun j hj => ⟨?_, ?_⟩, fun x h0 h2 => ?_⟩, fun j hj => ⟨hj, ?_⟩, fun x h0 h1 => ?_, fun s _ => ⟨?_, ?_, fun h => absurd rfl h⟩⟩
  · show (0 : Int) ≤ (j : Int)
    omega
  · show (j : Int) ≤ 2
    omega
  · show (if ((0 : Nat) : Int) = x then (0 : Int) else if ((1 : Nat) : Int) = x then 1 else if ((2 : Nat) : Int) = x then 2 else 3) < 3
    repeat' split
    all_goals omega
  · show (if ((0 : Nat) : Int) = (j : Int) then (0 : Int) else if ((1 : Nat) : Int) = (j : Int) then 1 else if ((2 : Nat) : Int) = (j : Int) then 2 else 3) = (j : Int)
    repeat' split
    all_goals omega
  · show (if ((0 : Nat) : Int) = x then (0 : Int) else if ((1 : Nat) : Int) = x then 1 else if ((2 : Nat) : Int) = x then 2 else 3) < P 13 r
    repeat' split
    all_goals omega
  · show (-1 : Int) ≤ -1
    omega
  · show (-1 : Int) ≤ 2
    omega
theorem wy_fn_any (hI : wy_iv P) {o o' : Nat → Int} (hv : 1 ≤ P 13 r → wy_vo P r o) (hv' : 1 ≤ P 13 r → wy_vo P r o') : wy_fn f P r o = wy_fn f P r o' := by
  unfold wy_fn
  by_cases h0 : P 13 r ≤ 0
  · rw [if_pos h0, if_pos h0]
  · rw [if_neg h0, if_neg h0]
    exact wy_rw_any hI (hv (by omega)) (hv' (by omega)) (by omega)
end
end
section
/-! NIGHTS: the line of the reports that are due -/
/-- a is run ahead of b -/
def wy_bf (P : wq_St) (a b : Nat) : Prop := P 11 b < P 11 a ∨ (P 11 a = P 11 b ∧ a < b)
/-- ln is the line of the due reports below n, W of them -/
def wy_ln (P : wq_St) (n W : Nat) (ln : Nat → Nat) : Prop := W ≤ n ∧ (∀ i, i < W → ln i < n ∧ P 12 (ln i) ≠ 0) ∧ (∀ i j, i < j → j < W → wy_bf P (ln i) (ln j)) ∧ ∀ r, r < n → P 12 r ≠ 0 → ∃ i, i < W ∧ ln i = r
section
variable {P S : wq_St} {W n : Nat} {ln : Nat → Nat}
theorem wy_ln_ins (h : wy_ln P n W ln) {p : Nat} (hp : p ≤ W) (hd : P 12 n ≠ 0) (hlo : ∀ j, j < p → P 11 n ≤ P 11 (ln j)) (hhi : ∀ j, p ≤ j → j < W → P 11 (ln j) < P 11 n) : wy_ln P (n + 1) (W + 1) (fun j => if j < p then ln j else if j = p then n else ln (j - 1)) := by
  obtain ⟨h1, h2, h3, h4⟩ := h
  refine ⟨by omega, fun i hi => ?_, fun i j hij hj => ?_, fun r hr hdr => ?_⟩
  · dsimp only
    by_cases c1 : i < p
    · rw [if_pos c1]
      have := h2 i (by omega)
      exact ⟨by omega, this.2⟩
    · rw [if_neg c1]
      by_cases c2 : i = p
      · rw [if_pos c2]
        exact ⟨by omega, hd⟩
      · rw [if_neg c2]
        have := h2 (i - 1) (by omega)
        exact ⟨by omega, this.2⟩
  · dsimp only
    by_cases c1 : j < p
    · rw [if_pos c1, if_pos (by omega)]
      exact h3 i j hij (by omega)
    · rw [if_neg c1]
      by_cases c2 : j = p
      · rw [if_pos c2, if_pos (by omega)]
        have := hlo i (by omega)
        have := (h2 i (by omega)).1
        unfold wy_bf
        omega
      · rw [if_neg c2]
        by_cases c3 : i < p
        · rw [if_pos c3]
          exact h3 i (j - 1) (by omega) (by omega)
        · rw [if_neg c3]
          by_cases c4 : i = p
          · rw [if_pos c4]
            exact Or.inl (hhi (j - 1) (by omega) (by omega))
          · rw [if_neg c4]
            exact h3 (i - 1) (j - 1) (by omega) (by omega)
  · by_cases e : r = n
    · exact ⟨p, by omega, by dsimp only; rw [if_neg (by omega), if_pos rfl, e]⟩
    · obtain ⟨i, hi, hl⟩ := h4 r (by omega) hdr
      by_cases c : i < p
      · exact ⟨i, by omega, by dsimp only; rw [if_pos c, hl]⟩
      · exact ⟨i + 1, by omega, by dsimp only; rw [if_neg (by omega), if_neg (by omega), Nat.add_sub_cancel, hl]⟩
/-- the line as the class holds it -/
def wy_la (S : wq_St) (W : Nat) (ln : Nat → Nat) : Prop := ∀ i, i < W → S 283 i = (ln i : Int)
theorem wy_x_insert (hI : wy_iv P) (hln : wy_ln P n W ln) (hn : n < 8) (hd : P 12 n ≠ 0) (kx : Int → wq_St → Option (Int × wq_St)) : ∀ (fuel p : Nat) (S : wq_St), p < fuel → p ≤ W → wy_R wy_al S P → (∀ i, i < p → S 283 i = (ln i : Int)) → (∀ i, p < i → i ≤ W → S 283 i = (ln (i - 1) : Int)) → (∀ j, p ≤ j → j < W → P 11 (ln j) < P 11 n) →
    ∃ (p' : Nat) (S' : wq_St), l_X2_lineUpDueReports_27 (W : Int) (n : Int) kx fuel (p : Int) S = kx (p' : Int) S' ∧ p' ≤ p ∧ wy_R wy_al S' P ∧ (∀ k j, k ≠ 283 → S' k j = S k j) ∧ (∀ i : Nat, i < p' → S' 283 i = (ln i : Int)) ∧ (∀ i : Nat, p' < i → i ≤ W → S' 283 i = (ln (i - 1) : Int)) ∧ (∀ j : Nat, p' ≤ j → j < W → P 11 (ln j) < P 11 n) ∧ (∀ j : Nat, j < p' → P 11 n ≤ P 11 (ln j))
  | 0, p, S, h, _, _, _, _, _ => by omega
  | fuel + 1, p, S, hf, hp, hR, hlo, hhi, hpen => by
    obtain ⟨h1, h2, h3, h4⟩ := hln
    rw [l_X2_lineUpDueReports_27_s]
    unfold b_X2_lineUpDueReports_27
    rw [wq_w_id (x := (p : Int)) (by omega) (by omega)]
    by_cases hp0 : p = 0
    · rw [if_pos (by omega)]
      exact ⟨p, S, rfl, Nat.le_refl _, hR, fun _ _ _ => rfl, hlo, hhi, hpen, fun j hj => by omega⟩
    · have hl := hlo (p - 1) (by omega)
      have hlt := (h2 (p - 1) (by omega)).1
      have b11 := wy_b11 hI n
      have b11' := wy_b11 hI (ln (p - 1))
      have et : ((p : Int) - 1).toNat = p - 1 := by omega
      rw [if_neg (by omega), wy_ix (by omega) (by omega) (by omega), et, hl, wy_ix (by omega) (by omega) (by omega), Int.toNat_natCast, wy_ix (by omega) (by omega) (by omega), Int.toNat_natCast, wy_c11 hR (by omega), wy_c11 hR (by omega), wq_w_id (by omega) (by omega), wq_w_id (by omega) (by omega)]
      by_cases hc : P 11 n ≤ P 11 (ln (p - 1))
      · rw [if_pos hc]
        refine ⟨p, S, rfl, Nat.le_refl _, hR, fun _ _ _ => rfl, hlo, hhi, hpen, fun j hj => ?_⟩
        by_cases e : j = p - 1
        · rw [e]; exact hc
        · have := h3 j (p - 1) (by omega) (by omega)
          unfold wy_bf at this
          omega
      · rw [if_neg hc, wy_ix (by omega) (by omega) (by omega), et, wy_ix (by omega) (by omega) (by omega), Int.toNat_natCast, wy_lt, hl]
        have ep : (p : Int) + (-1) = ((p - 1 : Nat) : Int) := by omega
        rw [ep]
        obtain ⟨p', S', e1, e2, e3, e4, e5, e6, e7, e8⟩ := wy_x_insert hI ⟨h1, h2, h3, h4⟩ hn hd kx fuel (p - 1) (wq_set S 283 p (ln (p - 1) : Int)) (by omega) (by omega) (wy_R_scr hR (by unfold wy_scr; omega)) (fun i hi => by rw [wy_set_ne (by omega)]; exact hlo i (by omega)) (fun i hi1 hi2 => by
          by_cases e : i = p
          · rw [wy_set_at rfl e, e]
          · rw [wy_set_ne (by omega)]
            exact hhi i (by omega) hi2) (fun j hj1 hj2 => by
          by_cases e : j = p - 1
          · rw [e]; omega
          · exact hpen j (by omega) hj2)
        exact ⟨p', S', e1, by omega, e3, fun k j hk => by rw [e4 k j hk, wy_set_ne (by omega)], e5, e6, e7, e8⟩
theorem wy_x_line (hI : wy_iv P) (hR : wy_R wy_al S P) : ∃ (W : Nat) (ln : Nat → Nat) (S' : wq_St), f_X2_lineUpDueReports S = some ((W : Int), S') ∧ wy_ln P 8 W ln ∧ wy_la S' W ln ∧ wy_R wy_al S' P := by
  unfold f_X2_lineUpDueReports
  have key := wy_up (fun n i (q : Nat × (Nat → Nat) × wq_St) => ∃ (W : Nat) (ln : Nat → Nat) (S' : wq_St), l_X2_lineUpDueReports_4 (fun u12 S13 => some (u12, S13)) n (q.1 : Int) (i : Int) q.2.2 = some ((W : Int), S') ∧ wy_ln P 8 W ln ∧ wy_la S' W ln ∧ wy_R wy_al S' P) 8 (fun i q => wy_ln P i q.1 q.2.1 ∧ wy_la q.2.2 q.1 q.2.1 ∧ wy_R wy_al q.2.2 P) ?_ ?_ wq_fu 0 (0, id, S) (by omega) (wy_fu' (by omega)) ⟨⟨Nat.le_refl _, fun i hi => by omega, fun i j _ hj => by omega, fun r hr => by omega⟩, fun i hi => by omega, hR⟩
  · exact key
  · intro n i ⟨W, ln, S1⟩ hi ⟨hl, ha, hr⟩ ih
    dsimp only at hl ha hr ih ⊢
    have b12 := wy_b12 hI i
    have e : ((i : Int) + 1) = ((i + 1 : Nat) : Int) := by omega
    have w8 : wq_w 8 = 8 := rfl
    rw [l_X2_lineUpDueReports_4_s]
    unfold b_X2_lineUpDueReports_4
    rw [w8, wq_w_id (x := (i : Int)) (by omega) (by omega), if_neg (by omega), wy_ix (by omega) (by omega) (by omega), Int.toNat_natCast, wy_c12 hr hi, wq_w_id (by omega) (by omega), e]
    by_cases hd : P 12 i = 0
    · rw [if_pos hd]
      have hl' : wy_ln P (i + 1) W ln := by
        refine ⟨by have := hl.1; omega, fun j hj => ?_, hl.2.2.1, fun r hr' hdr => ?_⟩
        · have := hl.2.1 j hj
          exact ⟨by omega, this.2⟩
        · by_cases er : r = i
          · rw [er] at hdr; exact absurd hd hdr
          · exact hl.2.2.2 r (by omega) hdr
      exact ih (W, ln, S1) ⟨hl', ha, hr⟩
    · rw [if_neg hd]
      have hW := hl.1
      obtain ⟨p', S', e1, e2, e3, e4, e5, e6, e7, e8⟩ := wy_x_insert hI hl hi hd (fun u8 S9 => wq_ix u8 8 fun t10 => wq_lt (wq_set S9 283 t10 (i : Int)) fun S11 => l_X2_lineUpDueReports_4 (fun u12 S13 => some (u12, S13)) n ((W : Int) + 1) ((i + 1 : Nat) : Int) S11) wq_fu W S1 (wy_fu (by omega)) (Nat.le_refl _) hr ha (fun i h1 h2 => by omega) (fun j h1 h2 => by omega)
      rw [e1]
      rw [wy_ix (by omega) (by omega) (by omega), Int.toNat_natCast, wy_lt]
      have eW : ((W : Int) + 1) = ((W + 1 : Nat) : Int) := by omega
      rw [eW]
      have ha' : wy_la (wq_set S' 283 p' (i : Int)) (W + 1) (fun j => if j < p' then ln j else if j = p' then i else ln (j - 1)) := fun j hj => by
        show wq_set S' 283 p' (i : Int) 283 j = ((if j < p' then ln j else if j = p' then i else ln (j - 1) : Nat) : Int)
        by_cases c1 : j < p'
        · rw [if_pos c1, wy_set_ne (by omega)]
          exact e5 j c1
        · rw [if_neg c1]
          by_cases c2 : j = p'
          · rw [if_pos c2, wy_set_at rfl c2]
          · rw [if_neg c2, wy_set_ne (by omega)]
            exact e6 j (by omega) (by omega)
      exact ih (W + 1, _, wq_set S' 283 p' (i : Int)) ⟨wy_ln_ins hl e2 hd e8 e7, ha', wy_R_scr e3 (by unfold wy_scr; omega)⟩
  · intro n ⟨W, ln, S1⟩ ⟨hl, ha, hr⟩
    dsimp only at hl ha hr ⊢
    rw [l_X2_lineUpDueReports_4_s]
    unfold b_X2_lineUpDueReports_4
    rw [if_pos (by decide)]
    exact ⟨W, ln, S1, rfl, hl, ha, hr⟩
end
end
section
/-! what always holds, kept by writes -/
section
variable {P Q S M : wq_St}
theorem wy_ct_cg {t : Nat} (h : ∀ i, Q 3 i = P 3 i) : ∀ n, wy_ct Q t n = wy_ct P t n
  | 0 => rfl
  | n + 1 => by
    simp only [wy_ct]
    rw [h, wy_ct_cg h n]
theorem wy_iv_cg (hI : wy_iv P) (h : ∀ f i, 1 ≤ f → Q f i = P f i) (h5 : Q 0 5 = P 0 5) (h11 : Q 0 11 = P 0 11) (h28 : Q 0 28 = P 0 28) : wy_iv Q := by
  obtain ⟨iB, iO, iK, iD, iL, iT, iC, iS, iN, iP⟩ := hI
  refine ⟨fun f i h1 h2 => ?_, ?_, fun t ht => ?_, fun r hr => ?_, fun i => ?_, fun r j hj => ?_, fun r k hk => ?_, fun r hr => ?_, fun r h1 h2 => ?_, fun t ht => ?_⟩
  · rw [h f i h1]
    exact iB f i h1 h2
  · unfold wy_iO
    rw [h5, h11, h28]
    exact iO
  · rw [h5] at ht
    rw [h 10 t (by omega)]
    exact iK t ht
  · rw [h28] at hr
    rw [h 12 r (by omega)]
    exact iD r hr
  · rw [h 8 i (by omega), h 9 i (by omega)]
    exact iL i
  · rw [h 13 r (by omega)] at hj
    rw [h 14 _ (by omega), h5]
    exact iT r j hj
  · rw [h 15 r (by omega)] at hk
    rw [h 13 _ (by omega), h 16 _ (by omega), h 17 _ (by omega), h 20 _ (by omega)]
    exact iC r k hk
  · rw [h 22 r (by omega)] at hr ⊢
    rw [h 13 _ (by omega), h 23 _ (by omega), h 28 _ (by omega)]
    exact iS r hr
  · rw [h28] at h1
    rw [h 22 _ (by omega), h 24 _ (by omega), h 25 _ (by omega), h 26 _ (by omega)]
    exact iN r h1 h2
  · rw [h 27 _ (by omega), h 2 _ (by omega), wy_ct_cg (fun i => h 3 i (by omega))]
    exact iP t ht
theorem wy_iv_0 (hI : wy_iv P) {j : Nat} {v : Int} (hj : j ≠ 5 ∧ j ≠ 11 ∧ j ≠ 28) : wy_iv (wq_set P 0 j v) := wy_iv_cg hI (fun f i h => wy_set_ne (by omega)) (wy_set_ne (by omega)) (wy_set_ne (by omega)) (wy_set_ne (by omega))
theorem wy_iB_set (h : wy_iB P) {f j : Nat} {v : Int} (hv : 1 ≤ f → f ≤ 23 → wy_lo f ≤ v ∧ v ≤ wy_hi f) : wy_iB (wq_set P f j v) := fun g i h1 h2 => by
  by_cases e : g = f ∧ i = j
  · obtain ⟨rfl, rfl⟩ := e
    rw [wy_set_at rfl rfl]
    exact hv h1 h2
  · rw [wy_set_ne e]
    exact h g i h1 h2
theorem wy_set_cm {k j k' j' : Nat} {v v' : Int} (h : ¬(k = k' ∧ j = j')) : wq_set (wq_set S k j v) k' j' v' = wq_set (wq_set S k' j' v') k j v := by
  funext a i
  by_cases e : a = k ∧ i = j
  · rw [wy_set_ne (fun e' => h ⟨e.1.symm.trans e'.1, e.2.symm.trans e'.2⟩), wy_set_at e.1 e.2, wy_set_at e.1 e.2]
  · rw [wy_set_ne (S := wq_set S k' j' v') e]
    by_cases e' : a = k' ∧ i = j'
    · rw [wy_set_at e'.1 e'.2, wy_set_at e'.1 e'.2]
    · rw [wy_set_ne e', wy_set_ne e', wy_set_ne e]
theorem wy_ct_on {t i : Nat} {v : Int} (hv : v ≠ 0) : ∀ n, n ≤ i → wy_ct (wq_set P 3 (40 * t + i) v) t n = wy_ct P t n
  | 0, _ => rfl
  | n + 1, h => by
    simp only [wy_ct]
    rw [wy_ct_on hv n (by omega), wy_set_ne (by omega)]
theorem wy_ct_off {t i : Nat} (h1 : P 3 (40 * t + i) ≠ 0) : ∀ n, wy_ct (wq_set P 3 (40 * t + i) 0) t n = wy_ct P t n - (if i < n then 1 else 0)
  | 0 => by
    rw [if_neg (by omega)]
    rfl
  | n + 1 => by
    simp only [wy_ct]
    rw [wy_ct_off h1 n]
    by_cases e : n = i
    · subst e
      rw [wy_set_at rfl rfl, if_neg (by omega), if_pos rfl, if_neg h1, if_pos (by omega)]
      omega
    · rw [wy_set_ne (by omega)]
      by_cases c : i < n
      · rw [if_pos c, if_pos (c := i < n + 1) (by omega)]
        split <;> omega
      · rw [if_neg c, if_neg (c := i < n + 1) (by omega)]
        split <;> omega
theorem wy_ct_el {t t' i : Nat} {v : Int} (ht : t' ≠ t) (hi : i < 40) : ∀ n, n ≤ 40 → wy_ct (wq_set P 3 (40 * t + i) v) t' n = wy_ct P t' n
  | 0, _ => rfl
  | n + 1, h => by
    simp only [wy_ct]
    rw [wy_ct_el ht hi n (by omega), wy_set_ne (by omega)]
theorem wy_iv_10 (hI : wy_iv P) {t : Nat} {v : Int} (hv : v = 0 ∨ (v = 1 ∧ (t : Int) < P 0 5)) : wy_iv (wq_set P 10 t v) := by
  obtain ⟨iB, iO, iK, iD, iL, iT, iC, iS, iN, iP⟩ := hI
  exact ⟨(wy_iB_set iB (fun h1' h2' => show ((0) : Int) ≤ v ∧ v ≤ ((1) : Int) from ⟨by omega, by omega⟩)),
    by
    unfold wy_iO
    simp (disch := omega) only [wy_set_ne]
    exact iO,
    fun t' ht' => by
    by_cases e : t' = t
    · subst e
      rw [wy_set_ne (by omega)] at ht'
      rw [wy_set_at rfl rfl]
      omega
    · rw [wy_set_ne (by omega)] at ht'
      rw [wy_set_ne (by omega)]
      exact iK t' ht',
    fun r' hr' => by
    simp (disch := omega) only [wy_set_ne] at hr' ⊢
    exact iD r' hr',
    fun i' => by
    simp (disch := omega) only [wy_set_ne]
    exact iL i',
    fun r' j' hj' => by
    simp (disch := omega) only [wy_set_ne] at hj' ⊢
    exact iT r' j' hj',
    fun r' k' hk' => by
    simp (disch := omega) only [wy_set_ne] at hk' ⊢
    exact iC r' k' hk',
    fun r' hr' => by
    simp (disch := omega) only [wy_set_ne] at hr' ⊢
    exact iS r' hr',
    fun r' h1' h2' => by
    simp (disch := omega) only [wy_set_ne] at h1' ⊢
    exact iN r' h1' h2',
    fun t' ht' => by
    rw [wy_ct_cg (P := P) (fun i => by simp (disch := omega) only [wy_set_ne])]
    simp (disch := omega) only [wy_set_ne]
    exact iP t' ht'⟩
theorem wy_iv_addTable (hI : wy_iv P) {c : Int} {t : Nat} (hc : 1 ≤ c ∧ c ≤ 3) (ht : P 0 5 = (t : Int)) (h4 : t < 4) : wy_iv (wq_set (wq_set P 1 t c) 0 5 (P 0 5 + 1)) := by
  obtain ⟨iB, iO, iK, iD, iL, iT, iC, iS, iN, iP⟩ := hI
  exact ⟨(wy_iB_set (wy_iB_set iB (fun h1' h2' => show ((0) : Int) ≤ c ∧ c ≤ ((3) : Int) from ⟨by omega, by omega⟩)) (fun h1' h2' => by omega)),
    by
    unfold wy_iO at iO ⊢
    rw [wy_set_at (v := P 0 5 + 1) rfl rfl]
    simp (disch := omega) only [wy_set_ne]
    omega,
    fun t' ht' => by
    rw [wy_set_at (v := P 0 5 + 1) rfl rfl] at ht'
    simp (disch := omega) only [wy_set_ne]
    exact iK t' (by omega),
    fun r' hr' => by
    simp (disch := omega) only [wy_set_ne] at hr' ⊢
    exact iD r' hr',
    fun i' => by
    simp (disch := omega) only [wy_set_ne]
    exact iL i',
    fun r' j' hj' => by
    simp (disch := omega) only [wy_set_ne] at hj'
    rw [wy_set_at (v := P 0 5 + 1) rfl rfl]
    simp (disch := omega) only [wy_set_ne]
    have := iT r' j' hj'
    omega,
    fun r' k' hk' => by
    simp (disch := omega) only [wy_set_ne] at hk' ⊢
    exact iC r' k' hk',
    fun r' hr' => by
    simp (disch := omega) only [wy_set_ne] at hr' ⊢
    exact iS r' hr',
    fun r' h1' h2' => by
    simp (disch := omega) only [wy_set_ne] at h1' ⊢
    exact iN r' h1' h2',
    fun t' ht' => by
    rw [wy_ct_cg (P := P) (fun i => by simp (disch := omega) only [wy_set_ne])]
    simp (disch := omega) only [wy_set_ne]
    exact iP t' ht'⟩
theorem wy_iv_put (hI : wy_iv P) {t i : Nat} {a b c : Int} (ht : t < 4) (hi : P 2 t = (i : Int)) (hi4 : i < 40) (ha : 0 ≤ a ∧ a ≤ 999) (hb : 0 ≤ b ∧ b ≤ 999) (hc : 0 ≤ c ∧ c ≤ 999) : wy_iv (wq_set (wq_set (wq_set (wq_set (wq_set (wq_set P 4 (3 * (40 * t + i)) a) 4 (3 * (40 * t + i) + 1) b) 4 (3 * (40 * t + i) + 2) c) 3 (40 * t + i) 1) 2 t ((i : Int) + 1)) 27 t (P 27 t + 1)) := by
  obtain ⟨iB, iO, iK, iD, iL, iT, iC, iS, iN, iP⟩ := hI
  exact ⟨(wy_iB_set (wy_iB_set (wy_iB_set (wy_iB_set (wy_iB_set (wy_iB_set iB (fun h1' h2' => show ((0) : Int) ≤ a ∧ a ≤ ((999) : Int) from ⟨by omega, by omega⟩)) (fun h1' h2' => show ((0) : Int) ≤ b ∧ b ≤ ((999) : Int) from ⟨by omega, by omega⟩)) (fun h1' h2' => show ((0) : Int) ≤ c ∧ c ≤ ((999) : Int) from ⟨by omega, by omega⟩)) (fun h1' h2' => show ((0) : Int) ≤ 1 ∧ 1 ≤ ((1) : Int) from ⟨by omega, by omega⟩)) (fun h1' h2' => show ((0) : Int) ≤ ((i : Int) + 1) ∧ ((i : Int) + 1) ≤ ((40) : Int) from ⟨by omega, by omega⟩)) (fun h1' h2' => by omega)),
    by
    unfold wy_iO
    simp (disch := omega) only [wy_set_ne]
    exact iO,
    fun t' ht' => by
    simp (disch := omega) only [wy_set_ne] at ht' ⊢
    exact iK t' ht',
    fun r' hr' => by
    simp (disch := omega) only [wy_set_ne] at hr' ⊢
    exact iD r' hr',
    fun i' => by
    simp (disch := omega) only [wy_set_ne]
    exact iL i',
    fun r' j' hj' => by
    simp (disch := omega) only [wy_set_ne] at hj' ⊢
    exact iT r' j' hj',
    fun r' k' hk' => by
    simp (disch := omega) only [wy_set_ne] at hk' ⊢
    exact iC r' k' hk',
    fun r' hr' => by
    simp (disch := omega) only [wy_set_ne] at hr' ⊢
    exact iS r' hr',
    fun r' h1' h2' => by
    simp (disch := omega) only [wy_set_ne] at h1' ⊢
    exact iN r' h1' h2',
    fun t' ht' => by
    have b2 := (iB 2 t' (by omega) (by omega)).2
    have b2' : P 2 t' ≤ 40 := b2
    have e3 : ∀ i', wq_set (wq_set (wq_set (wq_set (wq_set (wq_set P 4 (3 * (40 * t + i)) a) 4 (3 * (40 * t + i) + 1) b) 4 (3 * (40 * t + i) + 2) c) 3 (40 * t + i) 1) 2 t ((i : Int) + 1)) 27 t (P 27 t + 1) 3 i' = wq_set P 3 (40 * t + i) 1 3 i' := fun i' => by
      rw [wy_set_ne (by omega), wy_set_ne (by omega)]
      by_cases e : i' = 40 * t + i
      · rw [wy_set_at rfl e, wy_set_at rfl e]
      · simp (disch := omega) only [wy_set_ne]
    rw [wy_ct_cg (P := wq_set P 3 (40 * t + i) 1) e3]
    by_cases e : t' = t
    · subst e
      rw [wy_set_at rfl rfl, wy_set_ne (by omega), wy_set_at rfl rfl]
      have := iP t' ht'
      rw [hi] at this
      have q : ((i : Int) + 1).toNat = i + 1 := by omega
      rw [q]
      simp only [wy_ct]
      rw [wy_ct_on (by omega) i (Nat.le_refl _), wy_set_at rfl rfl, if_neg (by omega), this, Int.toNat_natCast]
    · simp (disch := omega) only [wy_set_ne]
      rw [wy_ct_el e hi4 _ (by omega)]
      exact iP t' ht'⟩
theorem wy_iv_del (hI : wy_iv P) {t i : Nat} (ht : t < 4) (hi : (i : Int) < P 2 t) (h3 : P 3 (40 * t + i) ≠ 0) : wy_iv (wq_set (wq_set P 3 (40 * t + i) 0) 27 t (P 27 t - 1)) := by
  obtain ⟨iB, iO, iK, iD, iL, iT, iC, iS, iN, iP⟩ := hI
  exact ⟨(wy_iB_set (wy_iB_set iB (fun h1' h2' => show ((0) : Int) ≤ 0 ∧ 0 ≤ ((1) : Int) from ⟨by omega, by omega⟩)) (fun h1' h2' => by omega)),
    by
    unfold wy_iO
    simp (disch := omega) only [wy_set_ne]
    exact iO,
    fun t' ht' => by
    simp (disch := omega) only [wy_set_ne] at ht' ⊢
    exact iK t' ht',
    fun r' hr' => by
    simp (disch := omega) only [wy_set_ne] at hr' ⊢
    exact iD r' hr',
    fun i' => by
    simp (disch := omega) only [wy_set_ne]
    exact iL i',
    fun r' j' hj' => by
    simp (disch := omega) only [wy_set_ne] at hj' ⊢
    exact iT r' j' hj',
    fun r' k' hk' => by
    simp (disch := omega) only [wy_set_ne] at hk' ⊢
    exact iC r' k' hk',
    fun r' hr' => by
    simp (disch := omega) only [wy_set_ne] at hr' ⊢
    exact iS r' hr',
    fun r' h1' h2' => by
    simp (disch := omega) only [wy_set_ne] at h1' ⊢
    exact iN r' h1' h2',
    fun t' ht' => by
    have b2' : P 2 t' ≤ 40 := (iB 2 t' (by omega) (by omega)).2
    have b2 : P 2 t ≤ 40 := (iB 2 t (by omega) (by omega)).2
    rw [wy_ct_cg (P := wq_set P 3 (40 * t + i) 0) (fun i' => wy_set_ne (by omega))]
    by_cases e : t' = t
    · subst e
      rw [wy_set_at rfl rfl, wy_set_ne (by omega), wy_set_ne (by omega), wy_ct_off h3, if_pos (by omega), iP t' ht']
    · simp (disch := omega) only [wy_set_ne]
      rw [wy_ct_el e (by omega) _ (by omega)]
      exact iP t' ht'⟩
theorem wy_iv_5 (hI : wy_iv P) {i : Nat} {v : Int} (hv : v = 0 ∨ v = 1) : wy_iv (wq_set P 5 i v) := by
  obtain ⟨iB, iO, iK, iD, iL, iT, iC, iS, iN, iP⟩ := hI
  exact ⟨(wy_iB_set iB (fun h1' h2' => show ((0) : Int) ≤ v ∧ v ≤ ((1) : Int) from ⟨by omega, by omega⟩)),
    by
    unfold wy_iO
    simp (disch := omega) only [wy_set_ne]
    exact iO,
    fun t' ht' => by
    simp (disch := omega) only [wy_set_ne] at ht' ⊢
    exact iK t' ht',
    fun r' hr' => by
    simp (disch := omega) only [wy_set_ne] at hr' ⊢
    exact iD r' hr',
    fun i' => by
    simp (disch := omega) only [wy_set_ne]
    exact iL i',
    fun r' j' hj' => by
    simp (disch := omega) only [wy_set_ne] at hj' ⊢
    exact iT r' j' hj',
    fun r' k' hk' => by
    simp (disch := omega) only [wy_set_ne] at hk' ⊢
    exact iC r' k' hk',
    fun r' hr' => by
    simp (disch := omega) only [wy_set_ne] at hr' ⊢
    exact iS r' hr',
    fun r' h1' h2' => by
    simp (disch := omega) only [wy_set_ne] at h1' ⊢
    exact iN r' h1' h2',
    fun t' ht' => by
    rw [wy_ct_cg (P := P) (fun i => by simp (disch := omega) only [wy_set_ne])]
    simp (disch := omega) only [wy_set_ne]
    exact iP t' ht'⟩
theorem wy_iv_step (hI : wy_iv P) {v : Int} (hv : 1 ≤ v ∧ v ≤ 10) : wy_iv (wq_set P 0 11 v) := by
  obtain ⟨iB, iO, iK, iD, iL, iT, iC, iS, iN, iP⟩ := hI
  exact ⟨(wy_iB_set iB (fun h1' h2' => by omega)),
    by
    unfold wy_iO at iO ⊢
    rw [wy_set_at rfl rfl]
    simp (disch := omega) only [wy_set_ne]
    omega,
    fun t' ht' => by
    simp (disch := omega) only [wy_set_ne] at ht' ⊢
    exact iK t' ht',
    fun r' hr' => by
    simp (disch := omega) only [wy_set_ne] at hr' ⊢
    exact iD r' hr',
    fun i' => by
    simp (disch := omega) only [wy_set_ne]
    exact iL i',
    fun r' j' hj' => by
    simp (disch := omega) only [wy_set_ne] at hj' ⊢
    exact iT r' j' hj',
    fun r' k' hk' => by
    simp (disch := omega) only [wy_set_ne] at hk' ⊢
    exact iC r' k' hk',
    fun r' hr' => by
    simp (disch := omega) only [wy_set_ne] at hr' ⊢
    exact iS r' hr',
    fun r' h1' h2' => by
    simp (disch := omega) only [wy_set_ne] at h1' ⊢
    exact iN r' h1' h2',
    fun t' ht' => by
    rw [wy_ct_cg (P := P) (fun i => by simp (disch := omega) only [wy_set_ne])]
    simp (disch := omega) only [wy_set_ne]
    exact iP t' ht'⟩
theorem wy_iv_addReport (hI : wy_iv P) {v : Int} {r : Nat} (hv : 0 ≤ v ∧ v ≤ 1000) (hr : P 0 28 = (r : Int)) (h8 : r < 8) : wy_iv (wq_set (wq_set P 11 r v) 0 28 (P 0 28 + 1)) := by
  obtain ⟨iB, iO, iK, iD, iL, iT, iC, iS, iN, iP⟩ := hI
  exact ⟨(wy_iB_set (wy_iB_set iB (fun h1' h2' => show ((0) : Int) ≤ v ∧ v ≤ ((1000) : Int) from ⟨by omega, by omega⟩)) (fun h1' h2' => by omega)),
    by
    unfold wy_iO at iO ⊢
    rw [wy_set_at (v := P 0 28 + 1) rfl rfl]
    simp (disch := omega) only [wy_set_ne]
    omega,
    fun t' ht' => by
    simp (disch := omega) only [wy_set_ne] at ht' ⊢
    exact iK t' ht',
    fun r' hr' => by
    rw [wy_set_at (v := P 0 28 + 1) rfl rfl] at hr'
    simp (disch := omega) only [wy_set_ne]
    exact iD r' (by omega),
    fun i' => by
    simp (disch := omega) only [wy_set_ne]
    exact iL i',
    fun r' j' hj' => by
    simp (disch := omega) only [wy_set_ne] at hj' ⊢
    exact iT r' j' hj',
    fun r' k' hk' => by
    simp (disch := omega) only [wy_set_ne] at hk' ⊢
    exact iC r' k' hk',
    fun r' hr' => by
    simp (disch := omega) only [wy_set_ne] at hr' ⊢
    exact iS r' hr',
    fun r' h1' h2' => by
    rw [wy_set_at (v := P 0 28 + 1) rfl rfl] at h1'
    simp (disch := omega) only [wy_set_ne]
    exact iN r' (by omega) h2',
    fun t' ht' => by
    rw [wy_ct_cg (P := P) (fun i => by simp (disch := omega) only [wy_set_ne])]
    simp (disch := omega) only [wy_set_ne]
    exact iP t' ht'⟩
theorem wy_iv_addSource (hI : wy_iv P) {v : Int} {r n : Nat} (hv : 0 ≤ v ∧ v < P 0 5) (hn : P 13 r = (n : Int)) (h3 : n < 3) : wy_iv (wq_set (wq_set P 14 (3 * r + n) v) 13 r ((n : Int) + 1)) := by
  obtain ⟨iB, iO, iK, iD, iL, iT, iC, iS, iN, iP⟩ := hI
  have iO9 := iO
  unfold wy_iO at iO9
  exact ⟨(wy_iB_set (wy_iB_set iB (fun h1' h2' => show ((0) : Int) ≤ v ∧ v ≤ ((3) : Int) from ⟨by omega, by omega⟩)) (fun h1' h2' => show ((0) : Int) ≤ ((n : Int) + 1) ∧ ((n : Int) + 1) ≤ ((3) : Int) from ⟨by omega, by omega⟩)),
    by
    unfold wy_iO
    simp (disch := omega) only [wy_set_ne]
    exact iO,
    fun t' ht' => by
    simp (disch := omega) only [wy_set_ne] at ht' ⊢
    exact iK t' ht',
    fun r' hr' => by
    simp (disch := omega) only [wy_set_ne] at hr' ⊢
    exact iD r' hr',
    fun i' => by
    simp (disch := omega) only [wy_set_ne]
    exact iL i',
    fun r' j' hj' => by
    rw [wy_set_ne (i := 5) (by omega), wy_set_ne (i := 5) (by omega), wy_set_ne (a := 14) (by omega)]
    by_cases e : r' = r
    · subst e
      rw [wy_set_at rfl rfl] at hj'
      by_cases e2 : j' = n
      · rw [wy_set_at rfl (by omega)]
        omega
      · rw [wy_set_ne (by omega)]
        exact iT r' j' (by omega)
    · rw [wy_set_ne (by omega), wy_set_ne (by omega)] at hj'
      have b13 : P 13 r' ≤ 3 := (iB 13 r' (by omega) (by omega)).2
      rw [wy_set_ne (by omega)]
      exact iT r' j' hj',
    fun r' k' hk' => by
    rw [wy_set_ne (by omega), wy_set_ne (by omega)] at hk'
    have h := iC r' k' hk'
    rw [wy_set_ne (a := 17) (by omega), wy_set_ne (a := 17) (by omega), wy_set_ne (a := 16) (by omega), wy_set_ne (a := 16) (by omega), wy_set_ne (a := 20) (by omega), wy_set_ne (a := 20) (by omega)]
    by_cases e : r' = r
    · subst e
      rw [wy_set_at rfl rfl]
      exact ⟨by omega, fun h3' => ⟨by have := (h.2 h3').1; omega, (h.2 h3').2⟩⟩
    · rw [wy_set_ne (by omega), wy_set_ne (by omega)]
      exact h,
    fun r' hr' => by
    rw [wy_set_ne (by omega), wy_set_ne (by omega)] at hr'
    have h := iS r' hr'
    rw [wy_set_ne (a := 22) (by omega), wy_set_ne (a := 22) (by omega), wy_set_ne (a := 23) (by omega), wy_set_ne (a := 23) (by omega), wy_set_ne (a := 28) (by omega), wy_set_ne (a := 28) (by omega)]
    by_cases e : r' = r
    · subst e
      rw [wy_set_at rfl rfl]
      exact ⟨by omega, h.2⟩
    · rw [wy_set_ne (by omega), wy_set_ne (by omega)]
      exact h,
    fun r' h1' h2' => by
    simp (disch := omega) only [wy_set_ne] at h1' ⊢
    exact iN r' h1' h2',
    fun t' ht' => by
    rw [wy_ct_cg (P := P) (fun i => by simp (disch := omega) only [wy_set_ne])]
    simp (disch := omega) only [wy_set_ne]
    exact iP t' ht'⟩
theorem wy_iv_addCondition (hI : wy_iv P) {r n : Nat} {so co ki nu : Int} (hs : 0 ≤ so ∧ so < P 13 r) (hs2 : so ≤ 2) (hc : 0 ≤ co ∧ co ≤ 2) (hk : 0 ≤ ki ∧ ki ≤ 2) (hu : 0 ≤ nu ∧ nu ≤ 999) (hn : P 15 r = (n : Int)) (h6 : n < 6) : wy_iv (wq_set (wq_set (wq_set (wq_set (wq_set P 17 (6 * r + n) so) 18 (6 * r + n) co) 16 (6 * r + n) ki) 19 (6 * r + n) nu) 15 r ((n : Int) + 1)) := by
  obtain ⟨iB, iO, iK, iD, iL, iT, iC, iS, iN, iP⟩ := hI
  exact ⟨(wy_iB_set (wy_iB_set (wy_iB_set (wy_iB_set (wy_iB_set iB (fun h1' h2' => show ((0) : Int) ≤ so ∧ so ≤ ((2) : Int) from ⟨by omega, by omega⟩)) (fun h1' h2' => show ((0) : Int) ≤ co ∧ co ≤ ((2) : Int) from ⟨by omega, by omega⟩)) (fun h1' h2' => show ((0) : Int) ≤ ki ∧ ki ≤ ((3) : Int) from ⟨by omega, by omega⟩)) (fun h1' h2' => show ((0) : Int) ≤ nu ∧ nu ≤ ((999) : Int) from ⟨by omega, by omega⟩)) (fun h1' h2' => show ((0) : Int) ≤ ((n : Int) + 1) ∧ ((n : Int) + 1) ≤ ((6) : Int) from ⟨by omega, by omega⟩)),
    by
    unfold wy_iO
    simp (disch := omega) only [wy_set_ne]
    exact iO,
    fun t' ht' => by
    simp (disch := omega) only [wy_set_ne] at ht' ⊢
    exact iK t' ht',
    fun r' hr' => by
    simp (disch := omega) only [wy_set_ne] at hr' ⊢
    exact iD r' hr',
    fun i' => by
    simp (disch := omega) only [wy_set_ne]
    exact iL i',
    fun r' j' hj' => by
    simp (disch := omega) only [wy_set_ne] at hj' ⊢
    exact iT r' j' hj',
    fun r' k' hk' => by
    by_cases e : r' = r ∧ k' = n
    · obtain ⟨rfl, rfl⟩ := e
      rw [wy_set_ne (a := 17) (by omega), wy_set_ne (a := 17) (by omega), wy_set_ne (a := 17) (by omega), wy_set_ne (a := 17) (by omega), wy_set_at (a := 17) rfl rfl, wy_set_ne (a := 16) (by omega), wy_set_ne (a := 16) (by omega), wy_set_at (a := 16) rfl rfl]
      simp (disch := omega) only [wy_set_ne]
      exact ⟨hs.2, fun h => by omega⟩
    · have b15 : P 15 r' ≤ 6 := (iB 15 r' (by omega) (by omega)).2
      have hk2 : (k' : Int) < P 15 r' := by
        by_cases e2 : r' = r
        · subst e2
          rw [wy_set_at rfl rfl] at hk'
          omega
        · simp (disch := omega) only [wy_set_ne] at hk'
          exact hk'
      simp (disch := omega) only [wy_set_ne]
      exact iC r' k' hk2,
    fun r' hr' => by
    simp (disch := omega) only [wy_set_ne] at hr' ⊢
    exact iS r' hr',
    fun r' h1' h2' => by
    simp (disch := omega) only [wy_set_ne] at h1' ⊢
    exact iN r' h1' h2',
    fun t' ht' => by
    rw [wy_ct_cg (P := P) (fun i => by simp (disch := omega) only [wy_set_ne])]
    simp (disch := omega) only [wy_set_ne]
    exact iP t' ht'⟩
theorem wy_iv_addJoin (hI : wy_iv P) {r n : Nat} {so co ot oc : Int} (hs : 0 ≤ so ∧ so < P 13 r) (hs2 : so ≤ 2) (hc : 0 ≤ co ∧ co ≤ 2) (ho : 0 ≤ ot ∧ ot < P 13 r) (ho2 : ot ≤ 2) (hd : 0 ≤ oc ∧ oc ≤ 2) (hne : so ≠ ot) (hn : P 15 r = (n : Int)) (h6 : n < 6) : wy_iv (wq_set (wq_set (wq_set (wq_set (wq_set (wq_set P 17 (6 * r + n) so) 18 (6 * r + n) co) 16 (6 * r + n) 3) 20 (6 * r + n) ot) 21 (6 * r + n) oc) 15 r ((n : Int) + 1)) := by
  obtain ⟨iB, iO, iK, iD, iL, iT, iC, iS, iN, iP⟩ := hI
  exact ⟨(wy_iB_set (wy_iB_set (wy_iB_set (wy_iB_set (wy_iB_set (wy_iB_set iB (fun h1' h2' => show ((0) : Int) ≤ so ∧ so ≤ ((2) : Int) from ⟨by omega, by omega⟩)) (fun h1' h2' => show ((0) : Int) ≤ co ∧ co ≤ ((2) : Int) from ⟨by omega, by omega⟩)) (fun h1' h2' => show ((0) : Int) ≤ 3 ∧ 3 ≤ ((3) : Int) from ⟨by omega, by omega⟩)) (fun h1' h2' => show ((0) : Int) ≤ ot ∧ ot ≤ ((2) : Int) from ⟨by omega, by omega⟩)) (fun h1' h2' => show ((0) : Int) ≤ oc ∧ oc ≤ ((2) : Int) from ⟨by omega, by omega⟩)) (fun h1' h2' => show ((0) : Int) ≤ ((n : Int) + 1) ∧ ((n : Int) + 1) ≤ ((6) : Int) from ⟨by omega, by omega⟩)),
    by
    unfold wy_iO
    simp (disch := omega) only [wy_set_ne]
    exact iO,
    fun t' ht' => by
    simp (disch := omega) only [wy_set_ne] at ht' ⊢
    exact iK t' ht',
    fun r' hr' => by
    simp (disch := omega) only [wy_set_ne] at hr' ⊢
    exact iD r' hr',
    fun i' => by
    simp (disch := omega) only [wy_set_ne]
    exact iL i',
    fun r' j' hj' => by
    simp (disch := omega) only [wy_set_ne] at hj' ⊢
    exact iT r' j' hj',
    fun r' k' hk' => by
    by_cases e : r' = r ∧ k' = n
    · obtain ⟨rfl, rfl⟩ := e
      rw [wy_set_ne (a := 17) (by omega), wy_set_ne (a := 17) (by omega), wy_set_ne (a := 17) (by omega), wy_set_ne (a := 17) (by omega), wy_set_ne (a := 17) (by omega), wy_set_at (a := 17) rfl rfl, wy_set_ne (a := 20) (by omega), wy_set_ne (a := 20) (by omega), wy_set_at (a := 20) rfl rfl]
      simp (disch := omega) only [wy_set_ne]
      exact ⟨hs.2, fun _ => ⟨ho.2, fun h => hne h.symm⟩⟩
    · have b15 : P 15 r' ≤ 6 := (iB 15 r' (by omega) (by omega)).2
      have hk2 : (k' : Int) < P 15 r' := by
        by_cases e2 : r' = r
        · subst e2
          rw [wy_set_at rfl rfl] at hk'
          omega
        · simp (disch := omega) only [wy_set_ne] at hk'
          exact hk'
      simp (disch := omega) only [wy_set_ne]
      exact iC r' k' hk2,
    fun r' hr' => by
    simp (disch := omega) only [wy_set_ne] at hr' ⊢
    exact iS r' hr',
    fun r' h1' h2' => by
    simp (disch := omega) only [wy_set_ne] at h1' ⊢
    exact iN r' h1' h2',
    fun t' ht' => by
    rw [wy_ct_cg (P := P) (fun i => by simp (disch := omega) only [wy_set_ne])]
    simp (disch := omega) only [wy_set_ne]
    exact iP t' ht'⟩
theorem wy_iv_drop (hI : wy_iv P) {r n : Nat} (hn : P 15 r = (n : Int) + 1) : wy_iv (wq_set P 15 r ((n : Int))) := by
  obtain ⟨iB, iO, iK, iD, iL, iT, iC, iS, iN, iP⟩ := hI
  have b15 : P 15 r ≤ 6 := (iB 15 r (by omega) (by omega)).2
  exact ⟨(wy_iB_set iB (fun h1' h2' => show ((0) : Int) ≤ ((n : Int)) ∧ ((n : Int)) ≤ ((6) : Int) from ⟨by omega, by omega⟩)),
    by
    unfold wy_iO
    simp (disch := omega) only [wy_set_ne]
    exact iO,
    fun t' ht' => by
    simp (disch := omega) only [wy_set_ne] at ht' ⊢
    exact iK t' ht',
    fun r' hr' => by
    simp (disch := omega) only [wy_set_ne] at hr' ⊢
    exact iD r' hr',
    fun i' => by
    simp (disch := omega) only [wy_set_ne]
    exact iL i',
    fun r' j' hj' => by
    simp (disch := omega) only [wy_set_ne] at hj' ⊢
    exact iT r' j' hj',
    fun r' k' hk' => by
    have hk2 : (k' : Int) < P 15 r' := by
      by_cases e2 : r' = r
      · subst e2
        rw [wy_set_at rfl rfl] at hk'
        omega
      · simp (disch := omega) only [wy_set_ne] at hk'
        exact hk'
    simp (disch := omega) only [wy_set_ne]
    exact iC r' k' hk2,
    fun r' hr' => by
    simp (disch := omega) only [wy_set_ne] at hr' ⊢
    exact iS r' hr',
    fun r' h1' h2' => by
    simp (disch := omega) only [wy_set_ne] at h1' ⊢
    exact iN r' h1' h2',
    fun t' ht' => by
    rw [wy_ct_cg (P := P) (fun i => by simp (disch := omega) only [wy_set_ne])]
    simp (disch := omega) only [wy_set_ne]
    exact iP t' ht'⟩
theorem wy_iv_sum0 (hI : wy_iv P) {r : Nat} {v : Int} (hr : (r : Int) < P 0 28) (hv : -2147483648 ≤ v ∧ v ≤ 2147483647) : wy_iv (wq_set (wq_set P 22 r (-1)) 23 r v) := by
  obtain ⟨iB, iO, iK, iD, iL, iT, iC, iS, iN, iP⟩ := hI
  exact ⟨(wy_iB_set (wy_iB_set iB (fun h1' h2' => show ((-1) : Int) ≤ (-1) ∧ (-1) ≤ ((2) : Int) from ⟨by omega, by omega⟩)) (fun h1' h2' => show ((-2147483648) : Int) ≤ v ∧ v ≤ ((2147483647) : Int) from ⟨by omega, by omega⟩)),
    by
    unfold wy_iO
    simp (disch := omega) only [wy_set_ne]
    exact iO,
    fun t' ht' => by
    simp (disch := omega) only [wy_set_ne] at ht' ⊢
    exact iK t' ht',
    fun r' hr' => by
    simp (disch := omega) only [wy_set_ne] at hr' ⊢
    exact iD r' hr',
    fun i' => by
    simp (disch := omega) only [wy_set_ne]
    exact iL i',
    fun r' j' hj' => by
    simp (disch := omega) only [wy_set_ne] at hj' ⊢
    exact iT r' j' hj',
    fun r' k' hk' => by
    simp (disch := omega) only [wy_set_ne] at hk' ⊢
    exact iC r' k' hk',
    fun r' hr' => by
    by_cases e : r' = r
    · rw [wy_set_ne (by omega), wy_set_at rfl e] at hr'
      exact absurd rfl hr'
    · simp (disch := omega) only [wy_set_ne] at hr' ⊢
      exact iS r' hr',
    fun r' h1' h2' => by
    simp (disch := omega) only [wy_set_ne] at h1'
    simp (disch := omega) only [wy_set_ne]
    exact iN r' h1' h2',
    fun t' ht' => by
    rw [wy_ct_cg (P := P) (fun i => by simp (disch := omega) only [wy_set_ne])]
    simp (disch := omega) only [wy_set_ne]
    exact iP t' ht'⟩
theorem wy_iv_sum1 (hI : wy_iv P) {r : Nat} {so v : Int} (hr : (r : Int) < P 0 28) (hs : 0 ≤ so ∧ so < P 13 r) (hs2 : so ≤ 2) (hv : 0 ≤ v ∧ v ≤ 2) : wy_iv (wq_set (wq_set (wq_set P 28 r v) 22 r so) 23 r v) := by
  obtain ⟨iB, iO, iK, iD, iL, iT, iC, iS, iN, iP⟩ := hI
  exact ⟨(wy_iB_set (wy_iB_set (wy_iB_set iB (fun h1' h2' => by omega)) (fun h1' h2' => show ((-1) : Int) ≤ so ∧ so ≤ ((2) : Int) from ⟨by omega, by omega⟩)) (fun h1' h2' => show ((-2147483648) : Int) ≤ v ∧ v ≤ ((2147483647) : Int) from ⟨by omega, by omega⟩)),
    by
    unfold wy_iO
    simp (disch := omega) only [wy_set_ne]
    exact iO,
    fun t' ht' => by
    simp (disch := omega) only [wy_set_ne] at ht' ⊢
    exact iK t' ht',
    fun r' hr' => by
    simp (disch := omega) only [wy_set_ne] at hr' ⊢
    exact iD r' hr',
    fun i' => by
    simp (disch := omega) only [wy_set_ne]
    exact iL i',
    fun r' j' hj' => by
    simp (disch := omega) only [wy_set_ne] at hj' ⊢
    exact iT r' j' hj',
    fun r' k' hk' => by
    simp (disch := omega) only [wy_set_ne] at hk' ⊢
    exact iC r' k' hk',
    fun r' hr' => by
    by_cases e : r' = r
    · subst e
      rw [wy_set_at (a := 23) rfl rfl, wy_set_ne (a := 28) (by omega), wy_set_ne (a := 28) (by omega), wy_set_at (a := 28) rfl rfl, wy_set_ne (a := 22) (by omega), wy_set_at (a := 22) rfl rfl]
      simp (disch := omega) only [wy_set_ne]
      exact ⟨hs.2, trivial, hv.1, hv.2⟩
    · simp (disch := omega) only [wy_set_ne] at hr' ⊢
      exact iS r' hr',
    fun r' h1' h2' => by
    simp (disch := omega) only [wy_set_ne] at h1'
    simp (disch := omega) only [wy_set_ne]
    exact iN r' h1' h2',
    fun t' ht' => by
    rw [wy_ct_cg (P := P) (fun i => by simp (disch := omega) only [wy_set_ne])]
    simp (disch := omega) only [wy_set_ne]
    exact iP t' ht'⟩
theorem wy_iv_due (hI : wy_iv P) {r : Nat} {v : Int} (hr : (r : Int) < P 0 28) (hv : v = 0 ∨ v = 1) : wy_iv (wq_set P 12 r v) := by
  obtain ⟨iB, iO, iK, iD, iL, iT, iC, iS, iN, iP⟩ := hI
  exact ⟨(wy_iB_set iB (fun h1' h2' => show ((0) : Int) ≤ v ∧ v ≤ ((1) : Int) from ⟨by omega, by omega⟩)),
    by
    unfold wy_iO
    simp (disch := omega) only [wy_set_ne]
    exact iO,
    fun t' ht' => by
    simp (disch := omega) only [wy_set_ne] at ht' ⊢
    exact iK t' ht',
    fun r' hr' => by
    simp (disch := omega) only [wy_set_ne] at hr'
    simp (disch := omega) only [wy_set_ne]
    exact iD r' hr',
    fun i' => by
    simp (disch := omega) only [wy_set_ne]
    exact iL i',
    fun r' j' hj' => by
    simp (disch := omega) only [wy_set_ne] at hj' ⊢
    exact iT r' j' hj',
    fun r' k' hk' => by
    simp (disch := omega) only [wy_set_ne] at hk' ⊢
    exact iC r' k' hk',
    fun r' hr' => by
    simp (disch := omega) only [wy_set_ne] at hr' ⊢
    exact iS r' hr',
    fun r' h1' h2' => by
    simp (disch := omega) only [wy_set_ne] at h1' ⊢
    exact iN r' h1' h2',
    fun t' ht' => by
    rw [wy_ct_cg (P := P) (fun i => by simp (disch := omega) only [wy_set_ne])]
    simp (disch := omega) only [wy_set_ne]
    exact iP t' ht'⟩
theorem wy_rn_u {t : Nat} {b : Int} {n f j : Nat} (h : ¬(f = 6 ∧ j = t) ∧ ¬(3 * t ≤ j ∧ j < 3 * t + n ∧ 7 ≤ f ∧ f ≤ 9)) : wy_rn P t b n f j = P f j := by
  unfold wy_rn
  rw [if_neg h.1]
  split
  · rw [if_neg (by omega), if_neg (by omega), if_neg (by omega)]
  · rfl
theorem wy_iv_rn (hI : wy_iv P) {t : Nat} {b : Int} (h1 : 1 ≤ b) (n : Nat) : wy_iv (wy_rn P t b n) := by
  have b2 := wy_b2 hI t
  have hct := wy_ct_b P t (P 2 t).toNat
  have hI' := hI
  have o : ∀ f i, f ≠ 6 ∧ f ≠ 7 ∧ f ≠ 8 ∧ f ≠ 9 → wy_rn P t b n f i = P f i := fun f i h => wy_rn_o h
  obtain ⟨iB, iO, iK, iD, iL, iT, iC, iS, iN, iP⟩ := hI
  refine ⟨fun f i g1 g2 => ?_, ?_, fun t ht => ?_, fun r hr => ?_, fun i => ?_, fun r j hj => ?_, fun r k hk => ?_, fun r hr => ?_, fun r h1 h2 => ?_, fun t' ht => ?_⟩
  · by_cases e : ¬(f = 6 ∧ i = t) ∧ ¬(3 * t ≤ i ∧ i < 3 * t + n ∧ 7 ≤ f ∧ f ≤ 9)
    · rw [wy_rn_u e]
      exact iB f i g1 g2
    · unfold wy_rn
      by_cases e6 : f = 6 ∧ i = t
      · rw [if_pos e6, e6.1]
        exact ⟨hct.1, Int.le_trans hct.2 (by show _ ≤ (40 : Int); omega)⟩
      · have hu := @wy_un_b P t b (i - 3 * t) (P 2 t).toNat
        have hl := @wy_legr P t b hI' (i - 3 * t) (P 2 t).toNat
        have hm := Int.mul_nonneg (a := b) (by omega) hu.1
        rw [if_neg e6, if_pos (by omega)]
        have c : f = 7 ∨ f = 8 ∨ f = 9 := by omega
        rcases c with rfl | rfl | rfl
        · rw [if_pos rfl]
          show (0 : Int) ≤ _ ∧ _ ≤ (40 : Int)
          split <;> omega
        · rw [if_neg (by omega), if_pos rfl]
          show (0 : Int) ≤ _ ∧ _ ≤ (999 : Int)
          omega
        · rw [if_neg (by omega), if_neg (by omega), if_pos rfl]
          show (0 : Int) ≤ _ ∧ _ ≤ (999 : Int)
          omega
  · unfold wy_iO
    rw [o 0 5 (by omega), o 0 11 (by omega), o 0 28 (by omega)]
    exact iO
  · rw [o 0 5 (by omega)] at ht
    rw [o 10 _ (by omega)]
    exact iK t ht
  · rw [o 0 28 (by omega)] at hr
    rw [o 12 _ (by omega)]
    exact iD r hr
  · by_cases e : 3 * t ≤ i ∧ i < 3 * t + n
    · have hl := @wy_legr P t b hI' (i - 3 * t) (P 2 t).toNat
      unfold wy_rn
      rw [if_neg (by omega), if_pos e, if_neg (by omega), if_pos rfl, if_neg (by omega), if_pos e, if_neg (by omega), if_neg (by omega), if_pos rfl]
      exact hl.2.1
    · rw [wy_rn_u (by omega), wy_rn_u (by omega)]
      exact iL i
  · rw [o 13 _ (by omega)] at hj
    rw [o 14 _ (by omega), o 0 5 (by omega)]
    exact iT r j hj
  · rw [o 15 _ (by omega)] at hk
    rw [o 13 _ (by omega), o 16 _ (by omega), o 17 _ (by omega), o 20 _ (by omega)]
    exact iC r k hk
  · rw [o 22 _ (by omega)] at hr ⊢
    rw [o 13 _ (by omega), o 23 _ (by omega), o 28 _ (by omega)]
    exact iS r hr
  · rw [o 0 28 (by omega)] at h1
    rw [o 22 _ (by omega), o 24 _ (by omega), o 25 _ (by omega), o 26 _ (by omega)]
    exact iN r h1 h2
  · rw [o 27 _ (by omega), o 2 _ (by omega), wy_ct_cg (fun i => o 3 i (by omega))]
    exact iP t' ht
end
end
section
/-! NIGHTS: at dusk -/
/-- foretold minutes; what a run takes, finds and sums up; whether a plan was wrong -/
def wy_ft (P : wq_St) (r : Nat) : Int := wq_divL ((wy_pp P r).1 + 999) 1000
def wy_tr (P : wq_St) (r : Nat) : Int := wy_tk P r (wy_pp P r).2.1 (wy_pp P r).2.2
def wy_fd (P : wq_St) (r : Nat) : Int := wy_fn (fun _ => 1) P r (wy_pp P r).2.1
def wy_sd (P : wq_St) (r : Nat) : Int := wy_fn (wy_sv P r) P r (wy_pp P r).2.1
abbrev wy_wr (P : wq_St) (r : Nat) : Prop := wq_w (2 * wy_ft P r) < wq_w (wy_tr P r) ∨ ¬(wq_w (wy_ft P r) ≤ wq_w (2 * wy_tr P r))
def wy_s1 (P : wq_St) (t : Nat) : Int := (wy_ns P t (P 0 11) (P 2 t).toNat : Int)
def wy_dp (P : wq_St) (n : Nat) : Int := wy_su (fun t => if P 10 t = 0 then 0 else wy_s1 P t) n
def wy_dq (P : wq_St) (n : Nat) : Int := wy_su (fun r => if P 12 r = 0 then 0 else wy_ft P r) n
def wy_py (P : wq_St) (x : Int) : Int := x + wy_dp P 4 + wy_dq P 8
def wy_pd (P : wq_St) (x : Int) : wq_St := wq_set (wq_set P 0 30 (P 0 30 + wy_py P x)) 0 31 (wy_py P x)
section
variable {P Q S M : wq_St} {r : Nat}
theorem wy_fz (hI : wy_iv P) {S1 : wq_St} (h : S1 276 3 = (wy_pp P r).1) : f_X3_foretoldMinutes 276 S1 = some (wy_ft P r, S1) := by
  unfold f_X3_foretoldMinutes
  rw [wq_gd_t (by rw [wq_v_id (by omega) (by omega)]; omega), h]
  have e : (wy_pp P r).1 + 1000 - 1 = (wy_pp P r).1 + 999 := by omega
  rw [e]
  rfl
theorem wy_x_ft (hI : wy_iv P) (hR : wy_R wy_co S P) (hr : r < 8) : ∃ S1, f_X4_choose (199 + 9 * r) S = some (276, S1) ∧ wy_fr S S1 ∧ wy_bs P r S1 (some (wy_pp P r)) ∧ f_X3_foretoldMinutes 276 S1 = some (wy_ft P r, S1) := by
  obtain ⟨S1, e1, hf, hb⟩ := wy_x_choose hI hR hr
  exact ⟨S1, e1, hf, hb, wy_fz hI hb.1⟩
theorem wy_x_run (hI : wy_iv P) (hR : wy_R wy_co S P) (hr : r < 8) : ∃ S1 S2, f_X4_choose (199 + 9 * r) S = some (276, S1) ∧ f_X6_goThrough (199 + 9 * r) 276 S1 = some (0, S2) ∧ f_X3_foretoldMinutes 276 S2 = some (wy_ft P r, S2) ∧ S2 280 2 = wy_tr P r ∧ S2 280 3 = wy_fd P r ∧ S2 280 4 = wy_sd P r ∧ ∀ k j, ¬(272 ≤ k ∧ k ≤ 281) → S2 k j = S k j := by
  obtain ⟨S1, e1, hf, hb⟩ := wy_x_choose hI hR hr
  have hv := fun h1 => @wy_vp_pp P r hI h1
  obtain ⟨S2, e2, z2, z3, z4, h2⟩ := wy_x_go (q := 276) (w := (wy_pp P r).2.2) hI (wy_fr_R hR hf) hr hv (by omega) (fun h1 => ⟨hb.2.2.2.1, fun x hx => by
    have h := hb.2.2.2.2 x (by have := wy_b13 hI r; omega)
    rw [if_pos ((hv h1).2.2.1 x (by omega) hx)] at h
    exact h⟩)
  refine ⟨S1, S2, e1, e2, wy_fz hI ?_, z2, z3, z4, fun k j hk => ?_⟩
  · rw [h2 _ _ (by omega)]
    exact hb.1
  · rw [h2 _ _ (by omega), hf _ _ (by omega)]
theorem wy_m_ft (hI : wy_iv P) (hM : wy_M wy_co M P) (hr : r < 8) : ∃ M1, f_X9_plans (r : Int) M = some (0, M1) ∧ f_X9_foretells (r : Int) M = some (wy_ft P r, M1) ∧ wy_fo M M1 ∧ (1 ≤ P 13 r → ∀ j, j < 3 → M1 27 j = (wy_pp P r).2.1 j ∧ M1 28 j = (wy_pp P r).2.2 j) := by
  obtain ⟨M1, e1, hf, h37, hp⟩ := wy_m_plans hI hM hr
  refine ⟨M1, e1, ?_, hf, hp⟩
  unfold f_X9_foretells
  rw [wy_bd e1, wq_gd_t (by rw [wq_v_id (by omega) (by omega)]; omega), h37]
  rfl
theorem wy_m_run (hI : wy_iv P) (hM : wy_M wy_co M P) (hr : r < 8) (hrn : (r : Int) < P 0 28) : ∃ M1 M2, f_X9_plans (r : Int) M = some (0, M1) ∧ f_X9_foretells (r : Int) M = some (wy_ft P r, M1) ∧ f_X9_runs (r : Int) M1 = some (0, M2) ∧ M2 0 39 = wy_tr P r ∧ M2 0 40 = wy_fd P r ∧ M2 0 41 = wy_sd P r ∧ ∀ f j, ¬(27 ≤ f ∧ f ≤ 31) → ¬(f = 0 ∧ 37 ≤ j ∧ j ≤ 41) → M2 f j = M f j := by
  obtain ⟨M1, e1, e2, hf, hp⟩ := wy_m_ft hI hM hr
  obtain ⟨M2, e3, h2, z1, z2, z3⟩ := wy_m_runs hI (wy_fo_M hM hf) hr hrn (fun h1 => @wy_vp_pp P r hI h1) hp
  exact ⟨M1, M2, e1, e2, e3, z1, z2, z3, fun f j a b => by rw [h2 _ _ (by omega) (by omega), hf _ _ (by omega) (by omega)]⟩
theorem wy_su_tail {f : Nat → Int} {a : Nat} : ∀ {b : Nat}, a ≤ b → (∀ i, a ≤ i → i < b → f i = 0) → wy_su f b = wy_su f a
  | 0, h, _ => by rw [Nat.le_zero.mp h]
  | b + 1, h, hz => by
    by_cases e : a = b + 1
    · rw [e]
    · simp only [wy_su]
      rw [hz b (by omega) (by omega), wy_su_tail (by omega) (fun i h1 h2 => hz i h1 (by omega)), Int.add_zero]
theorem wy_dp_s (n : Nat) : wy_dp P (n + 1) = wy_dp P n + (if P 10 n = 0 then 0 else wy_s1 P n) := rfl
theorem wy_dq_s (n : Nat) : wy_dq P (n + 1) = wy_dq P n + (if P 12 n = 0 then 0 else wy_ft P n) := rfl
theorem wy_x_pay2 (hI : wy_iv P) (hR : wy_R wy_al S P) (x : Int) : ∃ S', l_X2_takePay_45 (fun u13 S14 => wq_lt (wq_set S14 282 7 ((S14 282 7) + u13)) fun S15 => some (0, wq_set S15 282 8 u13)) wq_fu (x + wy_dp P 4) 0 S = some (0, S') ∧ wy_R wy_al S' (wy_pd P x) := by
  have key := wy_up (fun n i (s : wq_St) => ∃ S', l_X2_takePay_45 (fun u13 S14 => wq_lt (wq_set S14 282 7 ((S14 282 7) + u13)) fun S15 => some (0, wq_set S15 282 8 u13)) n (x + wy_dp P 4 + wy_dq P i) (i : Int) s = some (0, S') ∧ wy_R wy_al S' (wy_pd P x)) 8 (fun _ s => wy_R wy_al s P) ?_ ?_ wq_fu 0 S (by omega) (wy_fu' (by omega)) hR
  · have e : x + wy_dp P 4 + wy_dq P 0 = x + wy_dp P 4 := Int.add_zero _
    rw [e] at key
    exact key
  · intro n i s hi hs ih
    have w8 : wq_w 8 = 8 := rfl
    have b12 := wy_b12 hI i
    have e : ((i : Int) + 1) = ((i + 1 : Nat) : Int) := by omega
    rw [l_X2_takePay_45_s]
    unfold b_X2_takePay_45
    rw [w8, wq_w_id (x := (i : Int)) (by omega) (by omega), if_neg (by omega), wy_ix (by omega) (by omega) (by omega), Int.toNat_natCast, wy_c12 hs hi, wq_w_id (by omega) (by omega), e]
    rw [wy_dq_s] at ih
    by_cases h0 : P 12 i = 0
    · rw [if_pos h0, Int.add_zero] at ih
      rw [if_pos h0]
      exact ih s hs
    · rw [if_neg h0, ← Int.add_assoc] at ih
      rw [if_neg h0, wy_ix (by omega) (by omega) (by omega), Int.toNat_natCast]
      obtain ⟨S1, e1, hf, -, e2⟩ := wy_x_ft hI (wy_R_co hs) hi
      rw [wy_bd e1, wy_bd e2]
      exact ih S1 (wy_fr_R hs hf)
  · intro n s hs
    rw [l_X2_takePay_45_s]
    unfold b_X2_takePay_45
    rw [if_pos (by decide)]
    show ∃ S', wq_lt (wq_set s 282 7 (s 282 7 + (x + wy_dp P 4 + wy_dq P 8))) (fun S15 => some (0, wq_set S15 282 8 (x + wy_dp P 4 + wy_dq P 8))) = some (0, S') ∧ wy_R wy_al S' (wy_pd P x)
    rw [wy_lt, wy_cP hs]
    exact ⟨_, rfl, wy_R_set (wy_R_set hs _ (f₀ := 0) (i₀ := 30) ⟨by decide, fun _ => by omega⟩ rfl rfl) _ (f₀ := 0) (i₀ := 31) ⟨by decide, fun _ => by omega⟩ rfl rfl⟩
theorem wy_x_pay (hI : wy_iv P) (hR : wy_R wy_al S P) (x : Int) : ∃ S', f_X2_takePay x S = some (0, S') ∧ wy_R wy_al S' (wy_pd P x) := by
  have hO := hI.2.1
  unfold wy_iO at hO
  unfold f_X2_takePay
  have key := wy_up (fun n i (s : wq_St) => ∃ S', l_X2_takePay_4 (fun u5 S6 => l_X2_takePay_45 (fun u13 S14 => wq_lt (wq_set S14 282 7 ((S14 282 7) + u13)) fun S15 => some (0, wq_set S15 282 8 u13)) wq_fu u5 0 S6) n (x + wy_dp P i) (i : Int) s = some (0, S') ∧ wy_R wy_al S' (wy_pd P x)) 4 (fun _ s => wy_R wy_al s P) ?_ ?_ wq_fu 0 S (by omega) (wy_fu' (by omega)) hR
  · have e : x + wy_dp P 0 = x := Int.add_zero _
    rw [e] at key
    exact key
  · intro n i s hi hs ih
    have w4 : wq_w 4 = 4 := rfl
    have b10 := wy_b10 hI i
    have e : ((i : Int) + 1) = ((i + 1 : Nat) : Int) := by omega
    rw [l_X2_takePay_4_s]
    unfold b_X2_takePay_4
    rw [w4, wq_w_id (x := (i : Int)) (by omega) (by omega), if_neg (by omega), wy_ix (by omega) (by omega) (by omega), Int.toNat_natCast, wy_c10 hs hi, wq_w_id (by omega) (by omega), e]
    rw [wy_dp_s] at ih
    by_cases h0 : P 10 i = 0
    · rw [if_pos h0, Int.add_zero] at ih
      rw [if_pos h0]
      exact ih s hs
    · rw [if_neg h0, ← Int.add_assoc] at ih
      rw [if_neg h0, wy_ix (by omega) (by omega) (by omega), Int.toNat_natCast, wy_cS hs]
      obtain ⟨S1, e1, hf, -⟩ := wy_x_takeSample hI (wy_R_co hs) hi hO.2.2.1 hO.2.2.2.1
      rw [wy_bd e1]
      exact ih S1 (wy_R_fr hs fun k j hk => hf k j fun e => hk (by unfold wy_scr; omega))
  · intro n s hs
    rw [l_X2_takePay_4_s]
    unfold b_X2_takePay_4
    rw [if_pos (by decide)]
    exact wy_x_pay2 hI hs x
theorem wy_M_fo {C : Nat → Prop} {M' : wq_St} (h : wy_M C M P) (hf : ∀ f j, ¬(27 ≤ f) → ¬(f = 0 ∧ 33 ≤ j) → M' f j = M f j) : wy_M C M' P := fun f i h1 h2 h3 h4 => by
  rw [hf f i (by omega) (fun e => by have := h3 e.1; omega)]
  exact h f i h1 h2 h3 h4
theorem wy_m_dusk (hI : wy_iv P) (hM : wy_M wy_al M P) : ∃ M', f_X9_dusk M = some (wy_dp P 4 + wy_dq P 8, M') ∧ wy_M wy_al M' P ∧ M' 0 42 = M 0 42 := by
  have hO := hI.2.1
  unfold wy_iO at hO
  have e4 : wy_dp P 4 = wy_dp P (P 0 5).toNat := wy_su_tail (by omega) (fun i h1 _ => if_pos (hI.2.2.1 i (by omega)))
  have e8 : wy_dq P 8 = wy_dq P (P 0 28).toNat := wy_su_tail (by omega) (fun i h1 _ => if_pos (hI.2.2.2.1 i (by omega)))
  rw [e4, e8]
  have second : ∀ m, wy_M wy_al m P → m 0 42 = M 0 42 → ∃ M', l_X9_dusk_45 (fun u9 S10 => some (u9, S10)) wq_fu (wy_dp P (P 0 5).toNat) 0 m = some (wy_dp P (P 0 5).toNat + wy_dq P (P 0 28).toNat, M') ∧ wy_M wy_al M' P ∧ M' 0 42 = M 0 42 := by
    intro m hm hq
    have key := wy_up (fun n i (s : wq_St) => ∃ M', l_X9_dusk_45 (fun u9 S10 => some (u9, S10)) n (wy_dp P (P 0 5).toNat + wy_dq P i) (i : Int) s = some (wy_dp P (P 0 5).toNat + wy_dq P (P 0 28).toNat, M') ∧ wy_M wy_al M' P ∧ M' 0 42 = M 0 42) (P 0 28).toNat (fun _ s => wy_M wy_al s P ∧ s 0 42 = M 0 42) ?_ ?_ wq_fu 0 m (by omega) (wy_fu' (by omega)) ⟨hm, hq⟩
    · have e : wy_dp P (P 0 5).toNat + wy_dq P 0 = wy_dp P (P 0 5).toNat := Int.add_zero _
      rw [e] at key
      exact key
    · intro n i s hi ⟨hs, h42⟩ ih
      have b12 := wy_b12 hI i
      have e : ((i : Int) + 1) = ((i + 1 : Nat) : Int) := by omega
      rw [l_X9_dusk_45_s]
      unfold b_X9_dusk_45
      rw [wy_ma0 hs (i := 28) (by omega), wq_w_id (x := P 0 28) (by omega) (by omega), wq_w_id (x := (i : Int)) (by omega) (by omega), if_neg (by omega), wy_ix (by omega) (by omega) (by omega), Int.toNat_natCast, wy_ma hs (by omega), wq_w_id (by omega) (by omega), e]
      rw [wy_dq_s] at ih
      by_cases h0 : P 12 i = 0
      · rw [if_pos h0, Int.add_zero] at ih
        rw [if_pos h0, Int.add_zero]
        exact ih s ⟨hs, h42⟩
      · rw [if_neg h0, ← Int.add_assoc] at ih
        rw [if_neg h0]
        obtain ⟨M1, -, e1, hf, -⟩ := wy_m_ft hI (wy_M_co hs) (r := i) (by omega)
        rw [wy_bd e1]
        exact ih M1 ⟨wy_fo_M hs hf, by rw [hf 0 42 (by omega) (by omega)]; exact h42⟩
    · intro n s ⟨hs, h42⟩
      rw [l_X9_dusk_45_s]
      unfold b_X9_dusk_45
      rw [wy_ma0 hs (i := 28) (by omega), wq_w_id (x := P 0 28) (by omega) (by omega), wq_w_id (by omega) (by omega), if_pos (by omega)]
      exact ⟨s, rfl, hs, h42⟩
  unfold f_X9_dusk
  have key := wy_up (fun n i (s : wq_St) => ∃ M', l_X9_dusk_4 (fun u4 S5 => l_X9_dusk_45 (fun u9 S10 => some (u9, S10)) wq_fu u4 0 S5) n (wy_dp P i) (i : Int) s = some (wy_dp P (P 0 5).toNat + wy_dq P (P 0 28).toNat, M') ∧ wy_M wy_al M' P ∧ M' 0 42 = M 0 42) (P 0 5).toNat (fun _ s => wy_M wy_al s P ∧ s 0 42 = M 0 42) ?_ ?_ wq_fu 0 M (by omega) (wy_fu' (by omega)) ⟨hM, rfl⟩
  · have e : wy_dp P 0 = 0 := rfl
    rw [e] at key
    exact key
  · intro n i s hi ⟨hs, h42⟩ ih
    have b10 := wy_b10 hI i
    have e : ((i : Int) + 1) = ((i + 1 : Nat) : Int) := by omega
    rw [l_X9_dusk_4_s]
    unfold b_X9_dusk_4
    rw [wy_ma0 hs (i := 5) (by omega), wq_w_id (x := P 0 5) (by omega) (by omega), wq_w_id (x := (i : Int)) (by omega) (by omega), if_neg (by omega), wy_ix (by omega) (by omega) (by omega), Int.toNat_natCast, wy_ma hs (by omega), wq_w_id (by omega) (by omega), e]
    rw [wy_dp_s] at ih
    by_cases h0 : P 10 i = 0
    · rw [if_pos h0, Int.add_zero] at ih
      rw [if_pos h0, Int.add_zero]
      exact ih s ⟨hs, h42⟩
    · rw [if_neg h0] at ih
      rw [if_neg h0, wy_ma0 hs (i := 11) (by omega), wy_bd (wy_m_sample hI (fun j => wy_ma hs (by omega)) (fun j => wy_ma hs (by omega)) (by omega) hO.2.2.1 hO.2.2.2.1)]
      exact ih s ⟨hs, h42⟩
  · intro n s ⟨hs, h42⟩
    rw [l_X9_dusk_4_s]
    unfold b_X9_dusk_4
    rw [wy_ma0 hs (i := 5) (by omega), wq_w_id (x := P 0 5) (by omega) (by omega), wq_w_id (by omega) (by omega), if_pos (by omega)]
    exact second s hs h42
end
end
section
/-! NIGHTS: marked tables are renewed -/
def wy_nw (P : wq_St) (t : Nat) : wq_St := if P 10 t = 0 then P else if wq_w (wy_s1 P t) ≤ wq_w (P 0 31) then wq_set (wq_set (wy_rn P t (P 0 11) (P 1 t).toNat) 0 31 (P 0 31 - wy_s1 P t)) 10 t 0 else P
def wy_nq (P : wq_St) : Nat → wq_St
  | 0 => P
  | n + 1 => wy_nw (wy_nq P n) n
section
variable {P S M : wq_St} {t : Nat}
theorem wy_nw_iv (hI : wy_iv P) (t : Nat) : wy_iv (wy_nw P t) := by
  have hO := hI.2.1
  unfold wy_iO at hO
  unfold wy_nw
  split
  · exact hI
  · split
    · exact wy_iv_10 (wy_iv_0 (wy_iv_rn hI hO.2.2.1 _) (by omega)) (Or.inl rfl)
    · exact hI
theorem wy_nw_0 (j : Nat) (hj : j ≠ 31) : wy_nw P t 0 j = P 0 j := by
  unfold wy_nw
  split
  · rfl
  · split
    · rw [wy_set_ne (by omega), wy_set_ne (by omega), wy_rn_o (by omega)]
    · rfl
theorem wy_nq_iv (hI : wy_iv P) : ∀ n, wy_iv (wy_nq P n)
  | 0 => hI
  | n + 1 => wy_nw_iv (wy_nq_iv hI n) n
theorem wy_nq_0 (j : Nat) (hj : j ≠ 31) : ∀ n, wy_nq P n 0 j = P 0 j
  | 0 => rfl
  | n + 1 => by
    have h := wy_nq_0 j hj n
    rw [← h]
    exact wy_nw_0 j hj
theorem wy_nq_1 (j : Nat) : ∀ n, wy_nq P n 1 j = P 1 j
  | 0 => rfl
  | n + 1 => by
    have h := wy_nq_1 j n
    rw [← h]
    show wy_nw (wy_nq P n) n 1 j = wy_nq P n 1 j
    unfold wy_nw
    split
    · rfl
    · split
      · rw [wy_set_ne (by omega), wy_set_ne (by omega), wy_rn_o (by omega)]
      · rfl
theorem wy_nq_tail (hI : wy_iv P) {a : Nat} (ha : P 0 5 ≤ (a : Int)) : ∀ {b : Nat}, a ≤ b → wy_nq P b = wy_nq P a
  | 0, h => by rw [Nat.le_zero.mp h]
  | b + 1, h => by
    by_cases e : a = b + 1
    · rw [e]
    · have h1 := wy_nq_tail hI ha (b := b) (by omega)
      have h2 : wy_nq P b 10 b = 0 := (wy_nq_iv hI b).2.2.1 b (by rw [wy_nq_0 5 (by omega)]; omega)
      rw [← h1]
      show wy_nw (wy_nq P b) b = wy_nq P b
      unfold wy_nw
      rw [if_pos h2]
theorem wy_x_rmt (hI : wy_iv P) (hR : wy_R wy_al S P) : ∃ S', f_X2_renewMarkedTables S = some (0, S') ∧ wy_R wy_al S' (wy_nq P 4) := by
  unfold f_X2_renewMarkedTables
  have key := wy_up (fun n i (s : wq_St) => ∃ S', l_X2_renewMarkedTables_2 (fun S8 => some (0, S8)) n (i : Int) s = some (0, S') ∧ wy_R wy_al S' (wy_nq P 4)) 4 (fun i s => wy_R wy_al s (wy_nq P i)) ?_ ?_ wq_fu 0 S (by omega) (wy_fu' (by omega)) hR
  · exact key
  · intro n i s hi hs ih
    have hI' := wy_nq_iv hI i
    have ih' : ∀ s', wy_R wy_al s' (wy_nw (wy_nq P i) i) → _ := ih
    clear ih
    generalize wy_nq P i = Q at *
    have hO := hI'.2.1
    unfold wy_iO at hO
    have w4 : wq_w 4 = 4 := rfl
    have b10 := wy_b10 hI' i
    have e : ((i : Int) + 1) = ((i + 1 : Nat) : Int) := by omega
    rw [l_X2_renewMarkedTables_2_s]
    unfold b_X2_renewMarkedTables_2
    rw [w4, wq_w_id (x := (i : Int)) (by omega) (by omega), if_neg (by omega), wy_ix (by omega) (by omega) (by omega), Int.toNat_natCast, wy_c10 hs hi, wq_w_id (x := Q 10 i) (by omega) (by omega), e]
    unfold wy_nw at ih'
    by_cases h0 : Q 10 i = 0
    · rw [if_pos h0] at ih'
      rw [if_pos h0]
      exact ih' s hs
    · rw [if_neg h0] at ih'
      rw [if_neg h0, wy_cS hs]
      obtain ⟨S1, e1, hf, -⟩ := wy_x_takeSample hI' (wy_R_co hs) hi hO.2.2.1 hO.2.2.2.1
      have hs1 : wy_R wy_al S1 Q := wy_R_fr hs fun k j hk => hf k j fun e => hk (by unfold wy_scr; omega)
      rw [wy_bd e1, wy_cL hs1, wy_cS hs1]
      by_cases hc : wq_w (wy_s1 Q i) ≤ wq_w (Q 0 31)
      · rw [if_pos hc] at ih'
        unfold wy_s1 at hc
        rw [if_pos hc]
        obtain ⟨S2, e2, hr⟩ := wy_x_renew hI' hs1 hi hO.2.2.1 hO.2.2.2.1
        rw [wy_bd e2, wy_lt, wy_lt]
        exact ih' _ (wy_R_set (wy_R_set hr _ (f₀ := 0) (i₀ := 31) ⟨by decide, fun _ => by omega⟩ rfl rfl) _ (f₀ := 10) (i₀ := i) ⟨hi, fun e => by omega⟩ rfl rfl)
      · rw [if_neg hc] at ih'
        unfold wy_s1 at hc
        rw [if_neg hc]
        exact ih' S1 hs1
  · intro n s hs
    rw [l_X2_renewMarkedTables_2_s]
    unfold b_X2_renewMarkedTables_2
    rw [if_pos (by decide)]
    exact ⟨s, rfl, hs⟩
theorem wy_m_rmt (hI : wy_iv P) (hM : wy_M wy_al M P) (kx : wq_St → Option (Int × wq_St)) : ∃ M', l_X9_night_57 kx wq_fu 0 M = kx M' ∧ wy_M wy_al M' (wy_nq P 4) ∧ M' 0 42 = M 0 42 := by
  have hO0 := hI.2.1
  unfold wy_iO at hO0
  rw [wy_nq_tail hI (a := (P 0 5).toNat) (by omega) (b := 4) (by omega)]
  have key := wy_up (fun n i (s : wq_St) => ∃ M', l_X9_night_57 kx n (i : Int) s = kx M' ∧ wy_M wy_al M' (wy_nq P (P 0 5).toNat) ∧ M' 0 42 = M 0 42) (P 0 5).toNat (fun i s => wy_M wy_al s (wy_nq P i) ∧ s 0 42 = M 0 42) ?_ ?_ wq_fu 0 M (by omega) (wy_fu' (by omega)) ⟨hM, rfl⟩
  · exact key
  · intro n i s hi ⟨hs, h42⟩ ih
    have hI' := wy_nq_iv hI i
    have q5 : wy_nq P i 0 5 = P 0 5 := wy_nq_0 5 (by omega) i
    have ih' : ∀ s', wy_M wy_al s' (wy_nw (wy_nq P i) i) ∧ s' 0 42 = M 0 42 → _ := ih
    clear ih
    generalize wy_nq P i = Q at *
    have hO := hI'.2.1
    unfold wy_iO at hO
    have b10 := wy_b10 hI' i
    have e : ((i : Int) + 1) = ((i + 1 : Nat) : Int) := by omega
    have hi4 : i < 4 := by omega
    rw [l_X9_night_57_s]
    unfold b_X9_night_57
    rw [wy_ma0 hs (i := 5) (by omega), q5, wq_w_id (x := P 0 5) (by omega) (by omega), wq_w_id (x := (i : Int)) (by omega) (by omega), if_neg (by omega), wy_ix (by omega) (by omega) (by omega), Int.toNat_natCast, wy_ma hs (by omega), wq_w_id (x := Q 10 i) (by omega) (by omega), e]
    unfold wy_nw at ih'
    by_cases h0 : Q 10 i = 0
    · rw [if_pos h0] at ih'
      rw [if_pos h0]
      exact ih' s ⟨hs, h42⟩
    · rw [if_neg h0] at ih'
      rw [if_neg h0, wy_ma0 hs (i := 11) (by omega), wy_bd (wy_m_sample hI' (fun j => wy_ma hs (by omega)) (fun j => wy_ma hs (by omega)) hi4 hO.2.2.1 hO.2.2.2.1), wy_ma0 hs (i := 31) (by omega), wy_ma0 hs (i := 11) (by omega)]
      by_cases hc : wq_w (wy_s1 Q i) ≤ wq_w (Q 0 31)
      · rw [if_pos hc] at ih'
        unfold wy_s1 at hc
        rw [if_neg (by omega)]
        obtain ⟨M1, e1, hm1, hf⟩ := wy_m_renews hI' hs hi4 hO.2.2.1 hO.2.2.2.1
        have f11 : M1 0 11 = Q 0 11 := by rw [hf 0 11 (by omega), wy_ma0 hs (i := 11) (by omega)]
        have f31 : M1 0 31 = Q 0 31 := by rw [hf 0 31 (by omega), wy_ma0 hs (i := 31) (by omega)]
        rw [wy_bd e1, f11, wy_bd (wy_m_sample hI' (fun j => by rw [hf 2 j (by omega)]; exact wy_ma hs (by omega)) (fun j => by rw [hf 3 j (by omega)]; exact wy_ma hs (by omega)) hi4 hO.2.2.1 hO.2.2.2.1), wy_lt, wy_ix (by omega) (by omega) (by omega), Int.toNat_natCast, wy_lt, f31]
        exact ih' _ ⟨wy_M_set (wy_M_set hm1 _ (by omega)) _ (by omega), by rw [wy_set_ne (by omega), wy_set_ne (by omega), hf 0 42 (by omega)]; exact h42⟩
      · rw [if_neg hc] at ih'
        unfold wy_s1 at hc
        rw [if_pos (by omega)]
        exact ih' s ⟨hs, h42⟩
  · intro n s ⟨hs, h42⟩
    have q5 : wy_nq P (P 0 5).toNat 0 5 = P 0 5 := wy_nq_0 5 (by omega) _
    rw [l_X9_night_57_s]
    unfold b_X9_night_57
    rw [wy_ma0 hs (i := 5) (by omega), q5, wq_w_id (x := P 0 5) (by omega) (by omega), wq_w_id (by omega) (by omega), if_pos (by omega)]
    exact ⟨s, rfl, hs, h42⟩
end
end
section
/-! NIGHTS: tables are marked -/
def wy_mtn (P : wq_St) (r : Nat) : Nat → wq_St → wq_St
  | 0, Q => Q
  | k + 1, Q => wq_set (wy_mtn P r k Q) 10 (P 14 (3 * r + k)).toNat 1
def wy_mt (P : wq_St) (r : Nat) (Q : wq_St) : wq_St := wy_mtn P r (P 13 r).toNat Q
def wy_tm (P : wq_St) (r j : Nat) : Prop := ∃ k : Nat, (k : Int) < P 13 r ∧ (P 14 (3 * r + k)).toNat = j
section
variable {P Q S M : wq_St} {r : Nat}
theorem wy_mtn_p : ∀ n : Nat, (∀ j, (∃ k, k < n ∧ (P 14 (3 * r + k)).toNat = j) → wy_mtn P r n Q 10 j = 1) ∧ (∀ j, (¬∃ k, k < n ∧ (P 14 (3 * r + k)).toNat = j) → wy_mtn P r n Q 10 j = Q 10 j) ∧ ∀ f j, f ≠ 10 → wy_mtn P r n Q f j = Q f j
  | 0 => ⟨fun j ⟨k, hk, _⟩ => by omega, fun _ _ => rfl, fun _ _ _ => rfl⟩
  | n + 1 => by
    obtain ⟨h1, h2, h3⟩ := @wy_mtn_p n
    refine ⟨fun j hj => ?_, fun j hj => ?_, fun f j hf => ?_⟩
    · by_cases e : j = (P 14 (3 * r + n)).toNat
      · exact wy_set_at rfl e
      · refine (wy_set_ne (by omega)).trans (h1 j ?_)
        obtain ⟨k, hk, hkj⟩ := hj
        have : k ≠ n := fun e' => e (by rw [← hkj, e'])
        exact ⟨k, by omega, hkj⟩
    · have e : j ≠ (P 14 (3 * r + n)).toNat := fun e => hj ⟨n, by omega, e.symm⟩
      refine (wy_set_ne (by omega)).trans (h2 j ?_)
      rintro ⟨k, hk, hkj⟩
      exact hj ⟨k, by omega, hkj⟩
    · exact (wy_set_ne (by omega)).trans (h3 f j hf)
theorem wy_mt_1 {j : Nat} (h : wy_tm P r j) : wy_mt P r Q 10 j = 1 := by
  obtain ⟨k, hk, hj⟩ := h
  exact (wy_mtn_p (P 13 r).toNat).1 j ⟨k, by omega, hj⟩
theorem wy_mt_0 {j : Nat} (h : ¬wy_tm P r j) : wy_mt P r Q 10 j = Q 10 j := (wy_mtn_p (P 13 r).toNat).2.1 j (fun ⟨k, hk, hj⟩ => h ⟨k, by omega, hj⟩)
theorem wy_mt_o {f j : Nat} (h : f ≠ 10) : wy_mt P r Q f j = Q f j := (wy_mtn_p (P 13 r).toNat).2.2 f j h
theorem wy_x_marks (hI : wy_iv P) (hP : wy_R wy_co S P) (hR : wy_R wy_al S Q) (hr : r < 8) : ∃ S', f_X2_markTables (199 + 9 * r) S = some (0, S') ∧ wy_R wy_al S' (wy_mt P r Q) ∧ wy_R wy_co S' P ∧ ∀ j, S' 283 j = S 283 j := by
  have b13 := wy_b13 hI r
  unfold f_X2_markTables wy_mt
  have key := wy_up (fun n i (s : wq_St) => ∃ S', l_X2_markTables_2 (199 + 9 * r) (fun S4 => some (0, S4)) n (i : Int) s = some (0, S') ∧ wy_R wy_al S' (wy_mtn P r (P 13 r).toNat Q) ∧ wy_R wy_co S' P ∧ ∀ j, S' 283 j = S 283 j) (P 13 r).toNat (fun i s => wy_R wy_al s (wy_mtn P r i Q) ∧ wy_R wy_co s P ∧ ∀ j, s 283 j = S 283 j) ?_ ?_ wq_fu 0 S (by omega) (wy_fu' (by omega)) ⟨hR, hP, fun _ => rfl⟩
  · exact key
  · intro n i s hi ⟨hs, hp, hl⟩ ih
    have b14 := wy_b14 hI (3 * r + i)
    have e : ((i : Int) + 1) = ((i + 1 : Nat) : Int) := by omega
    rw [l_X2_markTables_2_s]
    unfold b_X2_markTables_2
    rw [wy_c13 hp hr, wq_w_id (x := P 13 r) (by omega) (by omega), wq_w_id (x := (i : Int)) (by omega) (by omega), if_neg (by omega), wy_ix (by omega) (by omega) (by omega), Int.toNat_natCast, wy_c14 hp hr (by omega), wy_ix (by omega) (by omega) (by omega), wy_lt, e]
    have h4 : (P 14 (3 * r + i)).toNat < 4 := by omega
    refine ih _ ⟨wy_R_set hs _ (f₀ := 10) (i₀ := (P 14 (3 * r + i)).toNat) ⟨h4, fun e => by omega⟩ rfl rfl, wy_R_off hp (f₀ := 10) (i₀ := (P 14 (3 * r + i)).toNat) ⟨h4, fun e => by omega⟩ rfl rfl (by unfold wy_co; omega), fun j => ?_⟩
    rw [wy_set_ne (by omega)]
    exact hl j
  · intro n s ⟨hs, hp, hl⟩
    rw [l_X2_markTables_2_s]
    unfold b_X2_markTables_2
    rw [wy_c13 hp hr, wq_w_id (x := P 13 r) (by omega) (by omega), wq_w_id (by omega) (by omega), if_pos (by omega)]
    exact ⟨s, rfl, hs, hp, hl⟩
theorem wy_m_marks (hI : wy_iv P) (hP : wy_M wy_co M P) (hM : wy_M wy_al M Q) (hr : r < 8) : ∃ M', f_X9_marks (r : Int) M = some (0, M') ∧ wy_M wy_al M' (wy_mt P r Q) ∧ wy_M wy_co M' P ∧ M' 0 42 = M 0 42 := by
  have b13 := wy_b13 hI r
  unfold f_X9_marks wy_mt
  have key := wy_up (fun n i (s : wq_St) => ∃ M', l_X9_marks_2 (r : Int) (fun S5 => some (0, S5)) n (i : Int) s = some (0, M') ∧ wy_M wy_al M' (wy_mtn P r (P 13 r).toNat Q) ∧ wy_M wy_co M' P ∧ M' 0 42 = M 0 42) (P 13 r).toNat (fun i s => wy_M wy_al s (wy_mtn P r i Q) ∧ wy_M wy_co s P ∧ s 0 42 = M 0 42) ?_ ?_ wq_fu 0 M (by omega) (wy_fu' (by omega)) ⟨hM, hP, rfl⟩
  · exact key
  · intro n i s hi ⟨hs, hp, h42⟩ ih
    have b14 := wy_b14 hI (3 * r + i)
    have e : ((i : Int) + 1) = ((i + 1 : Nat) : Int) := by omega
    have e13 : s 13 r = P 13 r := wy_m hp (by omega)
    have e14 : s 14 (3 * r + i) = P 14 (3 * r + i) := wy_m hp (by omega)
    rw [l_X9_marks_2_s]
    unfold b_X9_marks_2
    rw [wy_ix (by omega) (by omega) (by omega), Int.toNat_natCast, e13, wq_w_id (x := P 13 r) (by omega) (by omega), wq_w_id (x := (i : Int)) (by omega) (by omega), if_neg (by omega), wy_ix (by omega) (by omega) (by omega), wy_n3, e14, wy_ix (by omega) (by omega) (by omega), wy_lt, e]
    exact ih _ ⟨wy_M_set hs _ (by omega), wy_M_off hp (Or.inr (Or.inr (by unfold wy_co; omega))), by rw [wy_set_ne (by omega)]; exact h42⟩
  · intro n s ⟨hs, hp, h42⟩
    have e13 : s 13 r = P 13 r := wy_m hp (by omega)
    rw [l_X9_marks_2_s]
    unfold b_X9_marks_2
    rw [wy_ix (by omega) (by omega) (by omega), Int.toNat_natCast, e13, wq_w_id (x := P 13 r) (by omega) (by omega), wq_w_id (by omega) (by omega), if_pos (by omega)]
    exact ⟨s, rfl, hs, hp, h42⟩
end
end
section
/-! NIGHTS: the class runs the line -/
def wy_k5 (P : wq_St) (r : Nat) (Q : wq_St) : wq_St := wq_set (wq_set (wq_set (wq_set (wq_set Q 0 31 (Q 0 31 - wy_tr P r)) 24 r (wy_fd P r)) 25 r (wy_sd P r)) 26 r (P 0 29)) 12 r 0
def wy_kp (P : wq_St) (r : Nat) (Q : wq_St) : wq_St := if wy_wr P r then wy_mt P r (wy_k5 P r Q) else wy_k5 P r Q
def wy_ow (P : wq_St) (r : Nat) (Q : wq_St) : wq_St := wy_mt P r (wq_set Q 0 32 (Q 0 32 + P 11 r))
def wy_Qr (P : wq_St) (ln : Nat → Nat) (D : Nat) : Nat → wq_St
  | 0 => P
  | i + 1 => if i < D then wy_kp P (ln i) (wy_Qr P ln D i) else wy_ow P (ln i) (wy_Qr P ln D i)
/-- what is left behind the first i of the line -/
def wy_lf (P : wq_St) (ln : Nat → Nat) (i : Nat) : Int := P 0 31 - wy_su (fun x => wy_tr P (ln x)) i
/-- D of the line are done -/
def wy_dN (P : wq_St) (ln : Nat → Nat) (W D : Nat) : Prop := D ≤ W ∧ (∀ i, i < D → wq_w (wy_tr P (ln i)) ≤ wq_w (wy_lf P ln i)) ∧ (D < W → ¬(wq_w (wy_tr P (ln D)) ≤ wq_w (wy_lf P ln D)))
section
variable {P Q S M : wq_St} {r D W : Nat} {ln : Nat → Nat}
theorem wy_dN_ex : ∀ W, ∃ D, wy_dN P ln W D
  | 0 => ⟨0, by omega, fun i hi => by omega, fun h => by omega⟩
  | W + 1 => by
    obtain ⟨D, h1, h2, h3⟩ := wy_dN_ex W
    by_cases e : D = W
    · subst e
      by_cases c : wq_w (wy_tr P (ln D)) ≤ wq_w (wy_lf P ln D)
      · refine ⟨D + 1, by omega, fun i hi => ?_, fun h => by omega⟩
        by_cases e : i = D
        · rw [e]; exact c
        · exact h2 i (by omega)
      · exact ⟨D, by omega, h2, fun _ => c⟩
    · exact ⟨D, by omega, h2, fun _ => h3 (by omega)⟩
theorem wy_k5_o {f j : Nat} (h : f ≠ 12 ∧ f ≠ 24 ∧ f ≠ 25 ∧ f ≠ 26 ∧ ¬(f = 0 ∧ j = 31)) : wy_k5 P r Q f j = Q f j := by
  unfold wy_k5
  rw [wy_set_ne (by omega), wy_set_ne (by omega), wy_set_ne (by omega), wy_set_ne (by omega), wy_set_ne (by omega)]
theorem wy_kp_n {f j : Nat} (h : f ≠ 10) : wy_kp P r Q f j = wy_k5 P r Q f j := by
  unfold wy_kp
  split
  · exact wy_mt_o h
  · rfl
theorem wy_Qr_o {f j : Nat} (h : f ≠ 10 ∧ f ≠ 12 ∧ f ≠ 24 ∧ f ≠ 25 ∧ f ≠ 26 ∧ ¬(f = 0 ∧ (j = 31 ∨ j = 32))) : ∀ i, wy_Qr P ln D i f j = P f j
  | 0 => rfl
  | i + 1 => by
    simp only [wy_Qr]
    split
    · rw [wy_kp_n h.1, wy_k5_o (by omega), wy_Qr_o h i]
    · unfold wy_ow
      rw [wy_mt_o h.1, wy_set_ne (by omega), wy_Qr_o h i]
theorem wy_Qr_31 : ∀ i, i ≤ D → wy_Qr P ln D i 0 31 = wy_lf P ln i
  | 0, _ => by
    unfold wy_lf
    exact (Int.sub_zero _).symm
  | i + 1, h => by
    simp only [wy_Qr]
    have h1 := wy_Qr_31 i (by omega)
    unfold wy_lf at h1 ⊢
    rw [if_pos (by omega), wy_kp_n (by omega)]
    unfold wy_k5
    rw [wy_set_ne (by omega), wy_set_ne (by omega), wy_set_ne (by omega), wy_set_ne (by omega), wy_set_at rfl rfl, h1]
    simp only [wy_su]
    omega
theorem wy_x_keep (hI : wy_iv P) (hP : wy_R wy_co S P) (hR : wy_R wy_al S Q) (hr : r < 8) (h29 : Q 0 29 = P 0 29) (z2 : S 280 2 = wy_tr P r) (z3 : S 280 3 = wy_fd P r) (z4 : S 280 4 = wy_sd P r) : ∃ S', f_X2_keep (199 + 9 * r) (wy_ft P r) S = some (0, S') ∧ wy_R wy_al S' (wy_kp P r Q) ∧ wy_R wy_co S' P ∧ ∀ j, S' 283 j = S 283 j := by
  unfold f_X2_keep
  rw [wy_lt, wy_lt, wy_lt, wy_lt, wy_lt]
  have q3 : ∀ v, wq_set S 282 8 v 280 3 = wy_fd P r := fun v => by rw [wy_set_ne (by omega), z3]
  have q4 : ∀ v v', wq_set (wq_set S 282 8 v) (199 + 9 * r) 8 v' 280 4 = wy_sd P r := fun v v' => by rw [wy_set_ne (by omega), wy_set_ne (by omega), z4]
  have q6 : ∀ v v' v'', wq_set (wq_set (wq_set S 282 8 v) (199 + 9 * r) 8 v') (199 + 9 * r) 9 v'' 282 6 = P 0 29 := fun v v' v'' => by rw [wy_set_ne (by omega), wy_set_ne (by omega), wy_set_ne (by omega), wy_cG hR, h29]
  have q2 : ∀ v v' v'' v3 v4, wq_set (wq_set (wq_set (wq_set (wq_set S 282 8 v) (199 + 9 * r) 8 v') (199 + 9 * r) 9 v'') (199 + 9 * r) 10 v3) (199 + 9 * r) 7 v4 280 2 = wy_tr P r := fun v v' v'' v3 v4 => by rw [wy_set_ne (by omega), wy_set_ne (by omega), wy_set_ne (by omega), wy_set_ne (by omega), wy_set_ne (by omega), z2]
  rw [q3, q4, q6, q2, wy_cL hR, z2]
  have h5 : wy_R wy_al (wq_set (wq_set (wq_set (wq_set (wq_set S 282 8 (Q 0 31 - wy_tr P r)) (199 + 9 * r) 8 (wy_fd P r)) (199 + 9 * r) 9 (wy_sd P r)) (199 + 9 * r) 10 (P 0 29)) (199 + 9 * r) 7 0) (wy_k5 P r Q) :=
    wy_R_set (wy_R_set (wy_R_set (wy_R_set (wy_R_set hR _ (f₀ := 0) (i₀ := 31) ⟨by decide, fun _ => by omega⟩ rfl rfl) _ (f₀ := 24) (i₀ := r) ⟨hr, fun e => by omega⟩ rfl rfl) _ (f₀ := 25) (i₀ := r) ⟨hr, fun e => by omega⟩ rfl rfl) _ (f₀ := 26) (i₀ := r) ⟨hr, fun e => by omega⟩ rfl rfl) _ (f₀ := 12) (i₀ := r) ⟨hr, fun e => by omega⟩ rfl rfl
  have p5 : wy_R wy_co (wq_set (wq_set (wq_set (wq_set (wq_set S 282 8 (Q 0 31 - wy_tr P r)) (199 + 9 * r) 8 (wy_fd P r)) (199 + 9 * r) 9 (wy_sd P r)) (199 + 9 * r) 10 (P 0 29)) (199 + 9 * r) 7 0) P :=
    wy_R_off (wy_R_off (wy_R_off (wy_R_off (wy_R_off hP (f₀ := 0) (i₀ := 31) ⟨by decide, fun _ => by omega⟩ rfl rfl (by unfold wy_co; omega)) (f₀ := 24) (i₀ := r) ⟨hr, fun e => by omega⟩ rfl rfl (by unfold wy_co; omega)) (f₀ := 25) (i₀ := r) ⟨hr, fun e => by omega⟩ rfl rfl (by unfold wy_co; omega)) (f₀ := 26) (i₀ := r) ⟨hr, fun e => by omega⟩ rfl rfl (by unfold wy_co; omega)) (f₀ := 12) (i₀ := r) ⟨hr, fun e => by omega⟩ rfl rfl (by unfold wy_co; omega)
  have l5 : ∀ j, wq_set (wq_set (wq_set (wq_set (wq_set S 282 8 (Q 0 31 - wy_tr P r)) (199 + 9 * r) 8 (wy_fd P r)) (199 + 9 * r) 9 (wy_sd P r)) (199 + 9 * r) 10 (P 0 29)) (199 + 9 * r) 7 0 283 j = S 283 j := fun j => by
    rw [wy_set_ne (by omega), wy_set_ne (by omega), wy_set_ne (by omega), wy_set_ne (by omega), wy_set_ne (by omega)]
  generalize wq_set (wq_set (wq_set (wq_set (wq_set S 282 8 (Q 0 31 - wy_tr P r)) (199 + 9 * r) 8 (wy_fd P r)) (199 + 9 * r) 9 (wy_sd P r)) (199 + 9 * r) 10 (P 0 29)) (199 + 9 * r) 7 0 = S5 at *
  unfold wy_kp
  obtain ⟨S6, e6, r6, p6, l6⟩ := wy_x_marks hI p5 h5 hr
  have l6' : ∀ j, S6 283 j = S 283 j := fun j => by rw [l6, l5]
  by_cases c1 : wq_w (2 * wy_ft P r) < wq_w (wy_tr P r)
  · rw [if_pos c1, if_pos (Or.inl c1), wy_bd e6]
    exact ⟨S6, rfl, r6, p6, l6'⟩
  · rw [if_neg c1]
    by_cases c2 : wq_w (wy_ft P r) ≤ wq_w (2 * wy_tr P r)
    · rw [if_pos c2, if_neg (fun h => h.elim c1 (fun h => h c2))]
      exact ⟨S5, rfl, h5, p5, l5⟩
    · rw [if_neg c2, if_pos (Or.inr c2), wy_bd e6]
      exact ⟨S6, rfl, r6, p6, l6'⟩
/-- the reports that are done -/
theorem wy_x_done (hI : wy_iv P) (hln : wy_ln P 8 W ln) (hD : wy_dN P ln W D) (hR : wy_R wy_al S P) (hla : wy_la S W ln) (kx : Int → wq_St → Option (Int × wq_St)) : ∃ S', l_X2_runDueReports_7 (W : Int) kx wq_fu 0 S = kx (D : Int) S' ∧ wy_R wy_al S' (wy_Qr P ln D D) ∧ wy_R wy_co S' P ∧ wy_la S' W ln := by
  obtain ⟨hW, hln2, -, -⟩ := hln
  obtain ⟨hDW, hok, hno⟩ := hD
  have key := wy_up (fun n i (s : wq_St) => ∃ S', l_X2_runDueReports_7 (W : Int) kx n (i : Int) s = kx (D : Int) S' ∧ wy_R wy_al S' (wy_Qr P ln D D) ∧ wy_R wy_co S' P ∧ wy_la S' W ln) D (fun i s => wy_R wy_al s (wy_Qr P ln D i) ∧ wy_R wy_co s P ∧ wy_la s W ln) ?_ ?_ wq_fu 0 S (by omega) (wy_fu' (by omega)) ⟨hR, wy_R_co hR, hla⟩
  · exact key
  · intro n i s hi ⟨hs, hp, hl⟩ ih
    have hr := (hln2 i (by omega)).1
    have e : ((i : Int) + 1) = ((i + 1 : Nat) : Int) := by omega
    obtain ⟨S1, S2, e1, e2, e3, z2, z3, z4, hf⟩ := wy_x_run hI hp hr
    have hs2 : wy_R wy_al S2 (wy_Qr P ln D i) := wy_R_fr hs fun k j hk => hf k j fun h => hk (by unfold wy_scr; omega)
    have hp2 : wy_R wy_co S2 P := wy_R_fr hp fun k j hk => hf k j fun h => hk (by unfold wy_scr; omega)
    have hl2 : wy_la S2 W ln := fun x hx => by rw [hf _ _ (by omega)]; exact hl x hx
    obtain ⟨S3, e4, hs3, hp3, hl3⟩ := wy_x_keep hI hp2 hs2 hr (wy_Qr_o (by omega) i) z2 z3 z4
    rw [l_X2_runDueReports_7_s]
    unfold b_X2_runDueReports_7
    rw [wq_w_id (x := (W : Int)) (by omega) (by omega), wq_w_id (x := (i : Int)) (by omega) (by omega), if_neg (by omega), wy_ix (by omega) (by omega) (by omega), Int.toNat_natCast, hl i (by omega), wy_ix (by omega) (by omega) (by omega), Int.toNat_natCast, wy_bd e1, wy_bd e2, z2, wy_cL hs2, wy_Qr_31 i (by omega), if_pos (hok i hi), wy_bd e3, wy_bd e4, e]
    refine ih S3 ⟨?_, hp3, fun x hx => by rw [hl3]; exact hl2 x hx⟩
    simp only [wy_Qr]
    rw [if_pos hi]
    exact hs3
  · intro n s ⟨hs, hp, hl⟩
    rw [l_X2_runDueReports_7_s]
    unfold b_X2_runDueReports_7
    rw [wq_w_id (x := (W : Int)) (by omega) (by omega), wq_w_id (x := (D : Int)) (by omega) (by omega)]
    by_cases c : D = W
    · rw [if_pos (by omega)]
      exact ⟨s, rfl, hs, hp, hl⟩
    · have hr := (hln2 D (by omega)).1
      obtain ⟨S1, S2, e1, e2, e3, z2, z3, z4, hf⟩ := wy_x_run hI hp hr
      have hs2 : wy_R wy_al S2 (wy_Qr P ln D D) := wy_R_fr hs fun k j hk => hf k j fun h => hk (by unfold wy_scr; omega)
      have hp2 : wy_R wy_co S2 P := wy_R_fr hp fun k j hk => hf k j fun h => hk (by unfold wy_scr; omega)
      have hl2 : wy_la S2 W ln := fun x hx => by rw [hf _ _ (by omega)]; exact hl x hx
      rw [if_neg (by omega), wy_ix (by omega) (by omega) (by omega), Int.toNat_natCast, hl D (by omega), wy_ix (by omega) (by omega) (by omega), Int.toNat_natCast, wy_bd e1, wy_bd e2, z2, wy_cL hs2, wy_Qr_31 D (by omega), if_neg (hno (by omega))]
      exact ⟨S2, rfl, hs2, hp2, hl2⟩
/-- the reports that are not done -/
theorem wy_x_undone (hI : wy_iv P) (hln : wy_ln P 8 W ln) (hDW : D ≤ W) (hR : wy_R wy_al S (wy_Qr P ln D D)) (hP : wy_R wy_co S P) (hla : wy_la S W ln) (c2 : Int) (kx : wq_St → Option (Int × wq_St)) : ∃ S', l_X2_runDueReports_79 (W : Int) c2 kx wq_fu (D : Int) S = kx S' ∧ wy_R wy_al S' (wy_Qr P ln D W) := by
  obtain ⟨hW, hln2, -, -⟩ := hln
  have key := wy_up (fun n i (s : wq_St) => ∃ S', l_X2_runDueReports_79 (W : Int) c2 kx n (i : Int) s = kx S' ∧ wy_R wy_al S' (wy_Qr P ln D W)) W (fun i s => D ≤ i ∧ wy_R wy_al s (wy_Qr P ln D i) ∧ wy_R wy_co s P ∧ wy_la s W ln) ?_ ?_ wq_fu D S (by omega) (by unfold wq_fu; omega) ⟨Nat.le_refl _, hR, hP, hla⟩
  · exact key
  · intro n i s hi ⟨hd, hs, hp, hl⟩ ih
    have hr := (hln2 i (by omega)).1
    have e : ((i : Int) + 1) = ((i + 1 : Nat) : Int) := by omega
    rw [l_X2_runDueReports_79_s]
    unfold b_X2_runDueReports_79
    rw [wq_w_id (x := (W : Int)) (by omega) (by omega), wq_w_id (x := (i : Int)) (by omega) (by omega), if_neg (by omega), wy_ix (by omega) (by omega) (by omega), Int.toNat_natCast, hl i (by omega), wy_ix (by omega) (by omega) (by omega), Int.toNat_natCast, wy_lt, wy_cO hs, wy_c11 hs hr, wy_Qr_o (f := 11) (by omega) i]
    have hs1 := wy_R_set (k := 282) (j := 9) hs (wy_Qr P ln D i 0 32 + P 11 (ln i)) (f₀ := 0) (i₀ := 32) ⟨by decide, fun _ => by omega⟩ rfl rfl
    have hp1 := wy_R_off (k := 282) (j := 9) (v := wy_Qr P ln D i 0 32 + P 11 (ln i)) hp (f₀ := 0) (i₀ := 32) ⟨by decide, fun _ => by omega⟩ rfl rfl (by unfold wy_co; omega)
    obtain ⟨S2, e2, hs2, hp2, hl2⟩ := wy_x_marks hI hp1 hs1 hr
    rw [wy_bd e2, e]
    refine ih S2 ⟨by omega, ?_, hp2, fun x hx => ?_⟩
    · simp only [wy_Qr]
      rw [if_neg (by omega)]
      exact hs2
    · rw [hl2]
      exact (wy_set_ne (by omega)).trans (hl x hx)
  · intro n s ⟨hd, hs, hp, hl⟩
    rw [l_X2_runDueReports_79_s]
    unfold b_X2_runDueReports_79
    rw [if_pos (Int.le_refl _)]
    exact ⟨s, rfl, hs⟩
theorem wy_x_rdr (hI : wy_iv P) (hR : wy_R wy_al S P) : ∃ (W D : Nat) (ln : Nat → Nat) (S' : wq_St), wy_ln P 8 W ln ∧ wy_dN P ln W D ∧ f_X2_runDueReports S = some ((D : Int), S') ∧ wy_R wy_al S' (wq_set (wy_Qr P ln D W) 0 29 (P 0 29 + 1)) := by
  obtain ⟨W, ln, S1, e1, hln, hla, hR1⟩ := wy_x_line hI hR
  obtain ⟨D, hD⟩ := @wy_dN_ex P ln W
  unfold f_X2_runDueReports
  rw [wy_bd e1]
  obtain ⟨S2, e2, hs2, hp2, hl2⟩ := wy_x_done hI hln hD hR1 hla (fun u13 S14 => j_X2_runDueReports_77 (W : Int) u13 S14)
  rw [e2]
  unfold j_X2_runDueReports_77
  obtain ⟨S3, e3, hs3⟩ := wy_x_undone hI hln hD.1 hs2 hp2 hl2 (D : Int) (fun S20 => wq_lt (wq_set S20 282 6 ((S20 282 6) + 1)) fun S21 => some ((D : Int), S21))
  rw [e3, wy_lt, wy_cG hs3, wy_Qr_o (by omega) W]
  exact ⟨W, D, ln, _, hln, hD, rfl, wy_R_set hs3 _ (f₀ := 0) (i₀ := 29) ⟨by decide, fun _ => by omega⟩ rfl rfl⟩
end
end
section
/-! NIGHTS: the model finds the next of the line; bits -/
abbrev wy_bt (b : Int) (r : Nat) : Prop := wq_w (wq_and (wq_shr b (r : Int)) 1) = wq_w 1
def wy_bb (b : Int) (r : Nat) : Bool := decide (wq_w (wq_and (wq_shr b (r : Int)) 1) = wq_w 1)
def wy_bc (m s : Nat) : Bool := decide (0 ≤ wq_or (m : Int) (wq_shl 1 (s : Int))) && decide (wq_or (m : Int) (wq_shl 1 (s : Int)) < 256) && decide (wq_or (m : Int) 0 = (m : Int)) && wy_allb (fun r => wy_bb (wq_or (m : Int) (wq_shl 1 (s : Int))) r == (Nat.beq r s || wy_bb (m : Int) r)) 8
theorem wy_bits : wy_allb (fun m => wy_allb (fun s => wy_bc m s) 8) 256 = true := by decide +kernel
theorem wy_bits0 : wy_allb (fun r => !(wy_bb 0 r)) 8 = true := by decide +kernel
theorem wy_bb_t {b : Int} {r : Nat} : wy_bb b r = true ↔ wy_bt b r := by
  unfold wy_bb
  exact decide_eq_true_iff
theorem wy_bt_0 {r : Nat} (hr : r < 8) : ¬wy_bt 0 r := fun h => by
  have h1 := wy_allb_t wy_bits0 r hr
  rw [wy_bb_t.mpr h] at h1
  cases h1
theorem wy_bt_or {b : Int} {s : Nat} (hb : 0 ≤ b ∧ b < 256) (hs : s < 8) : (∀ r, r < 8 → (wy_bt (wq_or b (wq_shl 1 (s : Int))) r ↔ r = s ∨ wy_bt b r)) ∧ 0 ≤ wq_or b (wq_shl 1 (s : Int)) ∧ wq_or b (wq_shl 1 (s : Int)) < 256 ∧ wq_or b 0 = b := by
  have h1 := wy_allb_t (wy_allb_t wy_bits b.toNat (by omega)) s hs
  have e : ((b.toNat : Nat) : Int) = b := by omega
  unfold wy_bc at h1
  rw [e] at h1
  simp only [Bool.and_eq_true, decide_eq_true_eq] at h1
  obtain ⟨⟨⟨h2, h3⟩, h4⟩, h5⟩ := h1
  refine ⟨fun r hr => ?_, h2, h3, h4⟩
  have h6 := wy_allb_t h5 r hr
  have h7 : wy_bb (wq_or b (wq_shl 1 (s : Int))) r = (Nat.beq r s || wy_bb b r) := by simpa using h6
  rw [← wy_bb_t, h7, Bool.or_eq_true, wy_bb_t, Nat.beq_eq]
section
variable {P Q S M : wq_St} {r D W i : Nat} {ln : Nat → Nat}
def wy_at (ln : Nat → Nat) (W i : Nat) : Int := if i < W then (ln i : Int) else -1
def wy_be (ln : Nat → Nat) (i : Nat) : Int := if i = 0 then -1 else (ln (i - 1) : Int)
def wy_ca (P : wq_St) (ln : Nat → Nat) (i c : Nat) : Prop := P 12 c ≠ 0 ∧ (i = 0 ∨ wy_bf P (ln (i - 1)) c)
theorem wy_bf_a {a b : Nat} (h : wy_bf P a b) : ¬wy_bf P b a := by
  unfold wy_bf at h ⊢
  omega
theorem wy_ca_ln (hln : wy_ln P 8 W ln) (hi : i ≤ W) {p : Nat} (hp : p < W) : wy_ca P ln i (ln p) ↔ i ≤ p := by
  obtain ⟨h1, h2, h3, h4⟩ := hln
  constructor
  · rintro ⟨-, h⟩
    rcases h with h | h
    · omega
    · by_cases c : i ≤ p
      · exact c
      · by_cases e : p = i - 1
        · rw [e] at h
          exact absurd h (wy_bf_a h)
        · exact absurd h (wy_bf_a (h3 p (i - 1) (by omega) (by omega)))
  · intro h
    refine ⟨(h2 p hp).2, ?_⟩
    by_cases e : i = 0
    · exact Or.inl e
    · exact Or.inr (h3 (i - 1) p (by omega) hp)
theorem wy_m_next (hI : wy_iv P) (hln : wy_ln P 8 W ln) (hi : i ≤ W) (h28 : M 0 28 = P 0 28) (h11 : ∀ j, M 11 j = P 11 j) (h12 : ∀ j, M 12 j = P 12 j) : f_X9_dueBehind (wy_be ln i) M = some (wy_at ln W i, M) := by
  have hO := hI.2.1
  unfold wy_iO at hO
  have hln' := hln
  obtain ⟨g1, g2, g3, g4⟩ := hln'
  unfold f_X9_dueBehind
  have key := wy_up (fun n k (y : Int) => l_X9_dueBehind_4 (wy_be ln i) (fun u8 S9 => some (u8, S9)) n y (k : Int) M = some (wy_at ln W i, M)) (P 0 28).toNat (fun k y => (y = -1 ∧ ∀ c, c < k → ¬wy_ca P ln i c) ∨ ∃ m : Nat, y = (m : Int) ∧ m < k ∧ wy_ca P ln i m ∧ ∀ c, c < k → wy_ca P ln i c → c ≠ m → wy_bf P m c) ?_ ?_ wq_fu 0 (-1) (by omega) (wy_fu' (by omega)) (Or.inl ⟨rfl, fun c hc => by omega⟩)
  · exact key
  · intro n k y hk hv ih
    have hk8 : k < 8 := by omega
    have b11 := wy_b11 hI k
    have b12 := wy_b12 hI k
    have e : ((k : Int) + 1) = ((k + 1 : Nat) : Int) := by omega
    have wn : wq_w (-1) = -1 := rfl
    have w0 : wq_w 0 = 0 := rfl
    have w1 : wq_w 1 = 1 := rfl
    have stay : ¬wy_ca P ln i k → l_X9_dueBehind_4 (wy_be ln i) (fun u8 S9 => some (u8, S9)) n y ((k + 1 : Nat) : Int) M = some (wy_at ln W i, M) := fun hn => ih y (by
      rcases hv with ⟨hy, h⟩ | ⟨m, hy, hm, hc, h⟩
      · refine Or.inl ⟨hy, fun c hc => ?_⟩
        by_cases ec : c = k
        · rw [ec]; exact hn
        · exact h c (by omega)
      · refine Or.inr ⟨m, hy, by omega, hc, fun c hcl hcc hne => ?_⟩
        by_cases ec : c = k
        · rw [ec] at hcc; exact absurd hcc hn
        · exact h c (by omega) hcc hne)
    have j0 : ∀ c1 kx, P 12 k = 0 ∨ ¬(i = 0 ∨ wy_bf P (ln (i - 1)) k) → j_X9_dueBehind_57 kx (l_X9_dueBehind_4 (wy_be ln i) (fun u8 S9 => some (u8, S9)) n) c1 y (k : Int) 0 M = some (wy_at ln W i, M) := fun c1 kx h => by
      unfold j_X9_dueBehind_57
      rw [wy_ix (by omega) (by omega) (by omega), Int.toNat_natCast, h12, wq_w_id (x := P 12 k) (by omega) (by omega), w0, e]
      have hn : ¬wy_ca P ln i k := fun hc => h.elim hc.1 (fun h => h hc.2)
      by_cases c0 : P 12 k = 0
      · rw [if_pos c0]
        exact stay hn
      · rw [if_neg c0, if_pos rfl]
        exact stay hn
    have j1 : ∀ c1 kx, (i = 0 ∨ wy_bf P (ln (i - 1)) k) → j_X9_dueBehind_57 kx (l_X9_dueBehind_4 (wy_be ln i) (fun u8 S9 => some (u8, S9)) n) c1 y (k : Int) 1 M = some (wy_at ln W i, M) := fun c1 kx h => by
      unfold j_X9_dueBehind_57
      rw [wy_ix (by omega) (by omega) (by omega), Int.toNat_natCast, h12, wq_w_id (x := P 12 k) (by omega) (by omega), w1, wn, e]
      by_cases c0 : P 12 k = 0
      · rw [if_pos c0]
        exact stay fun hc => hc.1 c0
      · have hca : wy_ca P ln i k := ⟨c0, h⟩
        rw [if_neg c0, if_neg (by omega)]
        rcases hv with ⟨hy, hh⟩ | ⟨m, hy, hm, hc, hh⟩
        · subst hy
          rw [wn, if_pos rfl]
          exact ih _ (Or.inr ⟨k, rfl, by omega, hca, fun c hcl hcc hne => absurd hcc (hh c (by omega))⟩)
        · subst hy
          have b11m := wy_b11 hI m
          rw [wq_w_id (x := (m : Int)) (by omega) (by omega), if_neg (by omega), wy_ix (by omega) (by omega) (by omega), wy_ix (by omega) (by omega) (by omega), Int.toNat_natCast, Int.toNat_natCast, h11, h11, wq_w_id (by omega) (by omega), wq_w_id (by omega) (by omega)]
          by_cases cp : P 11 k ≤ P 11 m
          · rw [if_pos cp]
            refine ih _ (Or.inr ⟨m, rfl, by omega, hc, fun c hcl hcc hne => ?_⟩)
            by_cases ec : c = k
            · rw [ec]
              unfold wy_bf
              omega
            · exact hh c (by omega) hcc hne
          · rw [if_neg cp]
            refine ih _ (Or.inr ⟨k, rfl, by omega, hca, fun c hcl hcc hne => ?_⟩)
            by_cases ec : c = m
            · rw [ec]
              exact Or.inl (by omega)
            · have := hh c (by omega) hcc ec
              unfold wy_bf at this ⊢
              omega
    rw [l_X9_dueBehind_4_s]
    unfold b_X9_dueBehind_4 j_X9_dueBehind_52 j_X9_dueBehind_56
    rw [h28, wq_w_id (x := P 0 28) (by omega) (by omega), wq_w_id (x := (k : Int)) (by omega) (by omega), if_neg (by omega), wn]
    by_cases hi0 : i = 0
    · have eb : wy_be ln i = -1 := if_pos hi0
      rw [eb, wn, if_pos rfl, ← eb]
      exact j1 _ _ (Or.inl hi0)
    · have eb : wy_be ln i = (ln (i - 1) : Int) := if_neg hi0
      have hl := (g2 (i - 1) (by omega)).1
      have b11l := wy_b11 hI (ln (i - 1))
      have st : ∀ (rec rec' : Int → Int → wq_St → Option (Int × wq_St)) (a b : Option (Int × wq_St)), (wy_bf P (ln (i - 1)) k → a = some (wy_at ln W i, M)) → (¬wy_bf P (ln (i - 1)) k → b = some (wy_at ln W i, M)) → (if P 11 k < P 11 (ln (i - 1)) then a else if P 11 k = P 11 (ln (i - 1)) then (if (k : Int) ≤ (ln (i - 1) : Int) then b else a) else b) = some (wy_at ln W i, M) := fun _ _ a b ha hb => by
        by_cases q1 : P 11 k < P 11 (ln (i - 1))
        · rw [if_pos q1]
          exact ha (Or.inl q1)
        · rw [if_neg q1]
          by_cases q2 : P 11 k = P 11 (ln (i - 1))
          · rw [if_pos q2]
            by_cases q3 : (k : Int) ≤ (ln (i - 1) : Int)
            · rw [if_pos q3]
              exact hb (by unfold wy_bf; omega)
            · rw [if_neg q3]
              exact ha (Or.inr ⟨q2.symm, by omega⟩)
          · rw [if_neg q2]
            exact hb (by unfold wy_bf; omega)
      have e1 : wq_w (wy_be ln i) = (ln (i - 1) : Int) := by rw [eb]; exact wq_w_id (by omega) (by omega)
      have ixe : ∀ (kk : Nat → Option (Int × wq_St)), wq_ix (wy_be ln i) 8 kk = kk (ln (i - 1)) := fun kk => by rw [eb, wy_ix (by omega) (by omega) (by omega), Int.toNat_natCast]
      rw [e1, if_neg (by omega), wy_ix (by omega) (by omega) (by omega), ixe, wy_ix (by omega) (by omega) (by omega), ixe, Int.toNat_natCast, h11, h11, wq_w_id (x := P 11 k) (by omega) (by omega), wq_w_id (x := P 11 (ln (i - 1))) (by omega) (by omega)]
      exact st (fun _ _ _ => none) (fun _ _ _ => none) _ _ (fun h => j1 _ _ (Or.inr h)) (fun h => j0 _ _ (Or.inr (fun h' => h'.elim hi0 h)))
  · intro n y hv
    rw [l_X9_dueBehind_4_s]
    unfold b_X9_dueBehind_4
    rw [h28, wq_w_id (x := P 0 28) (by omega) (by omega), wq_w_id (x := (((P 0 28).toNat : Nat) : Int)) (by omega) (by omega), if_pos (by omega)]
    have hcl : ∀ c, wy_ca P ln i c → c < (P 0 28).toNat := fun c hc => by
      by_cases h : c < (P 0 28).toNat
      · exact h
      · exact absurd (hI.2.2.2.1 c (by omega)) hc.1
    rcases hv with ⟨hy, hh⟩ | ⟨m, hy, hm, hc, hh⟩
    · unfold wy_at
      by_cases c : i < W
      · have := (wy_ca_ln hln hi c).mpr (Nat.le_refl _)
        exact absurd this (hh _ (hcl _ this))
      · rw [if_neg c, hy]
    · obtain ⟨p, hp, hpm⟩ := g4 m (by omega) hc.1
      have hip : i ≤ p := (wy_ca_ln hln hi hp).mp (by rw [hpm]; exact hc)
      have hci := (wy_ca_ln hln hi (p := i) (by omega)).mpr (Nat.le_refl _)
      by_cases e : p = i
      · unfold wy_at
        rw [if_pos (by omega), hy, ← hpm, e]
      · have h1 := g3 i p (by omega) hp
        have ne : ln i ≠ m := fun e' => by
          rw [hpm, e'] at h1
          exact wy_bf_a h1 h1
        have h2 := hh _ (hcl _ hci) hci ne
        rw [hpm] at h1
        exact absurd h1 (wy_bf_a h2)
end
end
section
/-! NIGHTS: the model runs the line -/
def wy_k4 (P : wq_St) (r : Nat) (Q : wq_St) : wq_St := wq_set (wq_set (wq_set (wq_set Q 0 31 (Q 0 31 - wy_tr P r)) 24 r (wy_fd P r)) 25 r (wy_sd P r)) 26 r (P 0 29)
def wy_Qm (P : wq_St) (ln : Nat → Nat) : Nat → wq_St
  | 0 => P
  | i + 1 => wy_k4 P (ln i) (wy_Qm P ln i)
/-- the masks: of what is done, of what was wrong -/
def wy_mk (P : wq_St) (ln : Nat → Nat) (i : Nat) (dm wm : Int) : Prop := (0 ≤ dm ∧ dm < 256) ∧ (0 ≤ wm ∧ wm < 256) ∧ (∀ r, r < 8 → (wy_bt dm r ↔ ∃ x, x < i ∧ ln x = r)) ∧ ∀ r, r < 8 → (wy_bt wm r ↔ ∃ x, x < i ∧ ln x = r ∧ wy_wr P r)
section
variable {P Q S M : wq_St} {r D W i : Nat} {ln : Nat → Nat} {dm wm : Int}
theorem wy_k4_o {f j : Nat} (h : f ≠ 24 ∧ f ≠ 25 ∧ f ≠ 26 ∧ ¬(f = 0 ∧ j = 31)) : wy_k4 P r Q f j = Q f j := by
  unfold wy_k4
  rw [wy_set_ne (by omega), wy_set_ne (by omega), wy_set_ne (by omega), wy_set_ne (by omega)]
theorem wy_Qm_o {f j : Nat} (h : f ≠ 24 ∧ f ≠ 25 ∧ f ≠ 26 ∧ ¬(f = 0 ∧ j = 31)) : ∀ i, wy_Qm P ln i f j = P f j
  | 0 => rfl
  | i + 1 => by
    simp only [wy_Qm]
    rw [wy_k4_o h, wy_Qm_o h i]
theorem wy_Qm_31 : ∀ i, wy_Qm P ln i 0 31 = wy_lf P ln i
  | 0 => by
    unfold wy_lf
    exact (Int.sub_zero _).symm
  | i + 1 => by
    simp only [wy_Qm]
    have h1 := wy_Qm_31 i
    unfold wy_lf at h1 ⊢
    unfold wy_k4
    rw [wy_set_ne (by omega), wy_set_ne (by omega), wy_set_ne (by omega), wy_set_at rfl rfl, h1]
    simp only [wy_su]
    omega
theorem wy_mk_0 : wy_mk P ln 0 0 0 := ⟨by omega, by omega, fun r hr => ⟨fun h => absurd h (wy_bt_0 hr), fun ⟨x, hx, _⟩ => by omega⟩, fun r hr => ⟨fun h => absurd h (wy_bt_0 hr), fun ⟨x, hx, _⟩ => by omega⟩⟩
theorem wy_mk_s (h : wy_mk P ln i dm wm) (h8 : ln i < 8) : wy_mk P ln (i + 1) (wq_or dm (wq_shl 1 (ln i : Int))) (if wy_wr P (ln i) then wq_or wm (wq_shl 1 (ln i : Int)) else wq_or wm 0) := by
  obtain ⟨h1, h2, h3, h4⟩ := h
  obtain ⟨d1, d2, d3, -⟩ := wy_bt_or h1 h8
  obtain ⟨w1, w2, w3, w4⟩ := wy_bt_or h2 h8
  have hx : ∀ {p : Nat → Prop}, (∃ x, x < i + 1 ∧ p x) ↔ p i ∨ ∃ x, x < i ∧ p x := fun {p} => by
    constructor
    · rintro ⟨x, hx, hp⟩
      by_cases e : x = i
      · rw [e] at hp; exact Or.inl hp
      · exact Or.inr ⟨x, by omega, hp⟩
    · rintro (h | ⟨x, hx, hp⟩)
      · exact ⟨i, by omega, h⟩
      · exact ⟨x, by omega, hp⟩
  refine ⟨⟨d2, d3⟩, ?_, fun r hr => ?_, fun r hr => ?_⟩
  · split
    · exact ⟨w2, w3⟩
    · rw [w4]; exact h2
  · rw [d1 r hr, hx, h3 r hr]
    constructor
    · rintro (h | h)
      · exact Or.inl h.symm
      · exact Or.inr h
    · rintro (h | h)
      · exact Or.inl h.symm
      · exact Or.inr h
  · rw [hx]
    by_cases c : wy_wr P (ln i)
    · rw [if_pos c, w1 r hr, h4 r hr]
      constructor
      · rintro (h | h)
        · exact Or.inl ⟨h.symm, by rw [h]; exact c⟩
        · exact Or.inr h
      · rintro (h | h)
        · exact Or.inl h.1.symm
        · exact Or.inr h
    · rw [if_neg c, w4, h4 r hr]
      constructor
      · exact fun h => Or.inr h
      · rintro (h | h)
        · obtain ⟨e, hw⟩ := h
          rw [← e] at hw
          exact absurd hw c
        · exact h
theorem wy_m_done (hI : wy_iv P) (hln : wy_ln P 8 W ln) (hD : wy_dN P ln W D) (hM : wy_M wy_al M P) (kx : Int → Int → wq_St → Option (Int × wq_St)) : ∃ dm wm M', l_X9_night_144 kx wq_fu 0 0 (wy_at ln W 0) 0 M = kx dm wm M' ∧ wy_mk P ln D dm wm ∧ wy_M wy_al M' (wy_Qm P ln D) ∧ wy_M wy_co M' P ∧ M' 0 42 = M 0 42 := by
  have hln' := hln
  obtain ⟨hW, hln2, -, -⟩ := hln'
  obtain ⟨hDW, hok, hno⟩ := hD
  obtain ⟨nf, hnf⟩ : ∃ nf, wq_fu = nf + 1 := ⟨9999999, rfl⟩
  have hnf9 : 100 < nf := by unfold wq_fu at hnf; omega
  have wn : wq_w (-1) = -1 := rfl
  have w0 : wq_w 0 = 0 := rfl
  have w1 : wq_w 1 = 1 := rfl
  have hrn : ∀ x, x < W → (ln x : Int) < P 0 28 := fun x hx => by
    by_cases h : (ln x : Int) < P 0 28
    · exact h
    · exact absurd (hI.2.2.2.1 (ln x) (by omega)) (hln2 x hx).2
  rw [hnf]
  clear hnf
  have key := wy_up (fun n i (s : Int × Int × wq_St) => ∃ dm wm M', l_X9_night_144 kx (n + 1) s.1 s.2.1 (wy_at ln W i) 0 s.2.2 = kx dm wm M' ∧ wy_mk P ln D dm wm ∧ wy_M wy_al M' (wy_Qm P ln D) ∧ wy_M wy_co M' P ∧ M' 0 42 = M 0 42) D (fun i s => wy_mk P ln i s.1 s.2.1 ∧ wy_M wy_al s.2.2 (wy_Qm P ln i) ∧ wy_M wy_co s.2.2 P ∧ s.2.2 0 42 = M 0 42) ?_ ?_ nf 0 (0, 0, M) (by omega) (by omega) ⟨wy_mk_0, hM, wy_M_co hM, rfl⟩
  · exact key
  · intro n i ⟨dm, wm, m⟩ hi ⟨hk, hm, hp, h42⟩ ih
    dsimp only at hk hm hp h42 ih ⊢
    have hr := (hln2 i (by omega)).1
    have ea : wy_at ln W i = (ln i : Int) := if_pos (by omega)
    obtain ⟨M1, M2, -, e2, e3, z1, z2, z3, hf⟩ := wy_m_run hI hp hr (hrn i (by omega))
    have hm2 : wy_M wy_al M2 (wy_Qm P ln i) := wy_M_fo hm fun f j a b => hf f j (by omega) (by omega)
    have hp2 : wy_M wy_co M2 P := wy_M_fo hp fun f j a b => hf f j (by omega) (by omega)
    have e31 : M2 0 31 = wy_lf P ln i := by rw [wy_ma0 hm2 (i := 31) (by omega), wy_Qm_31 i]
    have e29 : M2 0 29 = P 0 29 := by rw [wy_ma0 hm2 (i := 29) (by omega), wy_Qm_o (by omega) i]
    have hm5 : wy_M wy_al (wq_set (wq_set (wq_set (wq_set M2 0 31 (wy_lf P ln i - wy_tr P (ln i))) 24 (ln i) (wy_fd P (ln i))) 25 (ln i) (wy_sd P (ln i))) 26 (ln i) (P 0 29)) (wy_Qm P ln (i + 1)) := by
      simp only [wy_Qm]
      unfold wy_k4
      rw [wy_Qm_31 i]
      exact wy_M_set (wy_M_set (wy_M_set (wy_M_set hm2 _ (by omega)) _ (by omega)) _ (by omega)) _ (by omega)
    have hp5 : wy_M wy_co (wq_set (wq_set (wq_set (wq_set M2 0 31 (wy_lf P ln i - wy_tr P (ln i))) 24 (ln i) (wy_fd P (ln i))) 25 (ln i) (wy_sd P (ln i))) 26 (ln i) (P 0 29)) P :=
      wy_M_off (wy_M_off (wy_M_off (wy_M_off hp2 (Or.inr (Or.inr (by unfold wy_co; omega)))) (Or.inr (Or.inr (by unfold wy_co; omega)))) (Or.inr (Or.inr (by unfold wy_co; omega)))) (Or.inr (Or.inr (by unfold wy_co; omega)))
    have q42 : wq_set (wq_set (wq_set (wq_set M2 0 31 (wy_lf P ln i - wy_tr P (ln i))) 24 (ln i) (wy_fd P (ln i))) 25 (ln i) (wy_sd P (ln i))) 26 (ln i) (P 0 29) 0 42 = M 0 42 := by rw [wy_set_ne (by omega), wy_set_ne (by omega), wy_set_ne (by omega), wy_set_ne (by omega), hf 0 42 (by omega) (by omega), h42]
    rw [ea, l_X9_night_144_s]
    unfold b_X9_night_144
    rw [wn, w0, wq_w_id (x := (ln i : Int)) (by omega) (by omega), if_neg (by omega), if_pos rfl, wy_bd e2, wy_bd e3, z1, e31, if_pos (hok i hi)]
    unfold j_X9_night_185
    rw [w0, if_pos rfl, wy_lt, e31, z1, wy_ix (by omega) (by omega) (by omega), Int.toNat_natCast, wy_lt, wy_set_ne (a := 0) (i := 40) (by omega), z2, wy_ix (by omega) (by omega) (by omega), Int.toNat_natCast, wy_lt, wy_set_ne (a := 0) (i := 41) (by omega), wy_set_ne (a := 0) (i := 41) (by omega), z3, wy_ix (by omega) (by omega) (by omega), Int.toNat_natCast, wy_lt, wy_set_ne (a := 0) (i := 29) (by omega), wy_set_ne (a := 0) (i := 29) (by omega), wy_set_ne (a := 0) (i := 29) (by omega), e29]
    have q39 : wq_set (wq_set (wq_set (wq_set M2 0 31 (wy_lf P ln i - wy_tr P (ln i))) 24 (ln i) (wy_fd P (ln i))) 25 (ln i) (wy_sd P (ln i))) 26 (ln i) (P 0 29) 0 39 = wy_tr P (ln i) := by rw [wy_set_ne (by omega), wy_set_ne (by omega), wy_set_ne (by omega), wy_set_ne (by omega), z1]
    rw [q39]
    generalize wq_set (wq_set (wq_set (wq_set M2 0 31 (wy_lf P ln i - wy_tr P (ln i))) 24 (ln i) (wy_fd P (ln i))) 25 (ln i) (wy_sd P (ln i))) 26 (ln i) (P 0 29) = M5 at *
    have eb : wy_be ln (i + 1) = (ln i : Int) := rfl
    have hb : f_X9_dueBehind (ln i : Int) M5 = some (wy_at ln W (i + 1), M5) := by
      rw [← eb]
      exact wy_m_next hI hln (by omega) (by rw [wy_ma0 hm5 (i := 28) (by omega), wy_Qm_o (by omega)]) (fun j => by rw [wy_ma hm5 (by omega), wy_Qm_o (by omega)]) (fun j => by rw [wy_ma hm5 (by omega), wy_Qm_o (by omega)])
    have hks := wy_mk_s hk hr
    unfold j_X9_night_261
    rw [wy_bd hb]
    by_cases c1 : wq_w (2 * wy_ft P (ln i)) < wq_w (wy_tr P (ln i))
    · rw [if_pos c1]
      rw [if_pos (Or.inl c1)] at hks
      exact ih (_, _, M5) ⟨hks, hm5, hp5, q42⟩
    · rw [if_neg c1]
      by_cases c2 : wq_w (wy_ft P (ln i)) ≤ wq_w (2 * wy_tr P (ln i))
      · rw [if_pos c2, wy_bd hb]
        rw [if_neg (fun h => h.elim c1 (fun h => h c2))] at hks
        exact ih (_, _, M5) ⟨hks, hm5, hp5, q42⟩
      · rw [if_neg c2]
        rw [if_pos (Or.inr c2)] at hks
        exact ih (_, _, M5) ⟨hks, hm5, hp5, q42⟩
  · intro n ⟨dm, wm, m⟩ ⟨hk, hm, hp, h42⟩
    dsimp only at hk hm hp h42 ⊢
    rw [l_X9_night_144_s]
    unfold b_X9_night_144
    by_cases c : D < W
    · have hr := (hln2 D c).1
      have ea : wy_at ln W D = (ln D : Int) := if_pos c
      obtain ⟨M1, M2, -, e2, e3, z1, z2, z3, hf⟩ := wy_m_run hI hp hr (hrn D c)
      have hm2 : wy_M wy_al M2 (wy_Qm P ln D) := wy_M_fo hm fun f j a b => hf f j (by omega) (by omega)
      have hp2 : wy_M wy_co M2 P := wy_M_fo hp fun f j a b => hf f j (by omega) (by omega)
      have e31 : M2 0 31 = wy_lf P ln D := by rw [wy_ma0 hm2 (i := 31) (by omega), wy_Qm_31 D]
      rw [ea, wn, w0, wq_w_id (x := (ln D : Int)) (by omega) (by omega), if_neg (by omega), if_pos rfl, wy_bd e2, wy_bd e3, z1, e31, if_neg (hno c)]
      unfold j_X9_night_185
      rw [w1, if_neg (by omega), l_X9_night_144_s]
      unfold b_X9_night_144
      rw [wn, w1, wq_w_id (x := (ln D : Int)) (by omega) (by omega), if_neg (by omega), if_neg (by omega)]
      exact ⟨dm, wm, M2, rfl, hk, hm2, hp2, by rw [hf 0 42 (by omega) (by omega), h42]⟩
    · have ea : wy_at ln W D = -1 := if_neg c
      rw [ea, if_pos rfl]
      exact ⟨dm, wm, m, rfl, hk, hm, hp, h42⟩
/-! at dawn -/
def wy_q1 (P : wq_St) (c2 : Int) (k : Nat) : Int := if P 12 k ≠ 0 ∧ ¬wy_bt c2 k then P 11 k else 0
def wy_q2 (P : wq_St) (c2 c3 : Int) (k : Nat) (Q : wq_St) : wq_St := if (P 12 k ≠ 0 ∧ ¬wy_bt c2 k) ∨ wy_bt c3 k then wy_mt P k Q else Q
def wy_qk (P : wq_St) (c2 c3 : Int) (Q : wq_St) : Nat → wq_St
  | 0 => Q
  | k + 1 => wq_set (wy_q2 P c2 c3 k (wq_set (wy_qk P c2 c3 Q k) 0 32 (wy_qk P c2 c3 Q k 0 32 + wy_q1 P c2 k))) 12 k (if P 12 k ≠ 0 ∧ ¬wy_bt c2 k then 1 else 0)
theorem wy_q2_n {c2 c3 : Int} {k f j : Nat} (h : f ≠ 10) : wy_q2 P c2 c3 k Q f j = Q f j := by
  unfold wy_q2
  split
  · exact wy_mt_o h
  · rfl
theorem wy_qk_o {c2 c3 : Int} {f j : Nat} (h : f ≠ 10 ∧ f ≠ 12 ∧ ¬(f = 0 ∧ j = 32)) : ∀ k, wy_qk P c2 c3 Q k f j = Q f j
  | 0 => rfl
  | k + 1 => by
    simp only [wy_qk]
    rw [wy_set_ne (by omega), wy_q2_n h.1, wy_set_ne (by omega), wy_qk_o h k]
theorem wy_qk_12 {c2 c3 : Int} {j : Nat} : ∀ k, k ≤ j → wy_qk P c2 c3 Q k 12 j = Q 12 j
  | 0, _ => rfl
  | k + 1, h => by
    simp only [wy_qk]
    rw [wy_set_ne (by omega), wy_q2_n (by omega), wy_set_ne (by omega), wy_qk_12 k (by omega)]
theorem wy_m_402 {k : Nat} (hk : k < 8) (h12 : M 12 k = P 12 k) (b12 : 0 ≤ P 12 k ∧ P 12 k ≤ 1) {kx : Int → wq_St → Option (Int × wq_St)} {rec : Int → Int → wq_St → Option (Int × wq_St)} {j2 j3 j6 j8 : Int} (h8 : j8 = 0 ∨ j8 = 1) : j_X9_night_402 kx rec j2 j3 j6 (k : Int) j8 M = rec j6 ((k + 1 : Nat) : Int) (wq_set M 12 k (if P 12 k ≠ 0 ∧ j8 = 0 then 1 else 0)) := by
  have e : ((k : Int) + 1) = ((k + 1 : Nat) : Int) := by omega
  unfold j_X9_night_402
  rw [wy_ix (by omega) (by omega) (by omega), wy_ix (by omega) (by omega) (by omega), wy_ix (by omega) (by omega) (by omega), Int.toNat_natCast, h12, wq_w_id (x := P 12 k) (by omega) (by omega), wq_w_id (x := j8) (by omega) (by omega), e]
  by_cases c : P 12 k = 0
  · rw [if_pos c, if_neg (fun h => h.1 c), wy_lt]
  · rw [if_neg c]
    by_cases c8 : j8 = 0
    · rw [if_pos c8, if_pos ⟨c, c8⟩, wy_lt]
    · rw [if_neg c8, if_neg (fun h => c8 h.2), wy_lt]
theorem wy_m_dawn (hI : wy_iv P) (hM : wy_M wy_al M Q) (hP : wy_M wy_co M P) (h28 : Q 0 28 = P 0 28) (h11 : ∀ j, Q 11 j = P 11 j) (h12 : ∀ j, Q 12 j = P 12 j) (c2 c3 : Int) (kx : Int → wq_St → Option (Int × wq_St)) : ∃ M', l_X9_night_295 c2 c3 kx wq_fu 0 0 M = kx (wy_su (fun r => if wy_bt c2 r then 1 else 0) (P 0 28).toNat) M' ∧ wy_M wy_al M' (wy_qk P c2 c3 Q (P 0 28).toNat) ∧ M' 0 42 = M 0 42 := by
  have hO := hI.2.1
  unfold wy_iO at hO
  have w0 : wq_w 0 = 0 := rfl
  have w1 : wq_w 1 = 1 := rfl
  have key := wy_up (fun n k (s : wq_St) => ∃ M', l_X9_night_295 c2 c3 kx n (wy_su (fun r => if wy_bt c2 r then 1 else 0) k) (k : Int) s = kx (wy_su (fun r => if wy_bt c2 r then 1 else 0) (P 0 28).toNat) M' ∧ wy_M wy_al M' (wy_qk P c2 c3 Q (P 0 28).toNat) ∧ M' 0 42 = M 0 42) (P 0 28).toNat (fun k s => wy_M wy_al s (wy_qk P c2 c3 Q k) ∧ wy_M wy_co s P ∧ s 0 42 = M 0 42) ?_ ?_ wq_fu 0 M (by omega) (wy_fu' (by omega)) ⟨hM, hP, rfl⟩
  · exact key
  · intro n k m hk ⟨hm, hp, h42⟩ ih
    have hk8 : k < 8 := by omega
    have b12 := wy_b12 hI k
    have q28 : m 0 28 = P 0 28 := by rw [wy_ma0 hm (i := 28) (by omega), wy_qk_o (by omega), h28]
    have q12 : m 12 k = P 12 k := by rw [wy_ma hm (by omega), wy_qk_12 k (Nat.le_refl _), h12]
    have q11 : m 11 k = P 11 k := by rw [wy_ma hm (by omega), wy_qk_o (by omega), h11]
    have q32 : m 0 32 = wy_qk P c2 c3 Q k 0 32 := wy_ma0 hm (by omega)
    have esu : wy_su (fun r => if wy_bt c2 r then (1 : Int) else 0) (k + 1) = wy_su (fun r => if wy_bt c2 r then 1 else 0) k + (if wy_bt c2 k then 1 else 0) := rfl
    rw [esu] at ih
    generalize wy_su (fun r => if wy_bt c2 r then (1 : Int) else 0) (P 0 28).toNat = NN at *
    generalize wy_su (fun r => if wy_bt c2 r then (1 : Int) else 0) k = nu at *
    -- behind the sum of what is owed
    have m41 : ∀ v, wq_set m 0 32 v 12 k = P 12 k := fun v => by rw [wy_set_ne (by omega), q12]
    have hm41 : wy_M wy_al (wq_set m 0 32 (wy_qk P c2 c3 Q k 0 32 + wy_q1 P c2 k)) (wq_set (wy_qk P c2 c3 Q k) 0 32 (wy_qk P c2 c3 Q k 0 32 + wy_q1 P c2 k)) := wy_M_set hm _ (by omega)
    have hp41 : wy_M wy_co (wq_set m 0 32 (wy_qk P c2 c3 Q k 0 32 + wy_q1 P c2 k)) P := wy_M_off hp (Or.inr (Or.inr (by unfold wy_co; omega)))
    have m12 : wq_set (wy_qk P c2 c3 Q k) 0 32 (wy_qk P c2 c3 Q k 0 32 + wy_q1 P c2 k) 12 k = P 12 k := by rw [wy_set_ne (by omega), wy_qk_12 k (Nat.le_refl _), h12]
    -- at the end
    have fin : ∀ (j8 : Int) (m2 : wq_St), (j8 = 0 ∨ j8 = 1) → (j8 = 0 ↔ ¬wy_bt c2 k) → wy_M wy_al m2 (wy_q2 P c2 c3 k (wq_set (wy_qk P c2 c3 Q k) 0 32 (wy_qk P c2 c3 Q k 0 32 + wy_q1 P c2 k))) → wy_M wy_co m2 P → m2 0 42 = M 0 42 → ∃ M', j_X9_night_402 kx (l_X9_night_295 c2 c3 kx n) c2 c3 (nu + (if wy_bt c2 k then 1 else 0)) (k : Int) j8 m2 = kx NN M' ∧ wy_M wy_al M' (wy_qk P c2 c3 Q (P 0 28).toNat) ∧ M' 0 42 = M 0 42 := by
      intro j8 m2 h8 hb hm2 hp2 hq2
      have q : m2 12 k = P 12 k := by rw [wy_ma hm2 (by omega), wy_q2_n (by omega), m12]
      rw [wy_m_402 hk8 q b12 h8]
      refine ih _ ⟨?_, wy_M_off hp2 (Or.inr (Or.inr (by unfold wy_co; omega))), by rw [wy_set_ne (by omega)]; exact hq2⟩
      have ev : (if P 12 k ≠ 0 ∧ j8 = 0 then (1 : Int) else 0) = if P 12 k ≠ 0 ∧ ¬wy_bt c2 k then 1 else 0 := by
        by_cases c : P 12 k ≠ 0 ∧ j8 = 0
        · rw [if_pos c, if_pos ⟨c.1, hb.mp c.2⟩]
        · rw [if_neg c, if_neg (fun h => c ⟨h.1, hb.mpr h.2⟩)]
      rw [ev]
      exact wy_M_set hm2 _ (by omega)
    -- marks, or none
    have mks : ∀ (j8 : Int), (j8 = 0 ∨ j8 = 1) → (j8 = 0 ↔ ¬wy_bt c2 k) → ((P 12 k ≠ 0 ∧ ¬wy_bt c2 k) ∨ wy_bt c3 k) → ∃ M', j_X9_night_396 kx (l_X9_night_295 c2 c3 kx n) c2 c3 (nu + (if wy_bt c2 k then 1 else 0)) (k : Int) j8 (wq_set m 0 32 (wy_qk P c2 c3 Q k 0 32 + wy_q1 P c2 k)) = kx NN M' ∧ wy_M wy_al M' (wy_qk P c2 c3 Q (P 0 28).toNat) ∧ M' 0 42 = M 0 42 := by
      intro j8 h8 hb hc
      obtain ⟨m2, e2, hm2, hp2, hq2⟩ := wy_m_marks hI hp41 hm41 hk8
      unfold j_X9_night_396
      rw [wy_bd e2]
      refine fin j8 m2 h8 hb ?_ hp2 (by rw [hq2, wy_set_ne (by omega)]; exact h42)
      unfold wy_q2
      rw [if_pos hc]
      exact hm2
    have j386 : ∀ (j8 : Int), (j8 = 0 ∨ j8 = 1) → (j8 = 0 ↔ ¬wy_bt c2 k) → ¬(P 12 k ≠ 0 ∧ ¬wy_bt c2 k) → ∃ M', j_X9_night_386 kx (l_X9_night_295 c2 c3 kx n) c2 c3 (nu + (if wy_bt c2 k then 1 else 0)) (k : Int) j8 (wq_set m 0 32 (wy_qk P c2 c3 Q k 0 32 + wy_q1 P c2 k)) = kx NN M' ∧ wy_M wy_al M' (wy_qk P c2 c3 Q (P 0 28).toNat) ∧ M' 0 42 = M 0 42 := by
      intro j8 h8 hb hc
      unfold j_X9_night_386
      by_cases c3' : wy_bt c3 k
      · rw [if_pos c3']
        exact mks j8 h8 hb (Or.inr c3')
      · rw [if_neg c3']
        refine fin j8 _ h8 hb ?_ hp41 (by rw [wy_set_ne (by omega)]; exact h42)
        unfold wy_q2
        rw [if_neg (fun h => h.elim hc c3')]
        exact hm41
    rw [l_X9_night_295_s]
    unfold b_X9_night_295 j_X9_night_319 j_X9_night_333 j_X9_night_366 j_X9_night_367
    rw [q28, wq_w_id (x := P 0 28) (by omega) (by omega), wq_w_id (x := (k : Int)) (by omega) (by omega), if_neg (by omega)]
    by_cases cb : wy_bt c2 k
    · have eq1 : wy_q1 P c2 k = 0 := if_neg (fun h => h.2 cb)
      have hno : ¬(P 12 k ≠ 0 ∧ ¬wy_bt c2 k) := fun h => h.2 cb
      have r := j386 1 (Or.inr rfl) ⟨fun h => by omega, fun h => absurd cb h⟩ hno
      rw [if_pos cb, eq1] at r
      rw [if_pos cb, w1, if_neg (c := (1 : Int) = 0) (by omega), wy_ix (by omega) (by omega) (by omega), Int.toNat_natCast, q12, wq_w_id (x := P 12 k) (by omega) (by omega), if_neg (c := (1 : Int) = 0) (by omega)]
      by_cases c0 : P 12 k = 0
      · rw [if_pos c0, wy_lt, wy_ix (by omega) (by omega) (by omega), Int.toNat_natCast, q32, m41, wq_w_id (x := P 12 k) (by omega) (by omega), if_pos c0]
        exact r
      · rw [if_neg c0, wy_lt, wy_ix (by omega) (by omega) (by omega), Int.toNat_natCast, q32, m41, wq_w_id (x := P 12 k) (by omega) (by omega), if_neg c0, if_neg (c := (1 : Int) = 0) (by omega)]
        exact r
    · have eq1 : wy_q1 P c2 k = if P 12 k = 0 then 0 else P 11 k := by
        unfold wy_q1
        by_cases c0 : P 12 k = 0
        · rw [if_pos c0, if_neg (fun h => h.1 c0)]
        · rw [if_neg c0, if_pos ⟨c0, cb⟩]
      have r := j386 0 (Or.inl rfl) ⟨fun _ => cb, fun _ => rfl⟩
      have r2 := mks 0 (Or.inl rfl) ⟨fun _ => cb, fun _ => rfl⟩
      rw [if_neg cb] at r r2
      rw [if_neg cb, w0, if_pos (c := (0 : Int) = 0) rfl, wy_ix (by omega) (by omega) (by omega), Int.toNat_natCast, q12, wq_w_id (x := P 12 k) (by omega) (by omega), if_pos (c := (0 : Int) = 0) rfl]
      by_cases c0 : P 12 k = 0
      · rw [if_pos c0] at eq1
        have r' := r (fun h => h.1 c0)
        rw [eq1] at r'
        rw [if_pos c0, wy_lt, wy_ix (by omega) (by omega) (by omega), Int.toNat_natCast, q32, m41, wq_w_id (x := P 12 k) (by omega) (by omega), if_pos c0]
        exact r'
      · rw [if_neg c0] at eq1
        have r' := r2 (Or.inl ⟨c0, cb⟩)
        rw [eq1] at r'
        rw [if_neg c0, wy_ix (by omega) (by omega) (by omega), Int.toNat_natCast, q11, q32, wy_lt, wy_ix (by omega) (by omega) (by omega), Int.toNat_natCast, m41, wq_w_id (x := P 12 k) (by omega) (by omega), if_neg c0, if_pos (c := (0 : Int) = 0) rfl]
        exact r'
  · intro n m ⟨hm, hp, h42⟩
    have q28 : m 0 28 = P 0 28 := by rw [wy_ma0 hm (i := 28) (by omega), wy_qk_o (by omega), h28]
    rw [l_X9_night_295_s]
    unfold b_X9_night_295
    rw [q28, wq_w_id (x := P 0 28) (by omega) (by omega), wq_w_id (by omega) (by omega), if_pos (by omega)]
    exact ⟨m, rfl, hm, h42⟩
end
end
section
/-! NIGHTS: both sides end alike -/
section
variable {P Q S M : wq_St} {r D W i : Nat} {ln : Nat → Nat} {dm wm : Int}
theorem wy_ex_s {p : Nat → Prop} {n : Nat} : (∃ x, x < n + 1 ∧ p x) ↔ p n ∨ ∃ x, x < n ∧ p x := by
  constructor
  · rintro ⟨x, hx, hp⟩
    by_cases e : x = n
    · rw [e] at hp; exact Or.inl hp
    · exact Or.inr ⟨x, by omega, hp⟩
  · rintro (h | ⟨x, hx, hp⟩)
    · exact ⟨n, by omega, h⟩
    · exact ⟨x, by omega, hp⟩
/-- a cell that is set to v, or stays, step by step -/
theorem wy_steps {p : Nat → Prop} {g : Nat → Int} {a v : Int} (h0 : g 0 = a) (h1 : ∀ i, p i → g (i + 1) = v) (h2 : ∀ i, ¬p i → g (i + 1) = g i) : ∀ n, ((∃ x, x < n ∧ p x) → g n = v) ∧ ((¬∃ x, x < n ∧ p x) → g n = a)
  | 0 => ⟨fun ⟨x, hx, _⟩ => by omega, fun _ => h0⟩
  | n + 1 => by
    obtain ⟨a1, a2⟩ := wy_steps h0 h1 h2 n
    rw [wy_ex_s]
    by_cases c : p n
    · exact ⟨fun _ => h1 n c, fun h => absurd (Or.inl c) h⟩
    · exact ⟨fun h => (h2 n c).trans (a1 (h.resolve_left c)), fun h => (h2 n c).trans (a2 fun h' => h (Or.inr h'))⟩
def wy_Am (P : wq_St) (ln : Nat → Nat) (D j x : Nat) : Prop := (x < D → wy_wr P (ln x)) ∧ wy_tm P (ln x) j
theorem wy_Qr_10 (j n : Nat) : ((∃ x, x < n ∧ wy_Am P ln D j x) → wy_Qr P ln D n 10 j = 1) ∧ ((¬∃ x, x < n ∧ wy_Am P ln D j x) → wy_Qr P ln D n 10 j = P 10 j) := by
  refine wy_steps (g := fun n => wy_Qr P ln D n 10 j) rfl (fun i h => ?_) (fun i h => ?_) n
  · show wy_Qr P ln D (i + 1) 10 j = 1
    simp only [wy_Qr]
    by_cases c : i < D
    · rw [if_pos c]
      unfold wy_kp
      rw [if_pos (h.1 c)]
      exact wy_mt_1 h.2
    · rw [if_neg c]
      exact wy_mt_1 h.2
  · show wy_Qr P ln D (i + 1) 10 j = wy_Qr P ln D i 10 j
    simp only [wy_Qr]
    by_cases c : i < D
    · rw [if_pos c]
      unfold wy_kp
      by_cases w : wy_wr P (ln i)
      · rw [if_pos w, wy_mt_0 (fun h' => h ⟨fun _ => w, h'⟩), wy_k5_o (by omega)]
      · rw [if_neg w, wy_k5_o (by omega)]
    · rw [if_neg c]
      unfold wy_ow
      rw [wy_mt_0 (fun h' => h ⟨fun h'' => absurd h'' c, h'⟩), wy_set_ne (by omega)]
theorem wy_k5_at {f v : Nat} {w : Int} (hf : (f = 12 ∧ w = 0) ∨ (f = 24 ∧ w = wy_fd P v) ∨ (f = 25 ∧ w = wy_sd P v) ∨ (f = 26 ∧ w = P 0 29)) : wy_k5 P v Q f v = w := by
  unfold wy_k5
  rcases hf with ⟨rfl, rfl⟩ | ⟨rfl, rfl⟩ | ⟨rfl, rfl⟩ | ⟨rfl, rfl⟩
  · rw [wy_set_at rfl rfl]
  · rw [wy_set_ne (by omega), wy_set_ne (by omega), wy_set_ne (by omega), wy_set_at rfl rfl]
  · rw [wy_set_ne (by omega), wy_set_ne (by omega), wy_set_at rfl rfl]
  · rw [wy_set_ne (by omega), wy_set_at rfl rfl]
theorem wy_k5_ne {f j v : Nat} (hf : f = 12 ∨ f = 24 ∨ f = 25 ∨ f = 26) (hj : j ≠ v) : wy_k5 P v Q f j = Q f j := by
  unfold wy_k5
  rw [wy_set_ne (by omega), wy_set_ne (by omega), wy_set_ne (by omega), wy_set_ne (by omega), wy_set_ne (by omega)]
theorem wy_Qr_r {f : Nat} {w : Int} (r n : Nat) (hf : (f = 12 ∧ w = 0) ∨ (f = 24 ∧ w = wy_fd P r) ∨ (f = 25 ∧ w = wy_sd P r) ∨ (f = 26 ∧ w = P 0 29)) : ((∃ x, x < n ∧ (x < D ∧ ln x = r)) → wy_Qr P ln D n f r = w) ∧ ((¬∃ x, x < n ∧ (x < D ∧ ln x = r)) → wy_Qr P ln D n f r = P f r) := by
  have hf' : f = 12 ∨ f = 24 ∨ f = 25 ∨ f = 26 := by
    rcases hf with h | h | h | h
    · exact Or.inl h.1
    · exact Or.inr (Or.inl h.1)
    · exact Or.inr (Or.inr (Or.inl h.1))
    · exact Or.inr (Or.inr (Or.inr h.1))
  refine wy_steps (g := fun n => wy_Qr P ln D n f r) rfl (fun i h => ?_) (fun i h => ?_) n
  · show wy_Qr P ln D (i + 1) f r = w
    simp only [wy_Qr]
    rw [if_pos h.1, wy_kp_n (by omega), h.2]
    exact wy_k5_at hf
  · show wy_Qr P ln D (i + 1) f r = wy_Qr P ln D i f r
    simp only [wy_Qr]
    by_cases c : i < D
    · rw [if_pos c, wy_kp_n (by omega)]
      exact wy_k5_ne hf' (fun e => h ⟨c, e.symm⟩)
    · rw [if_neg c]
      unfold wy_ow
      rw [wy_mt_o (by omega), wy_set_ne (by omega)]
theorem wy_Qr_32 : ∀ n, wy_Qr P ln D n 0 32 = P 0 32 + wy_su (fun x => if x < D then 0 else P 11 (ln x)) n
  | 0 => (Int.add_zero _).symm
  | n + 1 => by
    have h := wy_Qr_32 n
    simp only [wy_Qr, wy_su]
    by_cases c : n < D
    · rw [if_pos c, if_pos c, wy_kp_n (by omega), wy_k5_o (by omega), h, Int.add_zero]
    · rw [if_neg c, if_neg c]
      unfold wy_ow
      rw [wy_mt_o (by omega), wy_set_at rfl rfl, h]
      omega
theorem wy_Qr_31e : ∀ n, D ≤ n → wy_Qr P ln D n 0 31 = wy_lf P ln D
  | 0, h => by
    have e : D = 0 := by omega
    subst e
    exact wy_Qr_31 0 (Nat.le_refl _)
  | n + 1, h => by
    by_cases e : D = n + 1
    · subst e
      exact wy_Qr_31 _ (Nat.le_refl _)
    · simp only [wy_Qr]
      rw [if_neg (by omega)]
      unfold wy_ow
      rw [wy_mt_o (by omega), wy_set_ne (by omega), wy_Qr_31e n (by omega)]
theorem wy_k4_at {f v : Nat} {w : Int} (hf : (f = 24 ∧ w = wy_fd P v) ∨ (f = 25 ∧ w = wy_sd P v) ∨ (f = 26 ∧ w = P 0 29)) : wy_k4 P v Q f v = w := by
  unfold wy_k4
  rcases hf with ⟨rfl, rfl⟩ | ⟨rfl, rfl⟩ | ⟨rfl, rfl⟩
  · rw [wy_set_ne (by omega), wy_set_ne (by omega), wy_set_at rfl rfl]
  · rw [wy_set_ne (by omega), wy_set_at rfl rfl]
  · rw [wy_set_at rfl rfl]
theorem wy_Qm_r {f : Nat} {w : Int} (r n : Nat) (hf : (f = 24 ∧ w = wy_fd P r) ∨ (f = 25 ∧ w = wy_sd P r) ∨ (f = 26 ∧ w = P 0 29)) : ((∃ x, x < n ∧ ln x = r) → wy_Qm P ln n f r = w) ∧ ((¬∃ x, x < n ∧ ln x = r) → wy_Qm P ln n f r = P f r) := by
  refine wy_steps (g := fun n => wy_Qm P ln n f r) rfl (fun i h => ?_) (fun i h => ?_) n
  · show wy_Qm P ln (i + 1) f r = w
    simp only [wy_Qm]
    rw [h]
    exact wy_k4_at hf
  · show wy_Qm P ln (i + 1) f r = wy_Qm P ln i f r
    simp only [wy_Qm]
    unfold wy_k4
    rw [wy_set_ne (by omega), wy_set_ne (by omega), wy_set_ne (by omega), wy_set_ne (by omega)]
def wy_Bm (P : wq_St) (c2 c3 : Int) (j r : Nat) : Prop := ((P 12 r ≠ 0 ∧ ¬wy_bt c2 r) ∨ wy_bt c3 r) ∧ wy_tm P r j
theorem wy_qk_10 {c2 c3 : Int} (j n : Nat) : ((∃ r, r < n ∧ wy_Bm P c2 c3 j r) → wy_qk P c2 c3 Q n 10 j = 1) ∧ ((¬∃ r, r < n ∧ wy_Bm P c2 c3 j r) → wy_qk P c2 c3 Q n 10 j = Q 10 j) := by
  refine wy_steps (g := fun n => wy_qk P c2 c3 Q n 10 j) rfl (fun i h => ?_) (fun i h => ?_) n
  · show wy_qk P c2 c3 Q (i + 1) 10 j = 1
    simp only [wy_qk]
    rw [wy_set_ne (by omega)]
    unfold wy_q2
    rw [if_pos h.1]
    exact wy_mt_1 h.2
  · show wy_qk P c2 c3 Q (i + 1) 10 j = wy_qk P c2 c3 Q i 10 j
    simp only [wy_qk]
    rw [wy_set_ne (by omega)]
    unfold wy_q2
    by_cases c : (P 12 i ≠ 0 ∧ ¬wy_bt c2 i) ∨ wy_bt c3 i
    · rw [if_pos c, wy_mt_0 (fun h' => h ⟨c, h'⟩), wy_set_ne (by omega)]
    · rw [if_neg c, wy_set_ne (by omega)]
theorem wy_qk_12d {c2 c3 : Int} {j : Nat} : ∀ n, j < n → wy_qk P c2 c3 Q n 12 j = if P 12 j ≠ 0 ∧ ¬wy_bt c2 j then 1 else 0
  | 0, h => by omega
  | n + 1, h => by
    simp only [wy_qk]
    by_cases e : j = n
    · subst e
      exact wy_set_at rfl rfl
    · rw [wy_set_ne (by omega), wy_q2_n (by omega), wy_set_ne (by omega)]
      exact wy_qk_12d n (by omega)
theorem wy_qk_32 {c2 c3 : Int} : ∀ n, wy_qk P c2 c3 Q n 0 32 = Q 0 32 + wy_su (wy_q1 P c2) n
  | 0 => (Int.add_zero _).symm
  | n + 1 => by
    simp only [wy_qk, wy_su]
    rw [wy_set_ne (by omega), wy_q2_n (by omega), wy_set_at rfl rfl, wy_qk_32 n]
    omega
/-! sums over the line are sums over the reports -/
theorem wy_su_one (G : Nat → Int) (a : Nat) : ∀ n, wy_su G n = wy_su (fun r => if r = a then 0 else G r) n + (if a < n then G a else 0)
  | 0 => rfl
  | n + 1 => by
    simp only [wy_su]
    rw [wy_su_one G a n]
    by_cases e : n = a
    · subst e
      rw [if_pos rfl, if_neg (by omega), if_pos (by omega)]
    · rw [if_neg e]
      by_cases c : a < n
      · rw [if_pos c, if_pos (by omega)]
        omega
      · rw [if_neg c, if_neg (by omega)]
        omega
theorem wy_su_line {F : Nat → Int} {N : Nat} : ∀ (W : Nat) (G : Nat → Int), (∀ x y, x < W → y < W → ln x = ln y → x = y) → (∀ x, x < W → ln x < N) → (∀ x, x < W → G (ln x) = F x) → (∀ r, r < N → (∀ x, x < W → ln x ≠ r) → G r = 0) → wy_su F W = wy_su G N
  | 0, G, _, _, _, h0 => by
    rw [wy_su_congr (b := fun _ => 0) fun r hr => h0 r hr fun x hx => by omega, wy_su_0]
    rfl
  | W + 1, G, inj, hlt, hG, h0 => by
    have ih := wy_su_line W (fun r => if r = ln W then 0 else G r) (fun x y hx hy => inj x y (by omega) (by omega)) (fun x hx => hlt x (by omega)) (fun x hx => by
      show (if ln x = ln W then 0 else G (ln x)) = F x
      rw [if_neg (fun e => by have := inj x W (by omega) (by omega) e; omega)]
      exact hG x (by omega)) (fun r hr hx => by
      show (if r = ln W then 0 else G r) = 0
      by_cases e : r = ln W
      · rw [if_pos e]
      · rw [if_neg e]
        exact h0 r hr fun x hx' e' => by
          by_cases c : x = W
          · rw [c] at e'; exact e e'.symm
          · exact hx x (by omega) e')
    simp only [wy_su]
    rw [ih, wy_su_one G (ln W) N, if_pos (hlt W (by omega)), hG W (by omega)]
theorem wy_su_D (D : Nat) : ∀ n, wy_su (fun x => if x < D then 1 else 0) n = if n ≤ D then (n : Int) else (D : Int)
  | 0 => by
    rw [if_pos (by omega)]
    rfl
  | n + 1 => by
    simp only [wy_su]
    rw [wy_su_D D n]
    by_cases c : n < D
    · rw [if_pos c, if_pos (by omega), if_pos (by omega)]
      omega
    · rw [if_neg c, if_neg (c := n + 1 ≤ D) (by omega)]
      by_cases e : n ≤ D
      · rw [if_pos e]
        omega
      · rw [if_neg e]
        omega
theorem wy_ln_inj (hln : wy_ln P 8 W ln) (x y : Nat) (hx : x < W) (hy : y < W) (h : ln x = ln y) : x = y := by
  by_cases c : x < y
  · have h1 := hln.2.2.1 x y c hy
    rw [h] at h1
    exact absurd h1 (wy_bf_a h1)
  · by_cases c' : y < x
    · have h1 := hln.2.2.1 y x c' hx
      rw [h] at h1
      exact absurd h1 (wy_bf_a h1)
    · omega
theorem wy_ln_N (hI : wy_iv P) (hln : wy_ln P 8 W ln) {x : Nat} (hx : x < W) : ln x < (P 0 28).toNat := by
  by_cases h : ln x < (P 0 28).toNat
  · exact h
  · exact absurd (hI.2.2.2.1 (ln x) (by omega)) (hln.2.1 x hx).2
/-- done, by its place and by its bit -/
theorem wy_bt_ln (hln : wy_ln P 8 W ln) (hDW : D ≤ W) (hk : wy_mk P ln D dm wm) {x : Nat} (hx : x < W) : wy_bt dm (ln x) ↔ x < D := by
  rw [hk.2.2.1 (ln x) (hln.2.1 x hx).1]
  constructor
  · rintro ⟨y, hy, e⟩
    have := wy_ln_inj hln y x (by omega) hx e
    omega
  · exact fun h => ⟨x, h, rfl⟩
theorem wy_owe (hI : wy_iv P) (hln : wy_ln P 8 W ln) (hDW : D ≤ W) (hk : wy_mk P ln D dm wm) : wy_su (fun x => if x < D then 0 else P 11 (ln x)) W = wy_su (wy_q1 P dm) (P 0 28).toNat := by
  refine wy_su_line W _ (wy_ln_inj hln) (fun x hx => wy_ln_N hI hln hx) (fun x hx => ?_) (fun r hr hn => ?_)
  · have h := wy_bt_ln hln hDW hk hx
    unfold wy_q1
    by_cases c : x < D
    · rw [if_pos c, if_neg (fun h' => h'.2 (h.mpr c))]
    · rw [if_neg c, if_pos ⟨(hln.2.1 x hx).2, fun h' => c (h.mp h')⟩]
  · unfold wy_q1
    rw [if_neg (fun h => ?_)]
    have hO := hI.2.1
    unfold wy_iO at hO
    obtain ⟨x, hx, e⟩ := hln.2.2.2 r (by omega) h.1
    exact hn x hx e
theorem wy_cnt (hI : wy_iv P) (hln : wy_ln P 8 W ln) (hDW : D ≤ W) (hk : wy_mk P ln D dm wm) : wy_su (fun r => if wy_bt dm r then 1 else 0) (P 0 28).toNat = (D : Int) := by
  have hO := hI.2.1
  unfold wy_iO at hO
  have h1 : wy_su (fun x => if x < D then 1 else 0) W = wy_su (fun r => if wy_bt dm r then 1 else 0) (P 0 28).toNat := by
    refine wy_su_line W _ (wy_ln_inj hln) (fun x hx => wy_ln_N hI hln hx) (fun x hx => ?_) (fun r hr hn => ?_)
    · have h := wy_bt_ln hln hDW hk hx
      by_cases c : x < D
      · rw [if_pos c, if_pos (h.mpr c)]
      · rw [if_neg c, if_neg (fun h' => c (h.mp h'))]
    · rw [if_neg (fun h => ?_)]
      obtain ⟨x, hx, e⟩ := (hk.2.2.1 r (by omega)).mp h
      exact hn x (by omega) e
  rw [← h1, wy_su_D]
  by_cases c : W ≤ D
  · rw [if_pos c]
    omega
  · rw [if_neg c]
/-- the class's state behind a night is the model's -/
theorem wy_same (hI : wy_iv P) (hln : wy_ln P 8 W ln) (hDW : D ≤ W) (hk : wy_mk P ln D dm wm) : wy_qk P dm wm (wy_Qm P ln D) (P 0 28).toNat = wy_Qr P ln D W := by
  have hO := hI.2.1
  unfold wy_iO at hO
  have hxD : ∀ r, (∃ x, x < W ∧ (x < D ∧ ln x = r)) ↔ ∃ x, x < D ∧ ln x = r := fun r => ⟨fun ⟨x, _, h⟩ => ⟨x, h⟩, fun ⟨x, h⟩ => ⟨x, by omega, h⟩⟩
  funext f j
  by_cases f10 : f = 10
  · subst f10
    have a := @wy_Qr_10 P D ln j W
    have b := @wy_qk_10 P (wy_Qm P ln D) dm wm j (P 0 28).toNat
    have hAB : (∃ x, x < W ∧ wy_Am P ln D j x) ↔ ∃ r, r < (P 0 28).toNat ∧ wy_Bm P dm wm j r := by
      constructor
      · rintro ⟨x, hx, h1, h2⟩
        refine ⟨ln x, wy_ln_N hI hln hx, ?_, h2⟩
        have h := wy_bt_ln hln hDW hk hx
        by_cases c : x < D
        · exact Or.inr ((hk.2.2.2 (ln x) (hln.2.1 x hx).1).mpr ⟨x, c, rfl, h1 c⟩)
        · exact Or.inl ⟨(hln.2.1 x hx).2, fun h' => c (h.mp h')⟩
      · rintro ⟨r, hr, h1, h2⟩
        rcases h1 with h1 | h1
        · obtain ⟨x, hx, e⟩ := hln.2.2.2 r (by omega) h1.1
          subst e
          have h := wy_bt_ln hln hDW hk hx
          exact ⟨x, hx, fun c => absurd (h.mpr c) h1.2, h2⟩
        · obtain ⟨x, hx, e, hw⟩ := (hk.2.2.2 r (by omega)).mp h1
          subst e
          exact ⟨x, by omega, fun _ => hw, h2⟩
    by_cases c : ∃ x, x < W ∧ wy_Am P ln D j x
    · rw [a.1 c, b.1 (hAB.mp c)]
    · rw [a.2 c, b.2 (fun h => c (hAB.mpr h)), wy_Qm_o (by omega)]
  · by_cases f12 : f = 12
    · subst f12
      have a := @wy_Qr_r P D ln 12 0 j W (Or.inl ⟨rfl, rfl⟩)
      rw [hxD] at a
      by_cases hj : j < (P 0 28).toNat
      · rw [wy_qk_12d _ hj]
        have hb := hk.2.2.1 j (by omega)
        have b12 := wy_b12 hI j
        by_cases c : ∃ x, x < D ∧ ln x = j
        · rw [a.1 c, if_neg (fun h => h.2 (hb.mpr c))]
        · rw [a.2 c]
          by_cases c0 : P 12 j = 0
          · rw [if_neg (fun h => h.1 c0), c0]
          · rw [if_pos ⟨c0, fun h => c (hb.mp h)⟩]
            omega
      · rw [wy_qk_12 _ (by omega), wy_Qm_o (by omega), a.2]
        rintro ⟨x, hx, e⟩
        have := wy_ln_N hI hln (x := x) (by omega)
        omega
    · by_cases f0 : f = 0 ∧ (j = 31 ∨ j = 32)
      · obtain ⟨rfl, hj⟩ := f0
        rcases hj with rfl | rfl
        · rw [wy_qk_o (by omega), wy_Qm_31, wy_Qr_31e W hDW]
        · rw [wy_qk_32, wy_Qr_32, wy_Qm_o (by omega), wy_owe hI hln hDW hk]
      · by_cases fr : f = 24 ∨ f = 25 ∨ f = 26
        · have hf : f ≠ 10 ∧ f ≠ 12 ∧ ¬(f = 0 ∧ j = 32) := ⟨f10, f12, fun h => by rcases fr with e | e | e <;> omega⟩
          obtain ⟨w, hw⟩ : ∃ w, (f = 24 ∧ w = wy_fd P j) ∨ (f = 25 ∧ w = wy_sd P j) ∨ (f = 26 ∧ w = P 0 29) := by
            rcases fr with h | h | h
            · exact ⟨_, Or.inl ⟨h, rfl⟩⟩
            · exact ⟨_, Or.inr (Or.inl ⟨h, rfl⟩)⟩
            · exact ⟨_, Or.inr (Or.inr ⟨h, rfl⟩)⟩
          have a := @wy_Qr_r P D ln f w j W (Or.inr hw)
          rw [hxD] at a
          have b := @wy_Qm_r P ln f w j D hw
          rw [wy_qk_o hf]
          by_cases c : ∃ x, x < D ∧ ln x = j
          · rw [a.1 c, b.1 c]
          · rw [a.2 c, b.2 c]
        · rw [wy_qk_o (by omega), wy_Qm_o (by omega), wy_Qr_o (by omega)]
theorem wy_iv_Qr (hI : wy_iv P) (hln : wy_ln P 8 W ln) (hDW : D ≤ W) : wy_iv (wy_Qr P ln D W) := by
  have hI' := hI
  have o : ∀ f i, f ≠ 10 ∧ f ≠ 12 ∧ f ≠ 24 ∧ f ≠ 25 ∧ f ≠ 26 ∧ ¬(f = 0 ∧ (i = 31 ∨ i = 32)) → wy_Qr P ln D W f i = P f i := fun f i h => wy_Qr_o h W
  have n12 : ∀ j, wy_Qr P ln D W 12 j = 0 ∨ wy_Qr P ln D W 12 j = P 12 j := fun j => by
    have a := @wy_Qr_r P D ln 12 0 j W (Or.inl ⟨rfl, rfl⟩)
    by_cases c : ∃ x, x < W ∧ (x < D ∧ ln x = j)
    · exact Or.inl (a.1 c)
    · exact Or.inr (a.2 c)
  obtain ⟨iB, iO, iK, iD, iL, iT, iC, iS, iN, iP⟩ := hI
  have n10 : ∀ j : Nat, (wy_Qr P ln D W 10 j = 1 ∧ (j : Int) < P 0 5) ∨ wy_Qr P ln D W 10 j = P 10 j := fun j => by
    have a := @wy_Qr_10 P D ln j W
    by_cases c : ∃ x, x < W ∧ wy_Am P ln D j x
    · refine Or.inl ⟨a.1 c, ?_⟩
      obtain ⟨x, hx, -, k, hk, e⟩ := c
      have := iT (ln x) k hk
      have := wy_b14 hI' (3 * ln x + k)
      omega
    · exact Or.inr (a.2 c)
  refine ⟨fun f i h1 h2 => ?_, ?_, fun t ht => ?_, fun r hr => ?_, fun i => ?_, fun r j hj => ?_, fun r k hk => ?_, fun r hr => ?_, fun r h1 h2 => ?_, fun t ht => ?_⟩
  · by_cases f10 : f = 10
    · subst f10
      rcases n10 i with h | h
      · rw [h.1]
        exact ⟨by show (0 : Int) ≤ 1; omega, by show (1 : Int) ≤ 1; omega⟩
      · rw [h]
        exact iB 10 i h1 h2
    · by_cases f12 : f = 12
      · subst f12
        rcases n12 i with h | h
        · rw [h]
          exact ⟨by show (0 : Int) ≤ 0; omega, by show (0 : Int) ≤ 1; omega⟩
        · rw [h]
          exact iB 12 i h1 h2
      · rw [o f i (by omega)]
        exact iB f i h1 h2
  · unfold wy_iO
    rw [o 0 5 (by omega), o 0 11 (by omega), o 0 28 (by omega)]
    exact iO
  · rw [o 0 5 (by omega)] at ht
    rcases n10 t with h | h
    · omega
    · rw [h]
      exact iK t ht
  · rw [o 0 28 (by omega)] at hr
    rcases n12 r with h | h
    · exact h
    · rw [h]
      exact iD r hr
  · rw [o 8 i (by omega), o 9 i (by omega)]
    exact iL i
  · rw [o 13 r (by omega)] at hj
    rw [o 14 _ (by omega), o 0 5 (by omega)]
    exact iT r j hj
  · rw [o 15 r (by omega)] at hk
    rw [o 13 _ (by omega), o 16 _ (by omega), o 17 _ (by omega), o 20 _ (by omega)]
    exact iC r k hk
  · rw [o 22 r (by omega)] at hr ⊢
    rw [o 13 _ (by omega), o 23 _ (by omega), o 28 _ (by omega)]
    exact iS r hr
  · rw [o 0 28 (by omega)] at h1
    have hno : ¬∃ x, x < W ∧ (x < D ∧ ln x = r) := by
      rintro ⟨x, hx, -, e⟩
      have := wy_ln_N hI' hln hx
      omega
    rw [o 22 _ (by omega), (@wy_Qr_r P D ln 24 _ r W (Or.inr (Or.inl ⟨rfl, rfl⟩))).2 hno, (@wy_Qr_r P D ln 25 _ r W (Or.inr (Or.inr (Or.inl ⟨rfl, rfl⟩)))).2 hno, (@wy_Qr_r P D ln 26 _ r W (Or.inr (Or.inr (Or.inr ⟨rfl, rfl⟩)))).2 hno]
    exact iN r h1 h2
  · rw [o 27 _ (by omega), o 2 _ (by omega), wy_ct_cg (fun i => o 3 i (by omega))]
    exact iP t ht
end
end
section
/-! what a call is, on both sides: it returns the same, or throws the same; k: the place of an exception among those that the call lists, 0 for none -/
/-- a table that is there has a column -/
def wy_iW (P : wq_St) : Prop := ∀ t : Nat, (t : Int) < P 0 5 → 1 ≤ P 1 t
def wy_cll (k : Nat → Int) (P S M : wq_St) (x8 : Option (Nat × Int × wq_St)) (x9 : Option (Int × wq_St)) : Prop :=
  (∃ P' r S' M', x8 = some (0, r, S') ∧ x9 = some (r, M') ∧ M' 0 42 = 0 ∧ wy_iv P' ∧ wy_R wy_al S' P' ∧ wy_M wy_al M' P' ∧ (wy_iW P → wy_iW P')) ∨ ∃ n b, x8 = some (n + 1, 0, S) ∧ x9 = some (b, wq_set M 0 42 (k (n + 1))) ∧ k (n + 1) ≠ 0
def wy_k1 (n : Nat) : Int := if n = 1 then 1 else 0
def wy_k2 (n : Nat) : Int := if n = 2 then 1 else 0
def wy_k12 (n : Nat) : Int := if n = 1 then 1 else if n = 2 then 2 else 0
def wy_k13 (n : Nat) : Int := if n = 1 then 1 else if n = 3 then 2 else 0
def wy_k23 (n : Nat) : Int := if n = 2 then 1 else if n = 3 then 2 else 0
def wy_k123 (n : Nat) : Int := if n = 1 then 1 else if n = 2 then 2 else if n = 3 then 3 else 0
section
variable {P S M : wq_St} {x : Int}
theorem wy_asked1 : f_X9_asked 1 M = some (1, wq_set M 0 42 0) := by
  unfold f_X9_asked
  rw [if_neg (by decide), wy_lt, wq_gd_t (Or.inr rfl)]
theorem wy_asked0 : f_X9_asked 0 M = some (0, wq_set M 0 42 1) := by
  unfold f_X9_asked
  rw [if_pos (by decide), wy_lt, wq_gd_t (Or.inl rfl)]
theorem wy_42 {v : Int} : wq_set M 0 42 v 0 42 = v := wy_set_at rfl rfl
theorem wy_asd0 (y : Int) : f_X9_asked_ 0 y M = some (0, wq_set M 0 42 1) := by
  unfold f_X9_asked_
  rw [if_pos (by decide), wy_lt, wy_42, if_neg (by decide)]
theorem wy_asd1 : f_X9_asked_ 1 0 M = some (0, wq_set M 0 42 2) := by
  unfold f_X9_asked_
  rw [if_neg (by decide), if_pos (by decide), wy_lt, wy_42, if_neg (by decide)]
theorem wy_asd2 : f_X9_asked_ 1 1 M = some (1, wq_set M 0 42 0) := by
  unfold f_X9_asked_
  rw [if_neg (by decide), if_neg (by decide), wy_lt, wy_42, if_pos (by decide)]
theorem wy_ase0 (y z : Int) : f_X9_asked__ 0 y z M = some (0, wq_set M 0 42 1) := by
  unfold f_X9_asked__
  rw [if_pos (by decide), wy_lt, wy_42, if_neg (by decide)]
theorem wy_ase1 (z : Int) : f_X9_asked__ 1 0 z M = some (0, wq_set M 0 42 2) := by
  unfold f_X9_asked__
  rw [if_neg (by decide), if_pos (by decide), wy_lt, wy_42, if_neg (by decide)]
theorem wy_ase2 : f_X9_asked__ 1 1 0 M = some (0, wq_set M 0 42 3) := by
  unfold f_X9_asked__
  rw [if_neg (by decide), if_neg (by decide), if_pos (by decide), wy_lt, wy_42, if_neg (by decide)]
theorem wy_ase3 : f_X9_asked__ 1 1 1 M = some (1, wq_set M 0 42 0) := by
  unfold f_X9_asked__
  rw [if_neg (by decide), if_neg (by decide), if_neg (by decide), wy_lt, wy_42, if_pos (by decide)]
theorem wy_in1 {a b : Int} (hx : -2147483648 ≤ x ∧ x < 2147483648) (ha : -2147483648 ≤ a ∧ a < 2147483648) (hb : -2147483648 ≤ b ∧ b < 2147483648) (h : a ≤ x ∧ x ≤ b) : f_X9_in x a b M = some (1, M) := by
  unfold f_X9_in
  rw [wq_w_id hx.1 hx.2, wq_w_id ha.1 ha.2, wq_w_id hb.1 hb.2, if_neg (by omega), if_neg (by omega)]
theorem wy_in0 {a b : Int} (hx : -2147483648 ≤ x ∧ x < 2147483648) (ha : -2147483648 ≤ a ∧ a < 2147483648) (hb : -2147483648 ≤ b ∧ b < 2147483648) (h : ¬(a ≤ x ∧ x ≤ b)) : f_X9_in x a b M = some (0, M) := by
  unfold f_X9_in
  rw [wq_w_id hx.1 hx.2, wq_w_id ha.1 ha.2, wq_w_id hb.1 hb.2]
  by_cases c : x < a
  · rw [if_pos c]
  · rw [if_neg c, if_pos (by omega)]
theorem wy_M_42 {C : Nat → Prop} {v : Int} (h : wy_M C M P) : wy_M C (wq_set M 0 42 v) P := wy_M_off h (Or.inr (Or.inl ⟨rfl, by omega⟩))
theorem wy_pd_iv (hI : wy_iv P) : wy_iv (wy_pd P x) := wy_iv_0 (wy_iv_0 hI (by omega)) (by omega)
theorem wy_c_night (hI : wy_iv P) (hR : wy_R wy_al S P) (hM : wy_M wy_al M P) (hx : -2147483648 ≤ x ∧ x < 2147483648) : wy_cll wy_k23 P S M (f_X8_night x S) (f_X9_night x M) := by
  have w1000 : wq_w 1000 = 1000 := rfl
  have q29 : M 0 29 = P 0 29 := wy_ma0 hM (by omega)
  unfold f_X8_night f_X9_night
  rw [wq_w_id hx.1 hx.2, w1000, wy_cG hR]
  by_cases c : 0 ≤ x ∧ x ≤ 1000
  · rw [if_neg (by omega), if_pos c.2, wy_bd (wy_in1 hx (by omega) (by omega) c), q29]
    unfold j_X9_night_24
    by_cases c5 : wq_w (P 0 29) < wq_w 500
    · rw [if_pos c5, if_neg (by omega), wy_bd wy_asd2, if_neg (by decide)]
      refine Or.inl ?_
      -- dusk
      have hM0 : wy_M wy_al (wq_set M 0 42 0) P := wy_M_42 hM
      obtain ⟨S1, e1, hR1⟩ := wy_x_pay hI hR x
      obtain ⟨M1, g1, hM1, q1⟩ := wy_m_dusk hI hM0
      have hM2 : wy_M wy_al (wq_set (wq_set M1 0 31 (wy_dp P 4 + wy_dq P 8 + x)) 0 30 (P 0 30 + (wy_dp P 4 + wy_dq P 8 + x))) (wy_pd P x) := by
        have e : wy_dp P 4 + wy_dq P 8 + x = wy_py P x := by
          unfold wy_py
          omega
        rw [e, wy_set_cm (by omega)]
        unfold wy_pd
        exact wy_M_set (wy_M_set hM1 _ (by omega)) _ (by omega)
      rw [wy_bd e1, wy_bd g1, wy_lt, wy_lt, wy_set_at (k := 0) (j := 31) (a := 0) (i := 31) rfl rfl, wy_set_ne (a := 0) (i := 30) (by omega), wy_ma0 hM1 (i := 30) (by omega)]
      have hI1 := @wy_pd_iv P x hI
      have q2 : wq_set (wq_set M1 0 31 (wy_dp P 4 + wy_dq P 8 + x)) 0 30 (P 0 30 + (wy_dp P 4 + wy_dq P 8 + x)) 0 42 = 0 := by rw [wy_set_ne (by omega), wy_set_ne (by omega), q1, wy_42]
      have hp5 : wy_pd P x 0 5 = P 0 5 := (wy_set_ne (by omega)).trans (wy_set_ne (by omega))
      have hp1 : ∀ t, wy_pd P x 1 t = P 1 t := fun t => (wy_set_ne (by omega)).trans (wy_set_ne (by omega))
      generalize wy_pd P x = P1 at *
      generalize wq_set (wq_set M1 0 31 (wy_dp P 4 + wy_dq P 8 + x)) 0 30 (P 0 30 + (wy_dp P 4 + wy_dq P 8 + x)) = M2 at *
      -- renewing
      obtain ⟨S2, e2, hR2⟩ := wy_x_rmt hI1 hR1
      obtain ⟨M3, g3, hM3, q3⟩ := wy_m_rmt hI1 hM2 (fun S19 =>
        wq_bd (f_X9_dueBehind (-1) S19) fun r20 S21 =>
        l_X9_night_144 (fun u37 u38 S39 =>
          j_X9_night_289 u37 u38 S39) wq_fu 0 0 r20 0 S21)
      rw [wy_bd e2, g3]
      have hI2 := wy_nq_iv hI1 4
      have hz5 : wy_nq P1 4 0 5 = P 0 5 := (wy_nq_0 5 (by omega) 4).trans hp5
      have hz1 : ∀ t, wy_nq P1 4 1 t = P 1 t := fun t => (wy_nq_1 t 4).trans (hp1 t)
      generalize wy_nq P1 4 = Z at *
      -- the reports
      obtain ⟨W, D, ln, S3, hln, hD, e3, hR3⟩ := wy_x_rdr hI2 hR2
      have hb : f_X9_dueBehind (-1) M3 = some (wy_at ln W 0, M3) := wy_m_next (i := 0) hI2 hln (by omega) (wy_ma0 hM3 (by omega)) (fun j => wy_ma hM3 (by omega)) (fun j => wy_ma hM3 (by omega))
      obtain ⟨dm, wm, M4, g4, hk, hM4, hP4, q4⟩ := wy_m_done hI2 hln hD hM3 (fun u37 u38 S39 => j_X9_night_289 u37 u38 S39)
      rw [wy_bd e3, wy_bd hb, g4]
      unfold j_X9_night_289
      obtain ⟨M5, g5, hM5, q5⟩ := wy_m_dawn hI2 hM4 hP4 (wy_Qm_o (by omega) D) (fun j => wy_Qm_o (by omega) D) (fun j => wy_Qm_o (by omega) D) dm wm (fun u53 S54 => wq_lt (wq_set S54 0 29 ((S54 0 29) + 1)) fun S55 => some (u53, S55))
      rw [g5, wy_lt, wy_cnt hI2 hln hD.1 hk]
      rw [wy_same hI2 hln hD.1 hk] at hM5
      have e29 : M5 0 29 = Z 0 29 := by rw [wy_ma0 hM5 (i := 29) (by omega), wy_Qr_o (by omega)]
      rw [e29]
      refine ⟨wq_set (wy_Qr Z ln D W) 0 29 (Z 0 29 + 1), (D : Int), S3, _, rfl, rfl, ?_, wy_iv_0 (wy_iv_Qr hI2 hln hD.1) (by omega), hR3, wy_M_set hM5 _ (by omega), fun hW t ht => ?_⟩
      · rw [wy_set_ne (by omega), q5, q4, q3, q2]
      · rw [wy_set_ne (by omega), wy_Qr_o (by omega), hz5] at ht
        rw [wy_set_ne (by omega), wy_Qr_o (by omega), hz1]
        exact hW t ht
    · rw [if_neg c5, if_pos (by omega), wy_bd wy_asd1, if_pos (by decide)]
      exact Or.inr ⟨2, 0, rfl, rfl, by decide⟩
  · rw [wy_bd (wy_in0 hx (by omega) (by omega) c)]
    unfold j_X9_night_24
    have hth : (if x < 0 then some (2, 0, S) else if x ≤ 1000 then (if wq_w (P 0 29) < wq_w 500 then wq_bd (f_X2_takePay x S) fun r1 S2 => wq_bd (f_X2_renewMarkedTables S2) fun r3 S4 => wq_bd (f_X2_runDueReports S4) fun r5 S6 => some (0, r5, S6) else some (3, 0, S)) else some (2, 0, S)) = some (1 + 1, (0 : Int), S) := by
      by_cases c0 : x < 0
      · rw [if_pos c0]
      · rw [if_neg c0, if_neg (by omega)]
    refine Or.inr ⟨1, 0, hth, ?_, by decide⟩
    split
    · rw [wy_bd (wy_asd0 _), if_pos (by decide)]
      rfl
    · rw [wy_bd (wy_asd0 _), if_pos (by decide)]
      rfl
end
end
section
/-! CALLS: what there is, on both sides -/
abbrev wy_isT (P : wq_St) (x : Int) : Prop := 0 ≤ x ∧ x < P 0 5
abbrev wy_isC (P : wq_St) (x y : Int) : Prop := (0 ≤ x ∧ x < P 0 5) ∧ 0 ≤ y ∧ y < P 1 x.toNat
abbrev wy_isW (P : wq_St) (x y : Int) : Prop := (0 ≤ x ∧ x < P 0 5) ∧ 0 ≤ y ∧ y < P 2 x.toNat ∧ P 3 (40 * x.toNat + y.toNat) ≠ 0
abbrev wy_isR (P : wq_St) (x : Int) : Prop := 0 ≤ x ∧ x < P 0 28
abbrev wy_isS (P : wq_St) (x y : Int) : Prop := (0 ≤ x ∧ x < P 0 28) ∧ 0 ≤ y ∧ y < P 13 x.toNat
abbrev wy_isK (P : wq_St) (x y z : Int) : Prop := ((0 ≤ x ∧ x < P 0 28) ∧ 0 ≤ y ∧ y < P 13 x.toNat) ∧ 0 ≤ z ∧ z < P 1 (P 14 (3 * x.toNat + y.toNat)).toNat
abbrev wy_rg (x : Int) : Prop := -2147483648 ≤ x ∧ x < 2147483648
section
variable {P S M : wq_St} {x y z : Int} {t r : Nat}
theorem wy_inn {a b : Int} (hx : wy_rg x) (ha : wy_rg a) (hb : wy_rg b) : f_X9_in x a b M = some ((if a ≤ x ∧ x ≤ b then 1 else 0), M) := by
  by_cases h : a ≤ x ∧ x ≤ b
  · rw [if_pos h]
    exact wy_in1 hx ha hb h
  · rw [if_neg h]
    exact wy_in0 hx ha hb h
theorem wy_01 {c : Prop} [Decidable c] : (if c then (1 : Int) else 0) = 0 ∨ (if c then (1 : Int) else 0) = 1 := by
  by_cases h : c
  · rw [if_pos h]
    exact Or.inr rfl
  · rw [if_neg h]
    exact Or.inl rfl
theorem wy_ifc {c d : Prop} [Decidable c] [Decidable d] (h : c ↔ d) : (if c then (1 : Int) else 0) = if d then 1 else 0 := by
  by_cases hc : c
  · rw [if_pos hc, if_pos (h.mp hc)]
  · rw [if_neg hc, if_neg (fun hd => hc (h.mpr hd))]
theorem wy_w01 {c : Prop} [Decidable c] : (wq_w (if c then (1 : Int) else 0) = 0) ↔ ¬c := by
  by_cases h : c
  · rw [if_pos h]
    exact ⟨fun h' => absurd h' (by decide), fun h' => absurd h h'⟩
  · rw [if_neg h]
    exact ⟨fun _ => h, fun _ => rfl⟩
theorem wy_o5 (hI : wy_iv P) : 0 ≤ P 0 5 ∧ P 0 5 ≤ 4 := ⟨hI.2.1.1, hI.2.1.2.1⟩
theorem wy_o11 (hI : wy_iv P) : 1 ≤ P 0 11 ∧ P 0 11 ≤ 10 := ⟨hI.2.1.2.2.1, hI.2.1.2.2.2.1⟩
theorem wy_o28 (hI : wy_iv P) : 0 ≤ P 0 28 ∧ P 0 28 ≤ 8 := hI.2.1.2.2.2.2
/-! the model -/
theorem wy_m_isT (hI : wy_iv P) (hM : wy_M wy_al M P) (hx : wy_rg x) : f_X9_isTable x M = some ((if wy_isT P x then 1 else 0), M) := by
  have o := wy_o5 hI
  unfold f_X9_isTable
  rw [wy_ma0 hM (i := 5) (by omega), wy_bd (wy_inn hx (by omega) (by omega)), wq_gd_t wy_01, wy_ifc (d := wy_isT P x) (by omega)]
theorem wy_m_isR (hI : wy_iv P) (hM : wy_M wy_al M P) (hx : wy_rg x) : f_X9_isReport x M = some ((if wy_isR P x then 1 else 0), M) := by
  have o := wy_o28 hI
  unfold f_X9_isReport
  rw [wy_ma0 hM (i := 28) (by omega), wy_bd (wy_inn hx (by omega) (by omega)), wq_gd_t wy_01, wy_ifc (d := wy_isR P x) (by omega)]
theorem wy_m_isC (hI : wy_iv P) (hM : wy_M wy_al M P) (hx : wy_rg x) (hy : wy_rg y) : f_X9_isColumn x y M = some ((if wy_isC P x y then 1 else 0), M) := by
  have o := wy_o5 hI
  have b1 := wy_b1 hI x.toNat
  unfold f_X9_isColumn
  rw [wy_bd (wy_m_isT hI hM hx)]
  by_cases h : wy_isT P x
  · rw [if_neg (fun h' => wy_w01.mp h' h), wy_ix (by omega) (by omega) (by omega), wy_ma hM (by omega), wy_bd (wy_inn hy (by omega) (by omega))]
    by_cases h2 : 0 ≤ y ∧ y < P 1 x.toNat
    · rw [if_neg (fun h' => wy_w01.mp h' (by omega)), if_pos ⟨h, h2⟩]
    · rw [if_pos (wy_w01.mpr (by omega)), if_neg (fun h' => h2 h'.2)]
  · rw [if_pos (wy_w01.mpr h), if_neg (fun h' => h h'.1)]
theorem wy_m_isW (hI : wy_iv P) (hM : wy_M wy_al M P) (hx : wy_rg x) (hy : wy_rg y) : f_X9_isRow x y M = some ((if wy_isW P x y then 1 else 0), M) := by
  have o := wy_o5 hI
  have b2 := wy_b2 hI x.toNat
  have b3 := wy_b3 hI (40 * x.toNat + y.toNat)
  unfold f_X9_isRow
  rw [wy_bd (wy_m_isT hI hM hx)]
  by_cases h : wy_isT P x
  · rw [if_neg (fun h' => wy_w01.mp h' h), wy_ix (by omega) (by omega) (by omega), wy_ma hM (by omega), wy_bd (wy_inn hy (by omega) (by omega))]
    by_cases h2 : 0 ≤ y ∧ y < P 2 x.toNat
    · have e : (40 * x + y).toNat = 40 * x.toNat + y.toNat := by omega
      rw [if_neg (fun h' => wy_w01.mp h' (by omega)), wy_ix (by omega) (by omega) (by omega), e, wy_ma hM (by omega), wq_w_id (by omega) (by omega)]
      by_cases h3 : P 3 (40 * x.toNat + y.toNat) = 0
      · rw [if_pos h3, if_neg (fun h' => h'.2.2.2 h3)]
      · rw [if_neg h3, if_pos ⟨h, h2.1, h2.2, h3⟩]
    · rw [if_pos (wy_w01.mpr (by omega)), if_neg (fun h' => h2 ⟨h'.2.1, h'.2.2.1⟩)]
  · rw [if_pos (wy_w01.mpr h), if_neg (fun h' => h h'.1)]
theorem wy_m_isS (hI : wy_iv P) (hM : wy_M wy_al M P) (hx : wy_rg x) (hy : wy_rg y) : f_X9_isSource x y M = some ((if wy_isS P x y then 1 else 0), M) := by
  have o := wy_o28 hI
  have b13 := wy_b13 hI x.toNat
  unfold f_X9_isSource
  rw [wy_bd (wy_m_isR hI hM hx)]
  by_cases h : wy_isR P x
  · rw [if_neg (fun h' => wy_w01.mp h' h), wy_ix (by omega) (by omega) (by omega), wy_ma hM (by omega), wy_bd (wy_inn hy (by omega) (by omega))]
    by_cases h2 : 0 ≤ y ∧ y < P 13 x.toNat
    · rw [if_neg (fun h' => wy_w01.mp h' (by omega)), if_pos ⟨h, h2⟩]
    · rw [if_pos (wy_w01.mpr (by omega)), if_neg (fun h' => h2 h'.2)]
  · rw [if_pos (wy_w01.mpr h), if_neg (fun h' => h h'.1)]
theorem wy_tT (hI : wy_iv P) {r j : Nat} (h : (j : Int) < P 13 r) : 0 ≤ P 14 (3 * r + j) ∧ P 14 (3 * r + j) < P 0 5 := ⟨(wy_b14 hI _).1, hI.2.2.2.2.2.1 r j h⟩
theorem wy_m_isK (hI : wy_iv P) (hM : wy_M wy_al M P) (hx : wy_rg x) (hy : wy_rg y) (hz : wy_rg z) : f_X9_isColumnOf x y z M = some ((if wy_isK P x y z then 1 else 0), M) := by
  have o := wy_o28 hI
  have o5 := wy_o5 hI
  have b13 := wy_b13 hI x.toNat
  unfold f_X9_isColumnOf
  rw [wy_bd (wy_m_isS hI hM hx hy)]
  by_cases h : wy_isS P x y
  · have e : (3 * x + y).toNat = 3 * x.toNat + y.toNat := by omega
    have hT := @wy_tT P hI x.toNat y.toNat (by omega)
    rw [if_neg (fun h' => wy_w01.mp h' h), wy_ix (by omega) (by omega) (by omega), e, wy_ma hM (by omega), wy_bd (wy_m_isC hI hM (by omega) hz)]
    by_cases h2 : 0 ≤ z ∧ z < P 1 (P 14 (3 * x.toNat + y.toNat)).toNat
    · rw [if_neg (fun h' => wy_w01.mp h' ⟨hT, h2⟩), if_pos ⟨h, h2⟩]
    · rw [if_pos (wy_w01.mpr (fun h' => h2 h'.2)), if_neg (fun h' => h2 h'.2)]
  · rw [if_pos (wy_w01.mpr h), if_neg (fun h' => h h'.1)]
/-! the class -/
theorem wy_x_fT (hI : wy_iv P) (hR : wy_R wy_al S P) (hx : wy_rg x) : f_X8_findTable x S = if wy_isT P x then some (0, 6 + 48 * x.toNat, S) else some (1, 0, S) := by
  have o := wy_o5 hI
  unfold f_X8_findTable
  rw [wy_cT hR, wq_w_id hx.1 hx.2, wq_w_id (x := P 0 5) (by omega) (by omega)]
  by_cases c0 : x < 0
  · rw [if_pos c0, if_neg (by omega)]
  · rw [if_neg c0]
    by_cases c1 : x < P 0 5
    · rw [if_pos c1, if_pos (by omega), wy_ix (by omega) (by omega) (by omega)]
    · rw [if_neg c1, if_neg (by omega)]
theorem wy_x_fR (hI : wy_iv P) (hR : wy_R wy_al S P) (hx : wy_rg x) : f_X8_findReport x S = if wy_isR P x then some (0, 199 + 9 * x.toNat, S) else some (1, 0, S) := by
  have o := wy_o28 hI
  unfold f_X8_findReport
  rw [wy_cN hR, wq_w_id hx.1 hx.2, wq_w_id (x := P 0 28) (by omega) (by omega)]
  by_cases c0 : x < 0
  · rw [if_pos c0, if_neg (by omega)]
  · rw [if_neg c0]
    by_cases c1 : x < P 0 28
    · rw [if_pos c1, if_pos (by omega), wy_ix (by omega) (by omega) (by omega)]
    · rw [if_neg c1, if_neg (by omega)]
theorem wy_x_cC (hI : wy_iv P) (hR : wy_R wy_al S P) (ht : t < 4) (hy : wy_rg y) : f_X8_checkColumn (6 + 48 * t) y S = if 0 ≤ y ∧ y < P 1 t then some (0, 0, S) else some (1, 0, S) := by
  have b1 := wy_b1 hI t
  unfold f_X8_checkColumn
  rw [wy_c1 (wy_R_co hR) ht, wq_w_id hy.1 hy.2, wq_w_id (x := P 1 t) (by omega) (by omega)]
  by_cases c0 : y < 0
  · rw [if_pos c0, if_neg (by omega)]
  · rw [if_neg c0]
    by_cases c1 : y < P 1 t
    · rw [if_pos c1, if_pos (by omega)]
    · rw [if_neg c1, if_neg (by omega)]
theorem wy_x_cS (hI : wy_iv P) (hR : wy_R wy_al S P) (hr : r < 8) (hy : wy_rg y) : f_X8_checkPlanStep (199 + 9 * r) y S = if 0 ≤ y ∧ y < P 13 r then some (0, 0, S) else some (1, 0, S) := by
  have b1 := wy_b13 hI r
  unfold f_X8_checkPlanStep
  rw [wy_c13 (wy_R_co hR) hr, wq_w_id hy.1 hy.2, wq_w_id (x := P 13 r) (by omega) (by omega)]
  by_cases c0 : y < 0
  · rw [if_pos c0, if_neg (by omega)]
  · rw [if_neg c0]
    by_cases c1 : y < P 13 r
    · rw [if_pos c1, if_pos (by omega)]
    · rw [if_neg c1, if_neg (by omega)]
theorem wy_x_cW (hI : wy_iv P) (hR : wy_R wy_al S P) (ht : t < 4) (hy : wy_rg y) : f_X8_checkRow (6 + 48 * t) y S = if 0 ≤ y ∧ y < P 2 t ∧ P 3 (40 * t + y.toNat) ≠ 0 then some (0, 0, S) else some (1, 0, S) := by
  have b2 := wy_b2 hI t
  have b3 := wy_b3 hI (40 * t + y.toNat)
  unfold f_X8_checkRow
  rw [wy_c2 (wy_R_co hR) ht, wq_w_id hy.1 hy.2, wq_w_id (x := P 2 t) (by omega) (by omega)]
  by_cases c0 : y < 0
  · rw [if_pos c0, if_neg (by omega)]
  · rw [if_neg c0]
    by_cases c1 : P 2 t ≤ y
    · rw [if_pos c1, if_neg (by omega)]
    · rw [if_neg c1, wy_ix (by omega) (by omega) (by omega), wy_c3 (wy_R_co hR) ht (by omega), wq_w_id (by omega) (by omega)]
      by_cases c3 : P 3 (40 * t + y.toNat) = 0
      · rw [if_pos c3, if_neg (fun h => h.2.2 c3)]
      · rw [if_neg c3, if_pos ⟨by omega, by omega, c3⟩]
theorem wy_x_fC (hI : wy_iv P) (hR : wy_R wy_al S P) (hx : wy_rg x) (hy : wy_rg y) : f_X8_findColumn x y S = if wy_isC P x y then some (0, 6 + 48 * x.toNat + 45 + y.toNat, S) else some (1, 0, S) := by
  have o := wy_o5 hI
  have b1 := wy_b1 hI x.toNat
  unfold f_X8_findColumn
  rw [wy_x_fT hI hR hx]
  by_cases h : wy_isT P x
  · rw [if_pos h, wy_bx rfl, wy_x_cC hI hR (by omega) hy]
    by_cases h2 : 0 ≤ y ∧ y < P 1 x.toNat
    · rw [if_pos h2, wy_bx rfl, wy_ix (by omega) (by omega) (by omega), if_pos ⟨h, h2⟩]
    · rw [if_neg h2, wy_bx1 rfl, if_neg (fun h' => h2 h'.2)]
  · rw [if_neg h, wy_bx1 rfl, if_neg (fun h' => h h'.1)]
theorem wy_x_cK (hI : wy_iv P) (hR : wy_R wy_al S P) (hr : r < 8) (hy : wy_rg y) (hz : wy_rg z) : f_X8_checkSourceColumn (199 + 9 * r) y z S = if (0 ≤ y ∧ y < P 13 r) ∧ 0 ≤ z ∧ z < P 1 (P 14 (3 * r + y.toNat)).toNat then some (0, 0, S) else some (1, 0, S) := by
  have o := wy_o5 hI
  have b13 := wy_b13 hI r
  unfold f_X8_checkSourceColumn
  rw [wy_c13 (wy_R_co hR) hr, wq_w_id hy.1 hy.2, wq_w_id (x := P 13 r) (by omega) (by omega)]
  by_cases c0 : y < 0
  · rw [if_pos c0, if_neg (by omega)]
  · rw [if_neg c0]
    by_cases c1 : y < P 13 r
    · have hT := @wy_tT P hI r y.toNat (by omega)
      rw [if_pos c1, wy_ix (by omega) (by omega) (by omega), wy_c14 (wy_R_co hR) hr (by omega), wy_ix (by omega) (by omega) (by omega), wy_x_cC hI hR (by omega) hz]
      by_cases h2 : 0 ≤ z ∧ z < P 1 (P 14 (3 * r + y.toNat)).toNat
      · rw [if_pos h2, wy_bx rfl, if_pos ⟨by omega, h2⟩]
      · rw [if_neg h2, wy_bx1 rfl, if_neg (fun h' => h2 h'.2)]
    · rw [if_neg c1, if_neg (by omega)]
end
end
section
/-! CALLS that only ask -/
section
variable {P S M : wq_St} {x y z : Int} {t r : Nat}
theorem wy_c_rows (hI : wy_iv P) (hR : wy_R wy_al S P) (hM : wy_M wy_al M P) (hx : wy_rg x) : wy_cll wy_k1 P S M (f_X8_rows x S) (f_X9_rows x M) := by
  have o := wy_o5 hI
  unfold f_X8_rows f_X9_rows
  rw [wy_x_fT hI hR hx, wy_bd (wy_m_isT hI hM hx)]
  by_cases h : wy_isT P x
  · obtain ⟨t, rfl⟩ : ∃ t : Nat, x = (t : Int) := ⟨x.toNat, by omega⟩
    have ht : t < 4 := by omega
    have hM' := @wy_M_42 P M wy_al 0 hM
    rw [if_pos h, if_pos h, wy_bx rfl, wy_bd wy_asked1, if_neg (by decide), Int.toNat_natCast]
    rw [wy_c27 (wy_R_co hR) ht, hI.2.2.2.2.2.2.2.2.2 t ht, wy_bd (wy_m_rowsOf hI (fun i => wy_ma hM' (by omega)) (fun i => wy_ma hM' (by omega)) ht)]
    exact Or.inl ⟨P, _, S, _, rfl, rfl, wy_42, hI, hR, hM', id⟩
  · rw [if_neg h, if_neg h, wy_bx1 rfl, wy_bd wy_asked0, if_pos (by decide)]
    exact Or.inr ⟨0, 0, rfl, rfl, by decide⟩
theorem wy_c_toldRows (hI : wy_iv P) (hR : wy_R wy_al S P) (hM : wy_M wy_al M P) (hx : wy_rg x) : wy_cll wy_k1 P S M (f_X8_toldRows x S) (f_X9_toldRows x M) := by
  have o := wy_o5 hI
  unfold f_X8_toldRows f_X9_toldRows
  rw [wy_x_fT hI hR hx, wy_bd (wy_m_isT hI hM hx)]
  by_cases h : wy_isT P x
  · obtain ⟨t, rfl⟩ : ∃ t : Nat, x = (t : Int) := ⟨x.toNat, by omega⟩
    have ht : t < 4 := by omega
    have hM' := @wy_M_42 P M wy_al 0 hM
    rw [if_pos h, if_pos h, wy_bx rfl, wy_bd wy_asked1, if_neg (by decide), Int.toNat_natCast]
    rw [wy_c6 (wy_R_co hR) ht, wy_ix (by omega) (by omega) (by omega), Int.toNat_natCast, wy_ma hM' (by omega)]
    exact Or.inl ⟨P, _, S, _, rfl, rfl, wy_42, hI, hR, hM', id⟩
  · rw [if_neg h, if_neg h, wy_bx1 rfl, wy_bd wy_asked0, if_pos (by decide)]
    exact Or.inr ⟨0, 0, rfl, rfl, by decide⟩
theorem wy_c_isMarked (hI : wy_iv P) (hR : wy_R wy_al S P) (hM : wy_M wy_al M P) (hx : wy_rg x) : wy_cll wy_k1 P S M (f_X8_isMarked x S) (f_X9_isMarked x M) := by
  have o := wy_o5 hI
  unfold f_X8_isMarked f_X9_isMarked
  rw [wy_x_fT hI hR hx, wy_bd (wy_m_isT hI hM hx)]
  by_cases h : wy_isT P x
  · obtain ⟨t, rfl⟩ : ∃ t : Nat, x = (t : Int) := ⟨x.toNat, by omega⟩
    have ht : t < 4 := by omega
    have hM' := @wy_M_42 P M wy_al 0 hM
    rw [if_pos h, if_pos h, wy_bx rfl, wy_bd wy_asked1, if_neg (by decide), Int.toNat_natCast]
    have b := wy_b10 hI t
    rw [wy_c10 hR ht, wq_gd_t (by omega), wy_ix (by omega) (by omega) (by omega), Int.toNat_natCast, wy_ma hM' (by omega), wq_w_id (by omega) (by omega)]
    have e : (if P 10 t = 0 then some ((0 : Int), wq_set M 0 42 0) else some (1, wq_set M 0 42 0)) = some (P 10 t, wq_set M 0 42 0) := by
      by_cases c : P 10 t = 0
      · rw [if_pos c, c]
      · rw [if_neg c, show P 10 t = 1 by omega]
    rw [e]
    exact Or.inl ⟨P, _, S, _, rfl, rfl, wy_42, hI, hR, hM', id⟩
  · rw [if_neg h, if_neg h, wy_bx1 rfl, wy_bd wy_asked0, if_pos (by decide)]
    exact Or.inr ⟨0, 0, rfl, rfl, by decide⟩
theorem wy_c_unlike (hI : wy_iv P) (hR : wy_R wy_al S P) (hM : wy_M wy_al M P) (hx : wy_rg x) (hy : wy_rg y) : wy_cll wy_k1 P S M (f_X8_unlike x y S) (f_X9_unlike x y M) := by
  have o := wy_o5 hI
  have b1 := wy_b1 hI x.toNat
  unfold f_X8_unlike f_X9_unlike
  rw [wy_x_fC hI hR hx hy, wy_bd (wy_m_isC hI hM hx hy)]
  by_cases h : wy_isC P x y
  · have e : (3 * x + y).toNat = 3 * x.toNat + y.toNat := by omega
    have hM' := @wy_M_42 P M wy_al 0 hM
    rw [if_pos h, if_pos h, wy_bx rfl, wy_bd wy_asked1, if_neg (by decide), wy_ix (by omega) (by omega) (by omega), e, wy_ma hM' (by omega), wy_c7 (wy_R_co hR) (by omega) (by omega)]
    exact Or.inl ⟨P, _, S, _, rfl, rfl, wy_42, hI, hR, hM', id⟩
  · rw [if_neg h, if_neg h, wy_bx1 rfl, wy_bd wy_asked0, if_pos (by decide)]
    exact Or.inr ⟨0, 0, rfl, rfl, by decide⟩
theorem wy_c_least (hI : wy_iv P) (hR : wy_R wy_al S P) (hM : wy_M wy_al M P) (hx : wy_rg x) (hy : wy_rg y) : wy_cll wy_k1 P S M (f_X8_least x y S) (f_X9_least x y M) := by
  have o := wy_o5 hI
  have b1 := wy_b1 hI x.toNat
  unfold f_X8_least f_X9_least
  rw [wy_x_fC hI hR hx hy, wy_bd (wy_m_isC hI hM hx hy)]
  by_cases h : wy_isC P x y
  · have e : (3 * x + y).toNat = 3 * x.toNat + y.toNat := by omega
    have hM' := @wy_M_42 P M wy_al 0 hM
    rw [if_pos h, if_pos h, wy_bx rfl, wy_bd wy_asked1, if_neg (by decide), wy_ix (by omega) (by omega) (by omega), e, wy_ma hM' (by omega), wy_c8 (wy_R_co hR) (by omega) (by omega)]
    exact Or.inl ⟨P, _, S, _, rfl, rfl, wy_42, hI, hR, hM', id⟩
  · rw [if_neg h, if_neg h, wy_bx1 rfl, wy_bd wy_asked0, if_pos (by decide)]
    exact Or.inr ⟨0, 0, rfl, rfl, by decide⟩
theorem wy_c_greatest (hI : wy_iv P) (hR : wy_R wy_al S P) (hM : wy_M wy_al M P) (hx : wy_rg x) (hy : wy_rg y) : wy_cll wy_k1 P S M (f_X8_greatest x y S) (f_X9_greatest x y M) := by
  have o := wy_o5 hI
  have b1 := wy_b1 hI x.toNat
  unfold f_X8_greatest f_X9_greatest
  rw [wy_x_fC hI hR hx hy, wy_bd (wy_m_isC hI hM hx hy)]
  by_cases h : wy_isC P x y
  · have e : (3 * x + y).toNat = 3 * x.toNat + y.toNat := by omega
    have hM' := @wy_M_42 P M wy_al 0 hM
    rw [if_pos h, if_pos h, wy_bx rfl, wy_bd wy_asked1, if_neg (by decide), wy_ix (by omega) (by omega) (by omega), e, wy_ma hM' (by omega), wy_c9 (wy_R_co hR) (by omega) (by omega)]
    exact Or.inl ⟨P, _, S, _, rfl, rfl, wy_42, hI, hR, hM', id⟩
  · rw [if_neg h, if_neg h, wy_bx1 rfl, wy_bd wy_asked0, if_pos (by decide)]
    exact Or.inr ⟨0, 0, rfl, rfl, by decide⟩
theorem wy_c_value (hI : wy_iv P) (hR : wy_R wy_al S P) (hM : wy_M wy_al M P) (hx : wy_rg x) (hy : wy_rg y) (hz : wy_rg z) : wy_cll wy_k1 P S M (f_X8_value x y z S) (f_X9_value x y z M) := by
  have o := wy_o5 hI
  have b1 := wy_b1 hI x.toNat
  have b2 := wy_b2 hI x.toNat
  unfold f_X8_value f_X9_value
  rw [wy_x_fT hI hR hx, wy_bd (wy_m_isC hI hM hx hz)]
  by_cases h : wy_isT P x
  · rw [if_pos h, wy_bx rfl, wy_x_cW hI hR (by omega) hy]
    by_cases hw : 0 ≤ y ∧ y < P 2 x.toNat ∧ P 3 (40 * x.toNat + y.toNat) ≠ 0
    · rw [if_pos hw, wy_bx rfl, wy_x_cC hI hR (by omega) hz]
      by_cases hc : 0 ≤ z ∧ z < P 1 x.toNat
      · have e : (3 * (40 * x + y) + z).toNat = 3 * (40 * x.toNat + y.toNat) + z.toNat := by omega
        have hM' := @wy_M_42 P M wy_al 0 hM
        rw [if_pos hc, wy_bx rfl, wy_ix (by omega) (by omega) (by omega), wy_ix (by omega) (by omega) (by omega), wy_c4 (wy_R_co hR) (by omega) (by omega) (by omega), if_pos (⟨h, hc⟩ : wy_isC P x z), if_neg (by decide), wy_bd (wy_m_isW hI hM hx hy), if_pos (⟨h, hw⟩ : wy_isW P x y), wy_bd wy_asked1, if_neg (by decide)]
        unfold f_X9_valueAt
        rw [wy_ix (by omega) (by omega) (by omega), e, wy_ma hM' (by omega)]
        exact Or.inl ⟨P, _, S, _, rfl, rfl, wy_42, hI, hR, hM', id⟩
      · rw [if_neg hc, wy_bx1 rfl, if_neg (fun h' : wy_isC P x z => hc h'.2), if_pos (by decide), wy_bd wy_asked0, if_pos (by decide)]
        exact Or.inr ⟨0, 0, rfl, rfl, by decide⟩
    · rw [if_neg hw, wy_bx1 rfl]
      refine Or.inr ⟨0, 0, rfl, ?_, by decide⟩
      by_cases hc : wy_isC P x z
      · rw [if_pos hc, if_neg (by decide), wy_bd (wy_m_isW hI hM hx hy), if_neg (fun h' : wy_isW P x y => hw h'.2), wy_bd wy_asked0, if_pos (by decide)]
        rfl
      · rw [if_neg hc, if_pos (by decide), wy_bd wy_asked0, if_pos (by decide)]
        rfl
  · rw [if_neg h, wy_bx1 rfl, if_neg (fun h' : wy_isC P x z => h h'.1), if_pos (by decide), wy_bd wy_asked0, if_pos (by decide)]
    exact Or.inr ⟨0, 0, rfl, rfl, by decide⟩
theorem wy_c_kept (hI : wy_iv P) (hR : wy_R wy_al S P) (hM : wy_M wy_al M P) (hx : wy_rg x) : wy_cll wy_k1 P S M (f_X8_kept x S) (f_X9_kept x M) := by
  have o := wy_o28 hI
  unfold f_X8_kept f_X9_kept
  rw [wy_x_fR hI hR hx, wy_bd (wy_m_isR hI hM hx)]
  by_cases h : wy_isR P x
  · obtain ⟨r, rfl⟩ : ∃ r : Nat, x = (r : Int) := ⟨x.toNat, by omega⟩
    have hr : r < 8 := by omega
    have hM' := @wy_M_42 P M wy_al 0 hM
    rw [if_pos h, if_pos h, wy_bx rfl, wy_bd wy_asked1, if_neg (by decide), Int.toNat_natCast]
    rw [wy_c24 hR hr, wy_ix (by omega) (by omega) (by omega), Int.toNat_natCast, hM' 24 r trivial (by omega) (by omega) (by omega)]
    exact Or.inl ⟨P, _, S, _, rfl, rfl, wy_42, hI, hR, hM', id⟩
  · rw [if_neg h, if_neg h, wy_bx1 rfl, wy_bd wy_asked0, if_pos (by decide)]
    exact Or.inr ⟨0, 0, rfl, rfl, by decide⟩
theorem wy_c_keptSum (hI : wy_iv P) (hR : wy_R wy_al S P) (hM : wy_M wy_al M P) (hx : wy_rg x) : wy_cll wy_k1 P S M (f_X8_keptSum x S) (f_X9_keptSum x M) := by
  have o := wy_o28 hI
  unfold f_X8_keptSum f_X9_keptSum
  rw [wy_x_fR hI hR hx, wy_bd (wy_m_isR hI hM hx)]
  by_cases h : wy_isR P x
  · obtain ⟨r, rfl⟩ : ∃ r : Nat, x = (r : Int) := ⟨x.toNat, by omega⟩
    have hr : r < 8 := by omega
    have hM' := @wy_M_42 P M wy_al 0 hM
    rw [if_pos h, if_pos h, wy_bx rfl, wy_bd wy_asked1, if_neg (by decide), Int.toNat_natCast]
    rw [wy_c25 hR hr, wy_ix (by omega) (by omega) (by omega), Int.toNat_natCast, hM' 25 r trivial (by omega) (by omega) (by omega)]
    exact Or.inl ⟨P, _, S, _, rfl, rfl, wy_42, hI, hR, hM', id⟩
  · rw [if_neg h, if_neg h, wy_bx1 rfl, wy_bd wy_asked0, if_pos (by decide)]
    exact Or.inr ⟨0, 0, rfl, rfl, by decide⟩
theorem wy_c_keptIn (hI : wy_iv P) (hR : wy_R wy_al S P) (hM : wy_M wy_al M P) (hx : wy_rg x) : wy_cll wy_k1 P S M (f_X8_keptIn x S) (f_X9_keptIn x M) := by
  have o := wy_o28 hI
  unfold f_X8_keptIn f_X9_keptIn
  rw [wy_x_fR hI hR hx, wy_bd (wy_m_isR hI hM hx)]
  by_cases h : wy_isR P x
  · obtain ⟨r, rfl⟩ : ∃ r : Nat, x = (r : Int) := ⟨x.toNat, by omega⟩
    have hr : r < 8 := by omega
    have hM' := @wy_M_42 P M wy_al 0 hM
    rw [if_pos h, if_pos h, wy_bx rfl, wy_bd wy_asked1, if_neg (by decide), Int.toNat_natCast]
    rw [wy_c26 hR hr, wy_ix (by omega) (by omega) (by omega), Int.toNat_natCast, hM' 26 r trivial (by omega) (by omega) (by omega)]
    exact Or.inl ⟨P, _, S, _, rfl, rfl, wy_42, hI, hR, hM', id⟩
  · rw [if_neg h, if_neg h, wy_bx1 rfl, wy_bd wy_asked0, if_pos (by decide)]
    exact Or.inr ⟨0, 0, rfl, rfl, by decide⟩
theorem wy_c_isDue (hI : wy_iv P) (hR : wy_R wy_al S P) (hM : wy_M wy_al M P) (hx : wy_rg x) : wy_cll wy_k1 P S M (f_X8_isDue x S) (f_X9_isDue x M) := by
  have o := wy_o28 hI
  unfold f_X8_isDue f_X9_isDue
  rw [wy_x_fR hI hR hx, wy_bd (wy_m_isR hI hM hx)]
  by_cases h : wy_isR P x
  · obtain ⟨r, rfl⟩ : ∃ r : Nat, x = (r : Int) := ⟨x.toNat, by omega⟩
    have hr : r < 8 := by omega
    have hM' := @wy_M_42 P M wy_al 0 hM
    rw [if_pos h, if_pos h, wy_bx rfl, wy_bd wy_asked1, if_neg (by decide), Int.toNat_natCast]
    have b := wy_b12 hI r
    rw [wy_c12 hR hr, wq_gd_t (by omega), wy_ix (by omega) (by omega) (by omega), Int.toNat_natCast, wy_ma hM' (by omega), wq_w_id (by omega) (by omega)]
    have e : (if P 12 r = 0 then some ((0 : Int), wq_set M 0 42 0) else some (1, wq_set M 0 42 0)) = some (P 12 r, wq_set M 0 42 0) := by
      by_cases c : P 12 r = 0
      · rw [if_pos c, c]
      · rw [if_neg c, show P 12 r = 1 by omega]
    rw [e]
    exact Or.inl ⟨P, _, S, _, rfl, rfl, wy_42, hI, hR, hM', id⟩
  · rw [if_neg h, if_neg h, wy_bx1 rfl, wy_bd wy_asked0, if_pos (by decide)]
    exact Or.inr ⟨0, 0, rfl, rfl, by decide⟩
theorem wy_fr_al {S1 : wq_St} (hR : wy_R wy_al S P) (hf : ∀ k j, ¬(272 ≤ k ∧ k ≤ 281) → S1 k j = S k j) : wy_R wy_al S1 P := wy_R_fr hR fun k j hk => hf k j fun h => hk (by unfold wy_scr; omega)
theorem wy_c_foretold (hI : wy_iv P) (hR : wy_R wy_al S P) (hM : wy_M wy_al M P) (hx : wy_rg x) : wy_cll wy_k1 P S M (f_X8_foretold x S) (f_X9_foretold x M) := by
  have o := wy_o28 hI
  unfold f_X8_foretold f_X9_foretold
  rw [wy_x_fR hI hR hx, wy_bd (wy_m_isR hI hM hx)]
  by_cases h : wy_isR P x
  · obtain ⟨r, rfl⟩ : ∃ r : Nat, x = (r : Int) := ⟨x.toNat, by omega⟩
    have hr : r < 8 := by omega
    have hM' := @wy_M_42 P M wy_al 0 hM
    obtain ⟨S1, e1, hf, -, e2⟩ := wy_x_ft hI (wy_R_co hR) hr
    obtain ⟨M1, -, g2, hg, -⟩ := wy_m_ft hI (wy_M_co hM') hr
    rw [if_pos h, if_pos h, wy_bx rfl, wy_bd wy_asked1, if_neg (by decide), Int.toNat_natCast, wy_bd e1, wy_bd e2, wy_bd g2]
    exact Or.inl ⟨P, _, S1, M1, rfl, rfl, by rw [hg 0 42 (by omega) (by omega), wy_42], hI, wy_fr_R hR hf, wy_fo_M hM' hg, id⟩
  · rw [if_neg h, if_neg h, wy_bx1 rfl, wy_bd wy_asked0, if_pos (by decide)]
    exact Or.inr ⟨0, 0, rfl, rfl, by decide⟩
theorem wy_c_planSource (hI : wy_iv P) (hR : wy_R wy_al S P) (hM : wy_M wy_al M P) (hx : wy_rg x) (hy : wy_rg y) : wy_cll wy_k1 P S M (f_X8_planSource x y S) (f_X9_planSource x y M) := by
  have o := wy_o28 hI
  have b13 := wy_b13 hI x.toNat
  unfold f_X8_planSource f_X9_planSource
  rw [wy_x_fR hI hR hx, wy_bd (wy_m_isS hI hM hx hy)]
  by_cases h : wy_isR P x
  · rw [if_pos h, wy_bx rfl, wy_x_cS hI hR (by omega) hy]
    by_cases h2 : 0 ≤ y ∧ y < P 13 x.toNat
    · obtain ⟨r, rfl⟩ : ∃ r : Nat, x = (r : Int) := ⟨x.toNat, by omega⟩
      obtain ⟨s, rfl⟩ : ∃ s : Nat, y = (s : Int) := ⟨y.toNat, by omega⟩
      have h2o := h2
      rw [Int.toNat_natCast] at h2 b13
      have hr : r < 8 := by omega
      have hM' := @wy_M_42 P M wy_al 0 hM
      obtain ⟨S1, e1, hf, hb, -⟩ := wy_x_ft hI (wy_R_co hR) hr
      obtain ⟨M1, g1, -, hg, hp⟩ := wy_m_ft hI (wy_M_co hM') hr
      have q1 := (hb.2.2.2.1 s h2.2).1
      have q2 := (hp (by omega) s (by omega)).1
      have hS : wy_isS P (r : Int) (s : Int) := ⟨h, by rw [Int.toNat_natCast]; exact h2⟩
      rw [if_pos h2o, if_pos hS, wy_bx rfl, wy_bd wy_asked1, if_neg (by decide), Int.toNat_natCast, wy_bd e1, wy_bd g1, wy_ix (by omega) (by omega) (by omega), wy_ix (by omega) (by omega) (by omega), Int.toNat_natCast, q1, q2]
      exact Or.inl ⟨P, _, S1, M1, rfl, rfl, by rw [hg 0 42 (by omega) (by omega), wy_42], hI, wy_fr_R hR hf, wy_fo_M hM' hg, id⟩
    · rw [if_neg h2, if_neg (fun h' : wy_isS P x y => h2 h'.2), wy_bx1 rfl, wy_bd wy_asked0, if_pos (by decide)]
      exact Or.inr ⟨0, 0, rfl, rfl, by decide⟩
  · rw [if_neg h, if_neg (fun h' : wy_isS P x y => h h'.1), wy_bx1 rfl, wy_bd wy_asked0, if_pos (by decide)]
    exact Or.inr ⟨0, 0, rfl, rfl, by decide⟩
theorem wy_c_planWay (hI : wy_iv P) (hR : wy_R wy_al S P) (hM : wy_M wy_al M P) (hx : wy_rg x) (hy : wy_rg y) : wy_cll wy_k1 P S M (f_X8_planWay x y S) (f_X9_planWay x y M) := by
  have o := wy_o28 hI
  have b13 := wy_b13 hI x.toNat
  unfold f_X8_planWay f_X9_planWay
  rw [wy_x_fR hI hR hx, wy_bd (wy_m_isS hI hM hx hy)]
  by_cases h : wy_isR P x
  · rw [if_pos h, wy_bx rfl, wy_x_cS hI hR (by omega) hy]
    by_cases h2 : 0 ≤ y ∧ y < P 13 x.toNat
    · obtain ⟨r, rfl⟩ : ∃ r : Nat, x = (r : Int) := ⟨x.toNat, by omega⟩
      obtain ⟨s, rfl⟩ : ∃ s : Nat, y = (s : Int) := ⟨y.toNat, by omega⟩
      have h2o := h2
      rw [Int.toNat_natCast] at h2 b13
      have hr : r < 8 := by omega
      have hM' := @wy_M_42 P M wy_al 0 hM
      obtain ⟨S1, e1, hf, hb, -⟩ := wy_x_ft hI (wy_R_co hR) hr
      obtain ⟨M1, g1, -, hg, hp⟩ := wy_m_ft hI (wy_M_co hM') hr
      have q1 := (hb.2.2.2.1 s h2.2).2
      have q2 := (hp (by omega) s (by omega)).2
      have hS : wy_isS P (r : Int) (s : Int) := ⟨h, by rw [Int.toNat_natCast]; exact h2⟩
      rw [if_pos h2o, if_pos hS, wy_bx rfl, wy_bd wy_asked1, if_neg (by decide), Int.toNat_natCast, wy_bd e1, wy_bd g1, wy_ix (by omega) (by omega) (by omega), wy_ix (by omega) (by omega) (by omega), Int.toNat_natCast, q1, q2]
      exact Or.inl ⟨P, _, S1, M1, rfl, rfl, by rw [hg 0 42 (by omega) (by omega), wy_42], hI, wy_fr_R hR hf, wy_fo_M hM' hg, id⟩
    · rw [if_neg h2, if_neg (fun h' : wy_isS P x y => h2 h'.2), wy_bx1 rfl, wy_bd wy_asked0, if_pos (by decide)]
      exact Or.inr ⟨0, 0, rfl, rfl, by decide⟩
  · rw [if_neg h, if_neg (fun h' : wy_isS P x y => h h'.1), wy_bx1 rfl, wy_bd wy_asked0, if_pos (by decide)]
    exact Or.inr ⟨0, 0, rfl, rfl, by decide⟩
theorem wy_m_isRun (hI : wy_iv P) (hM : wy_M wy_al M P) {r : Nat} (h : (r : Int) < P 0 28) : ∃ M2, f_X9_isRun (r : Int) M = some (1, M2) ∧ M2 0 39 = wy_tr P r ∧ M2 0 40 = wy_fd P r ∧ M2 0 41 = wy_sd P r ∧ M2 0 42 = 0 ∧ wy_M wy_al M2 P := by
  have o := wy_o28 hI
  have hM' := @wy_M_42 P M wy_al 0 hM
  obtain ⟨M1, M2, g1, -, g3, z1, z2, z3, hf⟩ := wy_m_run hI (wy_M_co hM') (r := r) (by omega) h
  unfold f_X9_isRun
  rw [wy_bd (wy_m_isR hI hM (by omega)), if_pos (⟨by omega, h⟩ : wy_isR P (r : Int)), wy_bd wy_asked1, if_neg (by decide), wy_bd g1, wy_bd g3, wq_gd_t (Or.inr rfl)]
  exact ⟨M2, rfl, z1, z2, z3, by rw [hf 0 42 (by omega) (by omega), wy_42], wy_M_fo hM' fun f j a b => hf f j (by omega) (by omega)⟩
theorem wy_m_isRun0 (hI : wy_iv P) (hM : wy_M wy_al M P) (hx : wy_rg x) (h : ¬wy_isR P x) : f_X9_isRun x M = some (0, wq_set M 0 42 1) := by
  unfold f_X9_isRun
  rw [wy_bd (wy_m_isR hI hM hx), if_neg h, wy_bd wy_asked0, if_pos (by decide), wq_gd_t (Or.inl rfl)]
theorem wy_x_rcp (hI : wy_iv P) (hR : wy_R wy_al S P) {r : Nat} (hr : r < 8) : ∃ S2, f_X8_runChosenPlan (199 + 9 * r) S = some (0, S2) ∧ S2 280 2 = wy_tr P r ∧ S2 280 3 = wy_fd P r ∧ S2 280 4 = wy_sd P r ∧ wy_R wy_al S2 P := by
  obtain ⟨S1, S2, e1, e2, -, z1, z2, z3, hf⟩ := wy_x_run hI (wy_R_co hR) hr
  unfold f_X8_runChosenPlan
  rw [wy_bd e1, wy_bd e2]
  exact ⟨S2, rfl, z1, z2, z3, wy_fr_al hR hf⟩
theorem wy_x_rpp (hI : wy_iv P) (hR : wy_R wy_al S P) {r : Nat} (hr : r < 8) : ∃ S2, f_X8_runPlainPlan (199 + 9 * r) S = some (0, S2) ∧ S2 280 3 = wy_fd P r ∧ S2 280 4 = wy_sd P r ∧ wy_R wy_al S2 P := by
  have b13 := wy_b13 hI r
  have hvi := @wy_vp_id P r hI
  have key := wy_up (fun n i (s : wq_St) => ∃ S', l_X3_becomePlain_2 1 (P 13 r) (fun S5 => some (0, S5)) n (i : Int) s = some (0, S') ∧ (∀ k j, ¬(1 ≤ k ∧ k ≤ 4) → S' k j = S k j) ∧ ∀ j : Nat, (j : Int) < P 13 r → S' 2 j = (j : Int) ∧ S' 3 j = -1 ∧ S' 4 j = (j : Int)) (P 13 r).toNat (fun i s => (∀ k j, ¬(1 ≤ k ∧ k ≤ 4) → s k j = S k j) ∧ ∀ j : Nat, j < i → s 2 j = (j : Int) ∧ s 3 j = -1 ∧ s 4 j = (j : Int)) ?_ ?_ wq_fu 0 S (by omega) (wy_fu' (by omega)) ⟨fun _ _ _ => rfl, fun j hj => by omega⟩
  · obtain ⟨S1, e1, hf, hq⟩ := key
    have hR1 : wy_R wy_al S1 P := wy_R_fr hR fun k j hk => hf k j fun h => hk (by unfold wy_scr; omega)
    have hps : ∀ j : Nat, (j : Int) < P 13 r → wy_ps (fun j => (j : Int)) (j : Int) = (j : Int) := fun j hj => (hvi.2.1 j hj).2
    obtain ⟨S2, e2, -, z2, z3, h2⟩ := wy_x_go (q := 1) (o := fun j => (j : Int)) (w := fun _ => -1) hI (wy_R_co hR1) hr (fun _ => hvi) (by omega) (fun _ => ⟨fun j hj => ⟨(hq j hj).1, (hq j hj).2.1⟩, fun j hj => by rw [hps j hj]; exact (hq j hj).2.2⟩)
    have e1' : f_X3_becomePlain 1 (P 13 r) S = some (0, S1) := e1
    unfold f_X8_runPlainPlan
    rw [wy_c13 (wy_R_co hR) hr, wy_bd e1', wy_bd e2]
    refine ⟨S2, rfl, ?_, ?_, wy_f2_R hR1 h2⟩
    · rw [z2]
      exact wy_fn_any hI (fun h => wy_vp_vo hvi) (fun h => wy_vp_vo (wy_vp_pp hI h))
    · rw [z3]
      exact wy_fn_any hI (fun h => wy_vp_vo hvi) (fun h => wy_vp_vo (wy_vp_pp hI h))
  · intro n i s hi ⟨hs, hq⟩ ih
    have e : ((i : Int) + 1) = ((i + 1 : Nat) : Int) := by omega
    rw [l_X3_becomePlain_2_s]
    unfold b_X3_becomePlain_2 f_X3_place
    rw [wq_w_id (x := P 13 r) (by omega) (by omega), wq_w_id (x := (i : Int)) (by omega) (by omega), if_neg (by omega), wy_ix (by omega) (by omega) (by omega), wy_lt, wy_ix (by omega) (by omega) (by omega), wy_bd rfl, wy_ix (by omega) (by omega) (by omega), wy_lt, Int.toNat_natCast, e]
    refine ih _ ⟨fun k j hk => ?_, fun j hj => ?_⟩
    · rw [wy_set_ne (by omega), wy_set_ne (by omega), wy_set_ne (by omega)]
      exact hs k j hk
    · by_cases c : j = i
      · subst c
        refine ⟨?_, ?_, ?_⟩
        · rw [wy_set_ne (by omega), wy_set_ne (by omega), wy_set_at rfl rfl]
        · rw [wy_set_at rfl rfl]
        · rw [wy_set_ne (by omega), wy_set_at rfl rfl]
      · have := hq j (by omega)
        refine ⟨?_, ?_, ?_⟩
        · rw [wy_set_ne (by omega), wy_set_ne (by omega), wy_set_ne (by omega)]
          exact this.1
        · rw [wy_set_ne (by omega), wy_set_ne (by omega), wy_set_ne (by omega)]
          exact this.2.1
        · rw [wy_set_ne (by omega), wy_set_ne (by omega), wy_set_ne (by omega)]
          exact this.2.2
  · intro n s ⟨hs, hq⟩
    rw [l_X3_becomePlain_2_s]
    unfold b_X3_becomePlain_2
    rw [wq_w_id (x := P 13 r) (by omega) (by omega), wq_w_id (by omega) (by omega), if_pos (by omega)]
    exact ⟨s, rfl, hs, fun j hj => hq j (by omega)⟩
theorem wy_c_minutes (hI : wy_iv P) (hR : wy_R wy_al S P) (hM : wy_M wy_al M P) (hx : wy_rg x) : wy_cll wy_k1 P S M (f_X8_minutes x S) (f_X9_minutes x M) := by
  have o := wy_o28 hI
  unfold f_X8_minutes f_X9_minutes
  rw [wy_x_fR hI hR hx]
  by_cases h : wy_isR P x
  · obtain ⟨r, rfl⟩ : ∃ r : Nat, x = (r : Int) := ⟨x.toNat, by omega⟩
    obtain ⟨S2, e1, z1, z2, z3, hR2⟩ := wy_x_rcp hI hR (r := r) (by omega)
    obtain ⟨M2, g1, qz1, qz2, qz3, q42, hM2⟩ := wy_m_isRun hI hM h.2
    rw [if_pos h, wy_bx rfl, Int.toNat_natCast, wy_bd e1, z1, wy_bd g1, if_neg (by decide), qz1]
    exact Or.inl ⟨P, _, S2, M2, rfl, rfl, q42, hI, hR2, hM2, id⟩
  · rw [if_neg h, wy_bx1 rfl, wy_bd (wy_m_isRun0 hI hM hx h), if_pos (by decide)]
    exact Or.inr ⟨0, 0, rfl, rfl, by decide⟩
theorem wy_c_answer (hI : wy_iv P) (hR : wy_R wy_al S P) (hM : wy_M wy_al M P) (hx : wy_rg x) : wy_cll wy_k1 P S M (f_X8_answer x S) (f_X9_answer x M) := by
  have o := wy_o28 hI
  unfold f_X8_answer f_X9_answer
  rw [wy_x_fR hI hR hx]
  by_cases h : wy_isR P x
  · obtain ⟨r, rfl⟩ : ∃ r : Nat, x = (r : Int) := ⟨x.toNat, by omega⟩
    obtain ⟨S2, e1, z1, z2, z3, hR2⟩ := wy_x_rcp hI hR (r := r) (by omega)
    obtain ⟨M2, g1, qz1, qz2, qz3, q42, hM2⟩ := wy_m_isRun hI hM h.2
    rw [if_pos h, wy_bx rfl, Int.toNat_natCast, wy_bd e1, z2, wy_bd g1, if_neg (by decide), qz2]
    exact Or.inl ⟨P, _, S2, M2, rfl, rfl, q42, hI, hR2, hM2, id⟩
  · rw [if_neg h, wy_bx1 rfl, wy_bd (wy_m_isRun0 hI hM hx h), if_pos (by decide)]
    exact Or.inr ⟨0, 0, rfl, rfl, by decide⟩
theorem wy_c_sum (hI : wy_iv P) (hR : wy_R wy_al S P) (hM : wy_M wy_al M P) (hx : wy_rg x) : wy_cll wy_k1 P S M (f_X8_sum x S) (f_X9_sum x M) := by
  have o := wy_o28 hI
  unfold f_X8_sum f_X9_sum
  rw [wy_x_fR hI hR hx]
  by_cases h : wy_isR P x
  · obtain ⟨r, rfl⟩ : ∃ r : Nat, x = (r : Int) := ⟨x.toNat, by omega⟩
    obtain ⟨S2, e1, z1, z2, z3, hR2⟩ := wy_x_rcp hI hR (r := r) (by omega)
    obtain ⟨M2, g1, qz1, qz2, qz3, q42, hM2⟩ := wy_m_isRun hI hM h.2
    rw [if_pos h, wy_bx rfl, Int.toNat_natCast, wy_bd e1, z3, wy_bd g1, if_neg (by decide), qz3]
    exact Or.inl ⟨P, _, S2, M2, rfl, rfl, q42, hI, hR2, hM2, id⟩
  · rw [if_neg h, wy_bx1 rfl, wy_bd (wy_m_isRun0 hI hM hx h), if_pos (by decide)]
    exact Or.inr ⟨0, 0, rfl, rfl, by decide⟩
theorem wy_c_plainAnswer (hI : wy_iv P) (hR : wy_R wy_al S P) (hM : wy_M wy_al M P) (hx : wy_rg x) : wy_cll wy_k1 P S M (f_X8_plainAnswer x S) (f_X9_plainAnswer x M) := by
  have o := wy_o28 hI
  unfold f_X8_plainAnswer f_X9_plainAnswer
  rw [wy_x_fR hI hR hx]
  by_cases h : wy_isR P x
  · obtain ⟨r, rfl⟩ : ∃ r : Nat, x = (r : Int) := ⟨x.toNat, by omega⟩
    obtain ⟨S2, e1, z2, z3, hR2⟩ := wy_x_rpp hI hR (r := r) (by omega)
    obtain ⟨M2, g1, qz1, qz2, qz3, q42, hM2⟩ := wy_m_isRun hI hM h.2
    have g2 : f_X9_answer (r : Int) M = some (M2 0 40, M2) := by
      unfold f_X9_answer
      rw [wy_bd g1, if_neg (by decide)]
    rw [if_pos h, wy_bx rfl, Int.toNat_natCast, wy_bd e1, z2, wy_bd g2, qz2]
    exact Or.inl ⟨P, _, S2, M2, rfl, rfl, q42, hI, hR2, hM2, id⟩
  · have g2 : f_X9_answer x M = some (0, wq_set M 0 42 1) := by
      unfold f_X9_answer
      rw [wy_bd (wy_m_isRun0 hI hM hx h), if_pos (by decide)]
    rw [if_neg h, wy_bx1 rfl, wy_bd g2]
    exact Or.inr ⟨0, 0, rfl, rfl, by decide⟩
theorem wy_c_plainSum (hI : wy_iv P) (hR : wy_R wy_al S P) (hM : wy_M wy_al M P) (hx : wy_rg x) : wy_cll wy_k1 P S M (f_X8_plainSum x S) (f_X9_plainSum x M) := by
  have o := wy_o28 hI
  unfold f_X8_plainSum f_X9_plainSum
  rw [wy_x_fR hI hR hx]
  by_cases h : wy_isR P x
  · obtain ⟨r, rfl⟩ : ∃ r : Nat, x = (r : Int) := ⟨x.toNat, by omega⟩
    obtain ⟨S2, e1, z2, z3, hR2⟩ := wy_x_rpp hI hR (r := r) (by omega)
    obtain ⟨M2, g1, qz1, qz2, qz3, q42, hM2⟩ := wy_m_isRun hI hM h.2
    have g2 : f_X9_sum (r : Int) M = some (M2 0 41, M2) := by
      unfold f_X9_sum
      rw [wy_bd g1, if_neg (by decide)]
    rw [if_pos h, wy_bx rfl, Int.toNat_natCast, wy_bd e1, z3, wy_bd g2, qz3]
    exact Or.inl ⟨P, _, S2, M2, rfl, rfl, q42, hI, hR2, hM2, id⟩
  · have g2 : f_X9_sum x M = some (0, wq_set M 0 42 1) := by
      unfold f_X9_sum
      rw [wy_bd (wy_m_isRun0 hI hM hx h), if_pos (by decide)]
    rw [if_neg h, wy_bx1 rfl, wy_bd g2]
    exact Or.inr ⟨0, 0, rfl, rfl, by decide⟩
end
end
section
/-! CALLS that write tables and counts -/
section
variable {P S M : wq_St} {x y z u : Int} {t r : Nat}
theorem wy_M_27 {C : Nat → Prop} {k j : Nat} {v : Int} (h : wy_M C M P) (hk : 27 ≤ k) : wy_M C M (wq_set P k j v) := fun f i h1 h2 h3 h4 => by
  rw [wy_set_ne (by omega)] at h4
  rw [wy_set_ne (by omega)]
  exact h f i h1 h2 h3 h4
theorem wy_R_23 {C : Nat → Prop} {j : Nat} {v : Int} (h : wy_R C S P) : wy_R C S (wq_set P 23 j v) := fun f i hc hi => by
  rw [wy_set_ne (fun e => by
    have h1 := hi.1
    rw [e.1] at h1
    exact absurd h1 (Nat.not_lt_zero _))]
  exact h f i hc hi
theorem wy_c_addTable (hI : wy_iv P) (hR : wy_R wy_al S P) (hM : wy_M wy_al M P) (hx : wy_rg x) : wy_cll wy_k23 P S M (f_X8_addTable x S) (f_X9_addTable x M) := by
  have o := wy_o5 hI
  have w1 : wq_w 1 = 1 := rfl
  have w3 : wq_w 3 = 3 := rfl
  have w4 : wq_w 4 = 4 := rfl
  have q5 : M 0 5 = P 0 5 := wy_ma0 hM (by omega)
  obtain ⟨t, ht⟩ : ∃ t : Nat, P 0 5 = (t : Int) := ⟨(P 0 5).toNat, by omega⟩
  by_cases c : 1 ≤ x ∧ x ≤ 3
  · by_cases c4 : P 0 5 < 4
    · have t4 : t < 4 := by omega
      have h8 : f_X8_addTable x S = some (0, P 0 5 + 1 - 1, wq_set (wq_set S (6 + 48 * t) 4 x) 0 6 (P 0 5 + 1)) := by
        unfold f_X8_addTable
        rw [wy_cT hR, w1, w3, w4, wq_w_id hx.1 hx.2, wq_w_id (x := P 0 5) (by omega) (by omega), if_neg (by omega), if_pos c.2, if_pos c4, wy_ix (by omega) (by omega) (by omega), wy_lt, wy_lt, wy_set_at (k := 0) (j := 6) rfl rfl, wy_set_ne (a := 0) (i := 6) (by omega), wy_cT hR, ht, Int.toNat_natCast]
      have h9 : f_X9_addTable x M = some (P 0 5 + 1 - 1, wq_set (wq_set (wq_set M 0 42 0) 1 t x) 0 5 (P 0 5 + 1)) := by
        unfold f_X9_addTable j_X9_addTable_20
        rw [wy_bd (wy_inn hx (by omega) (by omega)), if_pos c, q5, w4, wq_w_id (x := P 0 5) (by omega) (by omega), if_neg (by omega), wy_bd wy_asd2, if_neg (by decide), wy_set_ne (a := 0) (i := 5) (by omega), q5, wy_ix (by omega) (by omega) (by omega), wy_lt, wy_lt, wy_set_at (k := 0) (j := 5) rfl rfl, wy_set_ne (a := 0) (i := 5) (by omega), wy_set_ne (a := 0) (i := 5) (by omega), q5, ht, Int.toNat_natCast]
      refine Or.inl ⟨wq_set (wq_set P 1 t x) 0 5 (P 0 5 + 1), _, _, _, h8, h9, ?_, wy_iv_addTable hI c ht t4, wy_R_set (wy_R_set hR _ (f₀ := 1) (i₀ := t) ⟨t4, fun e => by omega⟩ rfl rfl) _ (f₀ := 0) (i₀ := 5) ⟨by decide, fun _ => by omega⟩ rfl rfl, wy_M_set (wy_M_set (wy_M_42 hM) _ (by omega)) _ (by omega), fun hW t' ht' => ?_⟩
      · rw [wy_set_ne (by omega), wy_set_ne (by omega), wy_42]
      · rw [wy_set_at rfl rfl] at ht'
        rw [wy_set_ne (by omega)]
        by_cases e : t' = t
        · rw [wy_set_at rfl e]
          exact c.1
        · rw [wy_set_ne (by omega)]
          exact hW t' (by omega)
    · have h8 : f_X8_addTable x S = some (2 + 1, 0, S) := by
        unfold f_X8_addTable
        rw [wy_cT hR, w1, w3, w4, wq_w_id hx.1 hx.2, wq_w_id (x := P 0 5) (by omega) (by omega), if_neg (by omega), if_pos c.2, if_neg c4]
      have h9 : f_X9_addTable x M = some (0, wq_set M 0 42 2) := by
        unfold f_X9_addTable j_X9_addTable_20
        rw [wy_bd (wy_inn hx (by omega) (by omega)), if_pos c, q5, w4, wq_w_id (x := P 0 5) (by omega) (by omega), if_pos (by omega), wy_bd wy_asd1, if_pos (by decide)]
      exact Or.inr ⟨2, 0, h8, h9, by decide⟩
  · have h8 : f_X8_addTable x S = some (1 + 1, 0, S) := by
      unfold f_X8_addTable
      rw [w1, w3, wq_w_id hx.1 hx.2]
      by_cases c0 : x < 1
      · rw [if_pos c0]
      · rw [if_neg c0, if_neg (by omega)]
    have h9 : f_X9_addTable x M = some (0, wq_set M 0 42 1) := by
      unfold f_X9_addTable j_X9_addTable_20
      rw [wy_bd (wy_inn hx (by omega) (by omega)), if_neg c]
      split
      · rw [wy_bd (wy_asd0 _), if_pos (by decide)]
      · rw [wy_bd (wy_asd0 _), if_pos (by decide)]
    exact Or.inr ⟨1, 0, h8, h9, by decide⟩
theorem wy_x_fits (hI : wy_iv P) (hR : wy_R wy_al S P) (ht : t < 4) (hx : wy_rg x) {c : Nat} (hc : c < 3) : f_X7_fits (6 + 48 * t) (c : Int) x S = some ((if 0 ≤ x ∧ x ≤ (if P 1 t ≤ (c : Int) then 0 else 999) then 1 else 0), S) := by
  have b1 := wy_b1 hI t
  have w0 : wq_w 0 = 0 := rfl
  have w999 : wq_w 999 = 999 := rfl
  unfold f_X7_fits
  rw [wy_c1 (wy_R_co hR) ht, w0, w999, wq_w_id hx.1 hx.2, wq_w_id (x := P 1 t) (by omega) (by omega), wq_w_id (x := (c : Int)) (by omega) (by omega)]
  by_cases c0 : x < 0
  · rw [if_pos c0, if_neg (by omega)]
  · rw [if_neg c0]
    by_cases c1 : P 1 t ≤ (c : Int)
    · rw [if_pos c1, if_pos c1]
      by_cases c2 : 0 < x
      · rw [if_pos c2, if_neg (by omega)]
      · rw [if_neg c2, if_pos (by omega)]
    · rw [if_neg c1, if_neg c1]
      by_cases c2 : 999 < x
      · rw [if_pos c2, if_neg (by omega)]
      · rw [if_neg c2, if_pos (by omega)]
/-- values as told -/
def wy_vf (P : wq_St) (t c : Nat) (x : Int) : Prop := 0 ≤ x ∧ x ≤ (if P 1 t ≤ (c : Int) then 0 else 999)
theorem wy_c_insert (hI : wy_iv P) (hW : wy_iW P) (hR : wy_R wy_al S P) (hM : wy_M wy_al M P) (hx : wy_rg x) (hy : wy_rg y) (hz : wy_rg z) (hu : wy_rg u) : wy_cll wy_k123 P S M (f_X8_insert x y z u S) (f_X9_insert x y z u M) := by
  have o := wy_o5 hI
  have w1 : wq_w 1 = 1 := rfl
  have w2 : wq_w 2 = 2 := rfl
  have w40 : wq_w 40 = 40 := rfl
  have r999 : wy_rg 999 := by omega
  have r0 : wy_rg 0 := by omega
  by_cases h : wy_isT P x
  · obtain ⟨t, rfl⟩ : ∃ t : Nat, x = (t : Int) := ⟨x.toNat, by omega⟩
    have t4 : t < 4 := by omega
    have b1 := wy_b1 hI t
    have b2 := wy_b2 hI t
    have hw := hW t h.2
    have q1 : M 1 t = P 1 t := wy_ma hM (by omega)
    have q2 : M 2 t = P 2 t := wy_ma hM (by omega)
    have e0 : (if P 1 t ≤ ((0 : Nat) : Int) then (0 : Int) else 999) = 999 := if_neg (by omega)
    have f0 : f_X7_fits (6 + 48 * t) 0 y S = some ((if 0 ≤ y ∧ y ≤ (if P 1 t ≤ ((0 : Nat) : Int) then 0 else 999) then 1 else 0), S) := wy_x_fits (c := 0) hI hR t4 hy (by omega)
    have f1 : f_X7_fits (6 + 48 * t) 1 z S = some ((if 0 ≤ z ∧ z ≤ (if P 1 t ≤ ((1 : Nat) : Int) then 0 else 999) then 1 else 0), S) := wy_x_fits (c := 1) hI hR t4 hz (by omega)
    have f2 : f_X7_fits (6 + 48 * t) 2 u S = some ((if 0 ≤ u ∧ u ≤ (if P 1 t ≤ ((2 : Nat) : Int) then 0 else 999) then 1 else 0), S) := wy_x_fits (c := 2) hI hR t4 hu (by omega)
    rw [e0] at f0
    have hsec : ∀ (j1 j2 j3 j4 j5 : Int), (if P 1 t ≤ 1 then j_X9_insert_42 j1 j2 j3 j4 j5 0 0 z M else j_X9_insert_42 j1 j2 j3 j4 j5 999 0 z M) = j_X9_insert_42 j1 j2 j3 j4 j5 (if P 1 t ≤ ((1 : Nat) : Int) then 0 else 999) 0 z M := fun j1 j2 j3 j4 j5 => by
      by_cases c : P 1 t ≤ 1
      · rw [if_pos c, if_pos (by omega)]
      · rw [if_neg c, if_neg (by omega)]
    have hthi : ∀ (j1 j2 j3 j4 j5 : Int), (if P 1 t ≤ 2 then j_X9_insert_68 j1 j2 j3 j4 j5 0 0 u M else j_X9_insert_68 j1 j2 j3 j4 j5 999 0 u M) = j_X9_insert_68 j1 j2 j3 j4 j5 (if P 1 t ≤ ((2 : Nat) : Int) then 0 else 999) 0 u M := fun j1 j2 j3 j4 j5 => by
      by_cases c : P 1 t ≤ 2
      · rw [if_pos c, if_pos (by omega)]
      · rw [if_neg c, if_neg (by omega)]
    have rg1 : wy_rg (if P 1 t ≤ ((1 : Nat) : Int) then 0 else 999) := by split <;> omega
    have rg2 : wy_rg (if P 1 t ≤ ((2 : Nat) : Int) then 0 else 999) := by split <;> omega
    -- the model, where a value is not as told
    have bad : j_X9_insert_78 (t : Int) y z u 1 M = some (0, wq_set M 0 42 2) := by
      unfold j_X9_insert_78 j_X9_insert_79 j_X9_insert_106 j_X9_insert_107
      rw [if_neg (by decide), wy_ix (by omega) (by omega) (by omega)]
      split
      · rw [wy_bd (wy_ase1 _), if_pos (by decide)]
      · rw [wy_bd (wy_ase1 _), if_pos (by decide)]
    by_cases c0 : 0 ≤ y ∧ y ≤ 999
    · by_cases c1 : 0 ≤ z ∧ z ≤ (if P 1 t ≤ ((1 : Nat) : Int) then 0 else 999)
      · by_cases c2 : 0 ≤ u ∧ u ≤ (if P 1 t ≤ ((2 : Nat) : Int) then 0 else 999)
        · have h8a : f_X8_insert (t : Int) y z u S = if wq_w (S (6 + 48 * t) 5) < wq_w 40 then wq_bd (f_X7_put (6 + 48 * t) y z u S) fun r9 S10 => some (0, r9, S10) else some (2 + 1, 0, S) := by
            unfold f_X8_insert
            rw [wy_x_fT hI hR hx, if_pos h, wy_bx rfl, Int.toNat_natCast, wy_bd f0, if_pos c0, if_neg (by decide), wy_bd f1, if_pos c1, if_neg (by decide), wy_bd f2, if_pos c2, if_neg (by decide)]
          have h9a : f_X9_insert (t : Int) y z u M = j_X9_insert_79 (t : Int) y z u 1 1 M := by
            unfold f_X9_insert
            rw [wy_bd (wy_m_isT hI hM hx), if_pos h, if_neg (by decide), wy_bd (wy_inn hy r0 r999), if_pos c0, if_neg (by decide), wy_ix (by omega) (by omega) (by omega), Int.toNat_natCast, q1, w1, wq_w_id (x := P 1 t) (by omega) (by omega), hsec]
            unfold j_X9_insert_42
            rw [wy_bd (wy_inn hz r0 rg1), if_pos c1, if_neg (by decide), wy_ix (by omega) (by omega) (by omega), Int.toNat_natCast, q1, w2, wq_w_id (x := P 1 t) (by omega) (by omega), hthi]
            unfold j_X9_insert_68
            rw [wy_bd (wy_inn hu r0 rg2), if_pos c2, if_neg (by decide)]
          rw [h8a, h9a, wy_c2 (wy_R_co hR) t4, w40, wq_w_id (x := P 2 t) (by omega) (by omega)]
          unfold j_X9_insert_79
          rw [if_neg (c := wq_w 1 = 0) (by decide), wy_ix (by omega) (by omega) (by omega), Int.toNat_natCast, q2, w40, wq_w_id (x := P 2 t) (by omega) (by omega)]
          by_cases c40 : P 2 t < 40
          · obtain ⟨i, hi⟩ : ∃ i : Nat, P 2 t = (i : Int) := ⟨(P 2 t).toNat, by omega⟩
            have i40 : i < 40 := by omega
            have cb : z ≤ 999 ∧ u ≤ 999 := by
              constructor
              · have := c1.2
                split at this <;> omega
              · have := c2.2
                split at this <;> omega
            have h8 : f_X7_put (6 + 48 * t) y z u S = some ((i : Int), wq_set (wq_set (wq_set (wq_set (wq_set (wq_set S (6 + 48 * t + 3 + i) 0 y) (6 + 48 * t + 3 + i) 1 z) (6 + 48 * t + 3 + i) 2 u) (6 + 48 * t + 43) i 1) (6 + 48 * t) 5 ((i : Int) + 1)) (6 + 48 * t) 6 (P 27 t + 1)) := by
              unfold f_X7_put
              rw [wy_c2 (wy_R_co hR) t4, hi, wy_ix (by omega) (by omega) (by omega), wy_ix0, wy_lt, wy_ix (by omega) (by omega) (by omega), wy_ix1, wy_lt, wy_ix (by omega) (by omega) (by omega), wy_ix2, wy_lt, wy_ix (by omega) (by omega) (by omega), wy_lt, wy_lt, wy_lt, Int.toNat_natCast]
              have k5 : wq_set (wq_set (wq_set (wq_set S (6 + 48 * t + 3 + i) 0 y) (6 + 48 * t + 3 + i) 1 z) (6 + 48 * t + 3 + i) 2 u) (6 + 48 * t + 43) i 1 (6 + 48 * t) 5 = (i : Int) := by
                rw [wy_set_ne (by omega), wy_set_ne (by omega), wy_set_ne (by omega), wy_set_ne (by omega), wy_c2 (wy_R_co hR) t4, hi]
              have k6 : ∀ v, wq_set (wq_set (wq_set (wq_set (wq_set S (6 + 48 * t + 3 + i) 0 y) (6 + 48 * t + 3 + i) 1 z) (6 + 48 * t + 3 + i) 2 u) (6 + 48 * t + 43) i 1) (6 + 48 * t) 5 v (6 + 48 * t) 6 = P 27 t := fun v => by
                rw [wy_set_ne (by omega), wy_set_ne (by omega), wy_set_ne (by omega), wy_set_ne (by omega), wy_set_ne (by omega), wy_c27 (wy_R_co hR) t4]
              rw [k5, k6]
            have e1 : (40 * (t : Int) + (i : Int)).toNat = 40 * t + i := by omega
            have e2 : (3 * (40 * (t : Int) + (i : Int))).toNat = 3 * (40 * t + i) := by omega
            have e3 : (3 * (40 * (t : Int) + (i : Int)) + 1).toNat = 3 * (40 * t + i) + 1 := by omega
            have e4 : (3 * (40 * (t : Int) + (i : Int)) + 2).toNat = 3 * (40 * t + i) + 2 := by omega
            have h9 : j_X9_insert_107 (t : Int) y z u 1 1 1 M = some ((i : Int) + 1 - 1, wq_set (wq_set (wq_set (wq_set (wq_set (wq_set M 0 42 0) 3 (40 * t + i) 1) 4 (3 * (40 * t + i)) y) 4 (3 * (40 * t + i) + 1) z) 4 (3 * (40 * t + i) + 2) u) 2 t ((i : Int) + 1)) := by
              unfold j_X9_insert_107
              have k2 : wq_set M 0 42 0 2 t = (i : Int) := by rw [wy_set_ne (by omega), q2, hi]
              rw [wy_bd wy_ase3, if_neg (by decide), wy_ix (by omega) (by omega) (by omega), Int.toNat_natCast, k2, wy_ix (by omega) (by omega) (by omega), e1, wy_lt, wy_ix (by omega) (by omega) (by omega), e2, wy_lt, wy_ix (by omega) (by omega) (by omega), e3, wy_lt, wy_ix (by omega) (by omega) (by omega), e4, wy_lt, wy_ix (by omega) (by omega) (by omega), Int.toNat_natCast, wy_ix (by omega) (by omega) (by omega), Int.toNat_natCast, wy_lt, wy_ix (by omega) (by omega) (by omega), Int.toNat_natCast, wy_set_at (k := 2) (j := t) rfl rfl, wy_set_ne (a := 2) (by omega), wy_set_ne (a := 2) (by omega), wy_set_ne (a := 2) (by omega), wy_set_ne (a := 2) (by omega), k2]
            have h3 : P 3 (40 * t + i) = 0 ∨ P 3 (40 * t + i) ≠ 0 := by omega
            rw [if_pos c40, if_neg (by omega), wy_bd h8, h9]
            refine Or.inl ⟨wq_set (wq_set (wq_set (wq_set (wq_set (wq_set P 4 (3 * (40 * t + i)) y) 4 (3 * (40 * t + i) + 1) z) 4 (3 * (40 * t + i) + 2) u) 3 (40 * t + i) 1) 2 t ((i : Int) + 1)) 27 t (P 27 t + 1), _, _, _, rfl, by rw [show (i : Int) + 1 - 1 = (i : Int) by omega], ?_, wy_iv_put hI t4 hi i40 c0 ⟨c1.1, cb.1⟩ ⟨c2.1, cb.2⟩, ?_, ?_, fun _ t' ht' => ?_⟩
            · rw [wy_set_ne (by omega), wy_set_ne (by omega), wy_set_ne (by omega), wy_set_ne (by omega), wy_set_ne (by omega), wy_42]
            · have hka : ∀ c : Nat, c < 3 → 6 + 48 * t + 3 + i = wy_ka 4 (3 * (40 * t + i) + c) ∧ c = wy_io 4 (3 * (40 * t + i) + c) ∧ wy_in 4 (3 * (40 * t + i) + c) := fun c hc => by
                refine ⟨?_, ?_, ?_, fun e => by omega⟩
                · show _ = 6 + 48 * ((3 * (40 * t + i) + c) / 120) + 3 + (3 * (40 * t + i) + c) / 3 % 40
                  omega
                · show c = (3 * (40 * t + i) + c) % 3
                  omega
                · show 3 * (40 * t + i) + c < 480
                  omega
              have k0 := hka 0 (by omega)
              have k1 := hka 1 (by omega)
              have k2 := hka 2 (by omega)
              have k3 : 6 + 48 * t + 43 = wy_ka 3 (40 * t + i) := by
                show _ = 6 + 48 * ((40 * t + i) / 40) + 43
                omega
              have k3' : i = wy_io 3 (40 * t + i) := by
                show i = (40 * t + i) % 40
                omega
              refine wy_R_set (wy_R_set (wy_R_set (wy_R_set (wy_R_set (wy_R_set hR _ (f₀ := 4) (i₀ := 3 * (40 * t + i)) k0.2.2 k0.1 k0.2.1) _ (f₀ := 4) (i₀ := 3 * (40 * t + i) + 1) k1.2.2 k1.1 k1.2.1) _ (f₀ := 4) (i₀ := 3 * (40 * t + i) + 2) k2.2.2 k2.1 k2.2.1) _ (f₀ := 3) (i₀ := 40 * t + i) ⟨by show 40 * t + i < 160; omega, fun e => by omega⟩ k3 k3') _ (f₀ := 2) (i₀ := t) ⟨t4, fun e => by omega⟩ rfl rfl) _ (f₀ := 27) (i₀ := t) ⟨t4, fun e => by omega⟩ rfl rfl
            · refine wy_M_27 ?_ (by omega)
              refine wy_M_set ?_ _ (by omega)
              rw [wy_set_cm (k := 3) (by omega), wy_set_cm (k := 3) (by omega), wy_set_cm (k := 3) (by omega)]
              exact wy_M_set (wy_M_set (wy_M_set (wy_M_set (wy_M_42 hM) _ (by omega)) _ (by omega)) _ (by omega)) _ (by omega)
            · simp (disch := omega) only [wy_set_ne] at ht' ⊢
              exact hW t' ht'
          · rw [if_neg c40, if_pos (by omega)]
            refine Or.inr ⟨2, 0, rfl, ?_, by decide⟩
            unfold j_X9_insert_106 j_X9_insert_107
            rw [wy_bd wy_ase2, if_pos (by decide)]
            rfl
        · have h8 : f_X8_insert (t : Int) y z u S = some (1 + 1, 0, S) := by
            unfold f_X8_insert
            rw [wy_x_fT hI hR hx, if_pos h, wy_bx rfl, Int.toNat_natCast, wy_bd f0, if_pos c0, if_neg (by decide), wy_bd f1, if_pos c1, if_neg (by decide), wy_bd f2, if_neg c2, if_pos (by decide)]
          have h9 : f_X9_insert (t : Int) y z u M = some (0, wq_set M 0 42 2) := by
            unfold f_X9_insert
            rw [wy_bd (wy_m_isT hI hM hx), if_pos h, if_neg (by decide), wy_bd (wy_inn hy r0 r999), if_pos c0, if_neg (by decide), wy_ix (by omega) (by omega) (by omega), Int.toNat_natCast, q1, w1, wq_w_id (x := P 1 t) (by omega) (by omega), hsec]
            unfold j_X9_insert_42
            rw [wy_bd (wy_inn hz r0 rg1), if_pos c1, if_neg (by decide), wy_ix (by omega) (by omega) (by omega), Int.toNat_natCast, q1, w2, wq_w_id (x := P 1 t) (by omega) (by omega), hthi]
            unfold j_X9_insert_68
            rw [wy_bd (wy_inn hu r0 rg2), if_neg c2, if_pos (by decide), bad]
          exact Or.inr ⟨1, 0, h8, h9, by decide⟩
      · have h8 : f_X8_insert (t : Int) y z u S = some (1 + 1, 0, S) := by
          unfold f_X8_insert
          rw [wy_x_fT hI hR hx, if_pos h, wy_bx rfl, Int.toNat_natCast, wy_bd f0, if_pos c0, if_neg (by decide), wy_bd f1, if_neg c1, if_pos (by decide)]
        have h9 : f_X9_insert (t : Int) y z u M = some (0, wq_set M 0 42 2) := by
          unfold f_X9_insert
          rw [wy_bd (wy_m_isT hI hM hx), if_pos h, if_neg (by decide), wy_bd (wy_inn hy r0 r999), if_pos c0, if_neg (by decide), wy_ix (by omega) (by omega) (by omega), Int.toNat_natCast, q1, w1, wq_w_id (x := P 1 t) (by omega) (by omega), hsec]
          unfold j_X9_insert_42
          rw [wy_bd (wy_inn hz r0 rg1), if_neg c1, if_pos (by decide), bad]
        exact Or.inr ⟨1, 0, h8, h9, by decide⟩
    · have h8 : f_X8_insert (t : Int) y z u S = some (1 + 1, 0, S) := by
        unfold f_X8_insert
        rw [wy_x_fT hI hR hx, if_pos h, wy_bx rfl, Int.toNat_natCast, wy_bd f0, if_neg c0, if_pos (by decide)]
      have h9 : f_X9_insert (t : Int) y z u M = some (0, wq_set M 0 42 2) := by
        unfold f_X9_insert
        rw [wy_bd (wy_m_isT hI hM hx), if_pos h, if_neg (by decide), wy_bd (wy_inn hy r0 r999), if_neg c0, if_pos (by decide), bad]
      exact Or.inr ⟨1, 0, h8, h9, by decide⟩
  · have h8 : f_X8_insert x y z u S = some (0 + 1, 0, S) := by
      unfold f_X8_insert
      rw [wy_x_fT hI hR hx, if_neg h, wy_bx1 rfl]
    have h9 : f_X9_insert x y z u M = some (0, wq_set M 0 42 1) := by
      unfold f_X9_insert j_X9_insert_78 j_X9_insert_79 j_X9_insert_106 j_X9_insert_107
      rw [wy_bd (wy_m_isT hI hM hx), if_neg h, if_pos (by decide), if_pos (by decide), wy_bd (wy_ase0 _ _), if_pos (by decide)]
    exact Or.inr ⟨0, 0, h8, h9, by decide⟩
theorem wy_c_delete (hI : wy_iv P) (hR : wy_R wy_al S P) (hM : wy_M wy_al M P) (hx : wy_rg x) (hy : wy_rg y) : wy_cll wy_k1 P S M (f_X8_delete x y S) (f_X9_delete x y M) := by
  have o := wy_o5 hI
  have b2 := wy_b2 hI x.toNat
  unfold f_X8_delete f_X9_delete
  rw [wy_x_fT hI hR hx, wy_bd (wy_m_isW hI hM hx hy)]
  by_cases h : wy_isT P x
  · rw [if_pos h, wy_bx rfl, wy_x_cW hI hR (by omega) hy]
    by_cases h2 : 0 ≤ y ∧ y < P 2 x.toNat ∧ P 3 (40 * x.toNat + y.toNat) ≠ 0
    · have hh : wy_isW P x y := ⟨h, h2⟩
      have h2o := h2
      obtain ⟨t, rfl⟩ : ∃ t : Nat, x = (t : Int) := ⟨x.toNat, by omega⟩
      obtain ⟨i, rfl⟩ : ∃ i : Nat, y = (i : Int) := ⟨y.toNat, by omega⟩
      rw [Int.toNat_natCast, Int.toNat_natCast] at h2
      rw [Int.toNat_natCast] at b2
      have t4 : t < 4 := by omega
      have i40 : i < 40 := by omega
      have hI2 := wy_iv_del hI t4 h2.2.1 h2.2.2
      have hM2 : wy_M wy_al (wq_set (wq_set M 0 42 0) 3 (40 * t + i) 0) (wq_set (wq_set P 3 (40 * t + i) 0) 27 t (P 27 t - 1)) := wy_M_27 (wy_M_set (wy_M_42 hM) _ (by omega)) (by omega)
      have hro := wy_m_rowsOf hI2 (fun j => wy_ma hM2 (by omega)) (fun j => wy_ma hM2 (by omega)) t4
      have hip := hI2.2.2.2.2.2.2.2.2.2 t t4
      rw [wy_set_at rfl rfl] at hip
      rw [← hip] at hro
      have k3 : 6 + 48 * t + 43 = wy_ka 3 (40 * t + i) := by
        show _ = 6 + 48 * ((40 * t + i) / 40) + 43
        omega
      have k3' : i = wy_io 3 (40 * t + i) := by
        show i = (40 * t + i) % 40
        omega
      rw [if_pos h2o, if_pos hh, wy_bx rfl, wy_bd wy_asked1, if_neg (by decide), wy_ix (by omega) (by omega) (by omega), wy_lt, wy_lt, wy_ix (by omega) (by omega) (by omega), wy_lt, Int.toNat_natCast, Int.toNat_natCast, wy_n40, wy_bd hro, wy_set_at (k := 6 + 48 * t) (j := 6) rfl rfl, wy_set_ne (by omega), wy_c27 (wy_R_co hR) t4]
      refine Or.inl ⟨_, _, _, _, rfl, rfl, ?_, hI2, wy_R_set (wy_R_set hR _ (f₀ := 3) (i₀ := 40 * t + i) ⟨by show 40 * t + i < 160; omega, fun e => by omega⟩ k3 k3') _ (f₀ := 27) (i₀ := t) ⟨t4, fun e => by omega⟩ rfl rfl, hM2, fun hW t' ht' => ?_⟩
      · rw [wy_set_ne (by omega), wy_42]
      · simp (disch := omega) only [wy_set_ne] at ht' ⊢
        exact hW t' ht'
    · rw [if_neg h2, if_neg (fun h' : wy_isW P x y => h2 h'.2), wy_bx1 rfl, wy_bd wy_asked0, if_pos (by decide)]
      exact Or.inr ⟨0, 0, rfl, rfl, by decide⟩
  · rw [if_neg h, if_neg (fun h' : wy_isW P x y => h h'.1), wy_bx1 rfl, wy_bd wy_asked0, if_pos (by decide)]
    exact Or.inr ⟨0, 0, rfl, rfl, by decide⟩
theorem wy_c_setIndex (hI : wy_iv P) (hR : wy_R wy_al S P) (hM : wy_M wy_al M P) (hx : wy_rg x) (hy : wy_rg y) (hz : z = 0 ∨ z = 1) : wy_cll wy_k1 P S M (f_X8_setIndex x y z S) (f_X9_setIndex x y z M) := by
  have o := wy_o5 hI
  have b1 := wy_b1 hI x.toNat
  unfold f_X8_setIndex f_X9_setIndex
  rw [wy_x_fC hI hR hx hy, wy_bd (wy_m_isC hI hM hx hy)]
  by_cases h : wy_isC P x y
  · have e : (3 * x + y).toNat = 3 * x.toNat + y.toNat := by omega
    have b5 := wy_b5 hI (3 * x.toNat + y.toNat)
    have hM' := @wy_M_42 P M wy_al 0 hM
    have hx4 : x.toNat < 4 := by omega
    have hy3 : y.toNat < 3 := by omega
    rw [if_pos h, if_pos h, wy_bx rfl, wy_bd wy_asked1, if_neg (by decide), wq_gd_t hz, wy_lt, wy_c5 (wy_R_co hR) hx4 hy3, wq_gd_t (by omega), wy_ix (by omega) (by omega) (by omega), wy_ix (by omega) (by omega) (by omega), wq_gd_t hz, wy_lt, e, wy_ma hM' (by omega), wq_gd_t (by omega)]
    refine Or.inl ⟨_, _, _, _, rfl, rfl, ?_, wy_iv_5 hI hz, wy_R_set hR _ (f₀ := 5) (i₀ := 3 * x.toNat + y.toNat) ⟨by show 3 * x.toNat + y.toNat < 12; omega, fun e => by omega⟩ (wy_k3 (by omega)).symm rfl, wy_M_set hM' _ (by omega), fun hW t' ht' => ?_⟩
    · rw [wy_set_ne (by omega), wy_42]
    · simp (disch := omega) only [wy_set_ne] at ht' ⊢
      exact hW t' ht'
  · rw [if_neg h, if_neg h, wy_bx1 rfl, wy_bd wy_asked0, if_pos (by decide)]
    exact Or.inr ⟨0, 0, rfl, rfl, by decide⟩
theorem wy_x_css (hx : wy_rg x) : f_X8_checkSampleStep x S = if 1 ≤ x ∧ x ≤ 10 then some (0, 0, S) else some (2, 0, S) := by
  have w1 : wq_w 1 = 1 := rfl
  have w10 : wq_w 10 = 10 := rfl
  unfold f_X8_checkSampleStep
  rw [w1, w10, wq_w_id hx.1 hx.2]
  by_cases c0 : x < 1
  · rw [if_pos c0, if_neg (by omega)]
  · rw [if_neg c0]
    by_cases c1 : x ≤ 10
    · rw [if_pos c1, if_pos (by omega)]
    · rw [if_neg c1, if_neg (by omega)]
theorem wy_c_renew (hI : wy_iv P) (hR : wy_R wy_al S P) (hM : wy_M wy_al M P) (hx : wy_rg x) (hy : wy_rg y) : wy_cll wy_k12 P S M (f_X8_renew x y S) (f_X9_renew x y M) := by
  have o := wy_o5 hI
  unfold f_X8_renew f_X9_renew
  rw [wy_x_fT hI hR hx, wy_bd (wy_m_isT hI hM hx), wy_bd (wy_inn hy (by omega) (by omega))]
  by_cases h : wy_isT P x
  · obtain ⟨t, rfl⟩ : ∃ t : Nat, x = (t : Int) := ⟨x.toNat, by omega⟩
    have t4 : t < 4 := by omega
    rw [if_pos h, if_pos h, wy_bx rfl, Int.toNat_natCast, wy_x_css hy]
    by_cases c : 1 ≤ y ∧ y ≤ 10
    · have hM' := @wy_M_42 P M wy_al 0 hM
      obtain ⟨S1, e1, hR1⟩ := wy_x_renew hI hR t4 c.1 c.2
      obtain ⟨M1, g1, hM1, hf⟩ := wy_m_renews hI hM' t4 c.1 c.2
      have hs := wy_m_sample (M := M1) hI (fun j => by rw [hf 2 j (by omega)]; exact wy_ma hM' (by omega)) (fun j => by rw [hf 3 j (by omega)]; exact wy_ma hM' (by omega)) t4 c.1 c.2
      rw [if_pos c, if_pos c, wy_bx rfl, wy_bd e1, wy_bd wy_asd2, if_neg (by decide), wy_bd g1, wy_bd hs]
      refine Or.inl ⟨_, _, S1, M1, rfl, rfl, ?_, wy_iv_rn hI c.1 _, hR1, hM1, fun hW t' ht' => ?_⟩
      · rw [hf 0 42 (by omega), wy_42]
      · rw [wy_rn_o (by omega)] at ht' ⊢
        exact hW t' ht'
    · rw [if_neg c, if_neg c, wy_bx1 rfl, wy_bd wy_asd1, if_pos (by decide)]
      exact Or.inr ⟨1, 0, rfl, rfl, by decide⟩
  · rw [if_neg h, if_neg h, wy_bx1 rfl, wy_bd (wy_asd0 _), if_pos (by decide)]
    exact Or.inr ⟨0, 0, rfl, rfl, by decide⟩
theorem wy_c_setStep (hI : wy_iv P) (hR : wy_R wy_al S P) (hM : wy_M wy_al M P) (hx : wy_rg x) : wy_cll wy_k2 P S M (f_X8_setStep x S) (f_X9_setStep x M) := by
  unfold f_X8_setStep f_X9_setStep
  rw [wy_x_css hx, wy_bd (wy_inn hx (by omega) (by omega))]
  by_cases c : 1 ≤ x ∧ x ≤ 10
  · have hM' := @wy_M_42 P M wy_al 0 hM
    rw [if_pos c, if_pos c, wy_bx rfl, wy_lt, wy_bd wy_asked1, if_neg (by decide), wy_lt, wy_cS hR, wy_ma0 hM' (i := 11) (by omega)]
    refine Or.inl ⟨_, _, _, _, rfl, rfl, ?_, wy_iv_step hI c, wy_R_set hR _ (f₀ := 0) (i₀ := 11) ⟨by decide, fun _ => by omega⟩ rfl rfl, wy_M_set hM' _ (by omega), fun hW t' ht' => ?_⟩
    · rw [wy_set_ne (by omega), wy_42]
    · simp (disch := omega) only [wy_set_ne] at ht' ⊢
      exact hW t' ht'
  · rw [if_neg c, if_neg c, wy_bx1 rfl, wy_bd wy_asked0, if_pos (by decide)]
    exact Or.inr ⟨1, 0, rfl, rfl, by decide⟩
end
end
section
/-! CALLS that put reports together -/
section
variable {P S M : wq_St} {x y z u v : Int} {t r : Nat}
theorem wy_k2r {r n : Nat} (hn : n < 3) : 199 + 9 * r + 1 = wy_ka 14 (3 * r + n) ∧ n = wy_io 14 (3 * r + n) := by
  constructor
  · show _ = 199 + 9 * ((3 * r + n) / 3) + 1
    omega
  · show n = (3 * r + n) % 3
    omega
theorem wy_c_addReport (hI : wy_iv P) (hR : wy_R wy_al S P) (hM : wy_M wy_al M P) (hx : wy_rg x) : wy_cll wy_k23 P S M (f_X8_addReport x S) (f_X9_addReport x M) := by
  have o := wy_o28 hI
  have w8 : wq_w 8 = 8 := rfl
  have w1000 : wq_w 1000 = 1000 := rfl
  have q28 : M 0 28 = P 0 28 := wy_ma0 hM (by omega)
  obtain ⟨r, hr⟩ : ∃ r : Nat, P 0 28 = (r : Int) := ⟨(P 0 28).toNat, by omega⟩
  by_cases c : 0 ≤ x ∧ x ≤ 1000
  · by_cases c8 : P 0 28 < 8
    · have r8 : r < 8 := by omega
      have h8 : f_X8_addReport x S = some (0, P 0 28 + 1 - 1, wq_set (wq_set S (199 + 9 * r) 2 x) 0 7 (P 0 28 + 1)) := by
        unfold f_X8_addReport
        rw [wy_cN hR, w8, w1000, wq_w_id hx.1 hx.2, wq_w_id (x := P 0 28) (by omega) (by omega), if_neg (by omega), if_pos c.2, if_pos c8, wy_ix (by omega) (by omega) (by omega), wy_lt, wy_lt, wy_set_at (k := 0) (j := 7) rfl rfl, wy_set_ne (a := 0) (i := 7) (by omega), wy_cN hR, hr, Int.toNat_natCast]
      have h9 : f_X9_addReport x M = some (P 0 28 + 1 - 1, wq_set (wq_set (wq_set (wq_set (wq_set (wq_set (wq_set M 0 42 0) 11 r x) 22 r (-1)) 24 r (-1)) 25 r (-1)) 26 r (-1)) 0 28 (P 0 28 + 1)) := by
        have k0 : wq_set M 0 42 0 0 28 = (r : Int) := by rw [wy_set_ne (by omega), q28, hr]
        unfold f_X9_addReport j_X9_addReport_23
        rw [wy_bd (wy_inn hx (by omega) (by omega)), if_pos c, q28, w8, wq_w_id (x := P 0 28) (by omega) (by omega), if_neg (by omega), wy_bd wy_asd2, if_neg (by decide), k0, wy_ix (by omega) (by omega) (by omega), Int.toNat_natCast, wy_lt]
        rw [wy_set_ne (k := 11) (a := 0) (i := 28) (by omega), k0, wy_ix (by omega) (by omega) (by omega), Int.toNat_natCast, wy_lt]
        rw [wy_set_ne (k := 22) (a := 0) (i := 28) (by omega), wy_set_ne (k := 11) (a := 0) (i := 28) (by omega), k0, wy_ix (by omega) (by omega) (by omega), Int.toNat_natCast, wy_lt]
        rw [wy_set_ne (k := 24) (a := 0) (i := 28) (by omega), wy_set_ne (k := 22) (a := 0) (i := 28) (by omega), wy_set_ne (k := 11) (a := 0) (i := 28) (by omega), k0, wy_ix (by omega) (by omega) (by omega), Int.toNat_natCast, wy_lt]
        rw [wy_set_ne (k := 25) (a := 0) (i := 28) (by omega), wy_set_ne (k := 24) (a := 0) (i := 28) (by omega), wy_set_ne (k := 22) (a := 0) (i := 28) (by omega), wy_set_ne (k := 11) (a := 0) (i := 28) (by omega), k0, wy_ix (by omega) (by omega) (by omega), Int.toNat_natCast, wy_lt, wy_lt]
        rw [wy_set_at (k := 0) (j := 28) rfl rfl, wy_set_ne (k := 26) (a := 0) (i := 28) (by omega), wy_set_ne (k := 25) (a := 0) (i := 28) (by omega), wy_set_ne (k := 24) (a := 0) (i := 28) (by omega), wy_set_ne (k := 22) (a := 0) (i := 28) (by omega), wy_set_ne (k := 11) (a := 0) (i := 28) (by omega), k0, hr]
      have hN := hI.2.2.2.2.2.2.2.2.1 r (by omega) r8
      refine Or.inl ⟨wq_set (wq_set P 11 r x) 0 28 (P 0 28 + 1), _, _, _, h8, h9, ?_, wy_iv_addReport hI c hr r8, wy_R_set (wy_R_set hR _ (f₀ := 11) (i₀ := r) ⟨r8, fun e => by omega⟩ rfl rfl) _ (f₀ := 0) (i₀ := 28) ⟨by decide, fun _ => by omega⟩ rfl rfl, fun f i a1 a2 a3 a4 => ?_, fun hW t' ht' => ?_⟩
      · rw [wy_set_ne (by omega), wy_set_ne (by omega), wy_set_ne (by omega), wy_set_ne (by omega), wy_set_ne (by omega), wy_set_ne (by omega), wy_42]
      · rw [wy_set_at (k := 0) (j := 28) rfl rfl] at a4
        by_cases e0 : f = 0 ∧ i = 28
        · rw [wy_set_at e0.1 e0.2, wy_set_at e0.1 e0.2]
        · rw [wy_set_ne e0, wy_set_ne (S := wq_set P 11 r x) e0]
          by_cases e11 : f = 11 ∧ i = r
          · rw [wy_set_ne (by omega), wy_set_ne (by omega), wy_set_ne (by omega), wy_set_ne (by omega), wy_set_at e11.1 e11.2, wy_set_at e11.1 e11.2]
          · rw [wy_set_ne (S := P) e11]
            by_cases e26 : f = 26 ∧ i = r
            · rw [wy_set_at e26.1 e26.2, e26.1, e26.2]
              exact hN.2.2.2.symm
            · by_cases e25 : f = 25 ∧ i = r
              · rw [wy_set_ne e26, wy_set_at e25.1 e25.2, e25.1, e25.2]
                exact hN.2.2.1.symm
              · by_cases e24 : f = 24 ∧ i = r
                · rw [wy_set_ne e26, wy_set_ne e25, wy_set_at e24.1 e24.2, e24.1, e24.2]
                  exact hN.2.1.symm
                · by_cases e22 : f = 22 ∧ i = r
                  · rw [wy_set_ne e26, wy_set_ne e25, wy_set_ne e24, wy_set_at e22.1 e22.2, e22.1, e22.2]
                    exact hN.1.symm
                  · rw [wy_set_ne e26, wy_set_ne e25, wy_set_ne e24, wy_set_ne e22, wy_set_ne e11, wy_set_ne (fun e => by have := a3 e.1; omega)]
                    exact hM f i a1 a2 a3 (fun hf => by have := a4 hf; omega)
      · simp (disch := omega) only [wy_set_ne] at ht' ⊢
        exact hW t' ht'
    · have h8 : f_X8_addReport x S = some (2 + 1, 0, S) := by
        unfold f_X8_addReport
        rw [wy_cN hR, w8, w1000, wq_w_id hx.1 hx.2, wq_w_id (x := P 0 28) (by omega) (by omega), if_neg (by omega), if_pos c.2, if_neg c8]
      have h9 : f_X9_addReport x M = some (0, wq_set M 0 42 2) := by
        unfold f_X9_addReport j_X9_addReport_23
        rw [wy_bd (wy_inn hx (by omega) (by omega)), if_pos c, q28, w8, wq_w_id (x := P 0 28) (by omega) (by omega), if_pos (by omega), wy_bd wy_asd1, if_pos (by decide)]
      exact Or.inr ⟨2, 0, h8, h9, by decide⟩
  · have h8 : f_X8_addReport x S = some (1 + 1, 0, S) := by
      unfold f_X8_addReport
      rw [w1000, wq_w_id hx.1 hx.2]
      by_cases c0 : x < 0
      · rw [if_pos c0]
      · rw [if_neg c0, if_neg (by omega)]
    have h9 : f_X9_addReport x M = some (0, wq_set M 0 42 1) := by
      unfold f_X9_addReport j_X9_addReport_23
      rw [wy_bd (wy_inn hx (by omega) (by omega)), if_neg c]
      split
      · rw [wy_bd (wy_asd0 _), if_pos (by decide)]
      · rw [wy_bd (wy_asd0 _), if_pos (by decide)]
    exact Or.inr ⟨1, 0, h8, h9, by decide⟩
theorem wy_c_addSource (hI : wy_iv P) (hR : wy_R wy_al S P) (hM : wy_M wy_al M P) (hx : wy_rg x) (hy : wy_rg y) : wy_cll wy_k13 P S M (f_X8_addSource x y S) (f_X9_addSource x y M) := by
  have o := wy_o28 hI
  have o5 := wy_o5 hI
  have w3 : wq_w 3 = 3 := rfl
  have bad : j_X9_addSource_20 x y M = some (0, wq_set M 0 42 1) := by
    unfold j_X9_addSource_20 j_X9_addSource_21 j_X9_addSource_42 j_X9_addSource_43
    rw [if_pos (by decide), wy_bd (wy_asd0 _), if_pos (by decide)]
  by_cases h : wy_isR P x
  · by_cases h2 : wy_isT P y
    · obtain ⟨r, rfl⟩ : ∃ r : Nat, x = (r : Int) := ⟨x.toNat, by omega⟩
      have r8 : r < 8 := by omega
      have b13 := wy_b13 hI r
      have q13 : M 13 r = P 13 r := wy_ma hM (by omega)
      obtain ⟨n, hn⟩ : ∃ n : Nat, P 13 r = (n : Int) := ⟨(P 13 r).toNat, by omega⟩
      by_cases c3 : P 13 r < 3
      · have n3 : n < 3 := by omega
        have h8 : f_X8_addSource (r : Int) y S = some (0, (n : Int) + 1 - 1, wq_set (wq_set S (199 + 9 * r + 1) n y) (199 + 9 * r) 3 ((n : Int) + 1)) := by
          unfold f_X8_addSource
          rw [wy_x_fR hI hR hx, if_pos h, wy_bx rfl, wy_x_fT hI hR hy, if_pos h2, wy_bx rfl, Int.toNat_natCast, wy_c13 (wy_R_co hR) r8, w3, wq_w_id (x := P 13 r) (by omega) (by omega), if_pos c3, hn, wy_ix (by omega) (by omega) (by omega), Int.toNat_natCast, wy_lt, wy_lt, wy_set_at (k := 199 + 9 * r) (j := 3) rfl rfl, wy_set_ne (by omega), wy_c13 (wy_R_co hR) r8, hn]
        have h9 : f_X9_addSource (r : Int) y M = some ((n : Int) + 1 - 1, wq_set (wq_set (wq_set M 0 42 0) 14 (3 * r + n) y) 13 r ((n : Int) + 1)) := by
          have k13 : wq_set M 0 42 0 13 r = (n : Int) := by rw [wy_set_ne (by omega), q13, hn]
          unfold f_X9_addSource j_X9_addSource_21 j_X9_addSource_43
          rw [wy_bd (wy_m_isR hI hM hx), if_pos h, if_neg (c := wq_w 1 = 0) (by decide), wy_bd (wy_m_isT hI hM hy), if_pos h2, if_neg (c := wq_w 1 = 0) (by decide), if_neg (c := wq_w 1 = 0) (by decide), wy_ix (by omega) (by omega) (by omega), Int.toNat_natCast, q13, w3, wq_w_id (x := P 13 r) (by omega) (by omega), if_neg (by omega), wy_bd wy_asd2, if_neg (by decide), wy_ix (by omega) (by omega) (by omega), Int.toNat_natCast, k13, wy_ix (by omega) (by omega) (by omega), wy_n3, wy_lt, wy_ix (by omega) (by omega) (by omega), Int.toNat_natCast, wy_ix (by omega) (by omega) (by omega), Int.toNat_natCast, wy_lt, wy_ix (by omega) (by omega) (by omega), Int.toNat_natCast, wy_set_at (k := 13) (j := r) rfl rfl, wy_set_ne (a := 13) (by omega), k13]
        refine Or.inl ⟨wq_set (wq_set P 14 (3 * r + n) y) 13 r ((n : Int) + 1), _, _, _, h8, h9, ?_, wy_iv_addSource hI h2 hn n3, wy_R_set (wy_R_set hR _ (f₀ := 14) (i₀ := 3 * r + n) ⟨by show 3 * r + n < 24; omega, fun e => by omega⟩ (wy_k2r n3).1 (wy_k2r n3).2) _ (f₀ := 13) (i₀ := r) ⟨r8, fun e => by omega⟩ rfl rfl, wy_M_set (wy_M_set (wy_M_42 hM) _ (by omega)) _ (by omega), fun hW t' ht' => ?_⟩
        · rw [wy_set_ne (by omega), wy_set_ne (by omega), wy_42]
        · simp (disch := omega) only [wy_set_ne] at ht' ⊢
          exact hW t' ht'
      · have h8 : f_X8_addSource (r : Int) y S = some (2 + 1, 0, S) := by
          unfold f_X8_addSource
          rw [wy_x_fR hI hR hx, if_pos h, wy_bx rfl, wy_x_fT hI hR hy, if_pos h2, wy_bx rfl, Int.toNat_natCast, wy_c13 (wy_R_co hR) r8, w3, wq_w_id (x := P 13 r) (by omega) (by omega), if_neg c3]
        have h9 : f_X9_addSource (r : Int) y M = some (0, wq_set M 0 42 2) := by
          unfold f_X9_addSource j_X9_addSource_21 j_X9_addSource_42 j_X9_addSource_43
          rw [wy_bd (wy_m_isR hI hM hx), if_pos h, if_neg (c := wq_w 1 = 0) (by decide), wy_bd (wy_m_isT hI hM hy), if_pos h2, if_neg (c := wq_w 1 = 0) (by decide), if_neg (c := wq_w 1 = 0) (by decide), wy_ix (by omega) (by omega) (by omega), Int.toNat_natCast, q13, w3, wq_w_id (x := P 13 r) (by omega) (by omega), if_pos (by omega), wy_bd wy_asd1, if_pos (by decide)]
        exact Or.inr ⟨2, 0, h8, h9, by decide⟩
    · have h8 : f_X8_addSource x y S = some (0 + 1, 0, S) := by
        unfold f_X8_addSource
        rw [wy_x_fR hI hR hx, if_pos h, wy_bx rfl, wy_x_fT hI hR hy, if_neg h2, wy_bx1 rfl]
      have h9 : f_X9_addSource x y M = some (0, wq_set M 0 42 1) := by
        unfold f_X9_addSource
        rw [wy_bd (wy_m_isR hI hM hx), if_pos h, if_neg (c := wq_w 1 = 0) (by decide), wy_bd (wy_m_isT hI hM hy), if_neg h2, if_pos (by decide), bad]
      exact Or.inr ⟨0, 0, h8, h9, by decide⟩
  · have h8 : f_X8_addSource x y S = some (0 + 1, 0, S) := by
      unfold f_X8_addSource
      rw [wy_x_fR hI hR hx, if_neg h, wy_bx1 rfl]
    have h9 : f_X9_addSource x y M = some (0, wq_set M 0 42 1) := by
      unfold f_X9_addSource
      rw [wy_bd (wy_m_isR hI hM hx), if_neg h, if_pos (by decide), bad]
    exact Or.inr ⟨0, 0, h8, h9, by decide⟩
theorem wy_c_drop (hI : wy_iv P) (hR : wy_R wy_al S P) (hM : wy_M wy_al M P) (hx : wy_rg x) : wy_cll wy_k13 P S M (f_X8_dropCondition x S) (f_X9_dropCondition x M) := by
  have o := wy_o28 hI
  by_cases h : wy_isR P x
  · obtain ⟨r, rfl⟩ : ∃ r : Nat, x = (r : Int) := ⟨x.toNat, by omega⟩
    have r8 : r < 8 := by omega
    have b15 := wy_b15 hI r
    have q15 : M 15 r = P 15 r := wy_ma hM (by omega)
    by_cases c : P 15 r = 0
    · have h8 : f_X8_dropCondition (r : Int) S = some (2 + 1, 0, S) := by
        unfold f_X8_dropCondition
        rw [wy_x_fR hI hR hx, if_pos h, wy_bx rfl, Int.toNat_natCast, wy_c15 (wy_R_co hR) r8, wq_w_id (by omega) (by omega), if_pos c]
      have h9 : f_X9_dropCondition (r : Int) M = some (0, wq_set M 0 42 2) := by
        unfold f_X9_dropCondition j_X9_dropCondition_25 j_X9_dropCondition_26
        rw [wy_bd (wy_m_isR hI hM hx), if_pos h, if_neg (c := wq_w 1 = 0) (by decide), wy_ix (by omega) (by omega) (by omega), Int.toNat_natCast, q15, wq_w_id (x := P 15 r) (by omega) (by omega), if_pos (by omega), wy_bd wy_asd1, if_pos (by decide)]
      exact Or.inr ⟨2, 0, h8, h9, by decide⟩
    · obtain ⟨n, hn⟩ : ∃ n : Nat, P 15 r = (n : Int) + 1 := ⟨(P 15 r - 1).toNat, by omega⟩
      have en : (n : Int) + 1 - 1 = (n : Int) := by omega
      have h8 : f_X8_dropCondition (r : Int) S = some (0, (n : Int), wq_set S (199 + 9 * r) 4 (n : Int)) := by
        unfold f_X8_dropCondition
        rw [wy_x_fR hI hR hx, if_pos h, wy_bx rfl, Int.toNat_natCast, wy_c15 (wy_R_co hR) r8, wq_w_id (by omega) (by omega), if_neg c, hn, en, wy_lt, wy_set_at rfl rfl]
      have h9 : f_X9_dropCondition (r : Int) M = some ((n : Int), wq_set (wq_set M 0 42 0) 15 r (n : Int)) := by
        unfold f_X9_dropCondition j_X9_dropCondition_26
        rw [wy_bd (wy_m_isR hI hM hx), if_pos h, if_neg (c := wq_w 1 = 0) (by decide), wy_ix (by omega) (by omega) (by omega), Int.toNat_natCast, q15, wq_w_id (x := P 15 r) (by omega) (by omega), if_neg (by omega), wy_bd wy_asd2, if_neg (by decide), wy_ix (by omega) (by omega) (by omega), Int.toNat_natCast, wy_ix (by omega) (by omega) (by omega), Int.toNat_natCast, wy_lt, wy_ix (by omega) (by omega) (by omega), Int.toNat_natCast, wy_set_at (k := 15) (j := r) rfl rfl, wy_set_ne (by omega), q15, hn, en]
      refine Or.inl ⟨wq_set P 15 r (n : Int), _, _, _, h8, h9, ?_, wy_iv_drop hI hn, wy_R_set hR _ (f₀ := 15) (i₀ := r) ⟨r8, fun e => by omega⟩ rfl rfl, wy_M_set (wy_M_42 hM) _ (by omega), fun hW t' ht' => ?_⟩
      · rw [wy_set_ne (by omega), wy_42]
      · simp (disch := omega) only [wy_set_ne] at ht' ⊢
        exact hW t' ht'
  · have h8 : f_X8_dropCondition x S = some (0 + 1, 0, S) := by
      unfold f_X8_dropCondition
      rw [wy_x_fR hI hR hx, if_neg h, wy_bx1 rfl]
    have h9 : f_X9_dropCondition x M = some (0, wq_set M 0 42 1) := by
      unfold f_X9_dropCondition j_X9_dropCondition_25 j_X9_dropCondition_26
      rw [wy_bd (wy_m_isR hI hM hx), if_neg h, if_pos (by decide), wy_bd (wy_asd0 _), if_pos (by decide)]
    exact Or.inr ⟨0, 0, h8, h9, by decide⟩
theorem wy_c_setDue (hI : wy_iv P) (hR : wy_R wy_al S P) (hM : wy_M wy_al M P) (hx : wy_rg x) (hy : y = 0 ∨ y = 1) : wy_cll wy_k1 P S M (f_X8_setDue x y S) (f_X9_setDue x y M) := by
  have o := wy_o28 hI
  unfold f_X8_setDue f_X9_setDue
  rw [wy_x_fR hI hR hx, wy_bd (wy_m_isR hI hM hx)]
  by_cases h : wy_isR P x
  · obtain ⟨r, rfl⟩ : ∃ r : Nat, x = (r : Int) := ⟨x.toNat, by omega⟩
    have r8 : r < 8 := by omega
    have b12 := wy_b12 hI r
    have hM' := @wy_M_42 P M wy_al 0 hM
    rw [if_pos h, if_pos h, wy_bx rfl, wy_bd wy_asked1, if_neg (by decide), Int.toNat_natCast, wq_gd_t hy, wy_lt, wy_c12 hR r8, wq_gd_t (by omega), wy_ix (by omega) (by omega) (by omega), wy_ix (by omega) (by omega) (by omega), Int.toNat_natCast, wq_gd_t hy, wy_lt, wy_ma hM' (by omega), wq_gd_t (by omega)]
    refine Or.inl ⟨_, _, _, _, rfl, rfl, ?_, wy_iv_due hI h.2 hy, wy_R_set hR _ (f₀ := 12) (i₀ := r) ⟨r8, fun e => by omega⟩ rfl rfl, wy_M_set hM' _ (by omega), fun hW t' ht' => ?_⟩
    · rw [wy_set_ne (by omega), wy_42]
    · simp (disch := omega) only [wy_set_ne] at ht' ⊢
      exact hW t' ht'
  · rw [if_neg h, if_neg h, wy_bx1 rfl, wy_bd wy_asked0, if_pos (by decide)]
    exact Or.inr ⟨0, 0, rfl, rfl, by decide⟩
theorem wy_c_setSum (hI : wy_iv P) (hR : wy_R wy_al S P) (hM : wy_M wy_al M P) (hx : wy_rg x) (hy : wy_rg y) (hz : wy_rg z) : wy_cll wy_k1 P S M (f_X8_setSum x y z S) (f_X9_setSum x y z M) := by
  have o := wy_o28 hI
  have wn : wq_w (-1) = -1 := rfl
  have hM' := @wy_M_42 P M wy_al 0 hM
  have m24 : ∀ r : Nat, r < 8 → j_X9_setSum_24 (r : Int) y z M = some (0, wq_set (wq_set (wq_set M 0 42 0) 22 r y) 23 r z) := fun r r8 => by
    unfold j_X9_setSum_24
    rw [wy_bd wy_asked1, if_neg (by decide), wy_ix (by omega) (by omega) (by omega), Int.toNat_natCast, wy_lt, wy_ix (by omega) (by omega) (by omega), Int.toNat_natCast]
  by_cases h : wy_isR P x
  · obtain ⟨r, rfl⟩ : ∃ r : Nat, x = (r : Int) := ⟨x.toNat, by omega⟩
    have r8 : r < 8 := by omega
    have b13 := wy_b13 hI r
    by_cases cn : y = -1
    · have h8 : f_X8_setSum (r : Int) y z S = some (0, 0, wq_set S (199 + 9 * r) 5 (-1)) := by
        unfold f_X8_setSum
        rw [wy_x_fR hI hR hx, if_pos h, wy_bx rfl, Int.toNat_natCast, cn, if_pos rfl]
      have h9 : f_X9_setSum (r : Int) y z M = some (0, wq_set (wq_set (wq_set M 0 42 0) 22 r (-1)) 23 r z) := by
        unfold f_X9_setSum
        rw [wy_bd (wy_m_isR hI hM hx), if_pos h, if_neg (c := wq_w 1 = 0) (by decide), if_pos (by rw [cn]), m24 r r8, cn]
      refine Or.inl ⟨wq_set (wq_set P 22 r (-1)) 23 r z, _, _, _, h8, h9, ?_, wy_iv_sum0 hI h.2 (by omega), wy_R_23 (wy_R_set hR _ (f₀ := 22) (i₀ := r) ⟨r8, fun e => by omega⟩ rfl rfl), wy_M_set (wy_M_set hM' _ (by omega)) _ (by omega), fun hW t' ht' => ?_⟩
      · rw [wy_set_ne (by omega), wy_set_ne (by omega), wy_42]
      · simp (disch := omega) only [wy_set_ne] at ht' ⊢
        exact hW t' ht'
    · by_cases hk : (0 ≤ y ∧ y < P 13 r) ∧ 0 ≤ z ∧ z < P 1 (P 14 (3 * r + y.toNat)).toNat
      · have b1 := wy_b1 hI (P 14 (3 * r + y.toNat)).toNat
        have hK : wy_isK P (r : Int) y z := ⟨⟨h, by rw [Int.toNat_natCast]; exact hk.1⟩, by rw [Int.toNat_natCast]; exact hk.2⟩
        have h8 : f_X8_setSum (r : Int) y z S = some (0, 0, wq_set (wq_set S (199 + 9 * r) 6 z) (199 + 9 * r) 5 y) := by
          unfold f_X8_setSum
          rw [wy_x_fR hI hR hx, if_pos h, wy_bx rfl, Int.toNat_natCast, wn, wq_w_id hy.1 hy.2, if_neg cn, wy_x_cK hI hR r8 hy hz, if_pos hk, wy_bx rfl, wy_lt]
        have h9 : f_X9_setSum (r : Int) y z M = some (0, wq_set (wq_set (wq_set M 0 42 0) 22 r y) 23 r z) := by
          unfold f_X9_setSum
          rw [wy_bd (wy_m_isR hI hM hx), if_pos h, if_neg (c := wq_w 1 = 0) (by decide), wn, wq_w_id hy.1 hy.2, if_neg cn, wy_bd (wy_m_isK hI hM hx hy hz), if_pos hK, if_neg (c := wq_w 1 = 0) (by decide), m24 r r8]
        refine Or.inl ⟨wq_set (wq_set (wq_set P 28 r z) 22 r y) 23 r z, _, _, _, h8, h9, ?_, wy_iv_sum1 hI h.2 hk.1 (by omega) (by omega), wy_R_23 (wy_R_set (wy_R_set hR _ (f₀ := 28) (i₀ := r) ⟨r8, fun e => by omega⟩ rfl rfl) _ (f₀ := 22) (i₀ := r) ⟨r8, fun e => by omega⟩ rfl rfl), wy_M_set (wy_M_set (wy_M_27 hM' (by omega)) _ (by omega)) _ (by omega), fun hW t' ht' => ?_⟩
        · rw [wy_set_ne (by omega), wy_set_ne (by omega), wy_42]
        · simp (disch := omega) only [wy_set_ne] at ht' ⊢
          exact hW t' ht'
      · have hK : ¬wy_isK P (r : Int) y z := fun h' => hk ⟨by have := h'.1.2; rw [Int.toNat_natCast] at this; exact this, by have := h'.2; rw [Int.toNat_natCast] at this; exact this⟩
        have h8 : f_X8_setSum (r : Int) y z S = some (0 + 1, 0, S) := by
          unfold f_X8_setSum
          rw [wy_x_fR hI hR hx, if_pos h, wy_bx rfl, Int.toNat_natCast, wn, wq_w_id hy.1 hy.2, if_neg cn, wy_x_cK hI hR r8 hy hz, if_neg hk, wy_bx1 rfl]
        have h9 : f_X9_setSum (r : Int) y z M = some (0, wq_set M 0 42 1) := by
          unfold f_X9_setSum
          rw [wy_bd (wy_m_isR hI hM hx), if_pos h, if_neg (c := wq_w 1 = 0) (by decide), wn, wq_w_id hy.1 hy.2, if_neg cn, wy_bd (wy_m_isK hI hM hx hy hz), if_neg hK, if_pos (by decide), wy_bd wy_asked0, if_pos (by decide)]
        exact Or.inr ⟨0, 0, h8, h9, by decide⟩
  · have h8 : f_X8_setSum x y z S = some (0 + 1, 0, S) := by
      unfold f_X8_setSum
      rw [wy_x_fR hI hR hx, if_neg h, wy_bx1 rfl]
    have h9 : f_X9_setSum x y z M = some (0, wq_set M 0 42 1) := by
      unfold f_X9_setSum
      rw [wy_bd (wy_m_isR hI hM hx), if_neg h, if_pos (by decide), wy_bd wy_asked0, if_pos (by decide)]
    exact Or.inr ⟨0, 0, h8, h9, by decide⟩
end
end
section
/-! CALLS that add conditions -/
section
variable {P S M : wq_St} {x y z u v : Int} {t r : Nat}
theorem wy_x_room (hI : wy_iv P) (hR : wy_R wy_al S P) {r : Nat} (hr : r < 8) : f_X8_checkConditionRoom (199 + 9 * r) S = if P 15 r < 6 then some (0, 0, S) else some (3, 0, S) := by
  have b15 := wy_b15 hI r
  have w6 : wq_w 6 = 6 := rfl
  unfold f_X8_checkConditionRoom
  rw [wy_c15 (wy_R_co hR) hr, w6, wq_w_id (by omega) (by omega)]
theorem wy_in_c {f r n : Nat} (hf : f = 16 ∨ f = 17 ∨ f = 18 ∨ f = 19 ∨ f = 20 ∨ f = 21) (hr : r < 8) (hn : n < 6) : wy_in f (6 * r + n) := by
  refine ⟨?_, fun e => by omega⟩
  rcases hf with rfl | rfl | rfl | rfl | rfl | rfl <;> (show 6 * r + n < 48; omega)
theorem wy_isK_r (h : wy_isR P (r : Int)) : wy_isK P (r : Int) y z ↔ (0 ≤ y ∧ y < P 13 r) ∧ 0 ≤ z ∧ z < P 1 (P 14 (3 * r + y.toNat)).toNat := by
  unfold wy_isK
  rw [Int.toNat_natCast]
  exact ⟨fun h' => ⟨h'.1.2, h'.2⟩, fun h' => ⟨⟨h, h'.1⟩, h'.2⟩⟩
theorem wy_m_adds {n : Nat} {k s c : Int} (r8 : r < 8) (n6 : n < 6) (h15 : M 15 r = (n : Int)) : f_X9_adds (r : Int) k s c M = some ((n : Int) + 1 - 1, wq_set (wq_set (wq_set (wq_set M 16 (6 * r + n) k) 17 (6 * r + n) s) 18 (6 * r + n) c) 15 r ((n : Int) + 1)) := by
  unfold f_X9_adds
  rw [wy_ix (by omega) (by omega) (by omega), Int.toNat_natCast, h15, wy_ix (by omega) (by omega) (by omega), wy_n6, wy_lt, wy_ix (by omega) (by omega) (by omega), wy_n6, wy_lt, wy_ix (by omega) (by omega) (by omega), wy_n6, wy_lt, wy_ix (by omega) (by omega) (by omega), Int.toNat_natCast, wy_ix (by omega) (by omega) (by omega), Int.toNat_natCast, wy_lt, wy_ix (by omega) (by omega) (by omega), Int.toNat_natCast, wy_set_at (k := 15) (j := r) rfl rfl, wy_set_ne (a := 15) (by omega), wy_set_ne (a := 15) (by omega), wy_set_ne (a := 15) (by omega), h15]
theorem wy_c_addCondition (hI : wy_iv P) (hR : wy_R wy_al S P) (hM : wy_M wy_al M P) (hx : wy_rg x) (hy : wy_rg y) (hz : wy_rg z) (hu : wy_rg u) (hv : wy_rg v) : wy_cll wy_k123 P S M (f_X8_addCondition x y z u v S) (f_X9_addCondition x y z u v M) := by
  have o := wy_o28 hI
  have w2 : wq_w 2 = 2 := rfl
  have w6 : wq_w 6 = 6 := rfl
  have w999 : wq_w 999 = 999 := rfl
  have hM' := @wy_M_42 P M wy_al 0 hM
  have h9a : f_X9_addCondition x y z u v M = j_X9_addCondition_39 x y z u v (if wy_isK P x y z then 1 else 0) (if (0 ≤ u ∧ u ≤ 2) ∧ 0 ≤ v ∧ v ≤ 999 then 1 else 0) (if wy_isK P x y z then 1 else 0) M := by
    unfold f_X9_addCondition j_X9_addCondition_38
    rw [wy_bd (wy_m_isK hI hM hx hy hz), wy_bd (wy_inn hu (by omega) (by omega))]
    by_cases cu : 0 ≤ u ∧ u ≤ 2
    · rw [if_pos cu, if_neg (c := wq_w 1 = 0) (by decide), wy_bd (wy_inn hv (by omega) (by omega))]
      by_cases cv : 0 ≤ v ∧ v ≤ 999
      · rw [if_pos cv, if_neg (c := wq_w 1 = 0) (by decide), if_pos (⟨cu, cv⟩ : (0 ≤ u ∧ u ≤ 2) ∧ 0 ≤ v ∧ v ≤ 999)]
      · rw [if_neg cv, if_pos (c := wq_w 0 = 0) (by decide), if_neg (fun h' : (0 ≤ u ∧ u ≤ 2) ∧ 0 ≤ v ∧ v ≤ 999 => cv h'.2)]
    · rw [if_neg cu, if_pos (c := wq_w 0 = 0) (by decide), if_neg (fun h' : (0 ≤ u ∧ u ≤ 2) ∧ 0 ≤ v ∧ v ≤ 999 => cu h'.1)]
  rw [h9a]
  unfold j_X9_addCondition_39 j_X9_addCondition_59 j_X9_addCondition_60
  by_cases h : wy_isR P x
  · obtain ⟨r, rfl⟩ : ∃ r : Nat, x = (r : Int) := ⟨x.toNat, by omega⟩
    have r8 : r < 8 := by omega
    have b13 := wy_b13 hI r
    have b15 := wy_b15 hI r
    have q15 : M 15 r = P 15 r := wy_ma hM (by omega)
    by_cases hk : (0 ≤ y ∧ y < P 13 r) ∧ 0 ≤ z ∧ z < P 1 (P 14 (3 * r + y.toNat)).toNat
    · have hK := (wy_isK_r h).mpr hk
      have b1 := wy_b1 hI (P 14 (3 * r + y.toNat)).toNat
      rw [if_pos hK, if_neg (c := wq_w 1 = 0) (by decide), wy_ix (by omega) (by omega) (by omega), Int.toNat_natCast, q15, w6, wq_w_id (x := P 15 r) (by omega) (by omega)]
      by_cases cuv : (0 ≤ u ∧ u ≤ 2) ∧ 0 ≤ v ∧ v ≤ 999
      · rw [if_pos cuv]
        by_cases c6 : P 15 r < 6
        · obtain ⟨n, hn⟩ : ∃ n : Nat, P 15 r = (n : Int) := ⟨(P 15 r).toNat, by omega⟩
          have n6 : n < 6 := by omega
          have h8 : f_X8_addCondition (r : Int) y z u v S = some (0, (n : Int) + 1 - 1, wq_set (wq_set (wq_set (wq_set (wq_set S (199 + 9 * r + 3 + n) 1 y) (199 + 9 * r + 3 + n) 2 z) (199 + 9 * r + 3 + n) 0 u) (199 + 9 * r + 3 + n) 3 v) (199 + 9 * r) 4 ((n : Int) + 1)) := by
            unfold f_X8_addCondition
            rw [wy_x_fR hI hR hx, if_pos h, wy_bx rfl, Int.toNat_natCast, wy_x_cK hI hR r8 hy hz, if_pos hk, wy_bx rfl, w2, w999, wq_w_id hu.1 hu.2, wq_w_id hv.1 hv.2, if_neg (by omega), if_pos cuv.1.2, if_neg (by omega), if_pos cuv.2.2, wy_x_room hI hR r8, if_pos c6, wy_bx rfl, wy_c15 (wy_R_co hR) r8, hn, wy_ix (by omega) (by omega) (by omega), Int.toNat_natCast]
            unfold f_X1_compare
            rw [wy_lt, wy_lt, wy_lt, wy_bd rfl, wy_lt, wy_set_at (k := 199 + 9 * r) (j := 4) rfl rfl, wy_set_ne (by omega), wy_set_ne (by omega), wy_set_ne (by omega), wy_set_ne (by omega), wy_c15 (wy_R_co hR) r8, hn]
          have k15 : wq_set M 0 42 0 15 r = (n : Int) := by rw [wy_set_ne (by omega), q15, hn]
          have k15' : ∀ j w, wq_set (wq_set M 0 42 0) 19 j w 15 r = (n : Int) := fun j w => by rw [wy_set_ne (by omega), k15]
          rw [if_neg (by omega), wy_bd wy_ase3, if_neg (by decide), wy_ix (by omega) (by omega) (by omega), Int.toNat_natCast, k15, wy_ix (by omega) (by omega) (by omega), wy_n6, wy_lt, wy_bd (wy_m_adds r8 n6 (k15' _ _)), h8]
          refine Or.inl ⟨_, _, _, _, rfl, rfl, ?_, wy_iv_addCondition (so := y) (co := z) (ki := u) (nu := v) hI hk.1 (by omega) (by omega) cuv.1 cuv.2 hn n6, ?_, ?_, fun hW t' ht' => ?_⟩
          · rw [wy_set_ne (by omega), wy_set_ne (by omega), wy_set_ne (by omega), wy_set_ne (by omega), wy_set_ne (by omega), wy_42]
          · exact wy_R_set (wy_R_set (wy_R_set (wy_R_set (wy_R_set hR _ (f₀ := 17) (i₀ := 6 * r + n) (wy_in_c (by omega) r8 n6) (wy_k6 n6).symm rfl) _ (f₀ := 18) (i₀ := 6 * r + n) (wy_in_c (by omega) r8 n6) (wy_k6 n6).symm rfl) _ (f₀ := 16) (i₀ := 6 * r + n) (wy_in_c (by omega) r8 n6) (wy_k6 n6).symm rfl) _ (f₀ := 19) (i₀ := 6 * r + n) (wy_in_c (by omega) r8 n6) (wy_k6 n6).symm rfl) _ (f₀ := 15) (i₀ := r) ⟨r8, fun e => by omega⟩ rfl rfl
          · rw [wy_set_cm (k := 16) (k' := 19) (by omega), wy_set_cm (k := 18) (k' := 19) (by omega), wy_set_cm (k := 17) (k' := 19) (by omega), wy_set_cm (k := 18) (k' := 16) (by omega), wy_set_cm (k := 17) (k' := 16) (by omega)]
            exact wy_M_set (wy_M_set (wy_M_set (wy_M_set (wy_M_set hM' _ (by omega)) _ (by omega)) _ (by omega)) _ (by omega)) _ (by omega)
          · simp (disch := omega) only [wy_set_ne] at ht' ⊢
            exact hW t' ht'
        · have h8 : f_X8_addCondition (r : Int) y z u v S = some (2 + 1, 0, S) := by
            unfold f_X8_addCondition
            rw [wy_x_fR hI hR hx, if_pos h, wy_bx rfl, Int.toNat_natCast, wy_x_cK hI hR r8 hy hz, if_pos hk, wy_bx rfl, w2, w999, wq_w_id hu.1 hu.2, wq_w_id hv.1 hv.2, if_neg (by omega), if_pos cuv.1.2, if_neg (by omega), if_pos cuv.2.2, wy_x_room hI hR r8, if_neg c6, wy_bx1 rfl]
          rw [if_pos (by omega), wy_bd wy_ase2, if_pos (by decide)]
          exact Or.inr ⟨2, 0, h8, rfl, by decide⟩
      · have h8 : f_X8_addCondition (r : Int) y z u v S = some (1 + 1, 0, S) := by
          unfold f_X8_addCondition
          rw [wy_x_fR hI hR hx, if_pos h, wy_bx rfl, Int.toNat_natCast, wy_x_cK hI hR r8 hy hz, if_pos hk, wy_bx rfl, w2, w999, wq_w_id hu.1 hu.2, wq_w_id hv.1 hv.2]
          by_cases c0 : u < 0
          · rw [if_pos c0]
          · rw [if_neg c0]
            by_cases c1 : u ≤ 2
            · rw [if_pos c1]
              by_cases c2 : v < 0
              · rw [if_pos c2]
              · rw [if_neg c2, if_neg (by omega)]
            · rw [if_neg c1]
        rw [if_neg cuv]
        refine Or.inr ⟨1, 0, h8, ?_, by decide⟩
        split
        · rw [wy_bd (wy_ase1 _), if_pos (by decide)]
          rfl
        · rw [wy_bd (wy_ase1 _), if_pos (by decide)]
          rfl
    · have h8 : f_X8_addCondition (r : Int) y z u v S = some (0 + 1, 0, S) := by
        unfold f_X8_addCondition
        rw [wy_x_fR hI hR hx, if_pos h, wy_bx rfl, Int.toNat_natCast, wy_x_cK hI hR r8 hy hz, if_neg hk, wy_bx1 rfl]
      rw [if_neg (fun h' => hk ((wy_isK_r h).mp h')), if_pos (c := wq_w 0 = 0) (by decide), wy_bd (wy_ase0 _ _), if_pos (by decide)]
      exact Or.inr ⟨0, 0, h8, rfl, by decide⟩
  · have h8 : f_X8_addCondition x y z u v S = some (0 + 1, 0, S) := by
      unfold f_X8_addCondition
      rw [wy_x_fR hI hR hx, if_neg h, wy_bx1 rfl]
    rw [if_neg (fun h' : wy_isK P x y z => h h'.1.1), if_pos (c := wq_w 0 = 0) (by decide), wy_bd (wy_ase0 _ _), if_pos (by decide)]
    exact Or.inr ⟨0, 0, h8, rfl, by decide⟩
theorem wy_c_addJoin (hI : wy_iv P) (hR : wy_R wy_al S P) (hM : wy_M wy_al M P) (hx : wy_rg x) (hy : wy_rg y) (hz : wy_rg z) (hu : wy_rg u) (hv : wy_rg v) : wy_cll wy_k123 P S M (f_X8_addJoin x y z u v S) (f_X9_addJoin x y z u v M) := by
  have o := wy_o28 hI
  have w6 : wq_w 6 = 6 := rfl
  have hM' := @wy_M_42 P M wy_al 0 hM
  have bad : j_X9_addJoin_26 x y z u v M = some (0, wq_set M 0 42 1) := by
    unfold j_X9_addJoin_26 j_X9_addJoin_27 j_X9_addJoin_43 j_X9_addJoin_63 j_X9_addJoin_64
    split
    · rw [if_pos (c := wq_w 0 = 0) (by decide), wy_bd (wy_ase0 _ _), if_pos (by decide)]
    · rw [if_pos (c := wq_w 0 = 0) (by decide), wy_bd (wy_ase0 _ _), if_pos (by decide)]
  by_cases h : wy_isR P x
  · obtain ⟨r, rfl⟩ : ∃ r : Nat, x = (r : Int) := ⟨x.toNat, by omega⟩
    have r8 : r < 8 := by omega
    have b13 := wy_b13 hI r
    have b15 := wy_b15 hI r
    have q15 : M 15 r = P 15 r := wy_ma hM (by omega)
    by_cases hk : (0 ≤ y ∧ y < P 13 r) ∧ 0 ≤ z ∧ z < P 1 (P 14 (3 * r + y.toNat)).toNat
    · have hK := (wy_isK_r h).mpr hk
      have b1 := wy_b1 hI (P 14 (3 * r + y.toNat)).toNat
      by_cases hl : (0 ≤ u ∧ u < P 13 r) ∧ 0 ≤ v ∧ v < P 1 (P 14 (3 * r + u.toNat)).toNat
      · have hL := (wy_isK_r h).mpr hl
        have b1' := wy_b1 hI (P 14 (3 * r + u.toNat)).toNat
        have h9a : f_X9_addJoin (r : Int) y z u v M = j_X9_addJoin_27 (r : Int) y z u v 1 M := by
          unfold f_X9_addJoin
          rw [wy_bd (wy_m_isK hI hM hx hy hz), if_pos hK, if_neg (c := wq_w 1 = 0) (by decide), wy_bd (wy_m_isK hI hM hx hu hv), if_pos hL, if_neg (c := wq_w 1 = 0) (by decide)]
        rw [h9a]
        unfold j_X9_addJoin_27 j_X9_addJoin_43 j_X9_addJoin_63
        rw [wq_w_id hy.1 hy.2, wq_w_id hu.1 hu.2]
        by_cases cyu : y = u
        · have h8 : f_X8_addJoin (r : Int) y z u v S = some (1 + 1, 0, S) := by
            unfold f_X8_addJoin
            rw [wy_x_fR hI hR hx, if_pos h, wy_bx rfl, Int.toNat_natCast, wy_x_cK hI hR r8 hy hz, if_pos hk, wy_bx rfl, wy_x_cK hI hR r8 hu hv, if_pos hl, wy_bx rfl, wq_w_id hy.1 hy.2, wq_w_id hu.1 hu.2, if_pos cyu]
          rw [if_pos cyu, if_neg (c := wq_w 1 = 0) (by decide), wy_ix (by omega) (by omega) (by omega)]
          refine Or.inr ⟨1, 0, h8, ?_, by decide⟩
          unfold j_X9_addJoin_64
          split
          · rw [wy_bd (wy_ase1 _), if_pos (by decide)]
            rfl
          · rw [wy_bd (wy_ase1 _), if_pos (by decide)]
            rfl
        · rw [if_neg cyu, if_neg (c := wq_w 1 = 0) (by decide), wy_ix (by omega) (by omega) (by omega), Int.toNat_natCast, q15, w6, wq_w_id (x := P 15 r) (by omega) (by omega)]
          by_cases c6 : P 15 r < 6
          · obtain ⟨n, hn⟩ : ∃ n : Nat, P 15 r = (n : Int) := ⟨(P 15 r).toNat, by omega⟩
            have n6 : n < 6 := by omega
            have h8 : f_X8_addJoin (r : Int) y z u v S = some (0, (n : Int) + 1 - 1, wq_set (wq_set (wq_set (wq_set (wq_set (wq_set S (199 + 9 * r + 3 + n) 1 y) (199 + 9 * r + 3 + n) 2 z) (199 + 9 * r + 3 + n) 0 3) (199 + 9 * r + 3 + n) 4 u) (199 + 9 * r + 3 + n) 5 v) (199 + 9 * r) 4 ((n : Int) + 1)) := by
              unfold f_X8_addJoin
              rw [wy_x_fR hI hR hx, if_pos h, wy_bx rfl, Int.toNat_natCast, wy_x_cK hI hR r8 hy hz, if_pos hk, wy_bx rfl, wy_x_cK hI hR r8 hu hv, if_pos hl, wy_bx rfl, wq_w_id hy.1 hy.2, wq_w_id hu.1 hu.2, if_neg cyu, wy_x_room hI hR r8, if_pos c6, wy_bx rfl, wy_c15 (wy_R_co hR) r8, hn, wy_ix (by omega) (by omega) (by omega), Int.toNat_natCast]
              unfold f_X1_join
              rw [wy_lt, wy_lt, wy_lt, wy_lt, wy_bd rfl, wy_lt, wy_set_at (k := 199 + 9 * r) (j := 4) rfl rfl, wy_set_ne (by omega), wy_set_ne (by omega), wy_set_ne (by omega), wy_set_ne (by omega), wy_set_ne (by omega), wy_c15 (wy_R_co hR) r8, hn]
            have k15 : wq_set M 0 42 0 15 r = (n : Int) := by rw [wy_set_ne (by omega), q15, hn]
            have k15a : ∀ j w, wq_set (wq_set M 0 42 0) 20 j w 15 r = (n : Int) := fun j w => by rw [wy_set_ne (by omega), k15]
            have k15b : ∀ j w j' w', wq_set (wq_set (wq_set M 0 42 0) 20 j w) 21 j' w' 15 r = (n : Int) := fun j w j' w' => by rw [wy_set_ne (by omega), k15a]
            unfold j_X9_addJoin_64
            rw [if_neg (by omega), wy_bd wy_ase3, if_neg (by decide), wy_ix (by omega) (by omega) (by omega), Int.toNat_natCast, k15, wy_ix (by omega) (by omega) (by omega), wy_n6, wy_lt, wy_ix (by omega) (by omega) (by omega), Int.toNat_natCast, k15a, wy_ix (by omega) (by omega) (by omega), wy_n6, wy_lt, wy_bd (wy_m_adds r8 n6 (k15b _ _ _ _)), h8]
            refine Or.inl ⟨_, _, _, _, rfl, rfl, ?_, wy_iv_addJoin (so := y) (co := z) (ot := u) (oc := v) hI hk.1 (by omega) (by omega) hl.1 (by omega) (by omega) cyu hn n6, ?_, ?_, fun hW t' ht' => ?_⟩
            · rw [wy_set_ne (by omega), wy_set_ne (by omega), wy_set_ne (by omega), wy_set_ne (by omega), wy_set_ne (by omega), wy_set_ne (by omega), wy_42]
            · exact wy_R_set (wy_R_set (wy_R_set (wy_R_set (wy_R_set (wy_R_set hR _ (f₀ := 17) (i₀ := 6 * r + n) (wy_in_c (by omega) r8 n6) (wy_k6 n6).symm rfl) _ (f₀ := 18) (i₀ := 6 * r + n) (wy_in_c (by omega) r8 n6) (wy_k6 n6).symm rfl) _ (f₀ := 16) (i₀ := 6 * r + n) (wy_in_c (by omega) r8 n6) (wy_k6 n6).symm rfl) _ (f₀ := 20) (i₀ := 6 * r + n) (wy_in_c (by omega) r8 n6) (wy_k6 n6).symm rfl) _ (f₀ := 21) (i₀ := 6 * r + n) (wy_in_c (by omega) r8 n6) (wy_k6 n6).symm rfl) _ (f₀ := 15) (i₀ := r) ⟨r8, fun e => by omega⟩ rfl rfl
            · rw [wy_set_cm (k := 16) (k' := 20) (by omega), wy_set_cm (k := 18) (k' := 20) (by omega), wy_set_cm (k := 17) (k' := 20) (by omega), wy_set_cm (k := 16) (k' := 21) (by omega), wy_set_cm (k := 18) (k' := 21) (by omega), wy_set_cm (k := 17) (k' := 21) (by omega), wy_set_cm (k := 18) (k' := 16) (by omega), wy_set_cm (k := 17) (k' := 16) (by omega)]
              exact wy_M_set (wy_M_set (wy_M_set (wy_M_set (wy_M_set (wy_M_set hM' _ (by omega)) _ (by omega)) _ (by omega)) _ (by omega)) _ (by omega)) _ (by omega)
            · simp (disch := omega) only [wy_set_ne] at ht' ⊢
              exact hW t' ht'
          · have h8 : f_X8_addJoin (r : Int) y z u v S = some (2 + 1, 0, S) := by
              unfold f_X8_addJoin
              rw [wy_x_fR hI hR hx, if_pos h, wy_bx rfl, Int.toNat_natCast, wy_x_cK hI hR r8 hy hz, if_pos hk, wy_bx rfl, wy_x_cK hI hR r8 hu hv, if_pos hl, wy_bx rfl, wq_w_id hy.1 hy.2, wq_w_id hu.1 hu.2, if_neg cyu, wy_x_room hI hR r8, if_neg c6, wy_bx1 rfl]
            unfold j_X9_addJoin_64
            rw [if_pos (by omega), wy_bd wy_ase2, if_pos (by decide)]
            exact Or.inr ⟨2, 0, h8, rfl, by decide⟩
      · have h8 : f_X8_addJoin (r : Int) y z u v S = some (0 + 1, 0, S) := by
          unfold f_X8_addJoin
          rw [wy_x_fR hI hR hx, if_pos h, wy_bx rfl, Int.toNat_natCast, wy_x_cK hI hR r8 hy hz, if_pos hk, wy_bx rfl, wy_x_cK hI hR r8 hu hv, if_neg hl, wy_bx1 rfl]
        have h9 : f_X9_addJoin (r : Int) y z u v M = some (0, wq_set M 0 42 1) := by
          unfold f_X9_addJoin
          rw [wy_bd (wy_m_isK hI hM hx hy hz), if_pos hK, if_neg (c := wq_w 1 = 0) (by decide), wy_bd (wy_m_isK hI hM hx hu hv), if_neg (fun h' => hl ((wy_isK_r h).mp h')), if_pos (c := wq_w 0 = 0) (by decide), bad]
        exact Or.inr ⟨0, 0, h8, h9, by decide⟩
    · have h8 : f_X8_addJoin (r : Int) y z u v S = some (0 + 1, 0, S) := by
        unfold f_X8_addJoin
        rw [wy_x_fR hI hR hx, if_pos h, wy_bx rfl, Int.toNat_natCast, wy_x_cK hI hR r8 hy hz, if_neg hk, wy_bx1 rfl]
      have h9 : f_X9_addJoin (r : Int) y z u v M = some (0, wq_set M 0 42 1) := by
        unfold f_X9_addJoin
        rw [wy_bd (wy_m_isK hI hM hx hy hz), if_neg (fun h' => hk ((wy_isK_r h).mp h')), if_pos (c := wq_w 0 = 0) (by decide), bad]
      exact Or.inr ⟨0, 0, h8, h9, by decide⟩
  · have h8 : f_X8_addJoin x y z u v S = some (0 + 1, 0, S) := by
      unfold f_X8_addJoin
      rw [wy_x_fR hI hR hx, if_neg h, wy_bx1 rfl]
    have h9 : f_X9_addJoin x y z u v M = some (0, wq_set M 0 42 1) := by
      unfold f_X9_addJoin
      rw [wy_bd (wy_m_isK hI hM hx hy hz), if_neg (fun h' : wy_isK P x y z => h h'.1.1), if_pos (c := wq_w 0 = 0) (by decide), bad]
    exact Or.inr ⟨0, 0, h8, h9, by decide⟩
end
end
section
/-! THE LAW: what its wrappers give, what it asks -/
def wy_LI (P S : wq_St) : Prop := wy_iv P ∧ wy_iW P ∧ wy_R wy_al (wq_cls S) P ∧ wy_M wy_al (wq_mdl S) P
def wy_kab (f i : Nat) : Bool := !(wy_inb f i) || decide (wy_ka f i < 284)
theorem wy_ka_all : wy_allb (fun f => wy_allb (fun i => wy_kab f i) 480) 29 = true := by decide +kernel
theorem wy_ka_lt {f i : Nat} (h : wy_in f i) : wy_ka f i < 284 := by
  have hi := Nat.lt_of_lt_of_le h.1 (wy_nb_le f)
  have hf : f < 29 := Nat.lt_of_not_le fun hh => by
    have h1 := h.1
    rw [wy_nb_hi hh] at h1
    omega
  have h1 := wy_allb_t (wy_allb_t wy_ka_all f hf) i hi
  unfold wy_kab at h1
  rw [wy_inb_t h] at h1
  simpa using h1
section
variable {P S A B : wq_St}
theorem wy_cls_m : wq_cls (wq_emb 284 32 A B) = wq_cls A := by
  funext k
  unfold wq_cls wq_emb
  by_cases h : k < 284
  · rw [if_pos h, if_pos h, if_neg (by omega)]
  · rw [if_neg h, if_neg h]
theorem wy_mdl_m : ∀ k, k < 32 → wq_mdl (wq_emb 284 32 A B) k = B k := fun k h => by
  unfold wq_mdl wq_emb
  rw [if_pos h, if_pos (by omega), Nat.add_sub_cancel_left]
theorem wy_mdl_c : wq_mdl (wq_emb 0 284 A B) = wq_mdl A := by
  funext k
  unfold wq_mdl wq_emb
  by_cases h : k < 32
  · rw [if_pos h, if_pos h, if_neg (by omega)]
  · rw [if_neg h, if_neg h]
theorem wy_cls_c : ∀ k, k < 284 → wq_cls (wq_emb 0 284 A B) k = B k := fun k h => by
  unfold wq_cls wq_emb
  rw [if_pos h, if_pos (by omega), Nat.sub_zero]
theorem wy_cls_s {j : Nat} {v : Int} : wq_cls (wq_set A 316 j v) = wq_cls A := by
  funext k
  unfold wq_cls
  by_cases h : k < 284
  · rw [if_pos h, if_pos h]
    funext i
    exact wy_set_ne (by omega)
  · rw [if_neg h, if_neg h]
theorem wy_mdl_s {j : Nat} {v : Int} : wq_mdl (wq_set A 316 j v) = wq_mdl A := by
  funext k
  unfold wq_mdl
  by_cases h : k < 32
  · rw [if_pos h, if_pos h]
    funext i
    exact wy_set_ne (by omega)
  · rw [if_neg h, if_neg h]
theorem wy_LR (h : wy_R wy_al B P) : wy_R wy_al (wq_cls (wq_emb 0 284 A B)) P := fun f i hc hi => by
  rw [wy_cls_c _ (wy_ka_lt hi)]
  exact h f i hc hi
theorem wy_LM (h : wy_M wy_al B P) : wy_M wy_al (wq_mdl (wq_emb 284 32 A B)) P := fun f i h1 h2 h3 h4 => by
  rw [wy_mdl_m _ (by omega)]
  exact h f i h1 h2 h3 h4
/-- what a wrapper makes of the class's outcome -/
def wy_wI (k : Nat → Int) (q : Int → wq_St → wq_St) (x8 : Option (Nat × Int × wq_St)) (S : wq_St) (fL : Option (Int × wq_St)) : Prop :=
  (∀ r S2, x8 = some (0, r, S2) → fL = some (0, q r (wq_emb 0 284 S S2))) ∧ ∀ n z S2, x8 = some (n + 1, z, S2) → k (n + 1) ≠ 0 → fL = some (k (n + 1), wq_emb 0 284 S S2)
def wy_qi (r : Int) (S : wq_St) : wq_St := wq_set S 316 0 (wq_w r)
def wy_qb (r : Int) (S : wq_St) : wq_St := wq_set S 316 0 (if wq_w r = 0 then 0 else 1)
def wy_qv (_ : Int) (S : wq_St) : wq_St := S
def wy_t1 (S : wq_St) (n : Nat) (S2 : wq_St) : Option (Int × wq_St) := if n = 1 then wq_lt (wq_emb 0 284 S S2) fun S5 => some (1, S5) else none
def wy_t2 (S : wq_St) (n : Nat) (S2 : wq_St) : Option (Int × wq_St) := if n = 2 then wq_lt (wq_emb 0 284 S S2) fun S5 => some (1, S5) else none
def wy_t12 (S : wq_St) (n : Nat) (S2 : wq_St) : Option (Int × wq_St) := if n = 1 then wq_lt (wq_emb 0 284 S S2) fun S5 => some (1, S5) else if n = 2 then wq_lt (wq_emb 0 284 S S2) fun S5 => some (2, S5) else none
def wy_t13 (S : wq_St) (n : Nat) (S2 : wq_St) : Option (Int × wq_St) := if n = 1 then wq_lt (wq_emb 0 284 S S2) fun S5 => some (1, S5) else if n = 3 then wq_lt (wq_emb 0 284 S S2) fun S5 => some (2, S5) else none
def wy_t23 (S : wq_St) (n : Nat) (S2 : wq_St) : Option (Int × wq_St) := if n = 2 then wq_lt (wq_emb 0 284 S S2) fun S5 => some (1, S5) else if n = 3 then wq_lt (wq_emb 0 284 S S2) fun S5 => some (2, S5) else none
def wy_t123 (S : wq_St) (n : Nat) (S2 : wq_St) : Option (Int × wq_St) := if n = 1 then wq_lt (wq_emb 0 284 S S2) fun S5 => some (1, S5) else if n = 2 then wq_lt (wq_emb 0 284 S S2) fun S5 => some (2, S5) else if n = 3 then wq_lt (wq_emb 0 284 S S2) fun S5 => some (3, S5) else none
def wy_ri (S : wq_St) (r1 : Int) (S2 : wq_St) : Option (Int × wq_St) := wq_lt (wq_emb 0 284 S S2) fun S3 => wq_ix 0 1 fun t4 => some (0, wq_set S3 316 t4 (wq_w r1))
def wy_rb (S : wq_St) (r1 : Int) (S2 : wq_St) : Option (Int × wq_St) := wq_lt (wq_emb 0 284 S S2) fun S3 => if wq_w r1 = 0 then wq_ix 0 1 fun t4 => some (0, wq_set S3 316 t4 0) else wq_ix 0 1 fun t5 => some (0, wq_set S3 316 t5 1)
def wy_rv (S : wq_St) (_ : Int) (S2 : wq_St) : Option (Int × wq_St) := wq_lt (wq_emb 0 284 S S2) fun S3 => some (0, S3)
theorem wy_x01 {α : Type} {k : Nat → Option α} : wq_ix 0 1 k = k 0 := wq_ix_t 0 rfl (by omega) (by omega)
theorem wy_ri_e (r : Int) (S2 : wq_St) : wy_ri S r S2 = some (0, wy_qi r (wq_emb 0 284 S S2)) := by
  unfold wy_ri
  rw [wy_lt, wy_x01]
  rfl
theorem wy_rb_e (r : Int) (S2 : wq_St) : wy_rb S r S2 = some (0, wy_qb r (wq_emb 0 284 S S2)) := by
  unfold wy_rb wy_qb
  rw [wy_lt]
  by_cases h : wq_w r = 0
  · rw [if_pos h, if_pos h, wy_x01]
  · rw [if_neg h, if_neg h, wy_x01]
theorem wy_rv_e (r : Int) (S2 : wq_St) : wy_rv S r S2 = some (0, wy_qv r (wq_emb 0 284 S S2)) := rfl
theorem wy_t1_e (n : Nat) (S2 : wq_St) (h : wy_k1 n ≠ 0) : wy_t1 S n S2 = some (wy_k1 n, wq_emb 0 284 S S2) := by
  unfold wy_k1 at h ⊢
  unfold wy_t1
  by_cases c1 : n = 1
  · rw [if_pos c1, if_pos c1, wy_lt]
  · rw [if_neg c1] at h
    exact absurd rfl h
theorem wy_t2_e (n : Nat) (S2 : wq_St) (h : wy_k2 n ≠ 0) : wy_t2 S n S2 = some (wy_k2 n, wq_emb 0 284 S S2) := by
  unfold wy_k2 at h ⊢
  unfold wy_t2
  by_cases c1 : n = 2
  · rw [if_pos c1, if_pos c1, wy_lt]
  · rw [if_neg c1] at h
    exact absurd rfl h
theorem wy_t12_e (n : Nat) (S2 : wq_St) (h : wy_k12 n ≠ 0) : wy_t12 S n S2 = some (wy_k12 n, wq_emb 0 284 S S2) := by
  unfold wy_k12 at h ⊢
  unfold wy_t12
  by_cases c1 : n = 1
  · rw [if_pos c1, if_pos c1, wy_lt]
  · rw [if_neg c1] at h
    rw [if_neg c1, if_neg c1]
    by_cases c2 : n = 2
    · rw [if_pos c2, if_pos c2, wy_lt]
    · rw [if_neg c2] at h
      exact absurd rfl h
theorem wy_t13_e (n : Nat) (S2 : wq_St) (h : wy_k13 n ≠ 0) : wy_t13 S n S2 = some (wy_k13 n, wq_emb 0 284 S S2) := by
  unfold wy_k13 at h ⊢
  unfold wy_t13
  by_cases c1 : n = 1
  · rw [if_pos c1, if_pos c1, wy_lt]
  · rw [if_neg c1] at h
    rw [if_neg c1, if_neg c1]
    by_cases c2 : n = 3
    · rw [if_pos c2, if_pos c2, wy_lt]
    · rw [if_neg c2] at h
      exact absurd rfl h
theorem wy_t23_e (n : Nat) (S2 : wq_St) (h : wy_k23 n ≠ 0) : wy_t23 S n S2 = some (wy_k23 n, wq_emb 0 284 S S2) := by
  unfold wy_k23 at h ⊢
  unfold wy_t23
  by_cases c1 : n = 2
  · rw [if_pos c1, if_pos c1, wy_lt]
  · rw [if_neg c1] at h
    rw [if_neg c1, if_neg c1]
    by_cases c2 : n = 3
    · rw [if_pos c2, if_pos c2, wy_lt]
    · rw [if_neg c2] at h
      exact absurd rfl h
theorem wy_t123_e (n : Nat) (S2 : wq_St) (h : wy_k123 n ≠ 0) : wy_t123 S n S2 = some (wy_k123 n, wq_emb 0 284 S S2) := by
  unfold wy_k123 at h ⊢
  unfold wy_t123
  by_cases c1 : n = 1
  · rw [if_pos c1, if_pos c1, wy_lt]
  · rw [if_neg c1] at h
    rw [if_neg c1, if_neg c1]
    by_cases c2 : n = 2
    · rw [if_pos c2, if_pos c2, wy_lt]
    · rw [if_neg c2] at h
      rw [if_neg c2, if_neg c2]
      by_cases c3 : n = 3
      · rw [if_pos c3, if_pos c3, wy_lt]
      · rw [if_neg c3] at h
        exact absurd rfl h
theorem wy_wI_of {k : Nat → Int} {q : Int → wq_St → wq_St} {rr : wq_St → Int → wq_St → Option (Int × wq_St)} {tt : wq_St → Nat → wq_St → Option (Int × wq_St)} (hr : ∀ S r S2, rr S r S2 = some (0, q r (wq_emb 0 284 S S2))) (ht : ∀ S n S2, k n ≠ 0 → tt S n S2 = some (k n, wq_emb 0 284 S S2)) (x8 : Option (Nat × Int × wq_St)) (S : wq_St) : wy_wI k q x8 S (wq_bh x8 (rr S) (tt S)) := by
  refine ⟨fun r S2 h => ?_, fun n z S2 h hk => ?_⟩
  · rw [h]
    exact hr S r S2
  · rw [h]
    exact ht S (n + 1) S2 hk
/-- behind the call: the law asks whether both threw alike -/
def wy_asks (F9 : wq_St → Option (Int × wq_St)) (cmp : Int → wq_St → Option (Int × wq_St)) (rec : wq_St → Option (Int × wq_St)) (r3 : Int) (S4 : wq_St) : Option (Int × wq_St) :=
  wq_bd (F9 (wq_mdl S4)) fun r7 S8 =>
  wq_lt (wq_emb 284 32 S4 S8) fun S9 =>
  wq_bd (f_X9_thrown (wq_mdl S9)) fun r10 S11 =>
  wq_lt (wq_emb 284 32 S9 S11) fun S12 =>
  if wq_w r10 = wq_w r3 then
    if wq_w r3 = 0 then
      cmp r7 S12
    else
      rec S12
  else
    some (0, S12)
theorem wy_lawQ {k : Nat → Int} {q : Int → wq_St → wq_St} {x8 : Option (Nat × Int × wq_St)} {fL : Option (Int × wq_St)} {F9 : wq_St → Option (Int × wq_St)} {cmp : Int → wq_St → Option (Int × wq_St)} {rec : wq_St → Option (Int × wq_St)} {G : Int → wq_St → Option (Int × wq_St)}
    (hk4 : ∀ n, 0 ≤ k n ∧ k n ≤ 3) (hL : wy_LI P S) (hc : wy_cll k P (wq_cls S) (wq_mdl S) x8 (F9 (wq_mdl S))) (hw : wy_wI k q x8 S fL) (hq1 : ∀ r A, wq_cls (q r A) = wq_cls A) (hq2 : ∀ r A, wq_mdl (q r A) = wq_mdl A) (hq3 : ∀ r A B, cmp r (wq_emb 284 32 (wq_emb 284 32 (q r A) B) (wq_mdl (wq_emb 284 32 (q r A) B))) = rec (wq_emb 284 32 (wq_emb 284 32 (q r A) B) (wq_mdl (wq_emb 284 32 (q r A) B))))
    (hG : ∀ r3 S4, G r3 S4 = wy_asks F9 cmp rec r3 S4) : ∃ P' S', wy_LI P' S' ∧ wq_bd fL G = rec S' := by
  obtain ⟨hI, hW, hR, hM⟩ := hL
  rcases hc with ⟨P', r, S2, M2, h8, h9, h42, hI', hR', hM', hW'⟩ | ⟨n, b, h8, h9, hk⟩
  · have e1 := hw.1 r S2 h8
    have e2 : wq_mdl (q r (wq_emb 0 284 S S2)) = wq_mdl S := by rw [hq2, wy_mdl_c]
    rw [wy_bd e1, hG]
    unfold wy_asks f_X9_thrown
    rw [e2, wy_bd h9, wy_lt, wy_bd rfl, wy_lt, wy_mdl_m 0 (by omega), h42, if_pos rfl, if_pos wq_w_0, hq3]
    refine ⟨P', _, ⟨hI', hW' hW, ?_, ?_⟩, rfl⟩
    · rw [wy_cls_m, wy_cls_m, hq1]
      exact wy_LR hR'
    · exact wy_LM (wy_LM hM')
  · have e1 := hw.2 n 0 _ h8 hk
    have hk3 := hk4 (n + 1)
    rw [wy_bd e1, hG]
    unfold wy_asks f_X9_thrown
    rw [wy_mdl_c, wy_bd h9, wy_lt, wy_bd rfl, wy_lt, wy_mdl_m 0 (by omega), wy_42, if_pos rfl, wq_w_id (x := k (n + 1)) (by omega) (by omega), if_neg hk]
    have fin : wy_LI P (wq_emb 284 32 (wq_emb 284 32 (wq_emb 0 284 S (wq_cls S)) (wq_set (wq_mdl S) 0 42 (k (n + 1)))) (wq_mdl (wq_emb 284 32 (wq_emb 0 284 S (wq_cls S)) (wq_set (wq_mdl S) 0 42 (k (n + 1)))))) := by
      refine ⟨hI, hW, ?_, ?_⟩
      · rw [wy_cls_m, wy_cls_m]
        exact wy_LR hR
      · exact wy_LM (wy_LM (wy_M_42 hM))
    exact ⟨P, _, fin, rfl⟩
theorem wy_k1_b (n : Nat) : 0 ≤ wy_k1 n ∧ wy_k1 n ≤ 3 := by
  unfold wy_k1
  split <;> omega
theorem wy_k2_b (n : Nat) : 0 ≤ wy_k2 n ∧ wy_k2 n ≤ 3 := by
  unfold wy_k2
  split <;> omega
theorem wy_k12_b (n : Nat) : 0 ≤ wy_k12 n ∧ wy_k12 n ≤ 3 := by
  unfold wy_k12
  repeat' split
  all_goals omega
theorem wy_k13_b (n : Nat) : 0 ≤ wy_k13 n ∧ wy_k13 n ≤ 3 := by
  unfold wy_k13
  repeat' split
  all_goals omega
theorem wy_k23_b (n : Nat) : 0 ≤ wy_k23 n ∧ wy_k23 n ≤ 3 := by
  unfold wy_k23
  repeat' split
  all_goals omega
theorem wy_k123_b (n : Nat) : 0 ≤ wy_k123 n ∧ wy_k123 n ≤ 3 := by
  unfold wy_k123
  repeat' split
  all_goals omega
/-! answers that are numbers, answers that are true or false, calls without an answer -/
def wy_cio (rec : wq_St → Option (Int × wq_St)) (r7 : Int) (S12 : wq_St) : Option (Int × wq_St) := wq_ix 0 1 fun t13 => if wq_w (wq_cmp (S12 316 t13) (wq_w r7)) = 0 then rec S12 else some (0, S12)
def wy_cbo (rec : wq_St → Option (Int × wq_St)) (r7 : Int) (S12 : wq_St) : Option (Int × wq_St) := wq_ix 0 1 fun t61 => if wq_w r7 = 0 then (if wq_w (wq_cmp (S12 316 t61) 0) = 0 then rec S12 else some (0, S12)) else (if wq_w (wq_cmp (S12 316 t61) 1) = 0 then rec S12 else some (0, S12))
theorem wy_cmp_r (a : Int) : wq_w (wq_cmp a a) = 0 := by
  unfold wq_cmp
  rw [if_neg (by omega), if_pos rfl]
  rfl
theorem wy_emb_316 {j : Nat} : wq_emb 284 32 A B 316 j = A 316 j := by
  unfold wq_emb
  rw [if_neg (by omega)]
variable {k : Nat → Int} {x8 : Option (Nat × Int × wq_St)} {fL : Option (Int × wq_St)} {F9 : wq_St → Option (Int × wq_St)} {rec : wq_St → Option (Int × wq_St)} {G : Int → wq_St → Option (Int × wq_St)}
theorem wy_lawI (hL : wy_LI P S) (hk4 : ∀ n, 0 ≤ k n ∧ k n ≤ 3) (hc : wy_cll k P (wq_cls S) (wq_mdl S) x8 (F9 (wq_mdl S))) (hw : wy_wI k wy_qi x8 S fL) (hG : ∀ r3 S4, G r3 S4 = wy_asks F9 (wy_cio rec) rec r3 S4) : ∃ P' S', wy_LI P' S' ∧ wq_bd fL G = rec S' := by
  refine wy_lawQ hk4 hL hc hw (fun r A => wy_cls_s) (fun r A => wy_mdl_s) (fun r A B => ?_) hG
  unfold wy_cio
  have e : wy_qi r A 316 0 = wq_w r := wy_set_at rfl rfl
  rw [wy_x01, wy_emb_316, wy_emb_316, e, if_pos (wy_cmp_r _)]
theorem wy_lawB (hL : wy_LI P S) (hk4 : ∀ n, 0 ≤ k n ∧ k n ≤ 3) (hc : wy_cll k P (wq_cls S) (wq_mdl S) x8 (F9 (wq_mdl S))) (hw : wy_wI k wy_qb x8 S fL) (hG : ∀ r3 S4, G r3 S4 = wy_asks F9 (wy_cbo rec) rec r3 S4) : ∃ P' S', wy_LI P' S' ∧ wq_bd fL G = rec S' := by
  refine wy_lawQ hk4 hL hc hw (fun r A => wy_cls_s) (fun r A => wy_mdl_s) (fun r A B => ?_) hG
  unfold wy_cbo
  have e : wy_qb r A 316 0 = if wq_w r = 0 then 0 else 1 := wy_set_at rfl rfl
  rw [wy_x01, wy_emb_316, wy_emb_316, e]
  by_cases c : wq_w r = 0
  · rw [if_pos c, if_pos c, if_pos (wy_cmp_r _)]
  · rw [if_neg c, if_neg c, if_pos (wy_cmp_r _)]
theorem wy_lawV (hL : wy_LI P S) (hk4 : ∀ n, 0 ≤ k n ∧ k n ≤ 3) (hc : wy_cll k P (wq_cls S) (wq_mdl S) x8 (F9 (wq_mdl S))) (hw : wy_wI k wy_qv x8 S fL) (hG : ∀ r3 S4, G r3 S4 = wy_asks F9 (fun _ => rec) rec r3 S4) : ∃ P' S', wy_LI P' S' ∧ wq_bd fL G = rec S' :=
  wy_lawQ hk4 hL hc hw (fun r A => rfl) (fun r A => rfl) (fun r A B => rfl) hG
theorem wy_LI_6 (hL : wy_LI P S) : wy_iv P ∧ wy_R wy_al (wq_cls S) P ∧ wy_M wy_al (wq_mdl S) P := ⟨hL.1, hL.2.2.1, hL.2.2.2⟩
/-- numbers that are only asked for -/
theorem wy_law0 {f8 f9 : wq_St → Option (Int × wq_St)} {c j : Nat} (hj : j = 29 ∨ j = 30 ∨ j = 31 ∨ j = 32) (hL : wy_LI P S) (h8 : ∀ A, f8 A = some (A 282 c, A)) (hR : wq_cls S 282 c = P 0 j) (h9 : ∀ A, f9 A = some (A 0 j, wq_set A 0 42 0)) : ∃ P' S', wy_LI P' S' ∧ (wq_bd (f8 (wq_cls S)) fun r466 S467 => wq_lt (wq_emb 0 284 S S467) fun S468 => wq_bd (f9 (wq_mdl S468)) fun r469 S470 => wq_lt (wq_emb 284 32 S468 S470) fun S471 => if wq_w r466 = wq_w r469 then rec S471 else some (0, S471)) = rec S' := by
  obtain ⟨hI, hW, hR', hM⟩ := hL
  rw [wy_bd (h8 _), wy_lt, wy_mdl_c, wy_bd (h9 _), wy_lt, hR, wy_ma0 hM (i := j) (by omega), if_pos rfl]
  refine ⟨P, _, ⟨hI, hW, ?_, ?_⟩, rfl⟩
  · rw [wy_cls_m]
    exact wy_LR hR'
  · exact wy_LM (wy_M_42 hM)
end
end
section
/-! THE LAW: one round -/
set_option maxHeartbeats 4000000 in
theorem wy_law_step {X : Nat → Int} (hX : ∀ j, wy_rg (X j)) {LL : Nat} (hLL : LL ≤ 3072) {i : Nat} (hi : i + 6 ≤ LL) {P S : wq_St} (hL : wy_LI P S) (kx : wq_St → Option (Int × wq_St)) (rec : Int → wq_St → Option (Int × wq_St)) : ∃ P' S', wy_LI P' S' ∧ b_L_law X LL kx rec (i : Int) S = rec ((i : Int) + 6) S' := by
  have hLo := hL
  obtain ⟨hI, hW, hR, hM⟩ := hLo
  unfold b_L_law
  rw [wq_w_id (x := (LL : Int) - 6) (by omega) (by omega), wq_w_id (x := (i : Int)) (by omega) (by omega), if_neg (by omega), wy_ix (by omega) (by omega) (by omega)]
  generalize wq_w (wq_and (X ((i : Int)).toNat) 63) = v
  by_cases h0 : v = 0
  · rw [if_pos h0, wy_ix (by omega) (by omega) (by omega)]
    exact wy_lawI (rec := rec ((i : Int) + 6)) (F9 := f_X9_addTable (X ((i : Int) + 1).toNat)) hL wy_k23_b (wy_c_addTable hI hR hM (hX _)) (wy_wI_of (fun _ => wy_ri_e) (fun _ => wy_t23_e) (f_X8_addTable (X ((i : Int) + 1).toNat) (wq_cls S)) S) (fun r3 S4 => by
      show wq_ix _ LL _ = _
      rw [wy_ix (by omega) (by omega) (by omega)]
      rfl)
  rw [if_neg h0]
  by_cases h1 : v = 1
  · rw [if_pos h1, wy_ix (by omega) (by omega) (by omega), wy_ix (by omega) (by omega) (by omega), wy_ix (by omega) (by omega) (by omega), wy_ix (by omega) (by omega) (by omega)]
    exact wy_lawI (rec := rec ((i : Int) + 6)) (F9 := f_X9_insert (X ((i : Int) + 1).toNat) (X ((i : Int) + 2).toNat) (X ((i : Int) + 3).toNat) (X ((i : Int) + 4).toNat)) hL wy_k123_b (wy_c_insert hI hW hR hM (hX _) (hX _) (hX _) (hX _)) (wy_wI_of (fun _ => wy_ri_e) (fun _ => wy_t123_e) (f_X8_insert (X ((i : Int) + 1).toNat) (X ((i : Int) + 2).toNat) (X ((i : Int) + 3).toNat) (X ((i : Int) + 4).toNat) (wq_cls S)) S) (fun r3 S4 => by
      show wq_ix _ LL _ = _
      rw [wy_ix (by omega) (by omega) (by omega), wy_ix (by omega) (by omega) (by omega), wy_ix (by omega) (by omega) (by omega), wy_ix (by omega) (by omega) (by omega)]
      rfl)
  rw [if_neg h1]
  by_cases h2 : v = 2
  · rw [if_pos h2, wy_ix (by omega) (by omega) (by omega), wy_ix (by omega) (by omega) (by omega)]
    exact wy_lawI (rec := rec ((i : Int) + 6)) (F9 := f_X9_delete (X ((i : Int) + 1).toNat) (X ((i : Int) + 2).toNat)) hL wy_k1_b (wy_c_delete hI hR hM (hX _) (hX _)) (wy_wI_of (fun _ => wy_ri_e) (fun _ => wy_t1_e) (f_X8_delete (X ((i : Int) + 1).toNat) (X ((i : Int) + 2).toNat) (wq_cls S)) S) (fun r3 S4 => by
      show wq_ix _ LL _ = _
      rw [wy_ix (by omega) (by omega) (by omega), wy_ix (by omega) (by omega) (by omega)]
      rfl)
  rw [if_neg h2]
  by_cases h3 : v = 3
  · rw [if_pos h3, wy_ix (by omega) (by omega) (by omega), wy_ix (by omega) (by omega) (by omega), wy_ix (by omega) (by omega) (by omega)]
    by_cases hb : wq_w (X ((i : Int) + 3).toNat) = 0
    · rw [if_pos hb]
      exact wy_lawB (rec := rec ((i : Int) + 6)) (F9 := f_X9_setIndex (X ((i : Int) + 1).toNat) (X ((i : Int) + 2).toNat) 0) hL wy_k1_b (wy_c_setIndex hI hR hM (hX _) (hX _) (Or.inl rfl)) (wy_wI_of (fun _ => wy_rb_e) (fun _ => wy_t1_e) (f_X8_setIndex (X ((i : Int) + 1).toNat) (X ((i : Int) + 2).toNat) 0 (wq_cls S)) S) (fun r3 S4 => by
        show wq_ix _ LL _ = _
        rw [wy_ix (by omega) (by omega) (by omega), wy_ix (by omega) (by omega) (by omega), wy_ix (by omega) (by omega) (by omega), if_pos hb]
        rfl)
    · rw [if_neg hb]
      exact wy_lawB (rec := rec ((i : Int) + 6)) (F9 := f_X9_setIndex (X ((i : Int) + 1).toNat) (X ((i : Int) + 2).toNat) 1) hL wy_k1_b (wy_c_setIndex hI hR hM (hX _) (hX _) (Or.inr rfl)) (wy_wI_of (fun _ => wy_rb_e) (fun _ => wy_t1_e) (f_X8_setIndex (X ((i : Int) + 1).toNat) (X ((i : Int) + 2).toNat) 1 (wq_cls S)) S) (fun r3 S4 => by
        show wq_ix _ LL _ = _
        rw [wy_ix (by omega) (by omega) (by omega), wy_ix (by omega) (by omega) (by omega), wy_ix (by omega) (by omega) (by omega), if_neg hb]
        rfl)
  rw [if_neg h3]
  by_cases h4 : v = 4
  · rw [if_pos h4, wy_ix (by omega) (by omega) (by omega)]
    exact wy_lawI (rec := rec ((i : Int) + 6)) (F9 := f_X9_rows (X ((i : Int) + 1).toNat)) hL wy_k1_b (wy_c_rows hI hR hM (hX _)) (wy_wI_of (fun _ => wy_ri_e) (fun _ => wy_t1_e) (f_X8_rows (X ((i : Int) + 1).toNat) (wq_cls S)) S) (fun r3 S4 => by
      show wq_ix _ LL _ = _
      rw [wy_ix (by omega) (by omega) (by omega)]
      rfl)
  rw [if_neg h4]
  by_cases h5 : v = 5
  · rw [if_pos h5, wy_ix (by omega) (by omega) (by omega), wy_ix (by omega) (by omega) (by omega), wy_ix (by omega) (by omega) (by omega)]
    exact wy_lawI (rec := rec ((i : Int) + 6)) (F9 := f_X9_value (X ((i : Int) + 1).toNat) (X ((i : Int) + 2).toNat) (X ((i : Int) + 3).toNat)) hL wy_k1_b (wy_c_value hI hR hM (hX _) (hX _) (hX _)) (wy_wI_of (fun _ => wy_ri_e) (fun _ => wy_t1_e) (f_X8_value (X ((i : Int) + 1).toNat) (X ((i : Int) + 2).toNat) (X ((i : Int) + 3).toNat) (wq_cls S)) S) (fun r3 S4 => by
      show wq_ix _ LL _ = _
      rw [wy_ix (by omega) (by omega) (by omega), wy_ix (by omega) (by omega) (by omega), wy_ix (by omega) (by omega) (by omega)]
      rfl)
  rw [if_neg h5]
  by_cases h6 : v = 6
  · rw [if_pos h6, wy_ix (by omega) (by omega) (by omega), wy_ix (by omega) (by omega) (by omega)]
    exact wy_lawI (rec := rec ((i : Int) + 6)) (F9 := f_X9_renew (X ((i : Int) + 1).toNat) (X ((i : Int) + 2).toNat)) hL wy_k12_b (wy_c_renew hI hR hM (hX _) (hX _)) (wy_wI_of (fun _ => wy_ri_e) (fun _ => wy_t12_e) (f_X8_renew (X ((i : Int) + 1).toNat) (X ((i : Int) + 2).toNat) (wq_cls S)) S) (fun r3 S4 => by
      show wq_ix _ LL _ = _
      rw [wy_ix (by omega) (by omega) (by omega), wy_ix (by omega) (by omega) (by omega)]
      rfl)
  rw [if_neg h6]
  by_cases h7 : v = 7
  · rw [if_pos h7, wy_ix (by omega) (by omega) (by omega)]
    exact wy_lawI (rec := rec ((i : Int) + 6)) (F9 := f_X9_setStep (X ((i : Int) + 1).toNat)) hL wy_k2_b (wy_c_setStep hI hR hM (hX _)) (wy_wI_of (fun _ => wy_ri_e) (fun _ => wy_t2_e) (f_X8_setStep (X ((i : Int) + 1).toNat) (wq_cls S)) S) (fun r3 S4 => by
      show wq_ix _ LL _ = _
      rw [wy_ix (by omega) (by omega) (by omega)]
      rfl)
  rw [if_neg h7]
  by_cases h8 : v = 8
  · rw [if_pos h8, wy_ix (by omega) (by omega) (by omega)]
    exact wy_lawI (rec := rec ((i : Int) + 6)) (F9 := f_X9_toldRows (X ((i : Int) + 1).toNat)) hL wy_k1_b (wy_c_toldRows hI hR hM (hX _)) (wy_wI_of (fun _ => wy_ri_e) (fun _ => wy_t1_e) (f_X8_toldRows (X ((i : Int) + 1).toNat) (wq_cls S)) S) (fun r3 S4 => by
      show wq_ix _ LL _ = _
      rw [wy_ix (by omega) (by omega) (by omega)]
      rfl)
  rw [if_neg h8]
  by_cases h9 : v = 9
  · rw [if_pos h9, wy_ix (by omega) (by omega) (by omega), wy_ix (by omega) (by omega) (by omega)]
    exact wy_lawI (rec := rec ((i : Int) + 6)) (F9 := f_X9_unlike (X ((i : Int) + 1).toNat) (X ((i : Int) + 2).toNat)) hL wy_k1_b (wy_c_unlike hI hR hM (hX _) (hX _)) (wy_wI_of (fun _ => wy_ri_e) (fun _ => wy_t1_e) (f_X8_unlike (X ((i : Int) + 1).toNat) (X ((i : Int) + 2).toNat) (wq_cls S)) S) (fun r3 S4 => by
      show wq_ix _ LL _ = _
      rw [wy_ix (by omega) (by omega) (by omega), wy_ix (by omega) (by omega) (by omega)]
      rfl)
  rw [if_neg h9]
  by_cases h10 : v = 10
  · rw [if_pos h10, wy_ix (by omega) (by omega) (by omega), wy_ix (by omega) (by omega) (by omega)]
    exact wy_lawI (rec := rec ((i : Int) + 6)) (F9 := f_X9_least (X ((i : Int) + 1).toNat) (X ((i : Int) + 2).toNat)) hL wy_k1_b (wy_c_least hI hR hM (hX _) (hX _)) (wy_wI_of (fun _ => wy_ri_e) (fun _ => wy_t1_e) (f_X8_least (X ((i : Int) + 1).toNat) (X ((i : Int) + 2).toNat) (wq_cls S)) S) (fun r3 S4 => by
      show wq_ix _ LL _ = _
      rw [wy_ix (by omega) (by omega) (by omega), wy_ix (by omega) (by omega) (by omega)]
      rfl)
  rw [if_neg h10]
  by_cases h11 : v = 11
  · rw [if_pos h11, wy_ix (by omega) (by omega) (by omega), wy_ix (by omega) (by omega) (by omega)]
    exact wy_lawI (rec := rec ((i : Int) + 6)) (F9 := f_X9_greatest (X ((i : Int) + 1).toNat) (X ((i : Int) + 2).toNat)) hL wy_k1_b (wy_c_greatest hI hR hM (hX _) (hX _)) (wy_wI_of (fun _ => wy_ri_e) (fun _ => wy_t1_e) (f_X8_greatest (X ((i : Int) + 1).toNat) (X ((i : Int) + 2).toNat) (wq_cls S)) S) (fun r3 S4 => by
      show wq_ix _ LL _ = _
      rw [wy_ix (by omega) (by omega) (by omega), wy_ix (by omega) (by omega) (by omega)]
      rfl)
  rw [if_neg h11]
  by_cases h12 : v = 12
  · rw [if_pos h12, wy_ix (by omega) (by omega) (by omega)]
    exact wy_lawB (rec := rec ((i : Int) + 6)) (F9 := f_X9_isMarked (X ((i : Int) + 1).toNat)) hL wy_k1_b (wy_c_isMarked hI hR hM (hX _)) (wy_wI_of (fun _ => wy_rb_e) (fun _ => wy_t1_e) (f_X8_isMarked (X ((i : Int) + 1).toNat) (wq_cls S)) S) (fun r3 S4 => by
      show wq_ix _ LL _ = _
      rw [wy_ix (by omega) (by omega) (by omega)]
      rfl)
  rw [if_neg h12]
  by_cases h13 : v = 13
  · rw [if_pos h13, wy_ix (by omega) (by omega) (by omega)]
    exact wy_lawI (rec := rec ((i : Int) + 6)) (F9 := f_X9_addReport (X ((i : Int) + 1).toNat)) hL wy_k23_b (wy_c_addReport hI hR hM (hX _)) (wy_wI_of (fun _ => wy_ri_e) (fun _ => wy_t23_e) (f_X8_addReport (X ((i : Int) + 1).toNat) (wq_cls S)) S) (fun r3 S4 => by
      show wq_ix _ LL _ = _
      rw [wy_ix (by omega) (by omega) (by omega)]
      rfl)
  rw [if_neg h13]
  by_cases h14 : v = 14
  · rw [if_pos h14, wy_ix (by omega) (by omega) (by omega), wy_ix (by omega) (by omega) (by omega)]
    exact wy_lawI (rec := rec ((i : Int) + 6)) (F9 := f_X9_addSource (X ((i : Int) + 1).toNat) (X ((i : Int) + 2).toNat)) hL wy_k13_b (wy_c_addSource hI hR hM (hX _) (hX _)) (wy_wI_of (fun _ => wy_ri_e) (fun _ => wy_t13_e) (f_X8_addSource (X ((i : Int) + 1).toNat) (X ((i : Int) + 2).toNat) (wq_cls S)) S) (fun r3 S4 => by
      show wq_ix _ LL _ = _
      rw [wy_ix (by omega) (by omega) (by omega), wy_ix (by omega) (by omega) (by omega)]
      rfl)
  rw [if_neg h14]
  by_cases h15 : v = 15
  · rw [if_pos h15, wy_ix (by omega) (by omega) (by omega), wy_ix (by omega) (by omega) (by omega), wy_ix (by omega) (by omega) (by omega), wy_ix (by omega) (by omega) (by omega), wy_ix (by omega) (by omega) (by omega)]
    exact wy_lawI (rec := rec ((i : Int) + 6)) (F9 := f_X9_addCondition (X ((i : Int) + 1).toNat) (X ((i : Int) + 2).toNat) (X ((i : Int) + 3).toNat) (X ((i : Int) + 4).toNat) (X ((i : Int) + 5).toNat)) hL wy_k123_b (wy_c_addCondition hI hR hM (hX _) (hX _) (hX _) (hX _) (hX _)) (wy_wI_of (fun _ => wy_ri_e) (fun _ => wy_t123_e) (f_X8_addCondition (X ((i : Int) + 1).toNat) (X ((i : Int) + 2).toNat) (X ((i : Int) + 3).toNat) (X ((i : Int) + 4).toNat) (X ((i : Int) + 5).toNat) (wq_cls S)) S) (fun r3 S4 => by
      show wq_ix _ LL _ = _
      rw [wy_ix (by omega) (by omega) (by omega), wy_ix (by omega) (by omega) (by omega), wy_ix (by omega) (by omega) (by omega), wy_ix (by omega) (by omega) (by omega), wy_ix (by omega) (by omega) (by omega)]
      rfl)
  rw [if_neg h15]
  by_cases h16 : v = 16
  · rw [if_pos h16, wy_ix (by omega) (by omega) (by omega), wy_ix (by omega) (by omega) (by omega), wy_ix (by omega) (by omega) (by omega), wy_ix (by omega) (by omega) (by omega), wy_ix (by omega) (by omega) (by omega)]
    exact wy_lawI (rec := rec ((i : Int) + 6)) (F9 := f_X9_addJoin (X ((i : Int) + 1).toNat) (X ((i : Int) + 2).toNat) (X ((i : Int) + 3).toNat) (X ((i : Int) + 4).toNat) (X ((i : Int) + 5).toNat)) hL wy_k123_b (wy_c_addJoin hI hR hM (hX _) (hX _) (hX _) (hX _) (hX _)) (wy_wI_of (fun _ => wy_ri_e) (fun _ => wy_t123_e) (f_X8_addJoin (X ((i : Int) + 1).toNat) (X ((i : Int) + 2).toNat) (X ((i : Int) + 3).toNat) (X ((i : Int) + 4).toNat) (X ((i : Int) + 5).toNat) (wq_cls S)) S) (fun r3 S4 => by
      show wq_ix _ LL _ = _
      rw [wy_ix (by omega) (by omega) (by omega), wy_ix (by omega) (by omega) (by omega), wy_ix (by omega) (by omega) (by omega), wy_ix (by omega) (by omega) (by omega), wy_ix (by omega) (by omega) (by omega)]
      rfl)
  rw [if_neg h16]
  by_cases h17 : v = 17
  · rw [if_pos h17, wy_ix (by omega) (by omega) (by omega)]
    exact wy_lawI (rec := rec ((i : Int) + 6)) (F9 := f_X9_dropCondition (X ((i : Int) + 1).toNat)) hL wy_k13_b (wy_c_drop hI hR hM (hX _)) (wy_wI_of (fun _ => wy_ri_e) (fun _ => wy_t13_e) (f_X8_dropCondition (X ((i : Int) + 1).toNat) (wq_cls S)) S) (fun r3 S4 => by
      show wq_ix _ LL _ = _
      rw [wy_ix (by omega) (by omega) (by omega)]
      rfl)
  rw [if_neg h17]
  by_cases h18 : v = 18
  · rw [if_pos h18, wy_ix (by omega) (by omega) (by omega), wy_ix (by omega) (by omega) (by omega), wy_ix (by omega) (by omega) (by omega)]
    exact wy_lawV (rec := rec ((i : Int) + 6)) (F9 := f_X9_setSum (X ((i : Int) + 1).toNat) (X ((i : Int) + 2).toNat) (X ((i : Int) + 3).toNat)) hL wy_k1_b (wy_c_setSum hI hR hM (hX _) (hX _) (hX _)) (wy_wI_of (fun _ => wy_rv_e) (fun _ => wy_t1_e) (f_X8_setSum (X ((i : Int) + 1).toNat) (X ((i : Int) + 2).toNat) (X ((i : Int) + 3).toNat) (wq_cls S)) S) (fun r3 S4 => by
      show wq_ix _ LL _ = _
      rw [wy_ix (by omega) (by omega) (by omega), wy_ix (by omega) (by omega) (by omega), wy_ix (by omega) (by omega) (by omega)]
      unfold wy_asks; simp only [ite_self])
  rw [if_neg h18]
  by_cases h19 : v = 19
  · rw [if_pos h19, wy_ix (by omega) (by omega) (by omega), wy_ix (by omega) (by omega) (by omega)]
    by_cases hb : wq_w (X ((i : Int) + 2).toNat) = 0
    · rw [if_pos hb]
      exact wy_lawB (rec := rec ((i : Int) + 6)) (F9 := f_X9_setDue (X ((i : Int) + 1).toNat) 0) hL wy_k1_b (wy_c_setDue hI hR hM (hX _) (Or.inl rfl)) (wy_wI_of (fun _ => wy_rb_e) (fun _ => wy_t1_e) (f_X8_setDue (X ((i : Int) + 1).toNat) 0 (wq_cls S)) S) (fun r3 S4 => by
        show wq_ix _ LL _ = _
        rw [wy_ix (by omega) (by omega) (by omega), wy_ix (by omega) (by omega) (by omega), if_pos hb]
        rfl)
    · rw [if_neg hb]
      exact wy_lawB (rec := rec ((i : Int) + 6)) (F9 := f_X9_setDue (X ((i : Int) + 1).toNat) 1) hL wy_k1_b (wy_c_setDue hI hR hM (hX _) (Or.inr rfl)) (wy_wI_of (fun _ => wy_rb_e) (fun _ => wy_t1_e) (f_X8_setDue (X ((i : Int) + 1).toNat) 1 (wq_cls S)) S) (fun r3 S4 => by
        show wq_ix _ LL _ = _
        rw [wy_ix (by omega) (by omega) (by omega), wy_ix (by omega) (by omega) (by omega), if_neg hb]
        rfl)
  rw [if_neg h19]
  by_cases h20 : v = 20
  · rw [if_pos h20, wy_ix (by omega) (by omega) (by omega)]
    exact wy_lawB (rec := rec ((i : Int) + 6)) (F9 := f_X9_isDue (X ((i : Int) + 1).toNat)) hL wy_k1_b (wy_c_isDue hI hR hM (hX _)) (wy_wI_of (fun _ => wy_rb_e) (fun _ => wy_t1_e) (f_X8_isDue (X ((i : Int) + 1).toNat) (wq_cls S)) S) (fun r3 S4 => by
      show wq_ix _ LL _ = _
      rw [wy_ix (by omega) (by omega) (by omega)]
      rfl)
  rw [if_neg h20]
  by_cases h21 : v = 21
  · rw [if_pos h21, wy_ix (by omega) (by omega) (by omega), wy_ix (by omega) (by omega) (by omega)]
    exact wy_lawI (rec := rec ((i : Int) + 6)) (F9 := f_X9_planSource (X ((i : Int) + 1).toNat) (X ((i : Int) + 2).toNat)) hL wy_k1_b (wy_c_planSource hI hR hM (hX _) (hX _)) (wy_wI_of (fun _ => wy_ri_e) (fun _ => wy_t1_e) (f_X8_planSource (X ((i : Int) + 1).toNat) (X ((i : Int) + 2).toNat) (wq_cls S)) S) (fun r3 S4 => by
      show wq_ix _ LL _ = _
      rw [wy_ix (by omega) (by omega) (by omega), wy_ix (by omega) (by omega) (by omega)]
      rfl)
  rw [if_neg h21]
  by_cases h22 : v = 22
  · rw [if_pos h22, wy_ix (by omega) (by omega) (by omega), wy_ix (by omega) (by omega) (by omega)]
    exact wy_lawI (rec := rec ((i : Int) + 6)) (F9 := f_X9_planWay (X ((i : Int) + 1).toNat) (X ((i : Int) + 2).toNat)) hL wy_k1_b (wy_c_planWay hI hR hM (hX _) (hX _)) (wy_wI_of (fun _ => wy_ri_e) (fun _ => wy_t1_e) (f_X8_planWay (X ((i : Int) + 1).toNat) (X ((i : Int) + 2).toNat) (wq_cls S)) S) (fun r3 S4 => by
      show wq_ix _ LL _ = _
      rw [wy_ix (by omega) (by omega) (by omega), wy_ix (by omega) (by omega) (by omega)]
      rfl)
  rw [if_neg h22]
  by_cases h23 : v = 23
  · rw [if_pos h23, wy_ix (by omega) (by omega) (by omega)]
    exact wy_lawI (rec := rec ((i : Int) + 6)) (F9 := f_X9_foretold (X ((i : Int) + 1).toNat)) hL wy_k1_b (wy_c_foretold hI hR hM (hX _)) (wy_wI_of (fun _ => wy_ri_e) (fun _ => wy_t1_e) (f_X8_foretold (X ((i : Int) + 1).toNat) (wq_cls S)) S) (fun r3 S4 => by
      show wq_ix _ LL _ = _
      rw [wy_ix (by omega) (by omega) (by omega)]
      rfl)
  rw [if_neg h23]
  by_cases h24 : v = 24
  · rw [if_pos h24, wy_ix (by omega) (by omega) (by omega)]
    exact wy_lawI (rec := rec ((i : Int) + 6)) (F9 := f_X9_minutes (X ((i : Int) + 1).toNat)) hL wy_k1_b (wy_c_minutes hI hR hM (hX _)) (wy_wI_of (fun _ => wy_ri_e) (fun _ => wy_t1_e) (f_X8_minutes (X ((i : Int) + 1).toNat) (wq_cls S)) S) (fun r3 S4 => by
      show wq_ix _ LL _ = _
      rw [wy_ix (by omega) (by omega) (by omega)]
      rfl)
  rw [if_neg h24]
  by_cases h25 : v = 25
  · rw [if_pos h25, wy_ix (by omega) (by omega) (by omega)]
    exact wy_lawI (rec := rec ((i : Int) + 6)) (F9 := f_X9_answer (X ((i : Int) + 1).toNat)) hL wy_k1_b (wy_c_answer hI hR hM (hX _)) (wy_wI_of (fun _ => wy_ri_e) (fun _ => wy_t1_e) (f_X8_answer (X ((i : Int) + 1).toNat) (wq_cls S)) S) (fun r3 S4 => by
      show wq_ix _ LL _ = _
      rw [wy_ix (by omega) (by omega) (by omega)]
      rfl)
  rw [if_neg h25]
  by_cases h26 : v = 26
  · rw [if_pos h26, wy_ix (by omega) (by omega) (by omega)]
    exact wy_lawI (rec := rec ((i : Int) + 6)) (F9 := f_X9_sum (X ((i : Int) + 1).toNat)) hL wy_k1_b (wy_c_sum hI hR hM (hX _)) (wy_wI_of (fun _ => wy_ri_e) (fun _ => wy_t1_e) (f_X8_sum (X ((i : Int) + 1).toNat) (wq_cls S)) S) (fun r3 S4 => by
      show wq_ix _ LL _ = _
      rw [wy_ix (by omega) (by omega) (by omega)]
      rfl)
  rw [if_neg h26]
  by_cases h27 : v = 27
  · rw [if_pos h27, wy_ix (by omega) (by omega) (by omega)]
    exact wy_lawI (rec := rec ((i : Int) + 6)) (F9 := f_X9_plainAnswer (X ((i : Int) + 1).toNat)) hL wy_k1_b (wy_c_plainAnswer hI hR hM (hX _)) (wy_wI_of (fun _ => wy_ri_e) (fun _ => wy_t1_e) (f_X8_plainAnswer (X ((i : Int) + 1).toNat) (wq_cls S)) S) (fun r3 S4 => by
      show wq_ix _ LL _ = _
      rw [wy_ix (by omega) (by omega) (by omega)]
      rfl)
  rw [if_neg h27]
  by_cases h28 : v = 28
  · rw [if_pos h28, wy_ix (by omega) (by omega) (by omega)]
    exact wy_lawI (rec := rec ((i : Int) + 6)) (F9 := f_X9_plainSum (X ((i : Int) + 1).toNat)) hL wy_k1_b (wy_c_plainSum hI hR hM (hX _)) (wy_wI_of (fun _ => wy_ri_e) (fun _ => wy_t1_e) (f_X8_plainSum (X ((i : Int) + 1).toNat) (wq_cls S)) S) (fun r3 S4 => by
      show wq_ix _ LL _ = _
      rw [wy_ix (by omega) (by omega) (by omega)]
      rfl)
  rw [if_neg h28]
  by_cases h29 : v = 29
  · rw [if_pos h29, wy_ix (by omega) (by omega) (by omega)]
    exact wy_lawI (rec := rec ((i : Int) + 6)) (F9 := f_X9_night (X ((i : Int) + 1).toNat)) hL wy_k23_b (wy_c_night hI hR hM (hX _)) (wy_wI_of (fun _ => wy_ri_e) (fun _ => wy_t23_e) (f_X8_night (X ((i : Int) + 1).toNat) (wq_cls S)) S) (fun r3 S4 => by
      show wq_ix _ LL _ = _
      rw [wy_ix (by omega) (by omega) (by omega)]
      rfl)
  rw [if_neg h29]
  by_cases h30 : v = 30
  · rw [if_pos h30]
    exact wy_law0 (rec := rec ((i : Int) + 6)) (f8 := f_X8_nights) (f9 := f_X9_nights) (c := 6) (j := 29) (by omega) hL (fun A => rfl) (wy_cG hR) (fun A => rfl)
  rw [if_neg h30]
  by_cases h31 : v = 31
  · rw [if_pos h31]
    exact wy_law0 (rec := rec ((i : Int) + 6)) (f8 := f_X8_paid) (f9 := f_X9_paid) (c := 7) (j := 30) (by omega) hL (fun A => rfl) (wy_cP hR) (fun A => rfl)
  rw [if_neg h31]
  by_cases h32 : v = 32
  · rw [if_pos h32]
    exact wy_law0 (rec := rec ((i : Int) + 6)) (f8 := f_X8_left) (f9 := f_X9_left) (c := 8) (j := 31) (by omega) hL (fun A => rfl) (wy_cL hR) (fun A => rfl)
  rw [if_neg h32]
  by_cases h33 : v = 33
  · rw [if_pos h33]
    exact wy_law0 (rec := rec ((i : Int) + 6)) (f8 := f_X8_owed) (f9 := f_X9_owed) (c := 9) (j := 32) (by omega) hL (fun A => rfl) (wy_cO hR) (fun A => rfl)
  rw [if_neg h33]
  by_cases h34 : v = 34
  · rw [if_pos h34, wy_ix (by omega) (by omega) (by omega)]
    exact wy_lawI (rec := rec ((i : Int) + 6)) (F9 := f_X9_kept (X ((i : Int) + 1).toNat)) hL wy_k1_b (wy_c_kept hI hR hM (hX _)) (wy_wI_of (fun _ => wy_ri_e) (fun _ => wy_t1_e) (f_X8_kept (X ((i : Int) + 1).toNat) (wq_cls S)) S) (fun r3 S4 => by
      show wq_ix _ LL _ = _
      rw [wy_ix (by omega) (by omega) (by omega)]
      rfl)
  rw [if_neg h34]
  by_cases h35 : v = 35
  · rw [if_pos h35, wy_ix (by omega) (by omega) (by omega)]
    exact wy_lawI (rec := rec ((i : Int) + 6)) (F9 := f_X9_keptSum (X ((i : Int) + 1).toNat)) hL wy_k1_b (wy_c_keptSum hI hR hM (hX _)) (wy_wI_of (fun _ => wy_ri_e) (fun _ => wy_t1_e) (f_X8_keptSum (X ((i : Int) + 1).toNat) (wq_cls S)) S) (fun r3 S4 => by
      show wq_ix _ LL _ = _
      rw [wy_ix (by omega) (by omega) (by omega)]
      rfl)
  rw [if_neg h35]
  by_cases h36 : v = 36
  · rw [if_pos h36, wy_ix (by omega) (by omega) (by omega)]
    exact wy_lawI (rec := rec ((i : Int) + 6)) (F9 := f_X9_keptIn (X ((i : Int) + 1).toNat)) hL wy_k1_b (wy_c_keptIn hI hR hM (hX _)) (wy_wI_of (fun _ => wy_ri_e) (fun _ => wy_t1_e) (f_X8_keptIn (X ((i : Int) + 1).toNat) (wq_cls S)) S) (fun r3 S4 => by
      show wq_ix _ LL _ = _
      rw [wy_ix (by omega) (by omega) (by omega)]
      rfl)
  rw [if_neg h36]
  exact ⟨P, S, hL, rfl⟩
end
section
/-! THE LAW: all rounds -/
theorem wy_law_loop {X : Nat → Int} (hX : ∀ j, wy_rg (X j)) {LL : Nat} (hLL : LL ≤ 3072) : ∀ (n i : Nat) (P S : wq_St), LL + 6 ≤ 6 * n + i → i ≤ LL → wy_LI P S → ∃ S0, l_L_law X LL (fun S => some (1, S)) n (i : Int) S = some (1, S0)
  | 0, i, P, S, h1, h2, _ => by omega
  | n + 1, i, P, S, h1, h2, hL => by
    show ∃ S0, b_L_law X LL (fun S => some (1, S)) (l_L_law X LL (fun S => some (1, S)) n) (i : Int) S = some (1, S0)
    by_cases hi : i + 6 ≤ LL
    · obtain ⟨P', S', hL', e⟩ := wy_law_step hX hLL hi hL (fun S => some (1, S)) (l_L_law X LL (fun S => some (1, S)) n)
      rw [e]
      have e6 : (i : Int) + 6 = ((i + 6 : Nat) : Int) := by omega
      rw [e6]
      exact wy_law_loop hX hLL n (i + 6) P' S' (by omega) (by omega) hL'
    · unfold b_L_law
      rw [wq_w_id (x := (LL : Int) - 6) (by omega) (by omega), wq_w_id (x := (i : Int)) (by omega) (by omega), if_pos (by omega)]
      exact ⟨S, rfl⟩
def wy_P0 : wq_St := fun f i => if f = 0 ∧ i = 11 then 1 else if f = 22 ∨ f = 24 ∨ f = 25 ∨ f = 26 then -1 else 0
def wy_p0b (f i : Nat) : Bool := !(wy_inb f i) || decide (wq_S0 (wy_ka f i) (wy_io f i) = wy_P0 f i)
theorem wy_p0_all : wy_allb (fun f => wy_allb (fun i => wy_p0b f i) 480) 29 = true := by decide +kernel
theorem wy_R0 : wy_R wy_al (wq_cls wq_SL0) wy_P0 := fun f i _ h => by
  have hi := Nat.lt_of_lt_of_le h.1 (wy_nb_le f)
  have hf : f < 29 := Nat.lt_of_not_le fun hh => by
    have h1 := h.1
    rw [wy_nb_hi hh] at h1
    omega
  have h1 := wy_allb_t (wy_allb_t wy_p0_all f hf) i hi
  unfold wy_p0b at h1
  rw [wy_inb_t h] at h1
  have h2 : wq_S0 (wy_ka f i) (wy_io f i) = wy_P0 f i := by simpa using h1
  unfold wq_cls wq_SL0
  rw [if_pos (wy_ka_lt h), if_pos (wy_ka_lt h)]
  exact h2
theorem wy_M0 : wy_M wy_al (wq_mdl wq_SL0) wy_P0 := fun f i _ h2 h3 h4 => by
  have e : wq_mdl wq_SL0 f i = if f = 0 ∧ i = 11 then 1 else 0 := by
    unfold wq_mdl wq_SL0
    rw [if_pos (by omega), if_neg (by omega), if_pos (by omega), Nat.add_sub_cancel_left]
    rfl
  rw [e]
  unfold wy_P0 at h4 ⊢
  rw [if_neg (c := 0 = 0 ∧ 28 = 11) (by omega), if_neg (by omega)] at h4
  by_cases c : f = 0 ∧ i = 11
  · rw [if_pos c, if_pos c]
  · rw [if_neg c, if_neg c, if_neg (fun h => by have := h4 (by omega); omega)]
theorem wy_p0_o {f i : Nat} (h : ¬(f = 0 ∧ i = 11) ∧ ¬(f = 22 ∨ f = 24 ∨ f = 25 ∨ f = 26)) : wy_P0 f i = 0 := by
  unfold wy_P0
  rw [if_neg h.1, if_neg h.2]
theorem wy_p0_n {f i : Nat} (h : f = 22 ∨ f = 24 ∨ f = 25 ∨ f = 26) : wy_P0 f i = -1 := by
  unfold wy_P0
  rw [if_neg (by omega), if_pos h]
theorem wy_ct_0 (t : Nat) : ∀ n, wy_ct wy_P0 t n = 0
  | 0 => rfl
  | n + 1 => by
    simp only [wy_ct]
    rw [wy_ct_0 t n, if_pos (wy_p0_o (by omega))]
    rfl
theorem wy_lohi0 : ∀ f, f < 24 → wy_lo f ≤ 0 ∧ 0 ≤ wy_hi f := by decide
theorem wy_iv0 : wy_iv wy_P0 := by
  refine ⟨fun f i h1 h2 => ?_, ?_, fun t ht => wy_p0_o (by omega), fun r hr => wy_p0_o (by omega), fun i => ?_, fun r j hj => ?_, fun r k hk => ?_, fun r hr => absurd (wy_p0_n (by omega)) hr, fun r h1 h2 => ⟨wy_p0_n (by omega), wy_p0_n (by omega), wy_p0_n (by omega), wy_p0_n (by omega)⟩, fun t ht => ?_⟩
  · by_cases e : f = 22
    · subst e
      rw [wy_p0_n (by omega)]
      exact ⟨by show (-1 : Int) ≤ -1; omega, by show (-1 : Int) ≤ 2; omega⟩
    · rw [wy_p0_o (by omega)]
      exact wy_lohi0 f (by omega)
  · unfold wy_iO
    rw [wy_p0_o (i := 5) (by omega), wy_p0_o (i := 28) (by omega), show wy_P0 0 11 = 1 from rfl]
    omega
  · rw [wy_p0_o (by omega), wy_p0_o (by omega)]
    omega
  · rw [wy_p0_o (by omega)] at hj
    omega
  · rw [wy_p0_o (by omega)] at hk
    omega
  · rw [wy_p0_o (by omega), wy_ct_0]
theorem wy_LI0 : wy_LI wy_P0 wq_SL0 := ⟨wy_iv0, fun t ht => by
  rw [wy_p0_o (by omega)] at ht
  omega, wy_R0, wy_M0⟩
theorem wq_pure (X : Nat → Int) (hX : ∀ j, -2147483648 ≤ X j ∧ X j < 2147483648) (LL : Nat) (hL : LL ≤ 3072) : ∃ S0 : wq_St, l_L_law X LL (fun S => some (1, S)) 600 0 wq_SL0 = some (1, S0) :=
  wy_law_loop (X := X) hX hL 600 0 wy_P0 wq_SL0 (by omega) (by omega) wy_LI0
end
