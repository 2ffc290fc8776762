def RX0 : String := "WharfQuery$Column"
def TX0 : u_T := fun k => match k with
  | 0 => ("WharfQuery$Column", "hasIndex", "Z", false)
  | 1 => ("WharfQuery$Column", "toldUnlike", "I", false)
  | 2 => ("WharfQuery$Column", "toldLeast", "I", false)
  | _ => ("WharfQuery$Column", "toldGreatest", "I", false)
def tyX0 : Nat → FieldType := fun k => match k with
  | 0 => .boolean
  | 1 => .int
  | 2 => .int
  | _ => .int
abbrev wsX00 : List Cond := u_ws RX0 TX0 4
theorem nmX0 : ∀ a, a < 4 → ∀ b, b < 4 → a ≠ b → (TX0 a).2.1 ≠ (TX0 b).2.1 := by decide +kernel
theorem tyX0_ok : ∀ k, k < 4 → parseFieldDescriptor (TX0 k).2.2.1 = some (tyX0 k) := by decide +kernel
abbrev cX0_init : ByteArray := prog_2_method_1_code
def yX0_init : MethodName := ⟨RX0, "<init>", "()V"⟩
def RX1 : String := "WharfQuery$Condition"
def TX1 : u_T := fun k => match k with
  | 0 => ("WharfQuery$Condition", "kind", "I", false)
  | 1 => ("WharfQuery$Condition", "source", "I", false)
  | 2 => ("WharfQuery$Condition", "column", "I", false)
  | 3 => ("WharfQuery$Condition", "number", "I", false)
  | 4 => ("WharfQuery$Condition", "other", "I", false)
  | _ => ("WharfQuery$Condition", "otherColumn", "I", false)
def tyX1 : Nat → FieldType := fun k => match k with
  | 0 => .int
  | 1 => .int
  | 2 => .int
  | 3 => .int
  | 4 => .int
  | _ => .int
abbrev wsX10 : List Cond := u_ws RX1 TX1 6
theorem nmX1 : ∀ a, a < 6 → ∀ b, b < 6 → a ≠ b → (TX1 a).2.1 ≠ (TX1 b).2.1 := by decide +kernel
theorem tyX1_ok : ∀ k, k < 6 → parseFieldDescriptor (TX1 k).2.2.1 = some (tyX1 k) := by decide +kernel
abbrev cX1_init : ByteArray := prog_3_method_1_code
def yX1_init : MethodName := ⟨RX1, "<init>", "()V"⟩
abbrev cX1_compare : ByteArray := prog_3_method_2_code
def yX1_compare : MethodName := ⟨RX1, "compare", "(IIII)V"⟩
abbrev cX1_join : ByteArray := prog_3_method_3_code
def yX1_join : MethodName := ⟨RX1, "join", "(IIII)V"⟩
abbrev cX1_stepIn : ByteArray := prog_3_method_4_code
def yX1_stepIn : MethodName := ⟨RX1, "stepIn", "(LWharfQuery$Plan;)I"⟩
abbrev cX1_asksForOneValueOf : ByteArray := prog_3_method_5_code
def yX1_asksForOneValueOf : MethodName := ⟨RX1, "asksForOneValueOf", "(II)Z"⟩
def RX2 : String := "WharfQuery$Crew"
def TX2 : u_T := fun k => match k with
  | 0 => ("WharfQuery$Crew", "tables", "[LWharfQuery$Table;", true)
  | 1 => ("WharfQuery$Crew", "reports", "[LWharfQuery$Report;", true)
  | 2 => ("WharfQuery$Crew", "planner", "LWharfQuery$Planner;", true)
  | 3 => ("WharfQuery$Crew", "run", "LWharfQuery$Run;", true)
  | 4 => ("WharfQuery$Crew", "line", "[I", true)
  | 5 => ("WharfQuery$Crew", "sampleStep", "I", false)
  | 6 => ("WharfQuery$Crew", "nightsPassed", "I", false)
  | 7 => ("WharfQuery$Crew", "allPay", "I", false)
  | 8 => ("WharfQuery$Crew", "minutesLeft", "I", false)
  | _ => ("WharfQuery$Crew", "allPenalties", "I", false)
def tyX2 : Nat → FieldType := fun k => match k with
  | 0 => .array (.object "WharfQuery$Table")
  | 1 => .array (.object "WharfQuery$Report")
  | 2 => .object "WharfQuery$Planner"
  | 3 => .object "WharfQuery$Run"
  | 4 => .array .int
  | 5 => .int
  | 6 => .int
  | 7 => .int
  | 8 => .int
  | _ => .int
abbrev wsX20 : List Cond := u_ws RX2 TX2 10
theorem nmX2 : ∀ a, a < 10 → ∀ b, b < 10 → a ≠ b → (TX2 a).2.1 ≠ (TX2 b).2.1 := by decide +kernel
theorem tyX2_ok : ∀ k, k < 10 → parseFieldDescriptor (TX2 k).2.2.1 = some (tyX2 k) := by decide +kernel
abbrev cX2_init : ByteArray := prog_4_method_1_code
def yX2_init : MethodName := ⟨RX2, "<init>", "([LWharfQuery$Table;[LWharfQuery$Report;LWharfQuery$Planner;LWharfQuery$Run;)V"⟩
abbrev cX2_takePay : ByteArray := prog_4_method_2_code
def yX2_takePay : MethodName := ⟨RX2, "takePay", "(I)V"⟩
abbrev cX2_renewMarkedTables : ByteArray := prog_4_method_3_code
def yX2_renewMarkedTables : MethodName := ⟨RX2, "renewMarkedTables", "()V"⟩
abbrev cX2_runDueReports : ByteArray := prog_4_method_4_code
def yX2_runDueReports : MethodName := ⟨RX2, "runDueReports", "()I"⟩
abbrev cX2_lineUpDueReports : ByteArray := prog_4_method_5_code
def yX2_lineUpDueReports : MethodName := ⟨RX2, "lineUpDueReports", "()I"⟩
abbrev cX2_keep : ByteArray := prog_4_method_6_code
def yX2_keep : MethodName := ⟨RX2, "keep", "(LWharfQuery$Report;I)V"⟩
abbrev cX2_markTables : ByteArray := prog_4_method_7_code
def yX2_markTables : MethodName := ⟨RX2, "markTables", "(LWharfQuery$Report;)V"⟩
def RX3 : String := "WharfQuery$Plan"
def TX3 : u_T := fun k => match k with
  | 0 => ("WharfQuery$Plan", "order", "[I", true)
  | 1 => ("WharfQuery$Plan", "ways", "[I", true)
  | 2 => ("WharfQuery$Plan", "stepOf", "[I", true)
  | _ => ("WharfQuery$Plan", "thousandths", "J", false)
def tyX3 : Nat → FieldType := fun k => match k with
  | 0 => .array .int
  | 1 => .array .int
  | 2 => .array .int
  | _ => .long
abbrev wsX30 : List Cond := u_ws RX3 TX3 4
theorem nmX3 : ∀ a, a < 4 → ∀ b, b < 4 → a ≠ b → (TX3 a).2.1 ≠ (TX3 b).2.1 := by decide +kernel
theorem tyX3_ok : ∀ k, k < 4 → parseFieldDescriptor (TX3 k).2.2.1 = some (tyX3 k) := by decide +kernel
abbrev cX3_init : ByteArray := prog_5_method_1_code
def yX3_init : MethodName := ⟨RX3, "<init>", "()V"⟩
abbrev cX3_clear : ByteArray := prog_5_method_2_code
def yX3_clear : MethodName := ⟨RX3, "clear", "()V"⟩
abbrev cX3_place : ByteArray := prog_5_method_3_code
def yX3_place : MethodName := ⟨RX3, "place", "(II)V"⟩
abbrev cX3_becomePlain : ByteArray := prog_5_method_4_code
def yX3_becomePlain : MethodName := ⟨RX3, "becomePlain", "(I)V"⟩
abbrev cX3_copyFrom : ByteArray := prog_5_method_5_code
def yX3_copyFrom : MethodName := ⟨RX3, "copyFrom", "(LWharfQuery$Plan;J)V"⟩
abbrev cX3_foretoldMinutes : ByteArray := prog_5_method_6_code
def yX3_foretoldMinutes : MethodName := ⟨RX3, "foretoldMinutes", "()I"⟩
def RX4 : String := "WharfQuery$Planner"
def TX4 : u_T := fun k => match k with
  | 0 => ("WharfQuery$Planner", "tables", "[LWharfQuery$Table;", true)
  | 1 => ("WharfQuery$Planner", "draft", "LWharfQuery$Plan;", true)
  | _ => ("WharfQuery$Planner", "best", "LWharfQuery$Plan;", true)
def tyX4 : Nat → FieldType := fun k => match k with
  | 0 => .array (.object "WharfQuery$Table")
  | 1 => .object "WharfQuery$Plan"
  | _ => .object "WharfQuery$Plan"
abbrev wsX40 : List Cond := u_ws RX4 TX4 3
theorem nmX4 : ∀ a, a < 3 → ∀ b, b < 3 → a ≠ b → (TX4 a).2.1 ≠ (TX4 b).2.1 := by decide +kernel
theorem tyX4_ok : ∀ k, k < 3 → parseFieldDescriptor (TX4 k).2.2.1 = some (tyX4 k) := by decide +kernel
abbrev cX4_init : ByteArray := prog_6_method_1_code
def yX4_init : MethodName := ⟨RX4, "<init>", "([LWharfQuery$Table;)V"⟩
abbrev cX4_choose : ByteArray := prog_6_method_2_code
def yX4_choose : MethodName := ⟨RX4, "choose", "(LWharfQuery$Report;)LWharfQuery$Plan;"⟩
abbrev cX4_extend : ByteArray := prog_6_method_3_code
def yX4_extend : MethodName := ⟨RX4, "extend", "(LWharfQuery$Planner;LWharfQuery$Report;IJJ)V"⟩
abbrev cX4_takeCheapestWay : ByteArray := prog_6_method_4_code
def yX4_takeCheapestWay : MethodName := ⟨RX4, "takeCheapestWay", "(LWharfQuery$Report;IJ)J"⟩
abbrev cX4_choicesBehind : ByteArray := prog_6_method_5_code
def yX4_choicesBehind : MethodName := ⟨RX4, "choicesBehind", "(LWharfQuery$Report;IJ)J"⟩
abbrev cX4_narrow : ByteArray := prog_6_method_6_code
def yX4_narrow : MethodName := ⟨RX4, "narrow", "(LWharfQuery$Report;LWharfQuery$Condition;J)J"⟩
abbrev cX4_share : ByteArray := prog_6_method_7_code
def yX4_share : MethodName := ⟨RX4, "share", "(JILWharfQuery$Column;)J"⟩
def RX5 : String := "WharfQuery$Report"
def TX5 : u_T := fun k => match k with
  | 0 => ("WharfQuery$Report", "sources", "[I", true)
  | 1 => ("WharfQuery$Report", "conditions", "[LWharfQuery$Condition;", true)
  | 2 => ("WharfQuery$Report", "penalty", "I", false)
  | 3 => ("WharfQuery$Report", "sourceCount", "I", false)
  | 4 => ("WharfQuery$Report", "conditionCount", "I", false)
  | 5 => ("WharfQuery$Report", "sumSource", "I", false)
  | 6 => ("WharfQuery$Report", "sumColumn", "I", false)
  | 7 => ("WharfQuery$Report", "due", "Z", false)
  | 8 => ("WharfQuery$Report", "keptChoices", "I", false)
  | 9 => ("WharfQuery$Report", "keptTotal", "I", false)
  | _ => ("WharfQuery$Report", "keptNight", "I", false)
def tyX5 : Nat → FieldType := fun k => match k with
  | 0 => .array .int
  | 1 => .array (.object "WharfQuery$Condition")
  | 2 => .int
  | 3 => .int
  | 4 => .int
  | 5 => .int
  | 6 => .int
  | 7 => .boolean
  | 8 => .int
  | 9 => .int
  | _ => .int
abbrev wsX50 : List Cond := u_ws RX5 TX5 11
theorem nmX5 : ∀ a, a < 11 → ∀ b, b < 11 → a ≠ b → (TX5 a).2.1 ≠ (TX5 b).2.1 := by decide +kernel
theorem tyX5_ok : ∀ k, k < 11 → parseFieldDescriptor (TX5 k).2.2.1 = some (tyX5 k) := by decide +kernel
abbrev cX5_init : ByteArray := prog_7_method_1_code
def yX5_init : MethodName := ⟨RX5, "<init>", "()V"⟩
abbrev cX5_conditionForIndex : ByteArray := prog_7_method_2_code
def yX5_conditionForIndex : MethodName := ⟨RX5, "conditionForIndex", "(LWharfQuery$Plan;II)I"⟩
def RX6 : String := "WharfQuery$Run"
def TX6 : u_T := fun k => match k with
  | 0 => ("WharfQuery$Run", "tables", "[LWharfQuery$Table;", true)
  | 1 => ("WharfQuery$Run", "chosenRows", "[I", true)
  | 2 => ("WharfQuery$Run", "minutesTaken", "I", false)
  | 3 => ("WharfQuery$Run", "choices", "I", false)
  | _ => ("WharfQuery$Run", "total", "I", false)
def tyX6 : Nat → FieldType := fun k => match k with
  | 0 => .array (.object "WharfQuery$Table")
  | 1 => .array .int
  | 2 => .int
  | 3 => .int
  | _ => .int
abbrev wsX60 : List Cond := u_ws RX6 TX6 5
theorem nmX6 : ∀ a, a < 5 → ∀ b, b < 5 → a ≠ b → (TX6 a).2.1 ≠ (TX6 b).2.1 := by decide +kernel
theorem tyX6_ok : ∀ k, k < 5 → parseFieldDescriptor (TX6 k).2.2.1 = some (tyX6 k) := by decide +kernel
abbrev cX6_init : ByteArray := prog_8_method_1_code
def yX6_init : MethodName := ⟨RX6, "<init>", "([LWharfQuery$Table;)V"⟩
abbrev cX6_goThrough : ByteArray := prog_8_method_2_code
def yX6_goThrough : MethodName := ⟨RX6, "goThrough", "(LWharfQuery$Report;LWharfQuery$Plan;)V"⟩
abbrev cX6_takeStep : ByteArray := prog_8_method_3_code
def yX6_takeStep : MethodName := ⟨RX6, "takeStep", "(LWharfQuery$Run;LWharfQuery$Report;LWharfQuery$Plan;I)V"⟩
abbrev cX6_countChoice : ByteArray := prog_8_method_4_code
def yX6_countChoice : MethodName := ⟨RX6, "countChoice", "(LWharfQuery$Report;)V"⟩
abbrev cX6_valueLookedFor : ByteArray := prog_8_method_5_code
def yX6_valueLookedFor : MethodName := ⟨RX6, "valueLookedFor", "(LWharfQuery$Report;LWharfQuery$Plan;I)I"⟩
abbrev cX6_conditionsHold : ByteArray := prog_8_method_6_code
def yX6_conditionsHold : MethodName := ⟨RX6, "conditionsHold", "(LWharfQuery$Report;LWharfQuery$Plan;I)Z"⟩
abbrev cX6_holds : ByteArray := prog_8_method_7_code
def yX6_holds : MethodName := ⟨RX6, "holds", "(LWharfQuery$Report;LWharfQuery$Condition;)Z"⟩
abbrev cX6_chosenValue : ByteArray := prog_8_method_8_code
def yX6_chosenValue : MethodName := ⟨RX6, "chosenValue", "(LWharfQuery$Report;II)I"⟩
def RX7 : String := "WharfQuery$Table"
def TX7 : u_T := fun k => match k with
  | 0 => ("WharfQuery$Table", "columns", "[LWharfQuery$Column;", true)
  | 1 => ("WharfQuery$Table", "values", "[[I", true)
  | 2 => ("WharfQuery$Table", "isThere", "[Z", true)
  | 3 => ("WharfQuery$Table", "sample", "[I", true)
  | 4 => ("WharfQuery$Table", "width", "I", false)
  | 5 => ("WharfQuery$Table", "inserted", "I", false)
  | 6 => ("WharfQuery$Table", "present", "I", false)
  | 7 => ("WharfQuery$Table", "toldPresent", "I", false)
  | _ => ("WharfQuery$Table", "marked", "Z", false)
def tyX7 : Nat → FieldType := fun k => match k with
  | 0 => .array (.object "WharfQuery$Column")
  | 1 => .array (.array .int)
  | 2 => .array .boolean
  | 3 => .array .int
  | 4 => .int
  | 5 => .int
  | 6 => .int
  | 7 => .int
  | _ => .boolean
abbrev wsX70 : List Cond := u_ws RX7 TX7 9
theorem nmX7 : ∀ a, a < 9 → ∀ b, b < 9 → a ≠ b → (TX7 a).2.1 ≠ (TX7 b).2.1 := by decide +kernel
theorem tyX7_ok : ∀ k, k < 9 → parseFieldDescriptor (TX7 k).2.2.1 = some (tyX7 k) := by decide +kernel
abbrev cX7_init : ByteArray := prog_9_method_1_code
def yX7_init : MethodName := ⟨RX7, "<init>", "()V"⟩
abbrev cX7_fits : ByteArray := prog_9_method_2_code
def yX7_fits : MethodName := ⟨RX7, "fits", "(II)Z"⟩
abbrev cX7_put : ByteArray := prog_9_method_3_code
def yX7_put : MethodName := ⟨RX7, "put", "(III)I"⟩
abbrev cX7_takeSample : ByteArray := prog_9_method_4_code
def yX7_takeSample : MethodName := ⟨RX7, "takeSample", "(I)I"⟩
abbrev cX7_renewCounts : ByteArray := prog_9_method_5_code
def yX7_renewCounts : MethodName := ⟨RX7, "renewCounts", "(I)I"⟩
abbrev cX7_tellColumn : ByteArray := prog_9_method_6_code
def yX7_tellColumn : MethodName := ⟨RX7, "tellColumn", "(III)V"⟩
abbrev cX7_isNewInSample : ByteArray := prog_9_method_7_code
def yX7_isNewInSample : MethodName := ⟨RX7, "isNewInSample", "(II)Z"⟩
def RX8 : String := "WharfQuery"
def TX8 : u_T := fun k => match k with
  | 0 => ("WharfQuery", "tables", "[LWharfQuery$Table;", true)
  | 1 => ("WharfQuery", "reports", "[LWharfQuery$Report;", true)
  | 2 => ("WharfQuery", "plainPlan", "LWharfQuery$Plan;", true)
  | 3 => ("WharfQuery", "planner", "LWharfQuery$Planner;", true)
  | 4 => ("WharfQuery", "run", "LWharfQuery$Run;", true)
  | 5 => ("WharfQuery", "crew", "LWharfQuery$Crew;", true)
  | 6 => ("WharfQuery", "tableCount", "I", false)
  | _ => ("WharfQuery", "reportCount", "I", false)
def tyX8 : Nat → FieldType := fun k => match k with
  | 0 => .array (.object "WharfQuery$Table")
  | 1 => .array (.object "WharfQuery$Report")
  | 2 => .object "WharfQuery$Plan"
  | 3 => .object "WharfQuery$Planner"
  | 4 => .object "WharfQuery$Run"
  | 5 => .object "WharfQuery$Crew"
  | 6 => .int
  | _ => .int
abbrev wsX80 : List Cond := u_ws RX8 TX8 8
theorem nmX8 : ∀ a, a < 8 → ∀ b, b < 8 → a ≠ b → (TX8 a).2.1 ≠ (TX8 b).2.1 := by decide +kernel
theorem tyX8_ok : ∀ k, k < 8 → parseFieldDescriptor (TX8 k).2.2.1 = some (tyX8 k) := by decide +kernel
abbrev cX8_init : ByteArray := prog_1_method_1_code
def yX8_init : MethodName := ⟨RX8, "<init>", "()V"⟩
abbrev cX8_makeTables : ByteArray := prog_1_method_2_code
def yX8_makeTables : MethodName := ⟨RX8, "makeTables", "()[LWharfQuery$Table;"⟩
abbrev cX8_makeReports : ByteArray := prog_1_method_3_code
def yX8_makeReports : MethodName := ⟨RX8, "makeReports", "()[LWharfQuery$Report;"⟩
abbrev cX8_addTable : ByteArray := prog_1_method_4_code
def yX8_addTable : MethodName := ⟨RX8, "addTable", "(I)I"⟩
abbrev cX8_insert : ByteArray := prog_1_method_5_code
def yX8_insert : MethodName := ⟨RX8, "insert", "(IIII)I"⟩
abbrev cX8_delete : ByteArray := prog_1_method_6_code
def yX8_delete : MethodName := ⟨RX8, "delete", "(II)I"⟩
abbrev cX8_setIndex : ByteArray := prog_1_method_7_code
def yX8_setIndex : MethodName := ⟨RX8, "setIndex", "(IIZ)Z"⟩
abbrev cX8_rows : ByteArray := prog_1_method_8_code
def yX8_rows : MethodName := ⟨RX8, "rows", "(I)I"⟩
abbrev cX8_value : ByteArray := prog_1_method_9_code
def yX8_value : MethodName := ⟨RX8, "value", "(III)I"⟩
abbrev cX8_renew : ByteArray := prog_1_method_10_code
def yX8_renew : MethodName := ⟨RX8, "renew", "(II)I"⟩
abbrev cX8_setStep : ByteArray := prog_1_method_11_code
def yX8_setStep : MethodName := ⟨RX8, "setStep", "(I)I"⟩
abbrev cX8_toldRows : ByteArray := prog_1_method_12_code
def yX8_toldRows : MethodName := ⟨RX8, "toldRows", "(I)I"⟩
abbrev cX8_unlike : ByteArray := prog_1_method_13_code
def yX8_unlike : MethodName := ⟨RX8, "unlike", "(II)I"⟩
abbrev cX8_least : ByteArray := prog_1_method_14_code
def yX8_least : MethodName := ⟨RX8, "least", "(II)I"⟩
abbrev cX8_greatest : ByteArray := prog_1_method_15_code
def yX8_greatest : MethodName := ⟨RX8, "greatest", "(II)I"⟩
abbrev cX8_isMarked : ByteArray := prog_1_method_16_code
def yX8_isMarked : MethodName := ⟨RX8, "isMarked", "(I)Z"⟩
abbrev cX8_addReport : ByteArray := prog_1_method_17_code
def yX8_addReport : MethodName := ⟨RX8, "addReport", "(I)I"⟩
abbrev cX8_addSource : ByteArray := prog_1_method_18_code
def yX8_addSource : MethodName := ⟨RX8, "addSource", "(II)I"⟩
abbrev cX8_addCondition : ByteArray := prog_1_method_19_code
def yX8_addCondition : MethodName := ⟨RX8, "addCondition", "(IIIII)I"⟩
abbrev cX8_addJoin : ByteArray := prog_1_method_20_code
def yX8_addJoin : MethodName := ⟨RX8, "addJoin", "(IIIII)I"⟩
abbrev cX8_dropCondition : ByteArray := prog_1_method_21_code
def yX8_dropCondition : MethodName := ⟨RX8, "dropCondition", "(I)I"⟩
abbrev cX8_setSum : ByteArray := prog_1_method_22_code
def yX8_setSum : MethodName := ⟨RX8, "setSum", "(III)V"⟩
abbrev cX8_setDue : ByteArray := prog_1_method_23_code
def yX8_setDue : MethodName := ⟨RX8, "setDue", "(IZ)Z"⟩
abbrev cX8_isDue : ByteArray := prog_1_method_24_code
def yX8_isDue : MethodName := ⟨RX8, "isDue", "(I)Z"⟩
abbrev cX8_planSource : ByteArray := prog_1_method_25_code
def yX8_planSource : MethodName := ⟨RX8, "planSource", "(II)I"⟩
abbrev cX8_planWay : ByteArray := prog_1_method_26_code
def yX8_planWay : MethodName := ⟨RX8, "planWay", "(II)I"⟩
abbrev cX8_foretold : ByteArray := prog_1_method_27_code
def yX8_foretold : MethodName := ⟨RX8, "foretold", "(I)I"⟩
abbrev cX8_minutes : ByteArray := prog_1_method_28_code
def yX8_minutes : MethodName := ⟨RX8, "minutes", "(I)I"⟩
abbrev cX8_answer : ByteArray := prog_1_method_29_code
def yX8_answer : MethodName := ⟨RX8, "answer", "(I)I"⟩
abbrev cX8_sum : ByteArray := prog_1_method_30_code
def yX8_sum : MethodName := ⟨RX8, "sum", "(I)I"⟩
abbrev cX8_plainAnswer : ByteArray := prog_1_method_31_code
def yX8_plainAnswer : MethodName := ⟨RX8, "plainAnswer", "(I)I"⟩
abbrev cX8_plainSum : ByteArray := prog_1_method_32_code
def yX8_plainSum : MethodName := ⟨RX8, "plainSum", "(I)I"⟩
abbrev cX8_night : ByteArray := prog_1_method_33_code
def yX8_night : MethodName := ⟨RX8, "night", "(I)I"⟩
abbrev cX8_nights : ByteArray := prog_1_method_34_code
def yX8_nights : MethodName := ⟨RX8, "nights", "()I"⟩
abbrev cX8_paid : ByteArray := prog_1_method_35_code
def yX8_paid : MethodName := ⟨RX8, "paid", "()I"⟩
abbrev cX8_left : ByteArray := prog_1_method_36_code
def yX8_left : MethodName := ⟨RX8, "left", "()I"⟩
abbrev cX8_owed : ByteArray := prog_1_method_37_code
def yX8_owed : MethodName := ⟨RX8, "owed", "()I"⟩
abbrev cX8_kept : ByteArray := prog_1_method_38_code
def yX8_kept : MethodName := ⟨RX8, "kept", "(I)I"⟩
abbrev cX8_keptSum : ByteArray := prog_1_method_39_code
def yX8_keptSum : MethodName := ⟨RX8, "keptSum", "(I)I"⟩
abbrev cX8_keptIn : ByteArray := prog_1_method_40_code
def yX8_keptIn : MethodName := ⟨RX8, "keptIn", "(I)I"⟩
abbrev cX8_findTable : ByteArray := prog_1_method_41_code
def yX8_findTable : MethodName := ⟨RX8, "findTable", "(I)LWharfQuery$Table;"⟩
abbrev cX8_findColumn : ByteArray := prog_1_method_42_code
def yX8_findColumn : MethodName := ⟨RX8, "findColumn", "(II)LWharfQuery$Column;"⟩
abbrev cX8_findReport : ByteArray := prog_1_method_43_code
def yX8_findReport : MethodName := ⟨RX8, "findReport", "(I)LWharfQuery$Report;"⟩
abbrev cX8_checkColumn : ByteArray := prog_1_method_44_code
def yX8_checkColumn : MethodName := ⟨RX8, "checkColumn", "(LWharfQuery$Table;I)V"⟩
abbrev cX8_checkRow : ByteArray := prog_1_method_45_code
def yX8_checkRow : MethodName := ⟨RX8, "checkRow", "(LWharfQuery$Table;I)V"⟩
abbrev cX8_checkSourceColumn : ByteArray := prog_1_method_46_code
def yX8_checkSourceColumn : MethodName := ⟨RX8, "checkSourceColumn", "(LWharfQuery$Report;II)V"⟩
abbrev cX8_checkPlanStep : ByteArray := prog_1_method_47_code
def yX8_checkPlanStep : MethodName := ⟨RX8, "checkPlanStep", "(LWharfQuery$Report;I)V"⟩
abbrev cX8_checkConditionRoom : ByteArray := prog_1_method_48_code
def yX8_checkConditionRoom : MethodName := ⟨RX8, "checkConditionRoom", "(LWharfQuery$Report;)V"⟩
abbrev cX8_checkSampleStep : ByteArray := prog_1_method_49_code
def yX8_checkSampleStep : MethodName := ⟨RX8, "checkSampleStep", "(I)V"⟩
abbrev cX8_runChosenPlan : ByteArray := prog_1_method_50_code
def yX8_runChosenPlan : MethodName := ⟨RX8, "runChosenPlan", "(LWharfQuery$Report;)V"⟩
abbrev cX8_runPlainPlan : ByteArray := prog_1_method_51_code
def yX8_runPlainPlan : MethodName := ⟨RX8, "runPlainPlan", "(LWharfQuery$Report;)V"⟩
def RX9 : String := "WharfQueryModel"
def TX9 : u_T := fun k => match k with
  | _ => ("", "", "", false)
def tyX9 : Nat → FieldType := fun k => match k with
  | _ => .int
abbrev wsX90 : List Cond := u_ws RX9 TX9 0
theorem nmX9 : ∀ a, a < 0 → ∀ b, b < 0 → a ≠ b → (TX9 a).2.1 ≠ (TX9 b).2.1 := by decide +kernel
theorem tyX9_ok : ∀ k, k < 0 → parseFieldDescriptor (TX9 k).2.2.1 = some (tyX9 k) := by decide +kernel
def RJ9 : String := "java/lang/Math"
def TJ9 : u_T := fun k => match k with
  | _ => ("", "", "", false)
def tyJ9 : Nat → FieldType := fun k => match k with
  | _ => .int
abbrev wsJ90 : List Cond := u_ws RJ9 TJ9 0
theorem nmJ9 : ∀ a, a < 0 → ∀ b, b < 0 → a ≠ b → (TJ9 a).2.1 ≠ (TJ9 b).2.1 := by decide +kernel
theorem tyJ9_ok : ∀ k, k < 0 → parseFieldDescriptor (TJ9 k).2.2.1 = some (tyJ9 k) := by decide +kernel
abbrev cJ9_max_7cf53 : ByteArray := prog_16_method_65_code
def yJ9_max_7cf53 : MethodName := ⟨RJ9, "max", "(II)I"⟩
abbrev cJ9_min_7cf53 : ByteArray := prog_16_method_69_code
def yJ9_min_7cf53 : MethodName := ⟨RJ9, "min", "(II)I"⟩
def RJ0 : String := "java/lang/String"
def TJ0 : u_T := fun k => match k with
  | _ => ("", "", "", false)
def tyJ0 : Nat → FieldType := fun k => match k with
  | _ => .int
abbrev wsJ00 : List Cond := u_ws RJ0 TJ0 0
theorem nmJ0 : ∀ a, a < 0 → ∀ b, b < 0 → a ≠ b → (TJ0 a).2.1 ≠ (TJ0 b).2.1 := by decide +kernel
theorem tyJ0_ok : ∀ k, k < 0 → parseFieldDescriptor (TJ0 k).2.2.1 = some (tyJ0 k) := by decide +kernel
def RL : String := "WharfQueryLaw"
abbrev cL_drawn : ByteArray := method_2_code
def yL_drawn : MethodName := ⟨RL, "drawn", "([II)I"⟩
abbrev cL_insert : ByteArray := method_3_code
def yL_insert : MethodName := ⟨RL, "insert", "(LWharfQuery;IIII)I"⟩
abbrev cL_add : ByteArray := method_4_code
def yL_add : MethodName := ⟨RL, "add", "(LWharfQuery;II)I"⟩
abbrev cL_does : ByteArray := method_5_code
def yL_does : MethodName := ⟨RL, "does", "(LWharfQuery;III)I"⟩
abbrev cL_ask : ByteArray := method_6_code
def yL_ask : MethodName := ⟨RL, "ask", "(LWharfQuery;IIIIII)I"⟩
abbrev cL_sums : ByteArray := method_7_code
def yL_sums : MethodName := ⟨RL, "sums", "(LWharfQuery;III)Z"⟩
abbrev cL_of : ByteArray := method_8_code
def yL_of : MethodName := ⟨RL, "of", "(LWharfQuery;II)I"⟩
abbrev cL_at : ByteArray := method_9_code
def yL_at : MethodName := ⟨RL, "at", "(LWharfQuery;III)I"⟩
abbrev cL_value : ByteArray := method_10_code
def yL_value : MethodName := ⟨RL, "value", "(LWharfQuery;III)I"⟩
abbrev cL_same : ByteArray := method_11_code
def yL_same : MethodName := ⟨RL, "same", "(LWharfQuery;LWharfQuery;[I[III)Z"⟩
abbrev cL_law : ByteArray := code
def yL_law : MethodName := ⟨RL, "law", "([I)Z"⟩
def wsJ9_max_7cf53 : List Cond := .code yJ9_max_7cf53 cJ9_max_7cf53 2 (some .int) :: ([])
def wsJ9_min_7cf53 : List Cond := .code yJ9_min_7cf53 cJ9_min_7cf53 2 (some .int) :: ([])
theorem inJ9 : ∀ w ∈ wsJ90, w ∈ lw_tbl := by decide +kernel
theorem inJ0 : ∀ w ∈ wsJ00, w ∈ lw_tbl := by decide +kernel
theorem dJ9_max_7cf53_0 : decode cJ9_max_7cf53 0 = .ok (.iload_n 0, 1) := by decide +kernel
theorem dJ9_max_7cf53_1 : decode cJ9_max_7cf53 1 = .ok (.iload_n 1, 1) := by decide +kernel
theorem dJ9_max_7cf53_2 : decode cJ9_max_7cf53 2 = .ok (.if_icmp .lt 7, 3) := by decide +kernel
theorem dJ9_max_7cf53_5 : decode cJ9_max_7cf53 5 = .ok (.iload_n 0, 1) := by decide +kernel
theorem dJ9_max_7cf53_6 : decode cJ9_max_7cf53 6 = .ok (.goto 4, 3) := by decide +kernel
theorem dJ9_max_7cf53_9 : decode cJ9_max_7cf53 9 = .ok (.iload_n 1, 1) := by decide +kernel
theorem dJ9_max_7cf53_10 : decode cJ9_max_7cf53 10 = .ok (.ireturn, 1) := by decide +kernel
theorem dJ9_min_7cf53_0 : decode cJ9_min_7cf53 0 = .ok (.iload_n 0, 1) := by decide +kernel
theorem dJ9_min_7cf53_1 : decode cJ9_min_7cf53 1 = .ok (.iload_n 1, 1) := by decide +kernel
theorem dJ9_min_7cf53_2 : decode cJ9_min_7cf53 2 = .ok (.if_icmp .gt 7, 3) := by decide +kernel
theorem dJ9_min_7cf53_5 : decode cJ9_min_7cf53 5 = .ok (.iload_n 0, 1) := by decide +kernel
theorem dJ9_min_7cf53_6 : decode cJ9_min_7cf53 6 = .ok (.goto 4, 3) := by decide +kernel
theorem dJ9_min_7cf53_9 : decode cJ9_min_7cf53 9 = .ok (.iload_n 1, 1) := by decide +kernel
theorem dJ9_min_7cf53_10 : decode cJ9_min_7cf53 10 = .ok (.ireturn, 1) := by decide +kernel
abbrev vwCl : List vw_C := [(RX0, TX0, 4), (RX1, TX1, 6), (RX2, TX2, 10), (RX3, TX3, 4), (RX4, TX4, 3), (RX5, TX5, 11), (RX6, TX6, 5), (RX7, TX7, 9), (RX8, TX8, 8)]
/-- the tables' words that are the same at every moment of a run -/
def wq_aw : List Cond := lw_tbl.filter goodWord
theorem wq_mem {w : Cond} (i : Nat) (h : lw_tbl[i]? = some w) (g : goodWord w = true) : w ∈ wq_aw := List.mem_filter.mpr ⟨List.mem_of_getElem? h, g⟩
theorem wq_aw_in : ∀ w ∈ wq_aw, w ∈ lw_tbl := fun _ h => (List.mem_filter.mp h).1
theorem wq_aw_good : ∀ w ∈ wq_aw, goodWord w = true := fun _ h => (List.mem_filter.mp h).2
theorem wq_memall {ws : List Cond} (is : List Nat) (h : ws.map some = is.map (fun i => lw_tbl[i]?)) (g : ws.all goodWord = true) : ∀ w ∈ ws, w ∈ wq_aw := by
  intro w hw
  refine List.mem_filter.mpr ⟨?_, List.all_eq_true.mp g w hw⟩
  have h1 : some w ∈ ws.map some := List.mem_map.mpr ⟨w, hw, rfl⟩
  rw [h] at h1
  obtain ⟨i, -, hi⟩ := List.mem_map.mp h1
  exact List.mem_of_getElem? hi
/-- the words of a method: its code, and all of these -/
def wq_ws (c : Cond) : List Cond := c :: wq_aw
theorem wq_goodIn {c c' : Cond} (h : c' ∈ wq_aw) : GoodIn (wq_ws c) (wq_ws c') := by
  intro w hw
  rcases List.mem_cons.mp hw with rfl | hw
  · exact ⟨List.mem_cons_of_mem _ h, good_of_word (wq_aw_good _ h)⟩
  · exact ⟨List.mem_cons_of_mem _ hw, good_of_word (wq_aw_good _ hw)⟩
