theorem dX0_init_0 : decode cX0_init 0 = .ok (.aload_n 0, 1) := by decide +kernel
theorem dX0_init_1 : decode cX0_init 1 = .ok (.invokespecial 1, 3) := by decide +kernel
theorem dX0_init_4 : decode cX0_init 4 = .ok (.return_, 1) := by decide +kernel
theorem dX1_init_0 : decode cX1_init 0 = .ok (.aload_n 0, 1) := by decide +kernel
theorem dX1_init_1 : decode cX1_init 1 = .ok (.invokespecial 3, 3) := by decide +kernel
theorem dX1_init_4 : decode cX1_init 4 = .ok (.return_, 1) := by decide +kernel
theorem dX1_compare_0 : decode cX1_compare 0 = .ok (.aload_n 0, 1) := by decide +kernel
theorem dX1_compare_1 : decode cX1_compare 1 = .ok (.iload_n 1, 1) := by decide +kernel
theorem dX1_compare_2 : decode cX1_compare 2 = .ok (.putfield 9, 3) := by decide +kernel
theorem dX1_compare_5 : decode cX1_compare 5 = .ok (.aload_n 0, 1) := by decide +kernel
theorem dX1_compare_6 : decode cX1_compare 6 = .ok (.iload_n 2, 1) := by decide +kernel
theorem dX1_compare_7 : decode cX1_compare 7 = .ok (.putfield 15, 3) := by decide +kernel
theorem dX1_compare_10 : decode cX1_compare 10 = .ok (.aload_n 0, 1) := by decide +kernel
theorem dX1_compare_11 : decode cX1_compare 11 = .ok (.iload_n 3, 1) := by decide +kernel
theorem dX1_compare_12 : decode cX1_compare 12 = .ok (.putfield 18, 3) := by decide +kernel
theorem dX1_compare_15 : decode cX1_compare 15 = .ok (.aload_n 0, 1) := by decide +kernel
theorem dX1_compare_16 : decode cX1_compare 16 = .ok (.iload 4, 2) := by decide +kernel
theorem dX1_compare_18 : decode cX1_compare 18 = .ok (.putfield 21, 3) := by decide +kernel
theorem dX1_compare_21 : decode cX1_compare 21 = .ok (.return_, 1) := by decide +kernel
theorem dX1_join_0 : decode cX1_join 0 = .ok (.aload_n 0, 1) := by decide +kernel
theorem dX1_join_1 : decode cX1_join 1 = .ok (.iload_n 1, 1) := by decide +kernel
theorem dX1_join_2 : decode cX1_join 2 = .ok (.putfield 9, 3) := by decide +kernel
theorem dX1_join_5 : decode cX1_join 5 = .ok (.aload_n 0, 1) := by decide +kernel
theorem dX1_join_6 : decode cX1_join 6 = .ok (.iload_n 2, 1) := by decide +kernel
theorem dX1_join_7 : decode cX1_join 7 = .ok (.putfield 15, 3) := by decide +kernel
theorem dX1_join_10 : decode cX1_join 10 = .ok (.aload_n 0, 1) := by decide +kernel
theorem dX1_join_11 : decode cX1_join 11 = .ok (.iconst 3, 1) := by decide +kernel
theorem dX1_join_12 : decode cX1_join 12 = .ok (.putfield 18, 3) := by decide +kernel
theorem dX1_join_15 : decode cX1_join 15 = .ok (.aload_n 0, 1) := by decide +kernel
theorem dX1_join_16 : decode cX1_join 16 = .ok (.iload_n 3, 1) := by decide +kernel
theorem dX1_join_17 : decode cX1_join 17 = .ok (.putfield 24, 3) := by decide +kernel
theorem dX1_join_20 : decode cX1_join 20 = .ok (.aload_n 0, 1) := by decide +kernel
theorem dX1_join_21 : decode cX1_join 21 = .ok (.iload 4, 2) := by decide +kernel
theorem dX1_join_23 : decode cX1_join 23 = .ok (.putfield 27, 3) := by decide +kernel
theorem dX1_join_26 : decode cX1_join 26 = .ok (.return_, 1) := by decide +kernel
theorem dX1_stepIn_0 : decode cX1_stepIn 0 = .ok (.aload_n 1, 1) := by decide +kernel
theorem dX1_stepIn_1 : decode cX1_stepIn 1 = .ok (.getfield 30, 3) := by decide +kernel
theorem dX1_stepIn_4 : decode cX1_stepIn 4 = .ok (.aload_n 0, 1) := by decide +kernel
theorem dX1_stepIn_5 : decode cX1_stepIn 5 = .ok (.getfield 9, 3) := by decide +kernel
theorem dX1_stepIn_8 : decode cX1_stepIn 8 = .ok (.iaload, 1) := by decide +kernel
theorem dX1_stepIn_9 : decode cX1_stepIn 9 = .ok (.istore_n 2, 1) := by decide +kernel
theorem dX1_stepIn_10 : decode cX1_stepIn 10 = .ok (.aload_n 0, 1) := by decide +kernel
theorem dX1_stepIn_11 : decode cX1_stepIn 11 = .ok (.getfield 18, 3) := by decide +kernel
theorem dX1_stepIn_14 : decode cX1_stepIn 14 = .ok (.iconst 3, 1) := by decide +kernel
theorem dX1_stepIn_15 : decode cX1_stepIn 15 = .ok (.if_icmp .ne 26, 3) := by decide +kernel
theorem dX1_stepIn_18 : decode cX1_stepIn 18 = .ok (.aload_n 1, 1) := by decide +kernel
theorem dX1_stepIn_19 : decode cX1_stepIn 19 = .ok (.getfield 30, 3) := by decide +kernel
theorem dX1_stepIn_22 : decode cX1_stepIn 22 = .ok (.aload_n 0, 1) := by decide +kernel
theorem dX1_stepIn_23 : decode cX1_stepIn 23 = .ok (.getfield 24, 3) := by decide +kernel
theorem dX1_stepIn_26 : decode cX1_stepIn 26 = .ok (.iaload, 1) := by decide +kernel
theorem dX1_stepIn_27 : decode cX1_stepIn 27 = .ok (.iload_n 2, 1) := by decide +kernel
theorem dX1_stepIn_28 : decode cX1_stepIn 28 = .ok (.if_icmp .le 13, 3) := by decide +kernel
theorem dX1_stepIn_31 : decode cX1_stepIn 31 = .ok (.aload_n 1, 1) := by decide +kernel
theorem dX1_stepIn_32 : decode cX1_stepIn 32 = .ok (.getfield 30, 3) := by decide +kernel
theorem dX1_stepIn_35 : decode cX1_stepIn 35 = .ok (.aload_n 0, 1) := by decide +kernel
theorem dX1_stepIn_36 : decode cX1_stepIn 36 = .ok (.getfield 24, 3) := by decide +kernel
theorem dX1_stepIn_39 : decode cX1_stepIn 39 = .ok (.iaload, 1) := by decide +kernel
theorem dX1_stepIn_40 : decode cX1_stepIn 40 = .ok (.ireturn, 1) := by decide +kernel
theorem dX1_stepIn_41 : decode cX1_stepIn 41 = .ok (.iload_n 2, 1) := by decide +kernel
theorem dX1_stepIn_42 : decode cX1_stepIn 42 = .ok (.ireturn, 1) := by decide +kernel
theorem dX1_asksForOneValueOf_0 : decode cX1_asksForOneValueOf 0 = .ok (.aload_n 0, 1) := by decide +kernel
theorem dX1_asksForOneValueOf_1 : decode cX1_asksForOneValueOf 1 = .ok (.getfield 18, 3) := by decide +kernel
theorem dX1_asksForOneValueOf_4 : decode cX1_asksForOneValueOf 4 = .ok (.ifCond .eq 11, 3) := by decide +kernel
theorem dX1_asksForOneValueOf_7 : decode cX1_asksForOneValueOf 7 = .ok (.aload_n 0, 1) := by decide +kernel
theorem dX1_asksForOneValueOf_8 : decode cX1_asksForOneValueOf 8 = .ok (.getfield 18, 3) := by decide +kernel
theorem dX1_asksForOneValueOf_11 : decode cX1_asksForOneValueOf 11 = .ok (.iconst 3, 1) := by decide +kernel
theorem dX1_asksForOneValueOf_12 : decode cX1_asksForOneValueOf 12 = .ok (.if_icmp .ne 21, 3) := by decide +kernel
theorem dX1_asksForOneValueOf_15 : decode cX1_asksForOneValueOf 15 = .ok (.aload_n 0, 1) := by decide +kernel
theorem dX1_asksForOneValueOf_16 : decode cX1_asksForOneValueOf 16 = .ok (.getfield 9, 3) := by decide +kernel
theorem dX1_asksForOneValueOf_19 : decode cX1_asksForOneValueOf 19 = .ok (.iload_n 1, 1) := by decide +kernel
theorem dX1_asksForOneValueOf_20 : decode cX1_asksForOneValueOf 20 = .ok (.if_icmp .ne 13, 3) := by decide +kernel
theorem dX1_asksForOneValueOf_23 : decode cX1_asksForOneValueOf 23 = .ok (.aload_n 0, 1) := by decide +kernel
theorem dX1_asksForOneValueOf_24 : decode cX1_asksForOneValueOf 24 = .ok (.getfield 15, 3) := by decide +kernel
theorem dX1_asksForOneValueOf_27 : decode cX1_asksForOneValueOf 27 = .ok (.iload_n 2, 1) := by decide +kernel
theorem dX1_asksForOneValueOf_28 : decode cX1_asksForOneValueOf 28 = .ok (.if_icmp .ne 5, 3) := by decide +kernel
theorem dX1_asksForOneValueOf_31 : decode cX1_asksForOneValueOf 31 = .ok (.iconst 1, 1) := by decide +kernel
theorem dX1_asksForOneValueOf_32 : decode cX1_asksForOneValueOf 32 = .ok (.ireturn, 1) := by decide +kernel
theorem dX1_asksForOneValueOf_33 : decode cX1_asksForOneValueOf 33 = .ok (.aload_n 0, 1) := by decide +kernel
theorem dX1_asksForOneValueOf_34 : decode cX1_asksForOneValueOf 34 = .ok (.getfield 18, 3) := by decide +kernel
theorem dX1_asksForOneValueOf_37 : decode cX1_asksForOneValueOf 37 = .ok (.iconst 3, 1) := by decide +kernel
theorem dX1_asksForOneValueOf_38 : decode cX1_asksForOneValueOf 38 = .ok (.if_icmp .ne 23, 3) := by decide +kernel
theorem dX1_asksForOneValueOf_41 : decode cX1_asksForOneValueOf 41 = .ok (.aload_n 0, 1) := by decide +kernel
theorem dX1_asksForOneValueOf_42 : decode cX1_asksForOneValueOf 42 = .ok (.getfield 24, 3) := by decide +kernel
theorem dX1_asksForOneValueOf_45 : decode cX1_asksForOneValueOf 45 = .ok (.iload_n 1, 1) := by decide +kernel
theorem dX1_asksForOneValueOf_46 : decode cX1_asksForOneValueOf 46 = .ok (.if_icmp .ne 15, 3) := by decide +kernel
theorem dX1_asksForOneValueOf_49 : decode cX1_asksForOneValueOf 49 = .ok (.aload_n 0, 1) := by decide +kernel
theorem dX1_asksForOneValueOf_50 : decode cX1_asksForOneValueOf 50 = .ok (.getfield 27, 3) := by decide +kernel
theorem dX1_asksForOneValueOf_53 : decode cX1_asksForOneValueOf 53 = .ok (.iload_n 2, 1) := by decide +kernel
theorem dX1_asksForOneValueOf_54 : decode cX1_asksForOneValueOf 54 = .ok (.if_icmp .ne 7, 3) := by decide +kernel
theorem dX1_asksForOneValueOf_57 : decode cX1_asksForOneValueOf 57 = .ok (.iconst 1, 1) := by decide +kernel
theorem dX1_asksForOneValueOf_58 : decode cX1_asksForOneValueOf 58 = .ok (.goto 4, 3) := by decide +kernel
theorem dX1_asksForOneValueOf_61 : decode cX1_asksForOneValueOf 61 = .ok (.iconst 0, 1) := by decide +kernel
theorem dX1_asksForOneValueOf_62 : decode cX1_asksForOneValueOf 62 = .ok (.ireturn, 1) := by decide +kernel
theorem dX2_init_0 : decode cX2_init 0 = .ok (.aload_n 0, 1) := by decide +kernel
theorem dX2_init_1 : decode cX2_init 1 = .ok (.invokespecial 3, 3) := by decide +kernel
theorem dX2_init_4 : decode cX2_init 4 = .ok (.aload_n 0, 1) := by decide +kernel
theorem dX2_init_5 : decode cX2_init 5 = .ok (.bipush 8, 2) := by decide +kernel
theorem dX2_init_7 : decode cX2_init 7 = .ok (.newarray .int, 2) := by decide +kernel
theorem dX2_init_9 : decode cX2_init 9 = .ok (.putfield 9, 3) := by decide +kernel
theorem dX2_init_12 : decode cX2_init 12 = .ok (.aload_n 0, 1) := by decide +kernel
theorem dX2_init_13 : decode cX2_init 13 = .ok (.iconst 1, 1) := by decide +kernel
theorem dX2_init_14 : decode cX2_init 14 = .ok (.putfield 15, 3) := by decide +kernel
theorem dX2_init_17 : decode cX2_init 17 = .ok (.aload_n 0, 1) := by decide +kernel
theorem dX2_init_18 : decode cX2_init 18 = .ok (.aload_n 1, 1) := by decide +kernel
theorem dX2_init_19 : decode cX2_init 19 = .ok (.putfield 19, 3) := by decide +kernel
theorem dX2_init_22 : decode cX2_init 22 = .ok (.aload_n 0, 1) := by decide +kernel
theorem dX2_init_23 : decode cX2_init 23 = .ok (.aload_n 2, 1) := by decide +kernel
theorem dX2_init_24 : decode cX2_init 24 = .ok (.putfield 23, 3) := by decide +kernel
theorem dX2_init_27 : decode cX2_init 27 = .ok (.aload_n 0, 1) := by decide +kernel
theorem dX2_init_28 : decode cX2_init 28 = .ok (.aload_n 3, 1) := by decide +kernel
theorem dX2_init_29 : decode cX2_init 29 = .ok (.putfield 27, 3) := by decide +kernel
theorem dX2_init_32 : decode cX2_init 32 = .ok (.aload_n 0, 1) := by decide +kernel
theorem dX2_init_33 : decode cX2_init 33 = .ok (.aload 4, 2) := by decide +kernel
theorem dX2_init_35 : decode cX2_init 35 = .ok (.putfield 31, 3) := by decide +kernel
theorem dX2_init_38 : decode cX2_init 38 = .ok (.return_, 1) := by decide +kernel
theorem dX2_takePay_0 : decode cX2_takePay 0 = .ok (.iload_n 1, 1) := by decide +kernel
theorem dX2_takePay_1 : decode cX2_takePay 1 = .ok (.istore_n 2, 1) := by decide +kernel
theorem dX2_takePay_2 : decode cX2_takePay 2 = .ok (.iconst 0, 1) := by decide +kernel
theorem dX2_takePay_3 : decode cX2_takePay 3 = .ok (.istore_n 3, 1) := by decide +kernel
theorem dX2_takePay_4 : decode cX2_takePay 4 = .ok (.iload_n 3, 1) := by decide +kernel
theorem dX2_takePay_5 : decode cX2_takePay 5 = .ok (.iconst 4, 1) := by decide +kernel
theorem dX2_takePay_6 : decode cX2_takePay 6 = .ok (.if_icmp .ge 37, 3) := by decide +kernel
theorem dX2_takePay_9 : decode cX2_takePay 9 = .ok (.aload_n 0, 1) := by decide +kernel
theorem dX2_takePay_10 : decode cX2_takePay 10 = .ok (.getfield 19, 3) := by decide +kernel
theorem dX2_takePay_13 : decode cX2_takePay 13 = .ok (.iload_n 3, 1) := by decide +kernel
theorem dX2_takePay_14 : decode cX2_takePay 14 = .ok (.aaload, 1) := by decide +kernel
theorem dX2_takePay_15 : decode cX2_takePay 15 = .ok (.getfield 35, 3) := by decide +kernel
theorem dX2_takePay_18 : decode cX2_takePay 18 = .ok (.ifCond .eq 19, 3) := by decide +kernel
theorem dX2_takePay_21 : decode cX2_takePay 21 = .ok (.iload_n 2, 1) := by decide +kernel
theorem dX2_takePay_22 : decode cX2_takePay 22 = .ok (.aload_n 0, 1) := by decide +kernel
theorem dX2_takePay_23 : decode cX2_takePay 23 = .ok (.getfield 19, 3) := by decide +kernel
theorem dX2_takePay_26 : decode cX2_takePay 26 = .ok (.iload_n 3, 1) := by decide +kernel
theorem dX2_takePay_27 : decode cX2_takePay 27 = .ok (.aaload, 1) := by decide +kernel
theorem dX2_takePay_28 : decode cX2_takePay 28 = .ok (.aload_n 0, 1) := by decide +kernel
theorem dX2_takePay_29 : decode cX2_takePay 29 = .ok (.getfield 15, 3) := by decide +kernel
theorem dX2_takePay_32 : decode cX2_takePay 32 = .ok (.invokevirtual 41, 3) := by decide +kernel
theorem dX2_takePay_35 : decode cX2_takePay 35 = .ok (.iadd, 1) := by decide +kernel
theorem dX2_takePay_36 : decode cX2_takePay 36 = .ok (.istore_n 2, 1) := by decide +kernel
theorem dX2_takePay_37 : decode cX2_takePay 37 = .ok (.iinc 3 1, 3) := by decide +kernel
theorem dX2_takePay_40 : decode cX2_takePay 40 = .ok (.goto (-36), 3) := by decide +kernel
theorem dX2_takePay_43 : decode cX2_takePay 43 = .ok (.iconst 0, 1) := by decide +kernel
theorem dX2_takePay_44 : decode cX2_takePay 44 = .ok (.istore_n 3, 1) := by decide +kernel
theorem dX2_takePay_45 : decode cX2_takePay 45 = .ok (.iload_n 3, 1) := by decide +kernel
theorem dX2_takePay_46 : decode cX2_takePay 46 = .ok (.bipush 8, 2) := by decide +kernel
theorem dX2_takePay_48 : decode cX2_takePay 48 = .ok (.if_icmp .ge 40, 3) := by decide +kernel
theorem dX2_takePay_51 : decode cX2_takePay 51 = .ok (.aload_n 0, 1) := by decide +kernel
theorem dX2_takePay_52 : decode cX2_takePay 52 = .ok (.getfield 23, 3) := by decide +kernel
theorem dX2_takePay_55 : decode cX2_takePay 55 = .ok (.iload_n 3, 1) := by decide +kernel
theorem dX2_takePay_56 : decode cX2_takePay 56 = .ok (.aaload, 1) := by decide +kernel
theorem dX2_takePay_57 : decode cX2_takePay 57 = .ok (.getfield 45, 3) := by decide +kernel
theorem dX2_takePay_60 : decode cX2_takePay 60 = .ok (.ifCond .eq 22, 3) := by decide +kernel
theorem dX2_takePay_63 : decode cX2_takePay 63 = .ok (.iload_n 2, 1) := by decide +kernel
theorem dX2_takePay_64 : decode cX2_takePay 64 = .ok (.aload_n 0, 1) := by decide +kernel
theorem dX2_takePay_65 : decode cX2_takePay 65 = .ok (.getfield 27, 3) := by decide +kernel
theorem dX2_takePay_68 : decode cX2_takePay 68 = .ok (.aload_n 0, 1) := by decide +kernel
theorem dX2_takePay_69 : decode cX2_takePay 69 = .ok (.getfield 23, 3) := by decide +kernel
theorem dX2_takePay_72 : decode cX2_takePay 72 = .ok (.iload_n 3, 1) := by decide +kernel
theorem dX2_takePay_73 : decode cX2_takePay 73 = .ok (.aaload, 1) := by decide +kernel
theorem dX2_takePay_74 : decode cX2_takePay 74 = .ok (.invokevirtual 50, 3) := by decide +kernel
theorem dX2_takePay_77 : decode cX2_takePay 77 = .ok (.invokevirtual 56, 3) := by decide +kernel
theorem dX2_takePay_80 : decode cX2_takePay 80 = .ok (.iadd, 1) := by decide +kernel
theorem dX2_takePay_81 : decode cX2_takePay 81 = .ok (.istore_n 2, 1) := by decide +kernel
theorem dX2_takePay_82 : decode cX2_takePay 82 = .ok (.iinc 3 1, 3) := by decide +kernel
theorem dX2_takePay_85 : decode cX2_takePay 85 = .ok (.goto (-40), 3) := by decide +kernel
theorem dX2_takePay_88 : decode cX2_takePay 88 = .ok (.aload_n 0, 1) := by decide +kernel
theorem dX2_takePay_89 : decode cX2_takePay 89 = .ok (.dup, 1) := by decide +kernel
theorem dX2_takePay_90 : decode cX2_takePay 90 = .ok (.getfield 62, 3) := by decide +kernel
theorem dX2_takePay_93 : decode cX2_takePay 93 = .ok (.iload_n 2, 1) := by decide +kernel
theorem dX2_takePay_94 : decode cX2_takePay 94 = .ok (.iadd, 1) := by decide +kernel
theorem dX2_takePay_95 : decode cX2_takePay 95 = .ok (.putfield 62, 3) := by decide +kernel
theorem dX2_takePay_98 : decode cX2_takePay 98 = .ok (.aload_n 0, 1) := by decide +kernel
theorem dX2_takePay_99 : decode cX2_takePay 99 = .ok (.iload_n 2, 1) := by decide +kernel
theorem dX2_takePay_100 : decode cX2_takePay 100 = .ok (.putfield 65, 3) := by decide +kernel
theorem dX2_takePay_103 : decode cX2_takePay 103 = .ok (.return_, 1) := by decide +kernel
theorem dX2_renewMarkedTables_0 : decode cX2_renewMarkedTables 0 = .ok (.iconst 0, 1) := by decide +kernel
theorem dX2_renewMarkedTables_1 : decode cX2_renewMarkedTables 1 = .ok (.istore_n 1, 1) := by decide +kernel
theorem dX2_renewMarkedTables_2 : decode cX2_renewMarkedTables 2 = .ok (.iload_n 1, 1) := by decide +kernel
theorem dX2_renewMarkedTables_3 : decode cX2_renewMarkedTables 3 = .ok (.iconst 4, 1) := by decide +kernel
theorem dX2_renewMarkedTables_4 : decode cX2_renewMarkedTables 4 = .ok (.if_icmp .ge 63, 3) := by decide +kernel
theorem dX2_renewMarkedTables_7 : decode cX2_renewMarkedTables 7 = .ok (.aload_n 0, 1) := by decide +kernel
theorem dX2_renewMarkedTables_8 : decode cX2_renewMarkedTables 8 = .ok (.getfield 19, 3) := by decide +kernel
theorem dX2_renewMarkedTables_11 : decode cX2_renewMarkedTables 11 = .ok (.iload_n 1, 1) := by decide +kernel
theorem dX2_renewMarkedTables_12 : decode cX2_renewMarkedTables 12 = .ok (.aaload, 1) := by decide +kernel
theorem dX2_renewMarkedTables_13 : decode cX2_renewMarkedTables 13 = .ok (.astore_n 2, 1) := by decide +kernel
theorem dX2_renewMarkedTables_14 : decode cX2_renewMarkedTables 14 = .ok (.aload_n 2, 1) := by decide +kernel
theorem dX2_renewMarkedTables_15 : decode cX2_renewMarkedTables 15 = .ok (.getfield 35, 3) := by decide +kernel
theorem dX2_renewMarkedTables_18 : decode cX2_renewMarkedTables 18 = .ok (.ifCond .eq 43, 3) := by decide +kernel
theorem dX2_renewMarkedTables_21 : decode cX2_renewMarkedTables 21 = .ok (.aload_n 2, 1) := by decide +kernel
theorem dX2_renewMarkedTables_22 : decode cX2_renewMarkedTables 22 = .ok (.aload_n 0, 1) := by decide +kernel
theorem dX2_renewMarkedTables_23 : decode cX2_renewMarkedTables 23 = .ok (.getfield 15, 3) := by decide +kernel
theorem dX2_renewMarkedTables_26 : decode cX2_renewMarkedTables 26 = .ok (.invokevirtual 41, 3) := by decide +kernel
theorem dX2_renewMarkedTables_29 : decode cX2_renewMarkedTables 29 = .ok (.aload_n 0, 1) := by decide +kernel
theorem dX2_renewMarkedTables_30 : decode cX2_renewMarkedTables 30 = .ok (.getfield 65, 3) := by decide +kernel
theorem dX2_renewMarkedTables_33 : decode cX2_renewMarkedTables 33 = .ok (.if_icmp .le 6, 3) := by decide +kernel
theorem dX2_renewMarkedTables_36 : decode cX2_renewMarkedTables 36 = .ok (.goto 25, 3) := by decide +kernel
theorem dX2_renewMarkedTables_39 : decode cX2_renewMarkedTables 39 = .ok (.aload_n 0, 1) := by decide +kernel
theorem dX2_renewMarkedTables_40 : decode cX2_renewMarkedTables 40 = .ok (.dup, 1) := by decide +kernel
theorem dX2_renewMarkedTables_41 : decode cX2_renewMarkedTables 41 = .ok (.getfield 65, 3) := by decide +kernel
theorem dX2_renewMarkedTables_44 : decode cX2_renewMarkedTables 44 = .ok (.aload_n 2, 1) := by decide +kernel
theorem dX2_renewMarkedTables_45 : decode cX2_renewMarkedTables 45 = .ok (.aload_n 0, 1) := by decide +kernel
theorem dX2_renewMarkedTables_46 : decode cX2_renewMarkedTables 46 = .ok (.getfield 15, 3) := by decide +kernel
theorem dX2_renewMarkedTables_49 : decode cX2_renewMarkedTables 49 = .ok (.invokevirtual 68, 3) := by decide +kernel
theorem dX2_renewMarkedTables_52 : decode cX2_renewMarkedTables 52 = .ok (.isub, 1) := by decide +kernel
theorem dX2_renewMarkedTables_53 : decode cX2_renewMarkedTables 53 = .ok (.putfield 65, 3) := by decide +kernel
theorem dX2_renewMarkedTables_56 : decode cX2_renewMarkedTables 56 = .ok (.aload_n 2, 1) := by decide +kernel
theorem dX2_renewMarkedTables_57 : decode cX2_renewMarkedTables 57 = .ok (.iconst 0, 1) := by decide +kernel
theorem dX2_renewMarkedTables_58 : decode cX2_renewMarkedTables 58 = .ok (.putfield 35, 3) := by decide +kernel
theorem dX2_renewMarkedTables_61 : decode cX2_renewMarkedTables 61 = .ok (.iinc 1 1, 3) := by decide +kernel
theorem dX2_renewMarkedTables_64 : decode cX2_renewMarkedTables 64 = .ok (.goto (-62), 3) := by decide +kernel
theorem dX2_renewMarkedTables_67 : decode cX2_renewMarkedTables 67 = .ok (.return_, 1) := by decide +kernel
theorem dX2_runDueReports_0 : decode cX2_runDueReports 0 = .ok (.aload_n 0, 1) := by decide +kernel
theorem dX2_runDueReports_1 : decode cX2_runDueReports 1 = .ok (.invokevirtual 71, 3) := by decide +kernel
theorem dX2_runDueReports_4 : decode cX2_runDueReports 4 = .ok (.istore_n 1, 1) := by decide +kernel
theorem dX2_runDueReports_5 : decode cX2_runDueReports 5 = .ok (.iconst 0, 1) := by decide +kernel
theorem dX2_runDueReports_6 : decode cX2_runDueReports 6 = .ok (.istore_n 2, 1) := by decide +kernel
theorem dX2_runDueReports_7 : decode cX2_runDueReports 7 = .ok (.iload_n 2, 1) := by decide +kernel
theorem dX2_runDueReports_8 : decode cX2_runDueReports 8 = .ok (.iload_n 1, 1) := by decide +kernel
theorem dX2_runDueReports_9 : decode cX2_runDueReports 9 = .ok (.if_icmp .ge 68, 3) := by decide +kernel
theorem dX2_runDueReports_12 : decode cX2_runDueReports 12 = .ok (.aload_n 0, 1) := by decide +kernel
theorem dX2_runDueReports_13 : decode cX2_runDueReports 13 = .ok (.getfield 23, 3) := by decide +kernel
theorem dX2_runDueReports_16 : decode cX2_runDueReports 16 = .ok (.aload_n 0, 1) := by decide +kernel
theorem dX2_runDueReports_17 : decode cX2_runDueReports 17 = .ok (.getfield 9, 3) := by decide +kernel
theorem dX2_runDueReports_20 : decode cX2_runDueReports 20 = .ok (.iload_n 2, 1) := by decide +kernel
theorem dX2_runDueReports_21 : decode cX2_runDueReports 21 = .ok (.iaload, 1) := by decide +kernel
theorem dX2_runDueReports_22 : decode cX2_runDueReports 22 = .ok (.aaload, 1) := by decide +kernel
theorem dX2_runDueReports_23 : decode cX2_runDueReports 23 = .ok (.astore_n 3, 1) := by decide +kernel
theorem dX2_runDueReports_24 : decode cX2_runDueReports 24 = .ok (.aload_n 0, 1) := by decide +kernel
theorem dX2_runDueReports_25 : decode cX2_runDueReports 25 = .ok (.getfield 27, 3) := by decide +kernel
theorem dX2_runDueReports_28 : decode cX2_runDueReports 28 = .ok (.aload_n 3, 1) := by decide +kernel
theorem dX2_runDueReports_29 : decode cX2_runDueReports 29 = .ok (.invokevirtual 50, 3) := by decide +kernel
theorem dX2_runDueReports_32 : decode cX2_runDueReports 32 = .ok (.astore 4, 2) := by decide +kernel
theorem dX2_runDueReports_34 : decode cX2_runDueReports 34 = .ok (.aload_n 0, 1) := by decide +kernel
theorem dX2_runDueReports_35 : decode cX2_runDueReports 35 = .ok (.getfield 31, 3) := by decide +kernel
theorem dX2_runDueReports_38 : decode cX2_runDueReports 38 = .ok (.aload_n 3, 1) := by decide +kernel
theorem dX2_runDueReports_39 : decode cX2_runDueReports 39 = .ok (.aload 4, 2) := by decide +kernel
theorem dX2_runDueReports_41 : decode cX2_runDueReports 41 = .ok (.invokevirtual 74, 3) := by decide +kernel
theorem dX2_runDueReports_44 : decode cX2_runDueReports 44 = .ok (.aload_n 0, 1) := by decide +kernel
theorem dX2_runDueReports_45 : decode cX2_runDueReports 45 = .ok (.getfield 31, 3) := by decide +kernel
theorem dX2_runDueReports_48 : decode cX2_runDueReports 48 = .ok (.getfield 80, 3) := by decide +kernel
theorem dX2_runDueReports_51 : decode cX2_runDueReports 51 = .ok (.aload_n 0, 1) := by decide +kernel
theorem dX2_runDueReports_52 : decode cX2_runDueReports 52 = .ok (.getfield 65, 3) := by decide +kernel
theorem dX2_runDueReports_55 : decode cX2_runDueReports 55 = .ok (.if_icmp .le 6, 3) := by decide +kernel
theorem dX2_runDueReports_58 : decode cX2_runDueReports 58 = .ok (.goto 19, 3) := by decide +kernel
theorem dX2_runDueReports_61 : decode cX2_runDueReports 61 = .ok (.aload_n 0, 1) := by decide +kernel
theorem dX2_runDueReports_62 : decode cX2_runDueReports 62 = .ok (.aload_n 3, 1) := by decide +kernel
theorem dX2_runDueReports_63 : decode cX2_runDueReports 63 = .ok (.aload 4, 2) := by decide +kernel
theorem dX2_runDueReports_65 : decode cX2_runDueReports 65 = .ok (.invokevirtual 56, 3) := by decide +kernel
theorem dX2_runDueReports_68 : decode cX2_runDueReports 68 = .ok (.invokevirtual 83, 3) := by decide +kernel
theorem dX2_runDueReports_71 : decode cX2_runDueReports 71 = .ok (.iinc 2 1, 3) := by decide +kernel
theorem dX2_runDueReports_74 : decode cX2_runDueReports 74 = .ok (.goto (-67), 3) := by decide +kernel
theorem dX2_runDueReports_77 : decode cX2_runDueReports 77 = .ok (.iload_n 2, 1) := by decide +kernel
theorem dX2_runDueReports_78 : decode cX2_runDueReports 78 = .ok (.istore_n 3, 1) := by decide +kernel
theorem dX2_runDueReports_79 : decode cX2_runDueReports 79 = .ok (.iload_n 3, 1) := by decide +kernel
theorem dX2_runDueReports_80 : decode cX2_runDueReports 80 = .ok (.iload_n 1, 1) := by decide +kernel
theorem dX2_runDueReports_81 : decode cX2_runDueReports 81 = .ok (.if_icmp .ge 42, 3) := by decide +kernel
theorem dX2_runDueReports_84 : decode cX2_runDueReports 84 = .ok (.aload_n 0, 1) := by decide +kernel
theorem dX2_runDueReports_85 : decode cX2_runDueReports 85 = .ok (.getfield 23, 3) := by decide +kernel
theorem dX2_runDueReports_88 : decode cX2_runDueReports 88 = .ok (.aload_n 0, 1) := by decide +kernel
theorem dX2_runDueReports_89 : decode cX2_runDueReports 89 = .ok (.getfield 9, 3) := by decide +kernel
theorem dX2_runDueReports_92 : decode cX2_runDueReports 92 = .ok (.iload_n 3, 1) := by decide +kernel
theorem dX2_runDueReports_93 : decode cX2_runDueReports 93 = .ok (.iaload, 1) := by decide +kernel
theorem dX2_runDueReports_94 : decode cX2_runDueReports 94 = .ok (.aaload, 1) := by decide +kernel
theorem dX2_runDueReports_95 : decode cX2_runDueReports 95 = .ok (.astore 4, 2) := by decide +kernel
theorem dX2_runDueReports_97 : decode cX2_runDueReports 97 = .ok (.aload_n 0, 1) := by decide +kernel
theorem dX2_runDueReports_98 : decode cX2_runDueReports 98 = .ok (.dup, 1) := by decide +kernel
theorem dX2_runDueReports_99 : decode cX2_runDueReports 99 = .ok (.getfield 87, 3) := by decide +kernel
theorem dX2_runDueReports_102 : decode cX2_runDueReports 102 = .ok (.aload 4, 2) := by decide +kernel
theorem dX2_runDueReports_104 : decode cX2_runDueReports 104 = .ok (.getfield 90, 3) := by decide +kernel
theorem dX2_runDueReports_107 : decode cX2_runDueReports 107 = .ok (.iadd, 1) := by decide +kernel
theorem dX2_runDueReports_108 : decode cX2_runDueReports 108 = .ok (.putfield 87, 3) := by decide +kernel
theorem dX2_runDueReports_111 : decode cX2_runDueReports 111 = .ok (.aload_n 0, 1) := by decide +kernel
theorem dX2_runDueReports_112 : decode cX2_runDueReports 112 = .ok (.aload 4, 2) := by decide +kernel
theorem dX2_runDueReports_114 : decode cX2_runDueReports 114 = .ok (.invokevirtual 93, 3) := by decide +kernel
theorem dX2_runDueReports_117 : decode cX2_runDueReports 117 = .ok (.iinc 3 1, 3) := by decide +kernel
theorem dX2_runDueReports_120 : decode cX2_runDueReports 120 = .ok (.goto (-41), 3) := by decide +kernel
theorem dX2_runDueReports_123 : decode cX2_runDueReports 123 = .ok (.aload_n 0, 1) := by decide +kernel
theorem dX2_runDueReports_124 : decode cX2_runDueReports 124 = .ok (.dup, 1) := by decide +kernel
theorem dX2_runDueReports_125 : decode cX2_runDueReports 125 = .ok (.getfield 97, 3) := by decide +kernel
theorem dX2_runDueReports_128 : decode cX2_runDueReports 128 = .ok (.iconst 1, 1) := by decide +kernel
theorem dX2_runDueReports_129 : decode cX2_runDueReports 129 = .ok (.iadd, 1) := by decide +kernel
theorem dX2_runDueReports_130 : decode cX2_runDueReports 130 = .ok (.putfield 97, 3) := by decide +kernel
theorem dX2_runDueReports_133 : decode cX2_runDueReports 133 = .ok (.iload_n 2, 1) := by decide +kernel
theorem dX2_runDueReports_134 : decode cX2_runDueReports 134 = .ok (.ireturn, 1) := by decide +kernel
theorem dX2_lineUpDueReports_0 : decode cX2_lineUpDueReports 0 = .ok (.iconst 0, 1) := by decide +kernel
theorem dX2_lineUpDueReports_1 : decode cX2_lineUpDueReports 1 = .ok (.istore_n 1, 1) := by decide +kernel
theorem dX2_lineUpDueReports_2 : decode cX2_lineUpDueReports 2 = .ok (.iconst 0, 1) := by decide +kernel
theorem dX2_lineUpDueReports_3 : decode cX2_lineUpDueReports 3 = .ok (.istore_n 2, 1) := by decide +kernel
theorem dX2_lineUpDueReports_4 : decode cX2_lineUpDueReports 4 = .ok (.iload_n 2, 1) := by decide +kernel
theorem dX2_lineUpDueReports_5 : decode cX2_lineUpDueReports 5 = .ok (.bipush 8, 2) := by decide +kernel
theorem dX2_lineUpDueReports_7 : decode cX2_lineUpDueReports 7 = .ok (.if_icmp .ge 88, 3) := by decide +kernel
theorem dX2_lineUpDueReports_10 : decode cX2_lineUpDueReports 10 = .ok (.aload_n 0, 1) := by decide +kernel
theorem dX2_lineUpDueReports_11 : decode cX2_lineUpDueReports 11 = .ok (.getfield 23, 3) := by decide +kernel
theorem dX2_lineUpDueReports_14 : decode cX2_lineUpDueReports 14 = .ok (.iload_n 2, 1) := by decide +kernel
theorem dX2_lineUpDueReports_15 : decode cX2_lineUpDueReports 15 = .ok (.aaload, 1) := by decide +kernel
theorem dX2_lineUpDueReports_16 : decode cX2_lineUpDueReports 16 = .ok (.getfield 45, 3) := by decide +kernel
theorem dX2_lineUpDueReports_19 : decode cX2_lineUpDueReports 19 = .ok (.ifCond .ne 6, 3) := by decide +kernel
theorem dX2_lineUpDueReports_22 : decode cX2_lineUpDueReports 22 = .ok (.goto 67, 3) := by decide +kernel
theorem dX2_lineUpDueReports_25 : decode cX2_lineUpDueReports 25 = .ok (.iload_n 1, 1) := by decide +kernel
theorem dX2_lineUpDueReports_26 : decode cX2_lineUpDueReports 26 = .ok (.istore_n 3, 1) := by decide +kernel
theorem dX2_lineUpDueReports_27 : decode cX2_lineUpDueReports 27 = .ok (.iload_n 3, 1) := by decide +kernel
theorem dX2_lineUpDueReports_28 : decode cX2_lineUpDueReports 28 = .ok (.ifCond .le 51, 3) := by decide +kernel
theorem dX2_lineUpDueReports_31 : decode cX2_lineUpDueReports 31 = .ok (.aload_n 0, 1) := by decide +kernel
theorem dX2_lineUpDueReports_32 : decode cX2_lineUpDueReports 32 = .ok (.getfield 23, 3) := by decide +kernel
theorem dX2_lineUpDueReports_35 : decode cX2_lineUpDueReports 35 = .ok (.aload_n 0, 1) := by decide +kernel
theorem dX2_lineUpDueReports_36 : decode cX2_lineUpDueReports 36 = .ok (.getfield 9, 3) := by decide +kernel
theorem dX2_lineUpDueReports_39 : decode cX2_lineUpDueReports 39 = .ok (.iload_n 3, 1) := by decide +kernel
theorem dX2_lineUpDueReports_40 : decode cX2_lineUpDueReports 40 = .ok (.iconst 1, 1) := by decide +kernel
theorem dX2_lineUpDueReports_41 : decode cX2_lineUpDueReports 41 = .ok (.isub, 1) := by decide +kernel
theorem dX2_lineUpDueReports_42 : decode cX2_lineUpDueReports 42 = .ok (.iaload, 1) := by decide +kernel
theorem dX2_lineUpDueReports_43 : decode cX2_lineUpDueReports 43 = .ok (.aaload, 1) := by decide +kernel
theorem dX2_lineUpDueReports_44 : decode cX2_lineUpDueReports 44 = .ok (.getfield 90, 3) := by decide +kernel
theorem dX2_lineUpDueReports_47 : decode cX2_lineUpDueReports 47 = .ok (.aload_n 0, 1) := by decide +kernel
theorem dX2_lineUpDueReports_48 : decode cX2_lineUpDueReports 48 = .ok (.getfield 23, 3) := by decide +kernel
theorem dX2_lineUpDueReports_51 : decode cX2_lineUpDueReports 51 = .ok (.iload_n 2, 1) := by decide +kernel
theorem dX2_lineUpDueReports_52 : decode cX2_lineUpDueReports 52 = .ok (.aaload, 1) := by decide +kernel
theorem dX2_lineUpDueReports_53 : decode cX2_lineUpDueReports 53 = .ok (.getfield 90, 3) := by decide +kernel
theorem dX2_lineUpDueReports_56 : decode cX2_lineUpDueReports 56 = .ok (.if_icmp .ge 23, 3) := by decide +kernel
theorem dX2_lineUpDueReports_59 : decode cX2_lineUpDueReports 59 = .ok (.aload_n 0, 1) := by decide +kernel
theorem dX2_lineUpDueReports_60 : decode cX2_lineUpDueReports 60 = .ok (.getfield 9, 3) := by decide +kernel
theorem dX2_lineUpDueReports_63 : decode cX2_lineUpDueReports 63 = .ok (.iload_n 3, 1) := by decide +kernel
theorem dX2_lineUpDueReports_64 : decode cX2_lineUpDueReports 64 = .ok (.aload_n 0, 1) := by decide +kernel
theorem dX2_lineUpDueReports_65 : decode cX2_lineUpDueReports 65 = .ok (.getfield 9, 3) := by decide +kernel
theorem dX2_lineUpDueReports_68 : decode cX2_lineUpDueReports 68 = .ok (.iload_n 3, 1) := by decide +kernel
theorem dX2_lineUpDueReports_69 : decode cX2_lineUpDueReports 69 = .ok (.iconst 1, 1) := by decide +kernel
theorem dX2_lineUpDueReports_70 : decode cX2_lineUpDueReports 70 = .ok (.isub, 1) := by decide +kernel
theorem dX2_lineUpDueReports_71 : decode cX2_lineUpDueReports 71 = .ok (.iaload, 1) := by decide +kernel
theorem dX2_lineUpDueReports_72 : decode cX2_lineUpDueReports 72 = .ok (.iastore, 1) := by decide +kernel
theorem dX2_lineUpDueReports_73 : decode cX2_lineUpDueReports 73 = .ok (.iinc 3 (-1), 3) := by decide +kernel
theorem dX2_lineUpDueReports_76 : decode cX2_lineUpDueReports 76 = .ok (.goto (-49), 3) := by decide +kernel
theorem dX2_lineUpDueReports_79 : decode cX2_lineUpDueReports 79 = .ok (.aload_n 0, 1) := by decide +kernel
theorem dX2_lineUpDueReports_80 : decode cX2_lineUpDueReports 80 = .ok (.getfield 9, 3) := by decide +kernel
theorem dX2_lineUpDueReports_83 : decode cX2_lineUpDueReports 83 = .ok (.iload_n 3, 1) := by decide +kernel
theorem dX2_lineUpDueReports_84 : decode cX2_lineUpDueReports 84 = .ok (.iload_n 2, 1) := by decide +kernel
theorem dX2_lineUpDueReports_85 : decode cX2_lineUpDueReports 85 = .ok (.iastore, 1) := by decide +kernel
theorem dX2_lineUpDueReports_86 : decode cX2_lineUpDueReports 86 = .ok (.iinc 1 1, 3) := by decide +kernel
theorem dX2_lineUpDueReports_89 : decode cX2_lineUpDueReports 89 = .ok (.iinc 2 1, 3) := by decide +kernel
theorem dX2_lineUpDueReports_92 : decode cX2_lineUpDueReports 92 = .ok (.goto (-88), 3) := by decide +kernel
theorem dX2_lineUpDueReports_95 : decode cX2_lineUpDueReports 95 = .ok (.iload_n 1, 1) := by decide +kernel
theorem dX2_lineUpDueReports_96 : decode cX2_lineUpDueReports 96 = .ok (.ireturn, 1) := by decide +kernel
theorem dX2_keep_0 : decode cX2_keep 0 = .ok (.aload_n 0, 1) := by decide +kernel
theorem dX2_keep_1 : decode cX2_keep 1 = .ok (.dup, 1) := by decide +kernel
theorem dX2_keep_2 : decode cX2_keep 2 = .ok (.getfield 65, 3) := by decide +kernel
theorem dX2_keep_5 : decode cX2_keep 5 = .ok (.aload_n 0, 1) := by decide +kernel
theorem dX2_keep_6 : decode cX2_keep 6 = .ok (.getfield 31, 3) := by decide +kernel
theorem dX2_keep_9 : decode cX2_keep 9 = .ok (.getfield 80, 3) := by decide +kernel
theorem dX2_keep_12 : decode cX2_keep 12 = .ok (.isub, 1) := by decide +kernel
theorem dX2_keep_13 : decode cX2_keep 13 = .ok (.putfield 65, 3) := by decide +kernel
theorem dX2_keep_16 : decode cX2_keep 16 = .ok (.aload_n 1, 1) := by decide +kernel
theorem dX2_keep_17 : decode cX2_keep 17 = .ok (.aload_n 0, 1) := by decide +kernel
theorem dX2_keep_18 : decode cX2_keep 18 = .ok (.getfield 31, 3) := by decide +kernel
theorem dX2_keep_21 : decode cX2_keep 21 = .ok (.getfield 100, 3) := by decide +kernel
theorem dX2_keep_24 : decode cX2_keep 24 = .ok (.putfield 103, 3) := by decide +kernel
theorem dX2_keep_27 : decode cX2_keep 27 = .ok (.aload_n 1, 1) := by decide +kernel
theorem dX2_keep_28 : decode cX2_keep 28 = .ok (.aload_n 0, 1) := by decide +kernel
theorem dX2_keep_29 : decode cX2_keep 29 = .ok (.getfield 31, 3) := by decide +kernel
theorem dX2_keep_32 : decode cX2_keep 32 = .ok (.getfield 106, 3) := by decide +kernel
theorem dX2_keep_35 : decode cX2_keep 35 = .ok (.putfield 109, 3) := by decide +kernel
theorem dX2_keep_38 : decode cX2_keep 38 = .ok (.aload_n 1, 1) := by decide +kernel
theorem dX2_keep_39 : decode cX2_keep 39 = .ok (.aload_n 0, 1) := by decide +kernel
theorem dX2_keep_40 : decode cX2_keep 40 = .ok (.getfield 97, 3) := by decide +kernel
theorem dX2_keep_43 : decode cX2_keep 43 = .ok (.putfield 112, 3) := by decide +kernel
theorem dX2_keep_46 : decode cX2_keep 46 = .ok (.aload_n 1, 1) := by decide +kernel
theorem dX2_keep_47 : decode cX2_keep 47 = .ok (.iconst 0, 1) := by decide +kernel
theorem dX2_keep_48 : decode cX2_keep 48 = .ok (.putfield 45, 3) := by decide +kernel
theorem dX2_keep_51 : decode cX2_keep 51 = .ok (.aload_n 0, 1) := by decide +kernel
theorem dX2_keep_52 : decode cX2_keep 52 = .ok (.getfield 31, 3) := by decide +kernel
theorem dX2_keep_55 : decode cX2_keep 55 = .ok (.getfield 80, 3) := by decide +kernel
theorem dX2_keep_58 : decode cX2_keep 58 = .ok (.iconst 2, 1) := by decide +kernel
theorem dX2_keep_59 : decode cX2_keep 59 = .ok (.iload_n 2, 1) := by decide +kernel
theorem dX2_keep_60 : decode cX2_keep 60 = .ok (.imul, 1) := by decide +kernel
theorem dX2_keep_61 : decode cX2_keep 61 = .ok (.if_icmp .gt 16, 3) := by decide +kernel
theorem dX2_keep_64 : decode cX2_keep 64 = .ok (.iload_n 2, 1) := by decide +kernel
theorem dX2_keep_65 : decode cX2_keep 65 = .ok (.iconst 2, 1) := by decide +kernel
theorem dX2_keep_66 : decode cX2_keep 66 = .ok (.aload_n 0, 1) := by decide +kernel
theorem dX2_keep_67 : decode cX2_keep 67 = .ok (.getfield 31, 3) := by decide +kernel
theorem dX2_keep_70 : decode cX2_keep 70 = .ok (.getfield 80, 3) := by decide +kernel
theorem dX2_keep_73 : decode cX2_keep 73 = .ok (.imul, 1) := by decide +kernel
theorem dX2_keep_74 : decode cX2_keep 74 = .ok (.if_icmp .le 8, 3) := by decide +kernel
theorem dX2_keep_77 : decode cX2_keep 77 = .ok (.aload_n 0, 1) := by decide +kernel
theorem dX2_keep_78 : decode cX2_keep 78 = .ok (.aload_n 1, 1) := by decide +kernel
theorem dX2_keep_79 : decode cX2_keep 79 = .ok (.invokevirtual 93, 3) := by decide +kernel
theorem dX2_keep_82 : decode cX2_keep 82 = .ok (.return_, 1) := by decide +kernel
theorem dX2_markTables_0 : decode cX2_markTables 0 = .ok (.iconst 0, 1) := by decide +kernel
theorem dX2_markTables_1 : decode cX2_markTables 1 = .ok (.istore_n 2, 1) := by decide +kernel
theorem dX2_markTables_2 : decode cX2_markTables 2 = .ok (.iload_n 2, 1) := by decide +kernel
theorem dX2_markTables_3 : decode cX2_markTables 3 = .ok (.aload_n 1, 1) := by decide +kernel
theorem dX2_markTables_4 : decode cX2_markTables 4 = .ok (.getfield 115, 3) := by decide +kernel
theorem dX2_markTables_7 : decode cX2_markTables 7 = .ok (.if_icmp .ge 24, 3) := by decide +kernel
theorem dX2_markTables_10 : decode cX2_markTables 10 = .ok (.aload_n 0, 1) := by decide +kernel
theorem dX2_markTables_11 : decode cX2_markTables 11 = .ok (.getfield 19, 3) := by decide +kernel
theorem dX2_markTables_14 : decode cX2_markTables 14 = .ok (.aload_n 1, 1) := by decide +kernel
theorem dX2_markTables_15 : decode cX2_markTables 15 = .ok (.getfield 118, 3) := by decide +kernel
theorem dX2_markTables_18 : decode cX2_markTables 18 = .ok (.iload_n 2, 1) := by decide +kernel
theorem dX2_markTables_19 : decode cX2_markTables 19 = .ok (.iaload, 1) := by decide +kernel
theorem dX2_markTables_20 : decode cX2_markTables 20 = .ok (.aaload, 1) := by decide +kernel
theorem dX2_markTables_21 : decode cX2_markTables 21 = .ok (.iconst 1, 1) := by decide +kernel
theorem dX2_markTables_22 : decode cX2_markTables 22 = .ok (.putfield 35, 3) := by decide +kernel
theorem dX2_markTables_25 : decode cX2_markTables 25 = .ok (.iinc 2 1, 3) := by decide +kernel
theorem dX2_markTables_28 : decode cX2_markTables 28 = .ok (.goto (-26), 3) := by decide +kernel
theorem dX2_markTables_31 : decode cX2_markTables 31 = .ok (.return_, 1) := by decide +kernel
theorem dX3_init_0 : decode cX3_init 0 = .ok (.aload_n 0, 1) := by decide +kernel
theorem dX3_init_1 : decode cX3_init 1 = .ok (.invokespecial 3, 3) := by decide +kernel
theorem dX3_init_4 : decode cX3_init 4 = .ok (.aload_n 0, 1) := by decide +kernel
theorem dX3_init_5 : decode cX3_init 5 = .ok (.iconst 3, 1) := by decide +kernel
theorem dX3_init_6 : decode cX3_init 6 = .ok (.newarray .int, 2) := by decide +kernel
theorem dX3_init_8 : decode cX3_init 8 = .ok (.putfield 9, 3) := by decide +kernel
theorem dX3_init_11 : decode cX3_init 11 = .ok (.aload_n 0, 1) := by decide +kernel
theorem dX3_init_12 : decode cX3_init 12 = .ok (.iconst 3, 1) := by decide +kernel
theorem dX3_init_13 : decode cX3_init 13 = .ok (.newarray .int, 2) := by decide +kernel
theorem dX3_init_15 : decode cX3_init 15 = .ok (.putfield 15, 3) := by decide +kernel
theorem dX3_init_18 : decode cX3_init 18 = .ok (.aload_n 0, 1) := by decide +kernel
theorem dX3_init_19 : decode cX3_init 19 = .ok (.iconst 3, 1) := by decide +kernel
theorem dX3_init_20 : decode cX3_init 20 = .ok (.newarray .int, 2) := by decide +kernel
theorem dX3_init_22 : decode cX3_init 22 = .ok (.putfield 18, 3) := by decide +kernel
theorem dX3_init_25 : decode cX3_init 25 = .ok (.return_, 1) := by decide +kernel
theorem dX3_clear_0 : decode cX3_clear 0 = .ok (.iconst 0, 1) := by decide +kernel
theorem dX3_clear_1 : decode cX3_clear 1 = .ok (.istore_n 1, 1) := by decide +kernel
theorem dX3_clear_2 : decode cX3_clear 2 = .ok (.iload_n 1, 1) := by decide +kernel
theorem dX3_clear_3 : decode cX3_clear 3 = .ok (.iconst 3, 1) := by decide +kernel
theorem dX3_clear_4 : decode cX3_clear 4 = .ok (.if_icmp .ge 16, 3) := by decide +kernel
theorem dX3_clear_7 : decode cX3_clear 7 = .ok (.aload_n 0, 1) := by decide +kernel
theorem dX3_clear_8 : decode cX3_clear 8 = .ok (.getfield 18, 3) := by decide +kernel
theorem dX3_clear_11 : decode cX3_clear 11 = .ok (.iload_n 1, 1) := by decide +kernel
theorem dX3_clear_12 : decode cX3_clear 12 = .ok (.iconst 3, 1) := by decide +kernel
theorem dX3_clear_13 : decode cX3_clear 13 = .ok (.iastore, 1) := by decide +kernel
theorem dX3_clear_14 : decode cX3_clear 14 = .ok (.iinc 1 1, 3) := by decide +kernel
theorem dX3_clear_17 : decode cX3_clear 17 = .ok (.goto (-15), 3) := by decide +kernel
theorem dX3_clear_20 : decode cX3_clear 20 = .ok (.return_, 1) := by decide +kernel
theorem dX3_place_0 : decode cX3_place 0 = .ok (.aload_n 0, 1) := by decide +kernel
theorem dX3_place_1 : decode cX3_place 1 = .ok (.getfield 9, 3) := by decide +kernel
theorem dX3_place_4 : decode cX3_place 4 = .ok (.iload_n 1, 1) := by decide +kernel
theorem dX3_place_5 : decode cX3_place 5 = .ok (.iload_n 2, 1) := by decide +kernel
theorem dX3_place_6 : decode cX3_place 6 = .ok (.iastore, 1) := by decide +kernel
theorem dX3_place_7 : decode cX3_place 7 = .ok (.aload_n 0, 1) := by decide +kernel
theorem dX3_place_8 : decode cX3_place 8 = .ok (.getfield 18, 3) := by decide +kernel
theorem dX3_place_11 : decode cX3_place 11 = .ok (.iload_n 2, 1) := by decide +kernel
theorem dX3_place_12 : decode cX3_place 12 = .ok (.iload_n 1, 1) := by decide +kernel
theorem dX3_place_13 : decode cX3_place 13 = .ok (.iastore, 1) := by decide +kernel
theorem dX3_place_14 : decode cX3_place 14 = .ok (.return_, 1) := by decide +kernel
theorem dX3_becomePlain_0 : decode cX3_becomePlain 0 = .ok (.iconst 0, 1) := by decide +kernel
theorem dX3_becomePlain_1 : decode cX3_becomePlain 1 = .ok (.istore_n 2, 1) := by decide +kernel
theorem dX3_becomePlain_2 : decode cX3_becomePlain 2 = .ok (.iload_n 2, 1) := by decide +kernel
theorem dX3_becomePlain_3 : decode cX3_becomePlain 3 = .ok (.iload_n 1, 1) := by decide +kernel
theorem dX3_becomePlain_4 : decode cX3_becomePlain 4 = .ok (.if_icmp .ge 22, 3) := by decide +kernel
theorem dX3_becomePlain_7 : decode cX3_becomePlain 7 = .ok (.aload_n 0, 1) := by decide +kernel
theorem dX3_becomePlain_8 : decode cX3_becomePlain 8 = .ok (.iload_n 2, 1) := by decide +kernel
theorem dX3_becomePlain_9 : decode cX3_becomePlain 9 = .ok (.iload_n 2, 1) := by decide +kernel
theorem dX3_becomePlain_10 : decode cX3_becomePlain 10 = .ok (.invokevirtual 21, 3) := by decide +kernel
theorem dX3_becomePlain_13 : decode cX3_becomePlain 13 = .ok (.aload_n 0, 1) := by decide +kernel
theorem dX3_becomePlain_14 : decode cX3_becomePlain 14 = .ok (.getfield 15, 3) := by decide +kernel
theorem dX3_becomePlain_17 : decode cX3_becomePlain 17 = .ok (.iload_n 2, 1) := by decide +kernel
theorem dX3_becomePlain_18 : decode cX3_becomePlain 18 = .ok (.iconst (-1), 1) := by decide +kernel
theorem dX3_becomePlain_19 : decode cX3_becomePlain 19 = .ok (.iastore, 1) := by decide +kernel
theorem dX3_becomePlain_20 : decode cX3_becomePlain 20 = .ok (.iinc 2 1, 3) := by decide +kernel
theorem dX3_becomePlain_23 : decode cX3_becomePlain 23 = .ok (.goto (-21), 3) := by decide +kernel
theorem dX3_becomePlain_26 : decode cX3_becomePlain 26 = .ok (.return_, 1) := by decide +kernel
theorem dX3_copyFrom_0 : decode cX3_copyFrom 0 = .ok (.iconst 0, 1) := by decide +kernel
theorem dX3_copyFrom_1 : decode cX3_copyFrom 1 = .ok (.istore 4, 2) := by decide +kernel
theorem dX3_copyFrom_3 : decode cX3_copyFrom 3 = .ok (.iload 4, 2) := by decide +kernel
theorem dX3_copyFrom_5 : decode cX3_copyFrom 5 = .ok (.iconst 3, 1) := by decide +kernel
theorem dX3_copyFrom_6 : decode cX3_copyFrom 6 = .ok (.if_icmp .ge 51, 3) := by decide +kernel
theorem dX3_copyFrom_9 : decode cX3_copyFrom 9 = .ok (.aload_n 0, 1) := by decide +kernel
theorem dX3_copyFrom_10 : decode cX3_copyFrom 10 = .ok (.getfield 9, 3) := by decide +kernel
theorem dX3_copyFrom_13 : decode cX3_copyFrom 13 = .ok (.iload 4, 2) := by decide +kernel
theorem dX3_copyFrom_15 : decode cX3_copyFrom 15 = .ok (.aload_n 1, 1) := by decide +kernel
theorem dX3_copyFrom_16 : decode cX3_copyFrom 16 = .ok (.getfield 9, 3) := by decide +kernel
theorem dX3_copyFrom_19 : decode cX3_copyFrom 19 = .ok (.iload 4, 2) := by decide +kernel
theorem dX3_copyFrom_21 : decode cX3_copyFrom 21 = .ok (.iaload, 1) := by decide +kernel
theorem dX3_copyFrom_22 : decode cX3_copyFrom 22 = .ok (.iastore, 1) := by decide +kernel
theorem dX3_copyFrom_23 : decode cX3_copyFrom 23 = .ok (.aload_n 0, 1) := by decide +kernel
theorem dX3_copyFrom_24 : decode cX3_copyFrom 24 = .ok (.getfield 15, 3) := by decide +kernel
theorem dX3_copyFrom_27 : decode cX3_copyFrom 27 = .ok (.iload 4, 2) := by decide +kernel
theorem dX3_copyFrom_29 : decode cX3_copyFrom 29 = .ok (.aload_n 1, 1) := by decide +kernel
theorem dX3_copyFrom_30 : decode cX3_copyFrom 30 = .ok (.getfield 15, 3) := by decide +kernel
theorem dX3_copyFrom_33 : decode cX3_copyFrom 33 = .ok (.iload 4, 2) := by decide +kernel
theorem dX3_copyFrom_35 : decode cX3_copyFrom 35 = .ok (.iaload, 1) := by decide +kernel
theorem dX3_copyFrom_36 : decode cX3_copyFrom 36 = .ok (.iastore, 1) := by decide +kernel
theorem dX3_copyFrom_37 : decode cX3_copyFrom 37 = .ok (.aload_n 0, 1) := by decide +kernel
theorem dX3_copyFrom_38 : decode cX3_copyFrom 38 = .ok (.getfield 18, 3) := by decide +kernel
theorem dX3_copyFrom_41 : decode cX3_copyFrom 41 = .ok (.iload 4, 2) := by decide +kernel
theorem dX3_copyFrom_43 : decode cX3_copyFrom 43 = .ok (.aload_n 1, 1) := by decide +kernel
theorem dX3_copyFrom_44 : decode cX3_copyFrom 44 = .ok (.getfield 18, 3) := by decide +kernel
theorem dX3_copyFrom_47 : decode cX3_copyFrom 47 = .ok (.iload 4, 2) := by decide +kernel
theorem dX3_copyFrom_49 : decode cX3_copyFrom 49 = .ok (.iaload, 1) := by decide +kernel
theorem dX3_copyFrom_50 : decode cX3_copyFrom 50 = .ok (.iastore, 1) := by decide +kernel
theorem dX3_copyFrom_51 : decode cX3_copyFrom 51 = .ok (.iinc 4 1, 3) := by decide +kernel
theorem dX3_copyFrom_54 : decode cX3_copyFrom 54 = .ok (.goto (-51), 3) := by decide +kernel
theorem dX3_copyFrom_57 : decode cX3_copyFrom 57 = .ok (.aload_n 0, 1) := by decide +kernel
theorem dX3_copyFrom_58 : decode cX3_copyFrom 58 = .ok (.lload_n 2, 1) := by decide +kernel
theorem dX3_copyFrom_59 : decode cX3_copyFrom 59 = .ok (.putfield 25, 3) := by decide +kernel
theorem dX3_copyFrom_62 : decode cX3_copyFrom 62 = .ok (.return_, 1) := by decide +kernel
theorem dX3_foretoldMinutes_0 : decode cX3_foretoldMinutes 0 = .ok (.aload_n 0, 1) := by decide +kernel
theorem dX3_foretoldMinutes_1 : decode cX3_foretoldMinutes 1 = .ok (.getfield 25, 3) := by decide +kernel
theorem dX3_foretoldMinutes_4 : decode cX3_foretoldMinutes 4 = .ok (.ldc2_w 29, 3) := by decide +kernel
theorem dX3_foretoldMinutes_7 : decode cX3_foretoldMinutes 7 = .ok (.ladd, 1) := by decide +kernel
theorem dX3_foretoldMinutes_8 : decode cX3_foretoldMinutes 8 = .ok (.lconst 1, 1) := by decide +kernel
theorem dX3_foretoldMinutes_9 : decode cX3_foretoldMinutes 9 = .ok (.lsub, 1) := by decide +kernel
theorem dX3_foretoldMinutes_10 : decode cX3_foretoldMinutes 10 = .ok (.ldc2_w 29, 3) := by decide +kernel
theorem dX3_foretoldMinutes_13 : decode cX3_foretoldMinutes 13 = .ok (.ldiv, 1) := by decide +kernel
theorem dX3_foretoldMinutes_14 : decode cX3_foretoldMinutes 14 = .ok (.l2i, 1) := by decide +kernel
theorem dX3_foretoldMinutes_15 : decode cX3_foretoldMinutes 15 = .ok (.ireturn, 1) := by decide +kernel
theorem dX4_init_0 : decode cX4_init 0 = .ok (.aload_n 0, 1) := by decide +kernel
theorem dX4_init_1 : decode cX4_init 1 = .ok (.invokespecial 3, 3) := by decide +kernel
theorem dX4_init_4 : decode cX4_init 4 = .ok (.aload_n 0, 1) := by decide +kernel
theorem dX4_init_5 : decode cX4_init 5 = .ok (.new 9, 3) := by decide +kernel
theorem dX4_init_8 : decode cX4_init 8 = .ok (.dup, 1) := by decide +kernel
theorem dX4_init_9 : decode cX4_init 9 = .ok (.invokespecial 11, 3) := by decide +kernel
theorem dX4_init_12 : decode cX4_init 12 = .ok (.putfield 12, 3) := by decide +kernel
theorem dX4_init_15 : decode cX4_init 15 = .ok (.aload_n 0, 1) := by decide +kernel
theorem dX4_init_16 : decode cX4_init 16 = .ok (.new 9, 3) := by decide +kernel
theorem dX4_init_19 : decode cX4_init 19 = .ok (.dup, 1) := by decide +kernel
theorem dX4_init_20 : decode cX4_init 20 = .ok (.invokespecial 11, 3) := by decide +kernel
theorem dX4_init_23 : decode cX4_init 23 = .ok (.putfield 18, 3) := by decide +kernel
theorem dX4_init_26 : decode cX4_init 26 = .ok (.aload_n 0, 1) := by decide +kernel
theorem dX4_init_27 : decode cX4_init 27 = .ok (.aload_n 1, 1) := by decide +kernel
theorem dX4_init_28 : decode cX4_init 28 = .ok (.putfield 21, 3) := by decide +kernel
theorem dX4_init_31 : decode cX4_init 31 = .ok (.return_, 1) := by decide +kernel
theorem dX4_choose_0 : decode cX4_choose 0 = .ok (.aload_n 0, 1) := by decide +kernel
theorem dX4_choose_1 : decode cX4_choose 1 = .ok (.getfield 12, 3) := by decide +kernel
theorem dX4_choose_4 : decode cX4_choose 4 = .ok (.invokevirtual 25, 3) := by decide +kernel
theorem dX4_choose_7 : decode cX4_choose 7 = .ok (.aload_n 0, 1) := by decide +kernel
theorem dX4_choose_8 : decode cX4_choose 8 = .ok (.getfield 18, 3) := by decide +kernel
theorem dX4_choose_11 : decode cX4_choose 11 = .ok (.ldc2_w 28, 3) := by decide +kernel
theorem dX4_choose_14 : decode cX4_choose 14 = .ok (.putfield 30, 3) := by decide +kernel
theorem dX4_choose_17 : decode cX4_choose 17 = .ok (.aload_n 0, 1) := by decide +kernel
theorem dX4_choose_18 : decode cX4_choose 18 = .ok (.aload_n 1, 1) := by decide +kernel
theorem dX4_choose_19 : decode cX4_choose 19 = .ok (.iconst 0, 1) := by decide +kernel
theorem dX4_choose_20 : decode cX4_choose 20 = .ok (.ldc2_w 34, 3) := by decide +kernel
theorem dX4_choose_23 : decode cX4_choose 23 = .ok (.lconst 0, 1) := by decide +kernel
theorem dX4_choose_24 : decode cX4_choose 24 = .ok (.invokestatic 36, 3) := by decide +kernel
theorem dX4_choose_27 : decode cX4_choose 27 = .ok (.aload_n 0, 1) := by decide +kernel
theorem dX4_choose_28 : decode cX4_choose 28 = .ok (.getfield 18, 3) := by decide +kernel
theorem dX4_choose_31 : decode cX4_choose 31 = .ok (.areturn, 1) := by decide +kernel
theorem dX4_extend_0 : decode cX4_extend 0 = .ok (.aload_n 0, 1) := by decide +kernel
theorem dX4_extend_1 : decode cX4_extend 1 = .ok (.getfield 12, 3) := by decide +kernel
theorem dX4_extend_4 : decode cX4_extend 4 = .ok (.astore 7, 2) := by decide +kernel
theorem dX4_extend_6 : decode cX4_extend 6 = .ok (.iload_n 2, 1) := by decide +kernel
theorem dX4_extend_7 : decode cX4_extend 7 = .ok (.aload_n 1, 1) := by decide +kernel
theorem dX4_extend_8 : decode cX4_extend 8 = .ok (.getfield 40, 3) := by decide +kernel
theorem dX4_extend_11 : decode cX4_extend 11 = .ok (.if_icmp .lt 28, 3) := by decide +kernel
theorem dX4_extend_14 : decode cX4_extend 14 = .ok (.lload 5, 2) := by decide +kernel
theorem dX4_extend_16 : decode cX4_extend 16 = .ok (.aload_n 0, 1) := by decide +kernel
theorem dX4_extend_17 : decode cX4_extend 17 = .ok (.getfield 18, 3) := by decide +kernel
theorem dX4_extend_20 : decode cX4_extend 20 = .ok (.getfield 30, 3) := by decide +kernel
theorem dX4_extend_23 : decode cX4_extend 23 = .ok (.lcmp, 1) := by decide +kernel
theorem dX4_extend_24 : decode cX4_extend 24 = .ok (.ifCond .ge 14, 3) := by decide +kernel
theorem dX4_extend_27 : decode cX4_extend 27 = .ok (.aload_n 0, 1) := by decide +kernel
theorem dX4_extend_28 : decode cX4_extend 28 = .ok (.getfield 18, 3) := by decide +kernel
theorem dX4_extend_31 : decode cX4_extend 31 = .ok (.aload 7, 2) := by decide +kernel
theorem dX4_extend_33 : decode cX4_extend 33 = .ok (.lload 5, 2) := by decide +kernel
theorem dX4_extend_35 : decode cX4_extend 35 = .ok (.invokevirtual 46, 3) := by decide +kernel
theorem dX4_extend_38 : decode cX4_extend 38 = .ok (.return_, 1) := by decide +kernel
theorem dX4_extend_39 : decode cX4_extend 39 = .ok (.iconst 0, 1) := by decide +kernel
theorem dX4_extend_40 : decode cX4_extend 40 = .ok (.istore 8, 2) := by decide +kernel
theorem dX4_extend_42 : decode cX4_extend 42 = .ok (.iload 8, 2) := by decide +kernel
theorem dX4_extend_44 : decode cX4_extend 44 = .ok (.aload_n 1, 1) := by decide +kernel
theorem dX4_extend_45 : decode cX4_extend 45 = .ok (.getfield 40, 3) := by decide +kernel
theorem dX4_extend_48 : decode cX4_extend 48 = .ok (.if_icmp .ge 74, 3) := by decide +kernel
theorem dX4_extend_51 : decode cX4_extend 51 = .ok (.aload 7, 2) := by decide +kernel
theorem dX4_extend_53 : decode cX4_extend 53 = .ok (.getfield 50, 3) := by decide +kernel
theorem dX4_extend_56 : decode cX4_extend 56 = .ok (.iload 8, 2) := by decide +kernel
theorem dX4_extend_58 : decode cX4_extend 58 = .ok (.iaload, 1) := by decide +kernel
theorem dX4_extend_59 : decode cX4_extend 59 = .ok (.iconst 3, 1) := by decide +kernel
theorem dX4_extend_60 : decode cX4_extend 60 = .ok (.if_icmp .eq 6, 3) := by decide +kernel
theorem dX4_extend_63 : decode cX4_extend 63 = .ok (.goto 53, 3) := by decide +kernel
theorem dX4_extend_66 : decode cX4_extend 66 = .ok (.aload 7, 2) := by decide +kernel
theorem dX4_extend_68 : decode cX4_extend 68 = .ok (.iload_n 2, 1) := by decide +kernel
theorem dX4_extend_69 : decode cX4_extend 69 = .ok (.iload 8, 2) := by decide +kernel
theorem dX4_extend_71 : decode cX4_extend 71 = .ok (.invokevirtual 54, 3) := by decide +kernel
theorem dX4_extend_74 : decode cX4_extend 74 = .ok (.aload_n 0, 1) := by decide +kernel
theorem dX4_extend_75 : decode cX4_extend 75 = .ok (.aload_n 1, 1) := by decide +kernel
theorem dX4_extend_76 : decode cX4_extend 76 = .ok (.iload_n 2, 1) := by decide +kernel
theorem dX4_extend_77 : decode cX4_extend 77 = .ok (.lload_n 3, 1) := by decide +kernel
theorem dX4_extend_78 : decode cX4_extend 78 = .ok (.invokevirtual 58, 3) := by decide +kernel
theorem dX4_extend_81 : decode cX4_extend 81 = .ok (.lstore 9, 2) := by decide +kernel
theorem dX4_extend_83 : decode cX4_extend 83 = .ok (.aload_n 0, 1) := by decide +kernel
theorem dX4_extend_84 : decode cX4_extend 84 = .ok (.aload_n 1, 1) := by decide +kernel
theorem dX4_extend_85 : decode cX4_extend 85 = .ok (.iload_n 2, 1) := by decide +kernel
theorem dX4_extend_86 : decode cX4_extend 86 = .ok (.lload_n 3, 1) := by decide +kernel
theorem dX4_extend_87 : decode cX4_extend 87 = .ok (.invokevirtual 62, 3) := by decide +kernel
theorem dX4_extend_90 : decode cX4_extend 90 = .ok (.lstore 11, 2) := by decide +kernel
theorem dX4_extend_92 : decode cX4_extend 92 = .ok (.aload_n 0, 1) := by decide +kernel
theorem dX4_extend_93 : decode cX4_extend 93 = .ok (.aload_n 1, 1) := by decide +kernel
theorem dX4_extend_94 : decode cX4_extend 94 = .ok (.iload_n 2, 1) := by decide +kernel
theorem dX4_extend_95 : decode cX4_extend 95 = .ok (.iconst 1, 1) := by decide +kernel
theorem dX4_extend_96 : decode cX4_extend 96 = .ok (.iadd, 1) := by decide +kernel
theorem dX4_extend_97 : decode cX4_extend 97 = .ok (.lload 11, 2) := by decide +kernel
theorem dX4_extend_99 : decode cX4_extend 99 = .ok (.lload 5, 2) := by decide +kernel
theorem dX4_extend_101 : decode cX4_extend 101 = .ok (.lload 9, 2) := by decide +kernel
theorem dX4_extend_103 : decode cX4_extend 103 = .ok (.ladd, 1) := by decide +kernel
theorem dX4_extend_104 : decode cX4_extend 104 = .ok (.invokestatic 36, 3) := by decide +kernel
theorem dX4_extend_107 : decode cX4_extend 107 = .ok (.aload 7, 2) := by decide +kernel
theorem dX4_extend_109 : decode cX4_extend 109 = .ok (.getfield 50, 3) := by decide +kernel
theorem dX4_extend_112 : decode cX4_extend 112 = .ok (.iload 8, 2) := by decide +kernel
theorem dX4_extend_114 : decode cX4_extend 114 = .ok (.iconst 3, 1) := by decide +kernel
theorem dX4_extend_115 : decode cX4_extend 115 = .ok (.iastore, 1) := by decide +kernel
theorem dX4_extend_116 : decode cX4_extend 116 = .ok (.iinc 8 1, 3) := by decide +kernel
theorem dX4_extend_119 : decode cX4_extend 119 = .ok (.goto (-77), 3) := by decide +kernel
theorem dX4_extend_122 : decode cX4_extend 122 = .ok (.return_, 1) := by decide +kernel
theorem dX4_takeCheapestWay_0 : decode cX4_takeCheapestWay 0 = .ok (.aload_n 0, 1) := by decide +kernel
theorem dX4_takeCheapestWay_1 : decode cX4_takeCheapestWay 1 = .ok (.getfield 21, 3) := by decide +kernel
theorem dX4_takeCheapestWay_4 : decode cX4_takeCheapestWay 4 = .ok (.aload_n 1, 1) := by decide +kernel
theorem dX4_takeCheapestWay_5 : decode cX4_takeCheapestWay 5 = .ok (.getfield 65, 3) := by decide +kernel
theorem dX4_takeCheapestWay_8 : decode cX4_takeCheapestWay 8 = .ok (.aload_n 0, 1) := by decide +kernel
theorem dX4_takeCheapestWay_9 : decode cX4_takeCheapestWay 9 = .ok (.getfield 12, 3) := by decide +kernel
theorem dX4_takeCheapestWay_12 : decode cX4_takeCheapestWay 12 = .ok (.getfield 68, 3) := by decide +kernel
theorem dX4_takeCheapestWay_15 : decode cX4_takeCheapestWay 15 = .ok (.iload_n 2, 1) := by decide +kernel
theorem dX4_takeCheapestWay_16 : decode cX4_takeCheapestWay 16 = .ok (.iaload, 1) := by decide +kernel
theorem dX4_takeCheapestWay_17 : decode cX4_takeCheapestWay 17 = .ok (.iaload, 1) := by decide +kernel
theorem dX4_takeCheapestWay_18 : decode cX4_takeCheapestWay 18 = .ok (.aaload, 1) := by decide +kernel
theorem dX4_takeCheapestWay_19 : decode cX4_takeCheapestWay 19 = .ok (.astore 5, 2) := by decide +kernel
theorem dX4_takeCheapestWay_21 : decode cX4_takeCheapestWay 21 = .ok (.lload_n 3, 1) := by decide +kernel
theorem dX4_takeCheapestWay_22 : decode cX4_takeCheapestWay 22 = .ok (.aload 5, 2) := by decide +kernel
theorem dX4_takeCheapestWay_24 : decode cX4_takeCheapestWay 24 = .ok (.getfield 71, 3) := by decide +kernel
theorem dX4_takeCheapestWay_27 : decode cX4_takeCheapestWay 27 = .ok (.i2l, 1) := by decide +kernel
theorem dX4_takeCheapestWay_28 : decode cX4_takeCheapestWay 28 = .ok (.lmul, 1) := by decide +kernel
theorem dX4_takeCheapestWay_29 : decode cX4_takeCheapestWay 29 = .ok (.lstore 6, 2) := by decide +kernel
theorem dX4_takeCheapestWay_31 : decode cX4_takeCheapestWay 31 = .ok (.lload 6, 2) := by decide +kernel
theorem dX4_takeCheapestWay_33 : decode cX4_takeCheapestWay 33 = .ok (.lstore 8, 2) := by decide +kernel
theorem dX4_takeCheapestWay_35 : decode cX4_takeCheapestWay 35 = .ok (.aload_n 0, 1) := by decide +kernel
theorem dX4_takeCheapestWay_36 : decode cX4_takeCheapestWay 36 = .ok (.getfield 12, 3) := by decide +kernel
theorem dX4_takeCheapestWay_39 : decode cX4_takeCheapestWay 39 = .ok (.getfield 76, 3) := by decide +kernel
theorem dX4_takeCheapestWay_42 : decode cX4_takeCheapestWay 42 = .ok (.iload_n 2, 1) := by decide +kernel
theorem dX4_takeCheapestWay_43 : decode cX4_takeCheapestWay 43 = .ok (.iconst (-1), 1) := by decide +kernel
theorem dX4_takeCheapestWay_44 : decode cX4_takeCheapestWay 44 = .ok (.iastore, 1) := by decide +kernel
theorem dX4_takeCheapestWay_45 : decode cX4_takeCheapestWay 45 = .ok (.iconst 0, 1) := by decide +kernel
theorem dX4_takeCheapestWay_46 : decode cX4_takeCheapestWay 46 = .ok (.istore 10, 2) := by decide +kernel
theorem dX4_takeCheapestWay_48 : decode cX4_takeCheapestWay 48 = .ok (.iload 10, 2) := by decide +kernel
theorem dX4_takeCheapestWay_50 : decode cX4_takeCheapestWay 50 = .ok (.aload 5, 2) := by decide +kernel
theorem dX4_takeCheapestWay_52 : decode cX4_takeCheapestWay 52 = .ok (.getfield 79, 3) := by decide +kernel
theorem dX4_takeCheapestWay_55 : decode cX4_takeCheapestWay 55 = .ok (.if_icmp .ge 85, 3) := by decide +kernel
theorem dX4_takeCheapestWay_58 : decode cX4_takeCheapestWay 58 = .ok (.aload 5, 2) := by decide +kernel
theorem dX4_takeCheapestWay_60 : decode cX4_takeCheapestWay 60 = .ok (.getfield 82, 3) := by decide +kernel
theorem dX4_takeCheapestWay_63 : decode cX4_takeCheapestWay 63 = .ok (.iload 10, 2) := by decide +kernel
theorem dX4_takeCheapestWay_65 : decode cX4_takeCheapestWay 65 = .ok (.aaload, 1) := by decide +kernel
theorem dX4_takeCheapestWay_66 : decode cX4_takeCheapestWay 66 = .ok (.astore 11, 2) := by decide +kernel
theorem dX4_takeCheapestWay_68 : decode cX4_takeCheapestWay 68 = .ok (.aload 11, 2) := by decide +kernel
theorem dX4_takeCheapestWay_70 : decode cX4_takeCheapestWay 70 = .ok (.getfield 86, 3) := by decide +kernel
theorem dX4_takeCheapestWay_73 : decode cX4_takeCheapestWay 73 = .ok (.ifCond .eq 61, 3) := by decide +kernel
theorem dX4_takeCheapestWay_76 : decode cX4_takeCheapestWay 76 = .ok (.aload_n 1, 1) := by decide +kernel
theorem dX4_takeCheapestWay_77 : decode cX4_takeCheapestWay 77 = .ok (.aload_n 0, 1) := by decide +kernel
theorem dX4_takeCheapestWay_78 : decode cX4_takeCheapestWay 78 = .ok (.getfield 12, 3) := by decide +kernel
theorem dX4_takeCheapestWay_81 : decode cX4_takeCheapestWay 81 = .ok (.iload_n 2, 1) := by decide +kernel
theorem dX4_takeCheapestWay_82 : decode cX4_takeCheapestWay 82 = .ok (.iload 10, 2) := by decide +kernel
theorem dX4_takeCheapestWay_84 : decode cX4_takeCheapestWay 84 = .ok (.invokevirtual 92, 3) := by decide +kernel
theorem dX4_takeCheapestWay_87 : decode cX4_takeCheapestWay 87 = .ok (.iconst (-1), 1) := by decide +kernel
theorem dX4_takeCheapestWay_88 : decode cX4_takeCheapestWay 88 = .ok (.if_icmp .ne 6, 3) := by decide +kernel
theorem dX4_takeCheapestWay_91 : decode cX4_takeCheapestWay 91 = .ok (.goto 43, 3) := by decide +kernel
theorem dX4_takeCheapestWay_94 : decode cX4_takeCheapestWay 94 = .ok (.lload_n 3, 1) := by decide +kernel
theorem dX4_takeCheapestWay_95 : decode cX4_takeCheapestWay 95 = .ok (.lload 6, 2) := by decide +kernel
theorem dX4_takeCheapestWay_97 : decode cX4_takeCheapestWay 97 = .ok (.aload 11, 2) := by decide +kernel
theorem dX4_takeCheapestWay_99 : decode cX4_takeCheapestWay 99 = .ok (.getfield 96, 3) := by decide +kernel
theorem dX4_takeCheapestWay_102 : decode cX4_takeCheapestWay 102 = .ok (.iconst 1, 1) := by decide +kernel
theorem dX4_takeCheapestWay_103 : decode cX4_takeCheapestWay 103 = .ok (.invokestatic 99, 3) := by decide +kernel
theorem dX4_takeCheapestWay_106 : decode cX4_takeCheapestWay 106 = .ok (.i2l, 1) := by decide +kernel
theorem dX4_takeCheapestWay_107 : decode cX4_takeCheapestWay 107 = .ok (.ldiv, 1) := by decide +kernel
theorem dX4_takeCheapestWay_108 : decode cX4_takeCheapestWay 108 = .ok (.ladd, 1) := by decide +kernel
theorem dX4_takeCheapestWay_109 : decode cX4_takeCheapestWay 109 = .ok (.lstore 12, 2) := by decide +kernel
theorem dX4_takeCheapestWay_111 : decode cX4_takeCheapestWay 111 = .ok (.lload 12, 2) := by decide +kernel
theorem dX4_takeCheapestWay_113 : decode cX4_takeCheapestWay 113 = .ok (.lload 8, 2) := by decide +kernel
theorem dX4_takeCheapestWay_115 : decode cX4_takeCheapestWay 115 = .ok (.lcmp, 1) := by decide +kernel
theorem dX4_takeCheapestWay_116 : decode cX4_takeCheapestWay 116 = .ok (.ifCond .ge 18, 3) := by decide +kernel
theorem dX4_takeCheapestWay_119 : decode cX4_takeCheapestWay 119 = .ok (.lload 12, 2) := by decide +kernel
theorem dX4_takeCheapestWay_121 : decode cX4_takeCheapestWay 121 = .ok (.lstore 8, 2) := by decide +kernel
theorem dX4_takeCheapestWay_123 : decode cX4_takeCheapestWay 123 = .ok (.aload_n 0, 1) := by decide +kernel
theorem dX4_takeCheapestWay_124 : decode cX4_takeCheapestWay 124 = .ok (.getfield 12, 3) := by decide +kernel
theorem dX4_takeCheapestWay_127 : decode cX4_takeCheapestWay 127 = .ok (.getfield 76, 3) := by decide +kernel
theorem dX4_takeCheapestWay_130 : decode cX4_takeCheapestWay 130 = .ok (.iload_n 2, 1) := by decide +kernel
theorem dX4_takeCheapestWay_131 : decode cX4_takeCheapestWay 131 = .ok (.iload 10, 2) := by decide +kernel
theorem dX4_takeCheapestWay_133 : decode cX4_takeCheapestWay 133 = .ok (.iastore, 1) := by decide +kernel
theorem dX4_takeCheapestWay_134 : decode cX4_takeCheapestWay 134 = .ok (.iinc 10 1, 3) := by decide +kernel
theorem dX4_takeCheapestWay_137 : decode cX4_takeCheapestWay 137 = .ok (.goto (-89), 3) := by decide +kernel
theorem dX4_takeCheapestWay_140 : decode cX4_takeCheapestWay 140 = .ok (.lload 8, 2) := by decide +kernel
theorem dX4_takeCheapestWay_142 : decode cX4_takeCheapestWay 142 = .ok (.lreturn, 1) := by decide +kernel
theorem dX4_choicesBehind_0 : decode cX4_choicesBehind 0 = .ok (.aload_n 0, 1) := by decide +kernel
theorem dX4_choicesBehind_1 : decode cX4_choicesBehind 1 = .ok (.getfield 21, 3) := by decide +kernel
theorem dX4_choicesBehind_4 : decode cX4_choicesBehind 4 = .ok (.aload_n 1, 1) := by decide +kernel
theorem dX4_choicesBehind_5 : decode cX4_choicesBehind 5 = .ok (.getfield 65, 3) := by decide +kernel
theorem dX4_choicesBehind_8 : decode cX4_choicesBehind 8 = .ok (.aload_n 0, 1) := by decide +kernel
theorem dX4_choicesBehind_9 : decode cX4_choicesBehind 9 = .ok (.getfield 12, 3) := by decide +kernel
theorem dX4_choicesBehind_12 : decode cX4_choicesBehind 12 = .ok (.getfield 68, 3) := by decide +kernel
theorem dX4_choicesBehind_15 : decode cX4_choicesBehind 15 = .ok (.iload_n 2, 1) := by decide +kernel
theorem dX4_choicesBehind_16 : decode cX4_choicesBehind 16 = .ok (.iaload, 1) := by decide +kernel
theorem dX4_choicesBehind_17 : decode cX4_choicesBehind 17 = .ok (.iaload, 1) := by decide +kernel
theorem dX4_choicesBehind_18 : decode cX4_choicesBehind 18 = .ok (.aaload, 1) := by decide +kernel
theorem dX4_choicesBehind_19 : decode cX4_choicesBehind 19 = .ok (.astore 5, 2) := by decide +kernel
theorem dX4_choicesBehind_21 : decode cX4_choicesBehind 21 = .ok (.lload_n 3, 1) := by decide +kernel
theorem dX4_choicesBehind_22 : decode cX4_choicesBehind 22 = .ok (.aload 5, 2) := by decide +kernel
theorem dX4_choicesBehind_24 : decode cX4_choicesBehind 24 = .ok (.getfield 71, 3) := by decide +kernel
theorem dX4_choicesBehind_27 : decode cX4_choicesBehind 27 = .ok (.i2l, 1) := by decide +kernel
theorem dX4_choicesBehind_28 : decode cX4_choicesBehind 28 = .ok (.lmul, 1) := by decide +kernel
theorem dX4_choicesBehind_29 : decode cX4_choicesBehind 29 = .ok (.lstore 6, 2) := by decide +kernel
theorem dX4_choicesBehind_31 : decode cX4_choicesBehind 31 = .ok (.iconst 0, 1) := by decide +kernel
theorem dX4_choicesBehind_32 : decode cX4_choicesBehind 32 = .ok (.istore 8, 2) := by decide +kernel
theorem dX4_choicesBehind_34 : decode cX4_choicesBehind 34 = .ok (.iload 8, 2) := by decide +kernel
theorem dX4_choicesBehind_36 : decode cX4_choicesBehind 36 = .ok (.aload_n 1, 1) := by decide +kernel
theorem dX4_choicesBehind_37 : decode cX4_choicesBehind 37 = .ok (.getfield 105, 3) := by decide +kernel
theorem dX4_choicesBehind_40 : decode cX4_choicesBehind 40 = .ok (.if_icmp .ge 43, 3) := by decide +kernel
theorem dX4_choicesBehind_43 : decode cX4_choicesBehind 43 = .ok (.aload_n 1, 1) := by decide +kernel
theorem dX4_choicesBehind_44 : decode cX4_choicesBehind 44 = .ok (.getfield 108, 3) := by decide +kernel
theorem dX4_choicesBehind_47 : decode cX4_choicesBehind 47 = .ok (.iload 8, 2) := by decide +kernel
theorem dX4_choicesBehind_49 : decode cX4_choicesBehind 49 = .ok (.aaload, 1) := by decide +kernel
theorem dX4_choicesBehind_50 : decode cX4_choicesBehind 50 = .ok (.aload_n 0, 1) := by decide +kernel
theorem dX4_choicesBehind_51 : decode cX4_choicesBehind 51 = .ok (.getfield 12, 3) := by decide +kernel
theorem dX4_choicesBehind_54 : decode cX4_choicesBehind 54 = .ok (.invokevirtual 112, 3) := by decide +kernel
theorem dX4_choicesBehind_57 : decode cX4_choicesBehind 57 = .ok (.iload_n 2, 1) := by decide +kernel
theorem dX4_choicesBehind_58 : decode cX4_choicesBehind 58 = .ok (.if_icmp .ne 19, 3) := by decide +kernel
theorem dX4_choicesBehind_61 : decode cX4_choicesBehind 61 = .ok (.aload_n 0, 1) := by decide +kernel
theorem dX4_choicesBehind_62 : decode cX4_choicesBehind 62 = .ok (.aload_n 1, 1) := by decide +kernel
theorem dX4_choicesBehind_63 : decode cX4_choicesBehind 63 = .ok (.aload_n 1, 1) := by decide +kernel
theorem dX4_choicesBehind_64 : decode cX4_choicesBehind 64 = .ok (.getfield 108, 3) := by decide +kernel
theorem dX4_choicesBehind_67 : decode cX4_choicesBehind 67 = .ok (.iload 8, 2) := by decide +kernel
theorem dX4_choicesBehind_69 : decode cX4_choicesBehind 69 = .ok (.aaload, 1) := by decide +kernel
theorem dX4_choicesBehind_70 : decode cX4_choicesBehind 70 = .ok (.lload 6, 2) := by decide +kernel
theorem dX4_choicesBehind_72 : decode cX4_choicesBehind 72 = .ok (.invokevirtual 118, 3) := by decide +kernel
theorem dX4_choicesBehind_75 : decode cX4_choicesBehind 75 = .ok (.lstore 6, 2) := by decide +kernel
theorem dX4_choicesBehind_77 : decode cX4_choicesBehind 77 = .ok (.iinc 8 1, 3) := by decide +kernel
theorem dX4_choicesBehind_80 : decode cX4_choicesBehind 80 = .ok (.goto (-46), 3) := by decide +kernel
theorem dX4_choicesBehind_83 : decode cX4_choicesBehind 83 = .ok (.lload 6, 2) := by decide +kernel
theorem dX4_choicesBehind_85 : decode cX4_choicesBehind 85 = .ok (.lreturn, 1) := by decide +kernel
theorem dX4_narrow_0 : decode cX4_narrow 0 = .ok (.aload_n 0, 1) := by decide +kernel
theorem dX4_narrow_1 : decode cX4_narrow 1 = .ok (.getfield 21, 3) := by decide +kernel
theorem dX4_narrow_4 : decode cX4_narrow 4 = .ok (.aload_n 1, 1) := by decide +kernel
theorem dX4_narrow_5 : decode cX4_narrow 5 = .ok (.getfield 65, 3) := by decide +kernel
theorem dX4_narrow_8 : decode cX4_narrow 8 = .ok (.aload_n 2, 1) := by decide +kernel
theorem dX4_narrow_9 : decode cX4_narrow 9 = .ok (.getfield 122, 3) := by decide +kernel
theorem dX4_narrow_12 : decode cX4_narrow 12 = .ok (.iaload, 1) := by decide +kernel
theorem dX4_narrow_13 : decode cX4_narrow 13 = .ok (.aaload, 1) := by decide +kernel
theorem dX4_narrow_14 : decode cX4_narrow 14 = .ok (.getfield 82, 3) := by decide +kernel
theorem dX4_narrow_17 : decode cX4_narrow 17 = .ok (.aload_n 2, 1) := by decide +kernel
theorem dX4_narrow_18 : decode cX4_narrow 18 = .ok (.getfield 125, 3) := by decide +kernel
theorem dX4_narrow_21 : decode cX4_narrow 21 = .ok (.aaload, 1) := by decide +kernel
theorem dX4_narrow_22 : decode cX4_narrow 22 = .ok (.astore 5, 2) := by decide +kernel
theorem dX4_narrow_24 : decode cX4_narrow 24 = .ok (.aload 5, 2) := by decide +kernel
theorem dX4_narrow_26 : decode cX4_narrow 26 = .ok (.getfield 96, 3) := by decide +kernel
theorem dX4_narrow_29 : decode cX4_narrow 29 = .ok (.iconst 1, 1) := by decide +kernel
theorem dX4_narrow_30 : decode cX4_narrow 30 = .ok (.invokestatic 99, 3) := by decide +kernel
theorem dX4_narrow_33 : decode cX4_narrow 33 = .ok (.istore 6, 2) := by decide +kernel
theorem dX4_narrow_35 : decode cX4_narrow 35 = .ok (.aload_n 2, 1) := by decide +kernel
theorem dX4_narrow_36 : decode cX4_narrow 36 = .ok (.getfield 128, 3) := by decide +kernel
theorem dX4_narrow_39 : decode cX4_narrow 39 = .ok (.tableswitch 65 0 2 #[25, 31, 48], 25) := by decide +kernel
theorem dX4_narrow_64 : decode cX4_narrow 64 = .ok (.lload_n 3, 1) := by decide +kernel
theorem dX4_narrow_65 : decode cX4_narrow 65 = .ok (.iload 6, 2) := by decide +kernel
theorem dX4_narrow_67 : decode cX4_narrow 67 = .ok (.i2l, 1) := by decide +kernel
theorem dX4_narrow_68 : decode cX4_narrow 68 = .ok (.ldiv, 1) := by decide +kernel
theorem dX4_narrow_69 : decode cX4_narrow 69 = .ok (.lreturn, 1) := by decide +kernel
theorem dX4_narrow_70 : decode cX4_narrow 70 = .ok (.lload_n 3, 1) := by decide +kernel
theorem dX4_narrow_71 : decode cX4_narrow 71 = .ok (.aload_n 2, 1) := by decide +kernel
theorem dX4_narrow_72 : decode cX4_narrow 72 = .ok (.getfield 131, 3) := by decide +kernel
theorem dX4_narrow_75 : decode cX4_narrow 75 = .ok (.aload 5, 2) := by decide +kernel
theorem dX4_narrow_77 : decode cX4_narrow 77 = .ok (.getfield 134, 3) := by decide +kernel
theorem dX4_narrow_80 : decode cX4_narrow 80 = .ok (.isub, 1) := by decide +kernel
theorem dX4_narrow_81 : decode cX4_narrow 81 = .ok (.aload 5, 2) := by decide +kernel
theorem dX4_narrow_83 : decode cX4_narrow 83 = .ok (.invokestatic 137, 3) := by decide +kernel
theorem dX4_narrow_86 : decode cX4_narrow 86 = .ok (.lreturn, 1) := by decide +kernel
theorem dX4_narrow_87 : decode cX4_narrow 87 = .ok (.lload_n 3, 1) := by decide +kernel
theorem dX4_narrow_88 : decode cX4_narrow 88 = .ok (.aload 5, 2) := by decide +kernel
theorem dX4_narrow_90 : decode cX4_narrow 90 = .ok (.getfield 141, 3) := by decide +kernel
theorem dX4_narrow_93 : decode cX4_narrow 93 = .ok (.aload_n 2, 1) := by decide +kernel
theorem dX4_narrow_94 : decode cX4_narrow 94 = .ok (.getfield 131, 3) := by decide +kernel
theorem dX4_narrow_97 : decode cX4_narrow 97 = .ok (.isub, 1) := by decide +kernel
theorem dX4_narrow_98 : decode cX4_narrow 98 = .ok (.aload 5, 2) := by decide +kernel
theorem dX4_narrow_100 : decode cX4_narrow 100 = .ok (.invokestatic 137, 3) := by decide +kernel
theorem dX4_narrow_103 : decode cX4_narrow 103 = .ok (.lreturn, 1) := by decide +kernel
theorem dX4_narrow_104 : decode cX4_narrow 104 = .ok (.aload_n 0, 1) := by decide +kernel
theorem dX4_narrow_105 : decode cX4_narrow 105 = .ok (.getfield 21, 3) := by decide +kernel
theorem dX4_narrow_108 : decode cX4_narrow 108 = .ok (.aload_n 1, 1) := by decide +kernel
theorem dX4_narrow_109 : decode cX4_narrow 109 = .ok (.getfield 65, 3) := by decide +kernel
theorem dX4_narrow_112 : decode cX4_narrow 112 = .ok (.aload_n 2, 1) := by decide +kernel
theorem dX4_narrow_113 : decode cX4_narrow 113 = .ok (.getfield 144, 3) := by decide +kernel
theorem dX4_narrow_116 : decode cX4_narrow 116 = .ok (.iaload, 1) := by decide +kernel
theorem dX4_narrow_117 : decode cX4_narrow 117 = .ok (.aaload, 1) := by decide +kernel
theorem dX4_narrow_118 : decode cX4_narrow 118 = .ok (.getfield 82, 3) := by decide +kernel
theorem dX4_narrow_121 : decode cX4_narrow 121 = .ok (.aload_n 2, 1) := by decide +kernel
theorem dX4_narrow_122 : decode cX4_narrow 122 = .ok (.getfield 147, 3) := by decide +kernel
theorem dX4_narrow_125 : decode cX4_narrow 125 = .ok (.aaload, 1) := by decide +kernel
theorem dX4_narrow_126 : decode cX4_narrow 126 = .ok (.astore 7, 2) := by decide +kernel
theorem dX4_narrow_128 : decode cX4_narrow 128 = .ok (.lload_n 3, 1) := by decide +kernel
theorem dX4_narrow_129 : decode cX4_narrow 129 = .ok (.iload 6, 2) := by decide +kernel
theorem dX4_narrow_131 : decode cX4_narrow 131 = .ok (.aload 7, 2) := by decide +kernel
theorem dX4_narrow_133 : decode cX4_narrow 133 = .ok (.getfield 96, 3) := by decide +kernel
theorem dX4_narrow_136 : decode cX4_narrow 136 = .ok (.invokestatic 99, 3) := by decide +kernel
theorem dX4_narrow_139 : decode cX4_narrow 139 = .ok (.i2l, 1) := by decide +kernel
theorem dX4_narrow_140 : decode cX4_narrow 140 = .ok (.ldiv, 1) := by decide +kernel
theorem dX4_narrow_141 : decode cX4_narrow 141 = .ok (.lreturn, 1) := by decide +kernel
theorem dX4_share_0 : decode cX4_share 0 = .ok (.aload_n 3, 1) := by decide +kernel
theorem dX4_share_1 : decode cX4_share 1 = .ok (.getfield 141, 3) := by decide +kernel
theorem dX4_share_4 : decode cX4_share 4 = .ok (.aload_n 3, 1) := by decide +kernel
theorem dX4_share_5 : decode cX4_share 5 = .ok (.getfield 134, 3) := by decide +kernel
theorem dX4_share_8 : decode cX4_share 8 = .ok (.isub, 1) := by decide +kernel
theorem dX4_share_9 : decode cX4_share 9 = .ok (.iconst 1, 1) := by decide +kernel
theorem dX4_share_10 : decode cX4_share 10 = .ok (.iadd, 1) := by decide +kernel
theorem dX4_share_11 : decode cX4_share 11 = .ok (.iconst 1, 1) := by decide +kernel
theorem dX4_share_12 : decode cX4_share 12 = .ok (.invokestatic 99, 3) := by decide +kernel
theorem dX4_share_15 : decode cX4_share 15 = .ok (.istore 4, 2) := by decide +kernel
theorem dX4_share_17 : decode cX4_share 17 = .ok (.lload_n 0, 1) := by decide +kernel
theorem dX4_share_18 : decode cX4_share 18 = .ok (.iconst 0, 1) := by decide +kernel
theorem dX4_share_19 : decode cX4_share 19 = .ok (.iload_n 2, 1) := by decide +kernel
theorem dX4_share_20 : decode cX4_share 20 = .ok (.iload 4, 2) := by decide +kernel
theorem dX4_share_22 : decode cX4_share 22 = .ok (.invokestatic 150, 3) := by decide +kernel
theorem dX4_share_25 : decode cX4_share 25 = .ok (.invokestatic 99, 3) := by decide +kernel
theorem dX4_share_28 : decode cX4_share 28 = .ok (.i2l, 1) := by decide +kernel
theorem dX4_share_29 : decode cX4_share 29 = .ok (.lmul, 1) := by decide +kernel
theorem dX4_share_30 : decode cX4_share 30 = .ok (.iload 4, 2) := by decide +kernel
theorem dX4_share_32 : decode cX4_share 32 = .ok (.i2l, 1) := by decide +kernel
theorem dX4_share_33 : decode cX4_share 33 = .ok (.ldiv, 1) := by decide +kernel
theorem dX4_share_34 : decode cX4_share 34 = .ok (.lreturn, 1) := by decide +kernel
theorem dX5_init_0 : decode cX5_init 0 = .ok (.aload_n 0, 1) := by decide +kernel
theorem dX5_init_1 : decode cX5_init 1 = .ok (.invokespecial 3, 3) := by decide +kernel
theorem dX5_init_4 : decode cX5_init 4 = .ok (.aload_n 0, 1) := by decide +kernel
theorem dX5_init_5 : decode cX5_init 5 = .ok (.iconst 3, 1) := by decide +kernel
theorem dX5_init_6 : decode cX5_init 6 = .ok (.newarray .int, 2) := by decide +kernel
theorem dX5_init_8 : decode cX5_init 8 = .ok (.putfield 9, 3) := by decide +kernel
theorem dX5_init_11 : decode cX5_init 11 = .ok (.aload_n 0, 1) := by decide +kernel
theorem dX5_init_12 : decode cX5_init 12 = .ok (.bipush 6, 2) := by decide +kernel
theorem dX5_init_14 : decode cX5_init 14 = .ok (.anewarray 15, 3) := by decide +kernel
theorem dX5_init_17 : decode cX5_init 17 = .ok (.putfield 17, 3) := by decide +kernel
theorem dX5_init_20 : decode cX5_init 20 = .ok (.aload_n 0, 1) := by decide +kernel
theorem dX5_init_21 : decode cX5_init 21 = .ok (.iconst (-1), 1) := by decide +kernel
theorem dX5_init_22 : decode cX5_init 22 = .ok (.putfield 21, 3) := by decide +kernel
theorem dX5_init_25 : decode cX5_init 25 = .ok (.aload_n 0, 1) := by decide +kernel
theorem dX5_init_26 : decode cX5_init 26 = .ok (.iconst (-1), 1) := by decide +kernel
theorem dX5_init_27 : decode cX5_init 27 = .ok (.putfield 25, 3) := by decide +kernel
theorem dX5_init_30 : decode cX5_init 30 = .ok (.aload_n 0, 1) := by decide +kernel
theorem dX5_init_31 : decode cX5_init 31 = .ok (.iconst (-1), 1) := by decide +kernel
theorem dX5_init_32 : decode cX5_init 32 = .ok (.putfield 28, 3) := by decide +kernel
theorem dX5_init_35 : decode cX5_init 35 = .ok (.aload_n 0, 1) := by decide +kernel
theorem dX5_init_36 : decode cX5_init 36 = .ok (.iconst (-1), 1) := by decide +kernel
theorem dX5_init_37 : decode cX5_init 37 = .ok (.putfield 31, 3) := by decide +kernel
theorem dX5_init_40 : decode cX5_init 40 = .ok (.iconst 0, 1) := by decide +kernel
theorem dX5_init_41 : decode cX5_init 41 = .ok (.istore_n 1, 1) := by decide +kernel
theorem dX5_init_42 : decode cX5_init 42 = .ok (.iload_n 1, 1) := by decide +kernel
theorem dX5_init_43 : decode cX5_init 43 = .ok (.bipush 6, 2) := by decide +kernel
theorem dX5_init_45 : decode cX5_init 45 = .ok (.if_icmp .ge 22, 3) := by decide +kernel
theorem dX5_init_48 : decode cX5_init 48 = .ok (.aload_n 0, 1) := by decide +kernel
theorem dX5_init_49 : decode cX5_init 49 = .ok (.getfield 17, 3) := by decide +kernel
theorem dX5_init_52 : decode cX5_init 52 = .ok (.iload_n 1, 1) := by decide +kernel
theorem dX5_init_53 : decode cX5_init 53 = .ok (.new 15, 3) := by decide +kernel
theorem dX5_init_56 : decode cX5_init 56 = .ok (.dup, 1) := by decide +kernel
theorem dX5_init_57 : decode cX5_init 57 = .ok (.invokespecial 34, 3) := by decide +kernel
theorem dX5_init_60 : decode cX5_init 60 = .ok (.aastore, 1) := by decide +kernel
theorem dX5_init_61 : decode cX5_init 61 = .ok (.iinc 1 1, 3) := by decide +kernel
theorem dX5_init_64 : decode cX5_init 64 = .ok (.goto (-22), 3) := by decide +kernel
theorem dX5_init_67 : decode cX5_init 67 = .ok (.return_, 1) := by decide +kernel
theorem dX5_conditionForIndex_0 : decode cX5_conditionForIndex 0 = .ok (.aload_n 1, 1) := by decide +kernel
theorem dX5_conditionForIndex_1 : decode cX5_conditionForIndex 1 = .ok (.getfield 35, 3) := by decide +kernel
theorem dX5_conditionForIndex_4 : decode cX5_conditionForIndex 4 = .ok (.iload_n 2, 1) := by decide +kernel
theorem dX5_conditionForIndex_5 : decode cX5_conditionForIndex 5 = .ok (.iaload, 1) := by decide +kernel
theorem dX5_conditionForIndex_6 : decode cX5_conditionForIndex 6 = .ok (.istore 4, 2) := by decide +kernel
theorem dX5_conditionForIndex_8 : decode cX5_conditionForIndex 8 = .ok (.iconst 0, 1) := by decide +kernel
theorem dX5_conditionForIndex_9 : decode cX5_conditionForIndex 9 = .ok (.istore 5, 2) := by decide +kernel
theorem dX5_conditionForIndex_11 : decode cX5_conditionForIndex 11 = .ok (.iload 5, 2) := by decide +kernel
theorem dX5_conditionForIndex_13 : decode cX5_conditionForIndex 13 = .ok (.aload_n 0, 1) := by decide +kernel
theorem dX5_conditionForIndex_14 : decode cX5_conditionForIndex 14 = .ok (.getfield 40, 3) := by decide +kernel
theorem dX5_conditionForIndex_17 : decode cX5_conditionForIndex 17 = .ok (.if_icmp .ge 42, 3) := by decide +kernel
theorem dX5_conditionForIndex_20 : decode cX5_conditionForIndex 20 = .ok (.aload_n 0, 1) := by decide +kernel
theorem dX5_conditionForIndex_21 : decode cX5_conditionForIndex 21 = .ok (.getfield 17, 3) := by decide +kernel
theorem dX5_conditionForIndex_24 : decode cX5_conditionForIndex 24 = .ok (.iload 5, 2) := by decide +kernel
theorem dX5_conditionForIndex_26 : decode cX5_conditionForIndex 26 = .ok (.aaload, 1) := by decide +kernel
theorem dX5_conditionForIndex_27 : decode cX5_conditionForIndex 27 = .ok (.astore 6, 2) := by decide +kernel
theorem dX5_conditionForIndex_29 : decode cX5_conditionForIndex 29 = .ok (.aload 6, 2) := by decide +kernel
theorem dX5_conditionForIndex_31 : decode cX5_conditionForIndex 31 = .ok (.aload_n 1, 1) := by decide +kernel
theorem dX5_conditionForIndex_32 : decode cX5_conditionForIndex 32 = .ok (.invokevirtual 43, 3) := by decide +kernel
theorem dX5_conditionForIndex_35 : decode cX5_conditionForIndex 35 = .ok (.iload_n 2, 1) := by decide +kernel
theorem dX5_conditionForIndex_36 : decode cX5_conditionForIndex 36 = .ok (.if_icmp .ne 17, 3) := by decide +kernel
theorem dX5_conditionForIndex_39 : decode cX5_conditionForIndex 39 = .ok (.aload 6, 2) := by decide +kernel
theorem dX5_conditionForIndex_41 : decode cX5_conditionForIndex 41 = .ok (.iload 4, 2) := by decide +kernel
theorem dX5_conditionForIndex_43 : decode cX5_conditionForIndex 43 = .ok (.iload_n 3, 1) := by decide +kernel
theorem dX5_conditionForIndex_44 : decode cX5_conditionForIndex 44 = .ok (.invokevirtual 47, 3) := by decide +kernel
theorem dX5_conditionForIndex_47 : decode cX5_conditionForIndex 47 = .ok (.ifCond .eq 6, 3) := by decide +kernel
theorem dX5_conditionForIndex_50 : decode cX5_conditionForIndex 50 = .ok (.iload 5, 2) := by decide +kernel
theorem dX5_conditionForIndex_52 : decode cX5_conditionForIndex 52 = .ok (.ireturn, 1) := by decide +kernel
theorem dX5_conditionForIndex_53 : decode cX5_conditionForIndex 53 = .ok (.iinc 5 1, 3) := by decide +kernel
theorem dX5_conditionForIndex_56 : decode cX5_conditionForIndex 56 = .ok (.goto (-45), 3) := by decide +kernel
theorem dX5_conditionForIndex_59 : decode cX5_conditionForIndex 59 = .ok (.iconst (-1), 1) := by decide +kernel
theorem dX5_conditionForIndex_60 : decode cX5_conditionForIndex 60 = .ok (.ireturn, 1) := by decide +kernel
theorem dX6_init_0 : decode cX6_init 0 = .ok (.aload_n 0, 1) := by decide +kernel
theorem dX6_init_1 : decode cX6_init 1 = .ok (.invokespecial 3, 3) := by decide +kernel
theorem dX6_init_4 : decode cX6_init 4 = .ok (.aload_n 0, 1) := by decide +kernel
theorem dX6_init_5 : decode cX6_init 5 = .ok (.iconst 3, 1) := by decide +kernel
theorem dX6_init_6 : decode cX6_init 6 = .ok (.newarray .int, 2) := by decide +kernel
theorem dX6_init_8 : decode cX6_init 8 = .ok (.putfield 9, 3) := by decide +kernel
theorem dX6_init_11 : decode cX6_init 11 = .ok (.aload_n 0, 1) := by decide +kernel
theorem dX6_init_12 : decode cX6_init 12 = .ok (.aload_n 1, 1) := by decide +kernel
theorem dX6_init_13 : decode cX6_init 13 = .ok (.putfield 15, 3) := by decide +kernel
theorem dX6_init_16 : decode cX6_init 16 = .ok (.return_, 1) := by decide +kernel
theorem dX6_goThrough_0 : decode cX6_goThrough 0 = .ok (.aload_n 0, 1) := by decide +kernel
theorem dX6_goThrough_1 : decode cX6_goThrough 1 = .ok (.iconst 0, 1) := by decide +kernel
theorem dX6_goThrough_2 : decode cX6_goThrough 2 = .ok (.putfield 19, 3) := by decide +kernel
theorem dX6_goThrough_5 : decode cX6_goThrough 5 = .ok (.aload_n 0, 1) := by decide +kernel
theorem dX6_goThrough_6 : decode cX6_goThrough 6 = .ok (.iconst 0, 1) := by decide +kernel
theorem dX6_goThrough_7 : decode cX6_goThrough 7 = .ok (.putfield 23, 3) := by decide +kernel
theorem dX6_goThrough_10 : decode cX6_goThrough 10 = .ok (.aload_n 0, 1) := by decide +kernel
theorem dX6_goThrough_11 : decode cX6_goThrough 11 = .ok (.iconst 0, 1) := by decide +kernel
theorem dX6_goThrough_12 : decode cX6_goThrough 12 = .ok (.putfield 26, 3) := by decide +kernel
theorem dX6_goThrough_15 : decode cX6_goThrough 15 = .ok (.aload_n 1, 1) := by decide +kernel
theorem dX6_goThrough_16 : decode cX6_goThrough 16 = .ok (.getfield 29, 3) := by decide +kernel
theorem dX6_goThrough_19 : decode cX6_goThrough 19 = .ok (.ifCond .le 10, 3) := by decide +kernel
theorem dX6_goThrough_22 : decode cX6_goThrough 22 = .ok (.aload_n 0, 1) := by decide +kernel
theorem dX6_goThrough_23 : decode cX6_goThrough 23 = .ok (.aload_n 1, 1) := by decide +kernel
theorem dX6_goThrough_24 : decode cX6_goThrough 24 = .ok (.aload_n 2, 1) := by decide +kernel
theorem dX6_goThrough_25 : decode cX6_goThrough 25 = .ok (.iconst 0, 1) := by decide +kernel
theorem dX6_goThrough_26 : decode cX6_goThrough 26 = .ok (.invokestatic 34, 3) := by decide +kernel
theorem dX6_goThrough_29 : decode cX6_goThrough 29 = .ok (.return_, 1) := by decide +kernel
theorem dX6_takeStep_0 : decode cX6_takeStep 0 = .ok (.iload_n 3, 1) := by decide +kernel
theorem dX6_takeStep_1 : decode cX6_takeStep 1 = .ok (.aload_n 1, 1) := by decide +kernel
theorem dX6_takeStep_2 : decode cX6_takeStep 2 = .ok (.getfield 29, 3) := by decide +kernel
theorem dX6_takeStep_5 : decode cX6_takeStep 5 = .ok (.if_icmp .lt 9, 3) := by decide +kernel
theorem dX6_takeStep_8 : decode cX6_takeStep 8 = .ok (.aload_n 0, 1) := by decide +kernel
theorem dX6_takeStep_9 : decode cX6_takeStep 9 = .ok (.aload_n 1, 1) := by decide +kernel
theorem dX6_takeStep_10 : decode cX6_takeStep 10 = .ok (.invokevirtual 38, 3) := by decide +kernel
theorem dX6_takeStep_13 : decode cX6_takeStep 13 = .ok (.return_, 1) := by decide +kernel
theorem dX6_takeStep_14 : decode cX6_takeStep 14 = .ok (.aload_n 2, 1) := by decide +kernel
theorem dX6_takeStep_15 : decode cX6_takeStep 15 = .ok (.getfield 42, 3) := by decide +kernel
theorem dX6_takeStep_18 : decode cX6_takeStep 18 = .ok (.iload_n 3, 1) := by decide +kernel
theorem dX6_takeStep_19 : decode cX6_takeStep 19 = .ok (.iaload, 1) := by decide +kernel
theorem dX6_takeStep_20 : decode cX6_takeStep 20 = .ok (.istore 4, 2) := by decide +kernel
theorem dX6_takeStep_22 : decode cX6_takeStep 22 = .ok (.aload_n 0, 1) := by decide +kernel
theorem dX6_takeStep_23 : decode cX6_takeStep 23 = .ok (.getfield 15, 3) := by decide +kernel
theorem dX6_takeStep_26 : decode cX6_takeStep 26 = .ok (.aload_n 1, 1) := by decide +kernel
theorem dX6_takeStep_27 : decode cX6_takeStep 27 = .ok (.getfield 47, 3) := by decide +kernel
theorem dX6_takeStep_30 : decode cX6_takeStep 30 = .ok (.iload 4, 2) := by decide +kernel
theorem dX6_takeStep_32 : decode cX6_takeStep 32 = .ok (.iaload, 1) := by decide +kernel
theorem dX6_takeStep_33 : decode cX6_takeStep 33 = .ok (.aaload, 1) := by decide +kernel
theorem dX6_takeStep_34 : decode cX6_takeStep 34 = .ok (.astore 5, 2) := by decide +kernel
theorem dX6_takeStep_36 : decode cX6_takeStep 36 = .ok (.aload_n 2, 1) := by decide +kernel
theorem dX6_takeStep_37 : decode cX6_takeStep 37 = .ok (.getfield 50, 3) := by decide +kernel
theorem dX6_takeStep_40 : decode cX6_takeStep 40 = .ok (.iload_n 3, 1) := by decide +kernel
theorem dX6_takeStep_41 : decode cX6_takeStep 41 = .ok (.iaload, 1) := by decide +kernel
theorem dX6_takeStep_42 : decode cX6_takeStep 42 = .ok (.istore 6, 2) := by decide +kernel
theorem dX6_takeStep_44 : decode cX6_takeStep 44 = .ok (.iconst (-1), 1) := by decide +kernel
theorem dX6_takeStep_45 : decode cX6_takeStep 45 = .ok (.istore 7, 2) := by decide +kernel
theorem dX6_takeStep_47 : decode cX6_takeStep 47 = .ok (.iload 6, 2) := by decide +kernel
theorem dX6_takeStep_49 : decode cX6_takeStep 49 = .ok (.iconst (-1), 1) := by decide +kernel
theorem dX6_takeStep_50 : decode cX6_takeStep 50 = .ok (.if_icmp .eq 22, 3) := by decide +kernel
theorem dX6_takeStep_53 : decode cX6_takeStep 53 = .ok (.aload_n 0, 1) := by decide +kernel
theorem dX6_takeStep_54 : decode cX6_takeStep 54 = .ok (.aload_n 1, 1) := by decide +kernel
theorem dX6_takeStep_55 : decode cX6_takeStep 55 = .ok (.aload_n 2, 1) := by decide +kernel
theorem dX6_takeStep_56 : decode cX6_takeStep 56 = .ok (.iload_n 3, 1) := by decide +kernel
theorem dX6_takeStep_57 : decode cX6_takeStep 57 = .ok (.invokevirtual 53, 3) := by decide +kernel
theorem dX6_takeStep_60 : decode cX6_takeStep 60 = .ok (.istore 7, 2) := by decide +kernel
theorem dX6_takeStep_62 : decode cX6_takeStep 62 = .ok (.aload_n 0, 1) := by decide +kernel
theorem dX6_takeStep_63 : decode cX6_takeStep 63 = .ok (.dup, 1) := by decide +kernel
theorem dX6_takeStep_64 : decode cX6_takeStep 64 = .ok (.getfield 19, 3) := by decide +kernel
theorem dX6_takeStep_67 : decode cX6_takeStep 67 = .ok (.iconst 1, 1) := by decide +kernel
theorem dX6_takeStep_68 : decode cX6_takeStep 68 = .ok (.iadd, 1) := by decide +kernel
theorem dX6_takeStep_69 : decode cX6_takeStep 69 = .ok (.putfield 19, 3) := by decide +kernel
theorem dX6_takeStep_72 : decode cX6_takeStep 72 = .ok (.iconst 0, 1) := by decide +kernel
theorem dX6_takeStep_73 : decode cX6_takeStep 73 = .ok (.istore 8, 2) := by decide +kernel
theorem dX6_takeStep_75 : decode cX6_takeStep 75 = .ok (.iload 8, 2) := by decide +kernel
theorem dX6_takeStep_77 : decode cX6_takeStep 77 = .ok (.aload 5, 2) := by decide +kernel
theorem dX6_takeStep_79 : decode cX6_takeStep 79 = .ok (.getfield 57, 3) := by decide +kernel
theorem dX6_takeStep_82 : decode cX6_takeStep 82 = .ok (.if_icmp .ge 83, 3) := by decide +kernel
theorem dX6_takeStep_85 : decode cX6_takeStep 85 = .ok (.aload 5, 2) := by decide +kernel
theorem dX6_takeStep_87 : decode cX6_takeStep 87 = .ok (.getfield 62, 3) := by decide +kernel
theorem dX6_takeStep_90 : decode cX6_takeStep 90 = .ok (.iload 8, 2) := by decide +kernel
theorem dX6_takeStep_92 : decode cX6_takeStep 92 = .ok (.baload, 1) := by decide +kernel
theorem dX6_takeStep_93 : decode cX6_takeStep 93 = .ok (.ifCond .eq 66, 3) := by decide +kernel
theorem dX6_takeStep_96 : decode cX6_takeStep 96 = .ok (.iload 6, 2) := by decide +kernel
theorem dX6_takeStep_98 : decode cX6_takeStep 98 = .ok (.iconst (-1), 1) := by decide +kernel
theorem dX6_takeStep_99 : decode cX6_takeStep 99 = .ok (.if_icmp .eq 22, 3) := by decide +kernel
theorem dX6_takeStep_102 : decode cX6_takeStep 102 = .ok (.aload 5, 2) := by decide +kernel
theorem dX6_takeStep_104 : decode cX6_takeStep 104 = .ok (.getfield 66, 3) := by decide +kernel
theorem dX6_takeStep_107 : decode cX6_takeStep 107 = .ok (.iload 8, 2) := by decide +kernel
theorem dX6_takeStep_109 : decode cX6_takeStep 109 = .ok (.aaload, 1) := by decide +kernel
theorem dX6_takeStep_110 : decode cX6_takeStep 110 = .ok (.iload 6, 2) := by decide +kernel
theorem dX6_takeStep_112 : decode cX6_takeStep 112 = .ok (.iaload, 1) := by decide +kernel
theorem dX6_takeStep_113 : decode cX6_takeStep 113 = .ok (.iload 7, 2) := by decide +kernel
theorem dX6_takeStep_115 : decode cX6_takeStep 115 = .ok (.if_icmp .eq 6, 3) := by decide +kernel
theorem dX6_takeStep_118 : decode cX6_takeStep 118 = .ok (.goto 41, 3) := by decide +kernel
theorem dX6_takeStep_121 : decode cX6_takeStep 121 = .ok (.aload_n 0, 1) := by decide +kernel
theorem dX6_takeStep_122 : decode cX6_takeStep 122 = .ok (.dup, 1) := by decide +kernel
theorem dX6_takeStep_123 : decode cX6_takeStep 123 = .ok (.getfield 19, 3) := by decide +kernel
theorem dX6_takeStep_126 : decode cX6_takeStep 126 = .ok (.iconst 1, 1) := by decide +kernel
theorem dX6_takeStep_127 : decode cX6_takeStep 127 = .ok (.iadd, 1) := by decide +kernel
theorem dX6_takeStep_128 : decode cX6_takeStep 128 = .ok (.putfield 19, 3) := by decide +kernel
theorem dX6_takeStep_131 : decode cX6_takeStep 131 = .ok (.aload_n 0, 1) := by decide +kernel
theorem dX6_takeStep_132 : decode cX6_takeStep 132 = .ok (.getfield 9, 3) := by decide +kernel
theorem dX6_takeStep_135 : decode cX6_takeStep 135 = .ok (.iload 4, 2) := by decide +kernel
theorem dX6_takeStep_137 : decode cX6_takeStep 137 = .ok (.iload 8, 2) := by decide +kernel
theorem dX6_takeStep_139 : decode cX6_takeStep 139 = .ok (.iastore, 1) := by decide +kernel
theorem dX6_takeStep_140 : decode cX6_takeStep 140 = .ok (.aload_n 0, 1) := by decide +kernel
theorem dX6_takeStep_141 : decode cX6_takeStep 141 = .ok (.aload_n 1, 1) := by decide +kernel
theorem dX6_takeStep_142 : decode cX6_takeStep 142 = .ok (.aload_n 2, 1) := by decide +kernel
theorem dX6_takeStep_143 : decode cX6_takeStep 143 = .ok (.iload_n 3, 1) := by decide +kernel
theorem dX6_takeStep_144 : decode cX6_takeStep 144 = .ok (.invokevirtual 70, 3) := by decide +kernel
theorem dX6_takeStep_147 : decode cX6_takeStep 147 = .ok (.ifCond .eq 12, 3) := by decide +kernel
theorem dX6_takeStep_150 : decode cX6_takeStep 150 = .ok (.aload_n 0, 1) := by decide +kernel
theorem dX6_takeStep_151 : decode cX6_takeStep 151 = .ok (.aload_n 1, 1) := by decide +kernel
theorem dX6_takeStep_152 : decode cX6_takeStep 152 = .ok (.aload_n 2, 1) := by decide +kernel
theorem dX6_takeStep_153 : decode cX6_takeStep 153 = .ok (.iload_n 3, 1) := by decide +kernel
theorem dX6_takeStep_154 : decode cX6_takeStep 154 = .ok (.iconst 1, 1) := by decide +kernel
theorem dX6_takeStep_155 : decode cX6_takeStep 155 = .ok (.iadd, 1) := by decide +kernel
theorem dX6_takeStep_156 : decode cX6_takeStep 156 = .ok (.invokestatic 34, 3) := by decide +kernel
theorem dX6_takeStep_159 : decode cX6_takeStep 159 = .ok (.iinc 8 1, 3) := by decide +kernel
theorem dX6_takeStep_162 : decode cX6_takeStep 162 = .ok (.goto (-87), 3) := by decide +kernel
theorem dX6_takeStep_165 : decode cX6_takeStep 165 = .ok (.return_, 1) := by decide +kernel
theorem dX6_countChoice_0 : decode cX6_countChoice 0 = .ok (.aload_n 0, 1) := by decide +kernel
theorem dX6_countChoice_1 : decode cX6_countChoice 1 = .ok (.dup, 1) := by decide +kernel
theorem dX6_countChoice_2 : decode cX6_countChoice 2 = .ok (.getfield 23, 3) := by decide +kernel
theorem dX6_countChoice_5 : decode cX6_countChoice 5 = .ok (.iconst 1, 1) := by decide +kernel
theorem dX6_countChoice_6 : decode cX6_countChoice 6 = .ok (.iadd, 1) := by decide +kernel
theorem dX6_countChoice_7 : decode cX6_countChoice 7 = .ok (.putfield 23, 3) := by decide +kernel
theorem dX6_countChoice_10 : decode cX6_countChoice 10 = .ok (.aload_n 1, 1) := by decide +kernel
theorem dX6_countChoice_11 : decode cX6_countChoice 11 = .ok (.getfield 74, 3) := by decide +kernel
theorem dX6_countChoice_14 : decode cX6_countChoice 14 = .ok (.iconst (-1), 1) := by decide +kernel
theorem dX6_countChoice_15 : decode cX6_countChoice 15 = .ok (.if_icmp .eq 25, 3) := by decide +kernel
theorem dX6_countChoice_18 : decode cX6_countChoice 18 = .ok (.aload_n 0, 1) := by decide +kernel
theorem dX6_countChoice_19 : decode cX6_countChoice 19 = .ok (.dup, 1) := by decide +kernel
theorem dX6_countChoice_20 : decode cX6_countChoice 20 = .ok (.getfield 26, 3) := by decide +kernel
theorem dX6_countChoice_23 : decode cX6_countChoice 23 = .ok (.aload_n 0, 1) := by decide +kernel
theorem dX6_countChoice_24 : decode cX6_countChoice 24 = .ok (.aload_n 1, 1) := by decide +kernel
theorem dX6_countChoice_25 : decode cX6_countChoice 25 = .ok (.aload_n 1, 1) := by decide +kernel
theorem dX6_countChoice_26 : decode cX6_countChoice 26 = .ok (.getfield 74, 3) := by decide +kernel
theorem dX6_countChoice_29 : decode cX6_countChoice 29 = .ok (.aload_n 1, 1) := by decide +kernel
theorem dX6_countChoice_30 : decode cX6_countChoice 30 = .ok (.getfield 77, 3) := by decide +kernel
theorem dX6_countChoice_33 : decode cX6_countChoice 33 = .ok (.invokevirtual 80, 3) := by decide +kernel
theorem dX6_countChoice_36 : decode cX6_countChoice 36 = .ok (.iadd, 1) := by decide +kernel
theorem dX6_countChoice_37 : decode cX6_countChoice 37 = .ok (.putfield 26, 3) := by decide +kernel
theorem dX6_countChoice_40 : decode cX6_countChoice 40 = .ok (.return_, 1) := by decide +kernel
theorem dX6_valueLookedFor_0 : decode cX6_valueLookedFor 0 = .ok (.aload_n 1, 1) := by decide +kernel
theorem dX6_valueLookedFor_1 : decode cX6_valueLookedFor 1 = .ok (.aload_n 2, 1) := by decide +kernel
theorem dX6_valueLookedFor_2 : decode cX6_valueLookedFor 2 = .ok (.iload_n 3, 1) := by decide +kernel
theorem dX6_valueLookedFor_3 : decode cX6_valueLookedFor 3 = .ok (.aload_n 2, 1) := by decide +kernel
theorem dX6_valueLookedFor_4 : decode cX6_valueLookedFor 4 = .ok (.getfield 50, 3) := by decide +kernel
theorem dX6_valueLookedFor_7 : decode cX6_valueLookedFor 7 = .ok (.iload_n 3, 1) := by decide +kernel
theorem dX6_valueLookedFor_8 : decode cX6_valueLookedFor 8 = .ok (.iaload, 1) := by decide +kernel
theorem dX6_valueLookedFor_9 : decode cX6_valueLookedFor 9 = .ok (.invokevirtual 84, 3) := by decide +kernel
theorem dX6_valueLookedFor_12 : decode cX6_valueLookedFor 12 = .ok (.istore 4, 2) := by decide +kernel
theorem dX6_valueLookedFor_14 : decode cX6_valueLookedFor 14 = .ok (.iload 4, 2) := by decide +kernel
theorem dX6_valueLookedFor_16 : decode cX6_valueLookedFor 16 = .ok (.iconst (-1), 1) := by decide +kernel
theorem dX6_valueLookedFor_17 : decode cX6_valueLookedFor 17 = .ok (.if_icmp .ne 5, 3) := by decide +kernel
theorem dX6_valueLookedFor_20 : decode cX6_valueLookedFor 20 = .ok (.iconst (-1), 1) := by decide +kernel
theorem dX6_valueLookedFor_21 : decode cX6_valueLookedFor 21 = .ok (.ireturn, 1) := by decide +kernel
theorem dX6_valueLookedFor_22 : decode cX6_valueLookedFor 22 = .ok (.aload_n 1, 1) := by decide +kernel
theorem dX6_valueLookedFor_23 : decode cX6_valueLookedFor 23 = .ok (.getfield 88, 3) := by decide +kernel
theorem dX6_valueLookedFor_26 : decode cX6_valueLookedFor 26 = .ok (.iload 4, 2) := by decide +kernel
theorem dX6_valueLookedFor_28 : decode cX6_valueLookedFor 28 = .ok (.aaload, 1) := by decide +kernel
theorem dX6_valueLookedFor_29 : decode cX6_valueLookedFor 29 = .ok (.astore 5, 2) := by decide +kernel
theorem dX6_valueLookedFor_31 : decode cX6_valueLookedFor 31 = .ok (.aload 5, 2) := by decide +kernel
theorem dX6_valueLookedFor_33 : decode cX6_valueLookedFor 33 = .ok (.getfield 92, 3) := by decide +kernel
theorem dX6_valueLookedFor_36 : decode cX6_valueLookedFor 36 = .ok (.iconst 3, 1) := by decide +kernel
theorem dX6_valueLookedFor_37 : decode cX6_valueLookedFor 37 = .ok (.if_icmp .eq 9, 3) := by decide +kernel
theorem dX6_valueLookedFor_40 : decode cX6_valueLookedFor 40 = .ok (.aload 5, 2) := by decide +kernel
theorem dX6_valueLookedFor_42 : decode cX6_valueLookedFor 42 = .ok (.getfield 97, 3) := by decide +kernel
theorem dX6_valueLookedFor_45 : decode cX6_valueLookedFor 45 = .ok (.ireturn, 1) := by decide +kernel
theorem dX6_valueLookedFor_46 : decode cX6_valueLookedFor 46 = .ok (.aload 5, 2) := by decide +kernel
theorem dX6_valueLookedFor_48 : decode cX6_valueLookedFor 48 = .ok (.getfield 100, 3) := by decide +kernel
theorem dX6_valueLookedFor_51 : decode cX6_valueLookedFor 51 = .ok (.aload_n 2, 1) := by decide +kernel
theorem dX6_valueLookedFor_52 : decode cX6_valueLookedFor 52 = .ok (.getfield 42, 3) := by decide +kernel
theorem dX6_valueLookedFor_55 : decode cX6_valueLookedFor 55 = .ok (.iload_n 3, 1) := by decide +kernel
theorem dX6_valueLookedFor_56 : decode cX6_valueLookedFor 56 = .ok (.iaload, 1) := by decide +kernel
theorem dX6_valueLookedFor_57 : decode cX6_valueLookedFor 57 = .ok (.if_icmp .ne 19, 3) := by decide +kernel
theorem dX6_valueLookedFor_60 : decode cX6_valueLookedFor 60 = .ok (.aload_n 0, 1) := by decide +kernel
theorem dX6_valueLookedFor_61 : decode cX6_valueLookedFor 61 = .ok (.aload_n 1, 1) := by decide +kernel
theorem dX6_valueLookedFor_62 : decode cX6_valueLookedFor 62 = .ok (.aload 5, 2) := by decide +kernel
theorem dX6_valueLookedFor_64 : decode cX6_valueLookedFor 64 = .ok (.getfield 103, 3) := by decide +kernel
theorem dX6_valueLookedFor_67 : decode cX6_valueLookedFor 67 = .ok (.aload 5, 2) := by decide +kernel
theorem dX6_valueLookedFor_69 : decode cX6_valueLookedFor 69 = .ok (.getfield 106, 3) := by decide +kernel
theorem dX6_valueLookedFor_72 : decode cX6_valueLookedFor 72 = .ok (.invokevirtual 80, 3) := by decide +kernel
theorem dX6_valueLookedFor_75 : decode cX6_valueLookedFor 75 = .ok (.ireturn, 1) := by decide +kernel
theorem dX6_valueLookedFor_76 : decode cX6_valueLookedFor 76 = .ok (.aload_n 0, 1) := by decide +kernel
theorem dX6_valueLookedFor_77 : decode cX6_valueLookedFor 77 = .ok (.aload_n 1, 1) := by decide +kernel
theorem dX6_valueLookedFor_78 : decode cX6_valueLookedFor 78 = .ok (.aload 5, 2) := by decide +kernel
theorem dX6_valueLookedFor_80 : decode cX6_valueLookedFor 80 = .ok (.getfield 100, 3) := by decide +kernel
theorem dX6_valueLookedFor_83 : decode cX6_valueLookedFor 83 = .ok (.aload 5, 2) := by decide +kernel
theorem dX6_valueLookedFor_85 : decode cX6_valueLookedFor 85 = .ok (.getfield 109, 3) := by decide +kernel
theorem dX6_valueLookedFor_88 : decode cX6_valueLookedFor 88 = .ok (.invokevirtual 80, 3) := by decide +kernel
theorem dX6_valueLookedFor_91 : decode cX6_valueLookedFor 91 = .ok (.ireturn, 1) := by decide +kernel
theorem dX6_conditionsHold_0 : decode cX6_conditionsHold 0 = .ok (.iconst 0, 1) := by decide +kernel
theorem dX6_conditionsHold_1 : decode cX6_conditionsHold 1 = .ok (.istore 4, 2) := by decide +kernel
theorem dX6_conditionsHold_3 : decode cX6_conditionsHold 3 = .ok (.iload 4, 2) := by decide +kernel
theorem dX6_conditionsHold_5 : decode cX6_conditionsHold 5 = .ok (.aload_n 1, 1) := by decide +kernel
theorem dX6_conditionsHold_6 : decode cX6_conditionsHold 6 = .ok (.getfield 112, 3) := by decide +kernel
theorem dX6_conditionsHold_9 : decode cX6_conditionsHold 9 = .ok (.if_icmp .ge 40, 3) := by decide +kernel
theorem dX6_conditionsHold_12 : decode cX6_conditionsHold 12 = .ok (.aload_n 1, 1) := by decide +kernel
theorem dX6_conditionsHold_13 : decode cX6_conditionsHold 13 = .ok (.getfield 88, 3) := by decide +kernel
theorem dX6_conditionsHold_16 : decode cX6_conditionsHold 16 = .ok (.iload 4, 2) := by decide +kernel
theorem dX6_conditionsHold_18 : decode cX6_conditionsHold 18 = .ok (.aaload, 1) := by decide +kernel
theorem dX6_conditionsHold_19 : decode cX6_conditionsHold 19 = .ok (.astore 5, 2) := by decide +kernel
theorem dX6_conditionsHold_21 : decode cX6_conditionsHold 21 = .ok (.aload 5, 2) := by decide +kernel
theorem dX6_conditionsHold_23 : decode cX6_conditionsHold 23 = .ok (.aload_n 2, 1) := by decide +kernel
theorem dX6_conditionsHold_24 : decode cX6_conditionsHold 24 = .ok (.invokevirtual 115, 3) := by decide +kernel
theorem dX6_conditionsHold_27 : decode cX6_conditionsHold 27 = .ok (.iload_n 3, 1) := by decide +kernel
theorem dX6_conditionsHold_28 : decode cX6_conditionsHold 28 = .ok (.if_icmp .ne 15, 3) := by decide +kernel
theorem dX6_conditionsHold_31 : decode cX6_conditionsHold 31 = .ok (.aload_n 0, 1) := by decide +kernel
theorem dX6_conditionsHold_32 : decode cX6_conditionsHold 32 = .ok (.aload_n 1, 1) := by decide +kernel
theorem dX6_conditionsHold_33 : decode cX6_conditionsHold 33 = .ok (.aload 5, 2) := by decide +kernel
theorem dX6_conditionsHold_35 : decode cX6_conditionsHold 35 = .ok (.invokevirtual 119, 3) := by decide +kernel
theorem dX6_conditionsHold_38 : decode cX6_conditionsHold 38 = .ok (.ifCond .ne 5, 3) := by decide +kernel
theorem dX6_conditionsHold_41 : decode cX6_conditionsHold 41 = .ok (.iconst 0, 1) := by decide +kernel
theorem dX6_conditionsHold_42 : decode cX6_conditionsHold 42 = .ok (.ireturn, 1) := by decide +kernel
theorem dX6_conditionsHold_43 : decode cX6_conditionsHold 43 = .ok (.iinc 4 1, 3) := by decide +kernel
theorem dX6_conditionsHold_46 : decode cX6_conditionsHold 46 = .ok (.goto (-43), 3) := by decide +kernel
theorem dX6_conditionsHold_49 : decode cX6_conditionsHold 49 = .ok (.iconst 1, 1) := by decide +kernel
theorem dX6_conditionsHold_50 : decode cX6_conditionsHold 50 = .ok (.ireturn, 1) := by decide +kernel
theorem dX6_holds_0 : decode cX6_holds 0 = .ok (.aload_n 0, 1) := by decide +kernel
theorem dX6_holds_1 : decode cX6_holds 1 = .ok (.aload_n 1, 1) := by decide +kernel
theorem dX6_holds_2 : decode cX6_holds 2 = .ok (.aload_n 2, 1) := by decide +kernel
theorem dX6_holds_3 : decode cX6_holds 3 = .ok (.getfield 100, 3) := by decide +kernel
theorem dX6_holds_6 : decode cX6_holds 6 = .ok (.aload_n 2, 1) := by decide +kernel
theorem dX6_holds_7 : decode cX6_holds 7 = .ok (.getfield 109, 3) := by decide +kernel
theorem dX6_holds_10 : decode cX6_holds 10 = .ok (.invokevirtual 80, 3) := by decide +kernel
theorem dX6_holds_13 : decode cX6_holds 13 = .ok (.istore_n 3, 1) := by decide +kernel
theorem dX6_holds_14 : decode cX6_holds 14 = .ok (.aload_n 2, 1) := by decide +kernel
theorem dX6_holds_15 : decode cX6_holds 15 = .ok (.getfield 92, 3) := by decide +kernel
theorem dX6_holds_18 : decode cX6_holds 18 = .ok (.tableswitch 68 0 2 #[26, 40, 54], 26) := by decide +kernel
theorem dX6_holds_44 : decode cX6_holds 44 = .ok (.iload_n 3, 1) := by decide +kernel
theorem dX6_holds_45 : decode cX6_holds 45 = .ok (.aload_n 2, 1) := by decide +kernel
theorem dX6_holds_46 : decode cX6_holds 46 = .ok (.getfield 97, 3) := by decide +kernel
theorem dX6_holds_49 : decode cX6_holds 49 = .ok (.if_icmp .ne 7, 3) := by decide +kernel
theorem dX6_holds_52 : decode cX6_holds 52 = .ok (.iconst 1, 1) := by decide +kernel
theorem dX6_holds_53 : decode cX6_holds 53 = .ok (.goto 4, 3) := by decide +kernel
theorem dX6_holds_56 : decode cX6_holds 56 = .ok (.iconst 0, 1) := by decide +kernel
theorem dX6_holds_57 : decode cX6_holds 57 = .ok (.ireturn, 1) := by decide +kernel
theorem dX6_holds_58 : decode cX6_holds 58 = .ok (.iload_n 3, 1) := by decide +kernel
theorem dX6_holds_59 : decode cX6_holds 59 = .ok (.aload_n 2, 1) := by decide +kernel
theorem dX6_holds_60 : decode cX6_holds 60 = .ok (.getfield 97, 3) := by decide +kernel
theorem dX6_holds_63 : decode cX6_holds 63 = .ok (.if_icmp .ge 7, 3) := by decide +kernel
theorem dX6_holds_66 : decode cX6_holds 66 = .ok (.iconst 1, 1) := by decide +kernel
theorem dX6_holds_67 : decode cX6_holds 67 = .ok (.goto 4, 3) := by decide +kernel
theorem dX6_holds_70 : decode cX6_holds 70 = .ok (.iconst 0, 1) := by decide +kernel
theorem dX6_holds_71 : decode cX6_holds 71 = .ok (.ireturn, 1) := by decide +kernel
theorem dX6_holds_72 : decode cX6_holds 72 = .ok (.iload_n 3, 1) := by decide +kernel
theorem dX6_holds_73 : decode cX6_holds 73 = .ok (.aload_n 2, 1) := by decide +kernel
theorem dX6_holds_74 : decode cX6_holds 74 = .ok (.getfield 97, 3) := by decide +kernel
theorem dX6_holds_77 : decode cX6_holds 77 = .ok (.if_icmp .le 7, 3) := by decide +kernel
theorem dX6_holds_80 : decode cX6_holds 80 = .ok (.iconst 1, 1) := by decide +kernel
theorem dX6_holds_81 : decode cX6_holds 81 = .ok (.goto 4, 3) := by decide +kernel
theorem dX6_holds_84 : decode cX6_holds 84 = .ok (.iconst 0, 1) := by decide +kernel
theorem dX6_holds_85 : decode cX6_holds 85 = .ok (.ireturn, 1) := by decide +kernel
theorem dX6_holds_86 : decode cX6_holds 86 = .ok (.iload_n 3, 1) := by decide +kernel
theorem dX6_holds_87 : decode cX6_holds 87 = .ok (.aload_n 0, 1) := by decide +kernel
theorem dX6_holds_88 : decode cX6_holds 88 = .ok (.aload_n 1, 1) := by decide +kernel
theorem dX6_holds_89 : decode cX6_holds 89 = .ok (.aload_n 2, 1) := by decide +kernel
theorem dX6_holds_90 : decode cX6_holds 90 = .ok (.getfield 103, 3) := by decide +kernel
theorem dX6_holds_93 : decode cX6_holds 93 = .ok (.aload_n 2, 1) := by decide +kernel
theorem dX6_holds_94 : decode cX6_holds 94 = .ok (.getfield 106, 3) := by decide +kernel
theorem dX6_holds_97 : decode cX6_holds 97 = .ok (.invokevirtual 80, 3) := by decide +kernel
theorem dX6_holds_100 : decode cX6_holds 100 = .ok (.if_icmp .ne 7, 3) := by decide +kernel
theorem dX6_holds_103 : decode cX6_holds 103 = .ok (.iconst 1, 1) := by decide +kernel
theorem dX6_holds_104 : decode cX6_holds 104 = .ok (.goto 4, 3) := by decide +kernel
theorem dX6_holds_107 : decode cX6_holds 107 = .ok (.iconst 0, 1) := by decide +kernel
theorem dX6_holds_108 : decode cX6_holds 108 = .ok (.ireturn, 1) := by decide +kernel
theorem dX6_chosenValue_0 : decode cX6_chosenValue 0 = .ok (.aload_n 0, 1) := by decide +kernel
theorem dX6_chosenValue_1 : decode cX6_chosenValue 1 = .ok (.getfield 15, 3) := by decide +kernel
theorem dX6_chosenValue_4 : decode cX6_chosenValue 4 = .ok (.aload_n 1, 1) := by decide +kernel
theorem dX6_chosenValue_5 : decode cX6_chosenValue 5 = .ok (.getfield 47, 3) := by decide +kernel
theorem dX6_chosenValue_8 : decode cX6_chosenValue 8 = .ok (.iload_n 2, 1) := by decide +kernel
theorem dX6_chosenValue_9 : decode cX6_chosenValue 9 = .ok (.iaload, 1) := by decide +kernel
theorem dX6_chosenValue_10 : decode cX6_chosenValue 10 = .ok (.aaload, 1) := by decide +kernel
theorem dX6_chosenValue_11 : decode cX6_chosenValue 11 = .ok (.getfield 66, 3) := by decide +kernel
theorem dX6_chosenValue_14 : decode cX6_chosenValue 14 = .ok (.aload_n 0, 1) := by decide +kernel
theorem dX6_chosenValue_15 : decode cX6_chosenValue 15 = .ok (.getfield 9, 3) := by decide +kernel
theorem dX6_chosenValue_18 : decode cX6_chosenValue 18 = .ok (.iload_n 2, 1) := by decide +kernel
theorem dX6_chosenValue_19 : decode cX6_chosenValue 19 = .ok (.iaload, 1) := by decide +kernel
theorem dX6_chosenValue_20 : decode cX6_chosenValue 20 = .ok (.aaload, 1) := by decide +kernel
theorem dX6_chosenValue_21 : decode cX6_chosenValue 21 = .ok (.iload_n 3, 1) := by decide +kernel
theorem dX6_chosenValue_22 : decode cX6_chosenValue 22 = .ok (.iaload, 1) := by decide +kernel
theorem dX6_chosenValue_23 : decode cX6_chosenValue 23 = .ok (.ireturn, 1) := by decide +kernel
theorem dX7_init_0 : decode cX7_init 0 = .ok (.aload_n 0, 1) := by decide +kernel
theorem dX7_init_1 : decode cX7_init 1 = .ok (.invokespecial 3, 3) := by decide +kernel
theorem dX7_init_4 : decode cX7_init 4 = .ok (.aload_n 0, 1) := by decide +kernel
theorem dX7_init_5 : decode cX7_init 5 = .ok (.iconst 3, 1) := by decide +kernel
theorem dX7_init_6 : decode cX7_init 6 = .ok (.anewarray 9, 3) := by decide +kernel
theorem dX7_init_9 : decode cX7_init 9 = .ok (.putfield 11, 3) := by decide +kernel
theorem dX7_init_12 : decode cX7_init 12 = .ok (.aload_n 0, 1) := by decide +kernel
theorem dX7_init_13 : decode cX7_init 13 = .ok (.bipush 40, 2) := by decide +kernel
theorem dX7_init_15 : decode cX7_init 15 = .ok (.iconst 3, 1) := by decide +kernel
theorem dX7_init_16 : decode cX7_init 16 = .ok (.multianewarray 17 2, 4) := by decide +kernel
theorem dX7_init_20 : decode cX7_init 20 = .ok (.putfield 19, 3) := by decide +kernel
theorem dX7_init_23 : decode cX7_init 23 = .ok (.aload_n 0, 1) := by decide +kernel
theorem dX7_init_24 : decode cX7_init 24 = .ok (.bipush 40, 2) := by decide +kernel
theorem dX7_init_26 : decode cX7_init 26 = .ok (.newarray .boolean, 2) := by decide +kernel
theorem dX7_init_28 : decode cX7_init 28 = .ok (.putfield 22, 3) := by decide +kernel
theorem dX7_init_31 : decode cX7_init 31 = .ok (.aload_n 0, 1) := by decide +kernel
theorem dX7_init_32 : decode cX7_init 32 = .ok (.bipush 40, 2) := by decide +kernel
theorem dX7_init_34 : decode cX7_init 34 = .ok (.newarray .int, 2) := by decide +kernel
theorem dX7_init_36 : decode cX7_init 36 = .ok (.putfield 26, 3) := by decide +kernel
theorem dX7_init_39 : decode cX7_init 39 = .ok (.iconst 0, 1) := by decide +kernel
theorem dX7_init_40 : decode cX7_init 40 = .ok (.istore_n 1, 1) := by decide +kernel
theorem dX7_init_41 : decode cX7_init 41 = .ok (.iload_n 1, 1) := by decide +kernel
theorem dX7_init_42 : decode cX7_init 42 = .ok (.iconst 3, 1) := by decide +kernel
theorem dX7_init_43 : decode cX7_init 43 = .ok (.if_icmp .ge 22, 3) := by decide +kernel
theorem dX7_init_46 : decode cX7_init 46 = .ok (.aload_n 0, 1) := by decide +kernel
theorem dX7_init_47 : decode cX7_init 47 = .ok (.getfield 11, 3) := by decide +kernel
theorem dX7_init_50 : decode cX7_init 50 = .ok (.iload_n 1, 1) := by decide +kernel
theorem dX7_init_51 : decode cX7_init 51 = .ok (.new 9, 3) := by decide +kernel
theorem dX7_init_54 : decode cX7_init 54 = .ok (.dup, 1) := by decide +kernel
theorem dX7_init_55 : decode cX7_init 55 = .ok (.invokespecial 30, 3) := by decide +kernel
theorem dX7_init_58 : decode cX7_init 58 = .ok (.aastore, 1) := by decide +kernel
theorem dX7_init_59 : decode cX7_init 59 = .ok (.iinc 1 1, 3) := by decide +kernel
theorem dX7_init_62 : decode cX7_init 62 = .ok (.goto (-21), 3) := by decide +kernel
theorem dX7_init_65 : decode cX7_init 65 = .ok (.return_, 1) := by decide +kernel
theorem dX7_fits_0 : decode cX7_fits 0 = .ok (.iload_n 2, 1) := by decide +kernel
theorem dX7_fits_1 : decode cX7_fits 1 = .ok (.ifCond .lt 26, 3) := by decide +kernel
theorem dX7_fits_4 : decode cX7_fits 4 = .ok (.iload_n 2, 1) := by decide +kernel
theorem dX7_fits_5 : decode cX7_fits 5 = .ok (.iload_n 1, 1) := by decide +kernel
theorem dX7_fits_6 : decode cX7_fits 6 = .ok (.aload_n 0, 1) := by decide +kernel
theorem dX7_fits_7 : decode cX7_fits 7 = .ok (.getfield 31, 3) := by decide +kernel
theorem dX7_fits_10 : decode cX7_fits 10 = .ok (.if_icmp .ge 9, 3) := by decide +kernel
theorem dX7_fits_13 : decode cX7_fits 13 = .ok (.sipush 999, 3) := by decide +kernel
theorem dX7_fits_16 : decode cX7_fits 16 = .ok (.goto 4, 3) := by decide +kernel
theorem dX7_fits_19 : decode cX7_fits 19 = .ok (.iconst 0, 1) := by decide +kernel
theorem dX7_fits_20 : decode cX7_fits 20 = .ok (.if_icmp .gt 7, 3) := by decide +kernel
theorem dX7_fits_23 : decode cX7_fits 23 = .ok (.iconst 1, 1) := by decide +kernel
theorem dX7_fits_24 : decode cX7_fits 24 = .ok (.goto 4, 3) := by decide +kernel
theorem dX7_fits_27 : decode cX7_fits 27 = .ok (.iconst 0, 1) := by decide +kernel
theorem dX7_fits_28 : decode cX7_fits 28 = .ok (.ireturn, 1) := by decide +kernel
theorem dX7_put_0 : decode cX7_put 0 = .ok (.aload_n 0, 1) := by decide +kernel
theorem dX7_put_1 : decode cX7_put 1 = .ok (.getfield 35, 3) := by decide +kernel
theorem dX7_put_4 : decode cX7_put 4 = .ok (.istore 4, 2) := by decide +kernel
theorem dX7_put_6 : decode cX7_put 6 = .ok (.aload_n 0, 1) := by decide +kernel
theorem dX7_put_7 : decode cX7_put 7 = .ok (.getfield 19, 3) := by decide +kernel
theorem dX7_put_10 : decode cX7_put 10 = .ok (.iload 4, 2) := by decide +kernel
theorem dX7_put_12 : decode cX7_put 12 = .ok (.aaload, 1) := by decide +kernel
theorem dX7_put_13 : decode cX7_put 13 = .ok (.iconst 0, 1) := by decide +kernel
theorem dX7_put_14 : decode cX7_put 14 = .ok (.iload_n 1, 1) := by decide +kernel
theorem dX7_put_15 : decode cX7_put 15 = .ok (.iastore, 1) := by decide +kernel
theorem dX7_put_16 : decode cX7_put 16 = .ok (.aload_n 0, 1) := by decide +kernel
theorem dX7_put_17 : decode cX7_put 17 = .ok (.getfield 19, 3) := by decide +kernel
theorem dX7_put_20 : decode cX7_put 20 = .ok (.iload 4, 2) := by decide +kernel
theorem dX7_put_22 : decode cX7_put 22 = .ok (.aaload, 1) := by decide +kernel
theorem dX7_put_23 : decode cX7_put 23 = .ok (.iconst 1, 1) := by decide +kernel
theorem dX7_put_24 : decode cX7_put 24 = .ok (.iload_n 2, 1) := by decide +kernel
theorem dX7_put_25 : decode cX7_put 25 = .ok (.iastore, 1) := by decide +kernel
theorem dX7_put_26 : decode cX7_put 26 = .ok (.aload_n 0, 1) := by decide +kernel
theorem dX7_put_27 : decode cX7_put 27 = .ok (.getfield 19, 3) := by decide +kernel
theorem dX7_put_30 : decode cX7_put 30 = .ok (.iload 4, 2) := by decide +kernel
theorem dX7_put_32 : decode cX7_put 32 = .ok (.aaload, 1) := by decide +kernel
theorem dX7_put_33 : decode cX7_put 33 = .ok (.iconst 2, 1) := by decide +kernel
theorem dX7_put_34 : decode cX7_put 34 = .ok (.iload_n 3, 1) := by decide +kernel
theorem dX7_put_35 : decode cX7_put 35 = .ok (.iastore, 1) := by decide +kernel
theorem dX7_put_36 : decode cX7_put 36 = .ok (.aload_n 0, 1) := by decide +kernel
theorem dX7_put_37 : decode cX7_put 37 = .ok (.getfield 22, 3) := by decide +kernel
theorem dX7_put_40 : decode cX7_put 40 = .ok (.iload 4, 2) := by decide +kernel
theorem dX7_put_42 : decode cX7_put 42 = .ok (.iconst 1, 1) := by decide +kernel
theorem dX7_put_43 : decode cX7_put 43 = .ok (.bastore, 1) := by decide +kernel
theorem dX7_put_44 : decode cX7_put 44 = .ok (.aload_n 0, 1) := by decide +kernel
theorem dX7_put_45 : decode cX7_put 45 = .ok (.dup, 1) := by decide +kernel
theorem dX7_put_46 : decode cX7_put 46 = .ok (.getfield 35, 3) := by decide +kernel
theorem dX7_put_49 : decode cX7_put 49 = .ok (.iconst 1, 1) := by decide +kernel
theorem dX7_put_50 : decode cX7_put 50 = .ok (.iadd, 1) := by decide +kernel
theorem dX7_put_51 : decode cX7_put 51 = .ok (.putfield 35, 3) := by decide +kernel
theorem dX7_put_54 : decode cX7_put 54 = .ok (.aload_n 0, 1) := by decide +kernel
theorem dX7_put_55 : decode cX7_put 55 = .ok (.dup, 1) := by decide +kernel
theorem dX7_put_56 : decode cX7_put 56 = .ok (.getfield 38, 3) := by decide +kernel
theorem dX7_put_59 : decode cX7_put 59 = .ok (.iconst 1, 1) := by decide +kernel
theorem dX7_put_60 : decode cX7_put 60 = .ok (.iadd, 1) := by decide +kernel
theorem dX7_put_61 : decode cX7_put 61 = .ok (.putfield 38, 3) := by decide +kernel
theorem dX7_put_64 : decode cX7_put 64 = .ok (.iload 4, 2) := by decide +kernel
theorem dX7_put_66 : decode cX7_put 66 = .ok (.ireturn, 1) := by decide +kernel
theorem dX7_takeSample_0 : decode cX7_takeSample 0 = .ok (.iconst 0, 1) := by decide +kernel
theorem dX7_takeSample_1 : decode cX7_takeSample 1 = .ok (.istore_n 2, 1) := by decide +kernel
theorem dX7_takeSample_2 : decode cX7_takeSample 2 = .ok (.iconst 0, 1) := by decide +kernel
theorem dX7_takeSample_3 : decode cX7_takeSample 3 = .ok (.istore_n 3, 1) := by decide +kernel
theorem dX7_takeSample_4 : decode cX7_takeSample 4 = .ok (.iconst 0, 1) := by decide +kernel
theorem dX7_takeSample_5 : decode cX7_takeSample 5 = .ok (.istore 4, 2) := by decide +kernel
theorem dX7_takeSample_7 : decode cX7_takeSample 7 = .ok (.iconst 0, 1) := by decide +kernel
theorem dX7_takeSample_8 : decode cX7_takeSample 8 = .ok (.istore 5, 2) := by decide +kernel
theorem dX7_takeSample_10 : decode cX7_takeSample 10 = .ok (.iload 5, 2) := by decide +kernel
theorem dX7_takeSample_12 : decode cX7_takeSample 12 = .ok (.aload_n 0, 1) := by decide +kernel
theorem dX7_takeSample_13 : decode cX7_takeSample 13 = .ok (.getfield 35, 3) := by decide +kernel
theorem dX7_takeSample_16 : decode cX7_takeSample 16 = .ok (.if_icmp .ge 48, 3) := by decide +kernel
theorem dX7_takeSample_19 : decode cX7_takeSample 19 = .ok (.aload_n 0, 1) := by decide +kernel
theorem dX7_takeSample_20 : decode cX7_takeSample 20 = .ok (.getfield 22, 3) := by decide +kernel
theorem dX7_takeSample_23 : decode cX7_takeSample 23 = .ok (.iload 5, 2) := by decide +kernel
theorem dX7_takeSample_25 : decode cX7_takeSample 25 = .ok (.baload, 1) := by decide +kernel
theorem dX7_takeSample_26 : decode cX7_takeSample 26 = .ok (.ifCond .ne 6, 3) := by decide +kernel
theorem dX7_takeSample_29 : decode cX7_takeSample 29 = .ok (.goto 29, 3) := by decide +kernel
theorem dX7_takeSample_32 : decode cX7_takeSample 32 = .ok (.iload_n 3, 1) := by decide +kernel
theorem dX7_takeSample_33 : decode cX7_takeSample 33 = .ok (.iload 4, 2) := by decide +kernel
theorem dX7_takeSample_35 : decode cX7_takeSample 35 = .ok (.if_icmp .ne 20, 3) := by decide +kernel
theorem dX7_takeSample_38 : decode cX7_takeSample 38 = .ok (.aload_n 0, 1) := by decide +kernel
theorem dX7_takeSample_39 : decode cX7_takeSample 39 = .ok (.getfield 26, 3) := by decide +kernel
theorem dX7_takeSample_42 : decode cX7_takeSample 42 = .ok (.iload_n 2, 1) := by decide +kernel
theorem dX7_takeSample_43 : decode cX7_takeSample 43 = .ok (.iload 5, 2) := by decide +kernel
theorem dX7_takeSample_45 : decode cX7_takeSample 45 = .ok (.iastore, 1) := by decide +kernel
theorem dX7_takeSample_46 : decode cX7_takeSample 46 = .ok (.iinc 2 1, 3) := by decide +kernel
theorem dX7_takeSample_49 : decode cX7_takeSample 49 = .ok (.iload 4, 2) := by decide +kernel
theorem dX7_takeSample_51 : decode cX7_takeSample 51 = .ok (.iload_n 1, 1) := by decide +kernel
theorem dX7_takeSample_52 : decode cX7_takeSample 52 = .ok (.iadd, 1) := by decide +kernel
theorem dX7_takeSample_53 : decode cX7_takeSample 53 = .ok (.istore 4, 2) := by decide +kernel
theorem dX7_takeSample_55 : decode cX7_takeSample 55 = .ok (.iinc 3 1, 3) := by decide +kernel
theorem dX7_takeSample_58 : decode cX7_takeSample 58 = .ok (.iinc 5 1, 3) := by decide +kernel
theorem dX7_takeSample_61 : decode cX7_takeSample 61 = .ok (.goto (-51), 3) := by decide +kernel
theorem dX7_takeSample_64 : decode cX7_takeSample 64 = .ok (.iload_n 2, 1) := by decide +kernel
theorem dX7_takeSample_65 : decode cX7_takeSample 65 = .ok (.ireturn, 1) := by decide +kernel
theorem dX7_renewCounts_0 : decode cX7_renewCounts 0 = .ok (.aload_n 0, 1) := by decide +kernel
theorem dX7_renewCounts_1 : decode cX7_renewCounts 1 = .ok (.iload_n 1, 1) := by decide +kernel
theorem dX7_renewCounts_2 : decode cX7_renewCounts 2 = .ok (.invokevirtual 41, 3) := by decide +kernel
theorem dX7_renewCounts_5 : decode cX7_renewCounts 5 = .ok (.istore_n 2, 1) := by decide +kernel
theorem dX7_renewCounts_6 : decode cX7_renewCounts 6 = .ok (.aload_n 0, 1) := by decide +kernel
theorem dX7_renewCounts_7 : decode cX7_renewCounts 7 = .ok (.aload_n 0, 1) := by decide +kernel
theorem dX7_renewCounts_8 : decode cX7_renewCounts 8 = .ok (.getfield 38, 3) := by decide +kernel
theorem dX7_renewCounts_11 : decode cX7_renewCounts 11 = .ok (.putfield 45, 3) := by decide +kernel
theorem dX7_renewCounts_14 : decode cX7_renewCounts 14 = .ok (.iconst 0, 1) := by decide +kernel
theorem dX7_renewCounts_15 : decode cX7_renewCounts 15 = .ok (.istore_n 3, 1) := by decide +kernel
theorem dX7_renewCounts_16 : decode cX7_renewCounts 16 = .ok (.iload_n 3, 1) := by decide +kernel
theorem dX7_renewCounts_17 : decode cX7_renewCounts 17 = .ok (.aload_n 0, 1) := by decide +kernel
theorem dX7_renewCounts_18 : decode cX7_renewCounts 18 = .ok (.getfield 31, 3) := by decide +kernel
theorem dX7_renewCounts_21 : decode cX7_renewCounts 21 = .ok (.if_icmp .ge 16, 3) := by decide +kernel
theorem dX7_renewCounts_24 : decode cX7_renewCounts 24 = .ok (.aload_n 0, 1) := by decide +kernel
theorem dX7_renewCounts_25 : decode cX7_renewCounts 25 = .ok (.iload_n 3, 1) := by decide +kernel
theorem dX7_renewCounts_26 : decode cX7_renewCounts 26 = .ok (.iload_n 2, 1) := by decide +kernel
theorem dX7_renewCounts_27 : decode cX7_renewCounts 27 = .ok (.iload_n 1, 1) := by decide +kernel
theorem dX7_renewCounts_28 : decode cX7_renewCounts 28 = .ok (.invokevirtual 48, 3) := by decide +kernel
theorem dX7_renewCounts_31 : decode cX7_renewCounts 31 = .ok (.iinc 3 1, 3) := by decide +kernel
theorem dX7_renewCounts_34 : decode cX7_renewCounts 34 = .ok (.goto (-18), 3) := by decide +kernel
theorem dX7_renewCounts_37 : decode cX7_renewCounts 37 = .ok (.iload_n 2, 1) := by decide +kernel
theorem dX7_renewCounts_38 : decode cX7_renewCounts 38 = .ok (.ireturn, 1) := by decide +kernel
theorem dX7_tellColumn_0 : decode cX7_tellColumn 0 = .ok (.iconst 0, 1) := by decide +kernel
theorem dX7_tellColumn_1 : decode cX7_tellColumn 1 = .ok (.istore 4, 2) := by decide +kernel
theorem dX7_tellColumn_3 : decode cX7_tellColumn 3 = .ok (.iconst 0, 1) := by decide +kernel
theorem dX7_tellColumn_4 : decode cX7_tellColumn 4 = .ok (.istore 5, 2) := by decide +kernel
theorem dX7_tellColumn_6 : decode cX7_tellColumn 6 = .ok (.iconst 0, 1) := by decide +kernel
theorem dX7_tellColumn_7 : decode cX7_tellColumn 7 = .ok (.istore 6, 2) := by decide +kernel
theorem dX7_tellColumn_9 : decode cX7_tellColumn 9 = .ok (.iconst 0, 1) := by decide +kernel
theorem dX7_tellColumn_10 : decode cX7_tellColumn 10 = .ok (.istore 7, 2) := by decide +kernel
theorem dX7_tellColumn_12 : decode cX7_tellColumn 12 = .ok (.iload 7, 2) := by decide +kernel
theorem dX7_tellColumn_14 : decode cX7_tellColumn 14 = .ok (.iload_n 2, 1) := by decide +kernel
theorem dX7_tellColumn_15 : decode cX7_tellColumn 15 = .ok (.if_icmp .ge 70, 3) := by decide +kernel
theorem dX7_tellColumn_18 : decode cX7_tellColumn 18 = .ok (.aload_n 0, 1) := by decide +kernel
theorem dX7_tellColumn_19 : decode cX7_tellColumn 19 = .ok (.getfield 19, 3) := by decide +kernel
theorem dX7_tellColumn_22 : decode cX7_tellColumn 22 = .ok (.aload_n 0, 1) := by decide +kernel
theorem dX7_tellColumn_23 : decode cX7_tellColumn 23 = .ok (.getfield 26, 3) := by decide +kernel
theorem dX7_tellColumn_26 : decode cX7_tellColumn 26 = .ok (.iload 7, 2) := by decide +kernel
theorem dX7_tellColumn_28 : decode cX7_tellColumn 28 = .ok (.iaload, 1) := by decide +kernel
theorem dX7_tellColumn_29 : decode cX7_tellColumn 29 = .ok (.aaload, 1) := by decide +kernel
theorem dX7_tellColumn_30 : decode cX7_tellColumn 30 = .ok (.iload_n 1, 1) := by decide +kernel
theorem dX7_tellColumn_31 : decode cX7_tellColumn 31 = .ok (.iaload, 1) := by decide +kernel
theorem dX7_tellColumn_32 : decode cX7_tellColumn 32 = .ok (.istore 8, 2) := by decide +kernel
theorem dX7_tellColumn_34 : decode cX7_tellColumn 34 = .ok (.iload 7, 2) := by decide +kernel
theorem dX7_tellColumn_36 : decode cX7_tellColumn 36 = .ok (.ifCond .eq 10, 3) := by decide +kernel
theorem dX7_tellColumn_39 : decode cX7_tellColumn 39 = .ok (.iload 8, 2) := by decide +kernel
theorem dX7_tellColumn_41 : decode cX7_tellColumn 41 = .ok (.iload 5, 2) := by decide +kernel
theorem dX7_tellColumn_43 : decode cX7_tellColumn 43 = .ok (.if_icmp .ge 7, 3) := by decide +kernel
theorem dX7_tellColumn_46 : decode cX7_tellColumn 46 = .ok (.iload 8, 2) := by decide +kernel
theorem dX7_tellColumn_48 : decode cX7_tellColumn 48 = .ok (.istore 5, 2) := by decide +kernel
theorem dX7_tellColumn_50 : decode cX7_tellColumn 50 = .ok (.iload 7, 2) := by decide +kernel
theorem dX7_tellColumn_52 : decode cX7_tellColumn 52 = .ok (.ifCond .eq 10, 3) := by decide +kernel
theorem dX7_tellColumn_55 : decode cX7_tellColumn 55 = .ok (.iload 8, 2) := by decide +kernel
theorem dX7_tellColumn_57 : decode cX7_tellColumn 57 = .ok (.iload 6, 2) := by decide +kernel
theorem dX7_tellColumn_59 : decode cX7_tellColumn 59 = .ok (.if_icmp .le 7, 3) := by decide +kernel
theorem dX7_tellColumn_62 : decode cX7_tellColumn 62 = .ok (.iload 8, 2) := by decide +kernel
theorem dX7_tellColumn_64 : decode cX7_tellColumn 64 = .ok (.istore 6, 2) := by decide +kernel
theorem dX7_tellColumn_66 : decode cX7_tellColumn 66 = .ok (.aload_n 0, 1) := by decide +kernel
theorem dX7_tellColumn_67 : decode cX7_tellColumn 67 = .ok (.iload_n 1, 1) := by decide +kernel
theorem dX7_tellColumn_68 : decode cX7_tellColumn 68 = .ok (.iload 7, 2) := by decide +kernel
theorem dX7_tellColumn_70 : decode cX7_tellColumn 70 = .ok (.invokevirtual 52, 3) := by decide +kernel
theorem dX7_tellColumn_73 : decode cX7_tellColumn 73 = .ok (.ifCond .eq 6, 3) := by decide +kernel
theorem dX7_tellColumn_76 : decode cX7_tellColumn 76 = .ok (.iinc 4 1, 3) := by decide +kernel
theorem dX7_tellColumn_79 : decode cX7_tellColumn 79 = .ok (.iinc 7 1, 3) := by decide +kernel
theorem dX7_tellColumn_82 : decode cX7_tellColumn 82 = .ok (.goto (-70), 3) := by decide +kernel
theorem dX7_tellColumn_85 : decode cX7_tellColumn 85 = .ok (.aload_n 0, 1) := by decide +kernel
theorem dX7_tellColumn_86 : decode cX7_tellColumn 86 = .ok (.getfield 11, 3) := by decide +kernel
theorem dX7_tellColumn_89 : decode cX7_tellColumn 89 = .ok (.iload_n 1, 1) := by decide +kernel
theorem dX7_tellColumn_90 : decode cX7_tellColumn 90 = .ok (.aaload, 1) := by decide +kernel
theorem dX7_tellColumn_91 : decode cX7_tellColumn 91 = .ok (.iload 4, 2) := by decide +kernel
theorem dX7_tellColumn_93 : decode cX7_tellColumn 93 = .ok (.iload_n 3, 1) := by decide +kernel
theorem dX7_tellColumn_94 : decode cX7_tellColumn 94 = .ok (.imul, 1) := by decide +kernel
theorem dX7_tellColumn_95 : decode cX7_tellColumn 95 = .ok (.aload_n 0, 1) := by decide +kernel
theorem dX7_tellColumn_96 : decode cX7_tellColumn 96 = .ok (.getfield 38, 3) := by decide +kernel
theorem dX7_tellColumn_99 : decode cX7_tellColumn 99 = .ok (.invokestatic 56, 3) := by decide +kernel
theorem dX7_tellColumn_102 : decode cX7_tellColumn 102 = .ok (.putfield 62, 3) := by decide +kernel
theorem dX7_tellColumn_105 : decode cX7_tellColumn 105 = .ok (.aload_n 0, 1) := by decide +kernel
theorem dX7_tellColumn_106 : decode cX7_tellColumn 106 = .ok (.getfield 11, 3) := by decide +kernel
theorem dX7_tellColumn_109 : decode cX7_tellColumn 109 = .ok (.iload_n 1, 1) := by decide +kernel
theorem dX7_tellColumn_110 : decode cX7_tellColumn 110 = .ok (.aaload, 1) := by decide +kernel
theorem dX7_tellColumn_111 : decode cX7_tellColumn 111 = .ok (.iload 5, 2) := by decide +kernel
theorem dX7_tellColumn_113 : decode cX7_tellColumn 113 = .ok (.putfield 65, 3) := by decide +kernel
theorem dX7_tellColumn_116 : decode cX7_tellColumn 116 = .ok (.aload_n 0, 1) := by decide +kernel
theorem dX7_tellColumn_117 : decode cX7_tellColumn 117 = .ok (.getfield 11, 3) := by decide +kernel
theorem dX7_tellColumn_120 : decode cX7_tellColumn 120 = .ok (.iload_n 1, 1) := by decide +kernel
theorem dX7_tellColumn_121 : decode cX7_tellColumn 121 = .ok (.aaload, 1) := by decide +kernel
theorem dX7_tellColumn_122 : decode cX7_tellColumn 122 = .ok (.iload 6, 2) := by decide +kernel
theorem dX7_tellColumn_124 : decode cX7_tellColumn 124 = .ok (.putfield 68, 3) := by decide +kernel
theorem dX7_tellColumn_127 : decode cX7_tellColumn 127 = .ok (.return_, 1) := by decide +kernel
theorem dX7_isNewInSample_0 : decode cX7_isNewInSample 0 = .ok (.iconst 0, 1) := by decide +kernel
theorem dX7_isNewInSample_1 : decode cX7_isNewInSample 1 = .ok (.istore_n 3, 1) := by decide +kernel
theorem dX7_isNewInSample_2 : decode cX7_isNewInSample 2 = .ok (.iload_n 3, 1) := by decide +kernel
theorem dX7_isNewInSample_3 : decode cX7_isNewInSample 3 = .ok (.iload_n 2, 1) := by decide +kernel
theorem dX7_isNewInSample_4 : decode cX7_isNewInSample 4 = .ok (.if_icmp .ge 40, 3) := by decide +kernel
theorem dX7_isNewInSample_7 : decode cX7_isNewInSample 7 = .ok (.aload_n 0, 1) := by decide +kernel
theorem dX7_isNewInSample_8 : decode cX7_isNewInSample 8 = .ok (.getfield 19, 3) := by decide +kernel
theorem dX7_isNewInSample_11 : decode cX7_isNewInSample 11 = .ok (.aload_n 0, 1) := by decide +kernel
theorem dX7_isNewInSample_12 : decode cX7_isNewInSample 12 = .ok (.getfield 26, 3) := by decide +kernel
theorem dX7_isNewInSample_15 : decode cX7_isNewInSample 15 = .ok (.iload_n 3, 1) := by decide +kernel
theorem dX7_isNewInSample_16 : decode cX7_isNewInSample 16 = .ok (.iaload, 1) := by decide +kernel
theorem dX7_isNewInSample_17 : decode cX7_isNewInSample 17 = .ok (.aaload, 1) := by decide +kernel
theorem dX7_isNewInSample_18 : decode cX7_isNewInSample 18 = .ok (.iload_n 1, 1) := by decide +kernel
theorem dX7_isNewInSample_19 : decode cX7_isNewInSample 19 = .ok (.iaload, 1) := by decide +kernel
theorem dX7_isNewInSample_20 : decode cX7_isNewInSample 20 = .ok (.aload_n 0, 1) := by decide +kernel
theorem dX7_isNewInSample_21 : decode cX7_isNewInSample 21 = .ok (.getfield 19, 3) := by decide +kernel
theorem dX7_isNewInSample_24 : decode cX7_isNewInSample 24 = .ok (.aload_n 0, 1) := by decide +kernel
theorem dX7_isNewInSample_25 : decode cX7_isNewInSample 25 = .ok (.getfield 26, 3) := by decide +kernel
theorem dX7_isNewInSample_28 : decode cX7_isNewInSample 28 = .ok (.iload_n 2, 1) := by decide +kernel
theorem dX7_isNewInSample_29 : decode cX7_isNewInSample 29 = .ok (.iaload, 1) := by decide +kernel
theorem dX7_isNewInSample_30 : decode cX7_isNewInSample 30 = .ok (.aaload, 1) := by decide +kernel
theorem dX7_isNewInSample_31 : decode cX7_isNewInSample 31 = .ok (.iload_n 1, 1) := by decide +kernel
theorem dX7_isNewInSample_32 : decode cX7_isNewInSample 32 = .ok (.iaload, 1) := by decide +kernel
theorem dX7_isNewInSample_33 : decode cX7_isNewInSample 33 = .ok (.if_icmp .ne 5, 3) := by decide +kernel
theorem dX7_isNewInSample_36 : decode cX7_isNewInSample 36 = .ok (.iconst 0, 1) := by decide +kernel
theorem dX7_isNewInSample_37 : decode cX7_isNewInSample 37 = .ok (.ireturn, 1) := by decide +kernel
theorem dX7_isNewInSample_38 : decode cX7_isNewInSample 38 = .ok (.iinc 3 1, 3) := by decide +kernel
theorem dX7_isNewInSample_41 : decode cX7_isNewInSample 41 = .ok (.goto (-39), 3) := by decide +kernel
theorem dX7_isNewInSample_44 : decode cX7_isNewInSample 44 = .ok (.iconst 1, 1) := by decide +kernel
theorem dX7_isNewInSample_45 : decode cX7_isNewInSample 45 = .ok (.ireturn, 1) := by decide +kernel
theorem dX8_init_0 : decode cX8_init 0 = .ok (.aload_n 0, 1) := by decide +kernel
theorem dX8_init_1 : decode cX8_init 1 = .ok (.invokespecial 3, 3) := by decide +kernel
theorem dX8_init_4 : decode cX8_init 4 = .ok (.aload_n 0, 1) := by decide +kernel
theorem dX8_init_5 : decode cX8_init 5 = .ok (.new 9, 3) := by decide +kernel
theorem dX8_init_8 : decode cX8_init 8 = .ok (.dup, 1) := by decide +kernel
theorem dX8_init_9 : decode cX8_init 9 = .ok (.invokespecial 11, 3) := by decide +kernel
theorem dX8_init_12 : decode cX8_init 12 = .ok (.putfield 12, 3) := by decide +kernel
theorem dX8_init_15 : decode cX8_init 15 = .ok (.invokestatic 16, 3) := by decide +kernel
theorem dX8_init_18 : decode cX8_init 18 = .ok (.astore_n 1, 1) := by decide +kernel
theorem dX8_init_19 : decode cX8_init 19 = .ok (.invokestatic 20, 3) := by decide +kernel
theorem dX8_init_22 : decode cX8_init 22 = .ok (.astore_n 2, 1) := by decide +kernel
theorem dX8_init_23 : decode cX8_init 23 = .ok (.new 24, 3) := by decide +kernel
theorem dX8_init_26 : decode cX8_init 26 = .ok (.dup, 1) := by decide +kernel
theorem dX8_init_27 : decode cX8_init 27 = .ok (.aload_n 1, 1) := by decide +kernel
theorem dX8_init_28 : decode cX8_init 28 = .ok (.invokespecial 26, 3) := by decide +kernel
theorem dX8_init_31 : decode cX8_init 31 = .ok (.astore_n 3, 1) := by decide +kernel
theorem dX8_init_32 : decode cX8_init 32 = .ok (.new 29, 3) := by decide +kernel
theorem dX8_init_35 : decode cX8_init 35 = .ok (.dup, 1) := by decide +kernel
theorem dX8_init_36 : decode cX8_init 36 = .ok (.aload_n 1, 1) := by decide +kernel
theorem dX8_init_37 : decode cX8_init 37 = .ok (.invokespecial 31, 3) := by decide +kernel
theorem dX8_init_40 : decode cX8_init 40 = .ok (.astore 4, 2) := by decide +kernel
theorem dX8_init_42 : decode cX8_init 42 = .ok (.aload_n 0, 1) := by decide +kernel
theorem dX8_init_43 : decode cX8_init 43 = .ok (.aload_n 1, 1) := by decide +kernel
theorem dX8_init_44 : decode cX8_init 44 = .ok (.putfield 32, 3) := by decide +kernel
theorem dX8_init_47 : decode cX8_init 47 = .ok (.aload_n 0, 1) := by decide +kernel
theorem dX8_init_48 : decode cX8_init 48 = .ok (.aload_n 2, 1) := by decide +kernel
theorem dX8_init_49 : decode cX8_init 49 = .ok (.putfield 36, 3) := by decide +kernel
theorem dX8_init_52 : decode cX8_init 52 = .ok (.aload_n 0, 1) := by decide +kernel
theorem dX8_init_53 : decode cX8_init 53 = .ok (.aload_n 3, 1) := by decide +kernel
theorem dX8_init_54 : decode cX8_init 54 = .ok (.putfield 40, 3) := by decide +kernel
theorem dX8_init_57 : decode cX8_init 57 = .ok (.aload_n 0, 1) := by decide +kernel
theorem dX8_init_58 : decode cX8_init 58 = .ok (.aload 4, 2) := by decide +kernel
theorem dX8_init_60 : decode cX8_init 60 = .ok (.putfield 44, 3) := by decide +kernel
theorem dX8_init_63 : decode cX8_init 63 = .ok (.aload_n 0, 1) := by decide +kernel
theorem dX8_init_64 : decode cX8_init 64 = .ok (.new 48, 3) := by decide +kernel
theorem dX8_init_67 : decode cX8_init 67 = .ok (.dup, 1) := by decide +kernel
theorem dX8_init_68 : decode cX8_init 68 = .ok (.aload_n 1, 1) := by decide +kernel
theorem dX8_init_69 : decode cX8_init 69 = .ok (.aload_n 2, 1) := by decide +kernel
theorem dX8_init_70 : decode cX8_init 70 = .ok (.aload_n 3, 1) := by decide +kernel
theorem dX8_init_71 : decode cX8_init 71 = .ok (.aload 4, 2) := by decide +kernel
theorem dX8_init_73 : decode cX8_init 73 = .ok (.invokespecial 50, 3) := by decide +kernel
theorem dX8_init_76 : decode cX8_init 76 = .ok (.putfield 53, 3) := by decide +kernel
theorem dX8_init_79 : decode cX8_init 79 = .ok (.return_, 1) := by decide +kernel
theorem dX8_makeTables_0 : decode cX8_makeTables 0 = .ok (.iconst 4, 1) := by decide +kernel
theorem dX8_makeTables_1 : decode cX8_makeTables 1 = .ok (.anewarray 57, 3) := by decide +kernel
theorem dX8_makeTables_4 : decode cX8_makeTables 4 = .ok (.astore_n 0, 1) := by decide +kernel
theorem dX8_makeTables_5 : decode cX8_makeTables 5 = .ok (.iconst 0, 1) := by decide +kernel
theorem dX8_makeTables_6 : decode cX8_makeTables 6 = .ok (.istore_n 1, 1) := by decide +kernel
theorem dX8_makeTables_7 : decode cX8_makeTables 7 = .ok (.iload_n 1, 1) := by decide +kernel
theorem dX8_makeTables_8 : decode cX8_makeTables 8 = .ok (.iconst 4, 1) := by decide +kernel
theorem dX8_makeTables_9 : decode cX8_makeTables 9 = .ok (.if_icmp .ge 19, 3) := by decide +kernel
theorem dX8_makeTables_12 : decode cX8_makeTables 12 = .ok (.aload_n 0, 1) := by decide +kernel
theorem dX8_makeTables_13 : decode cX8_makeTables 13 = .ok (.iload_n 1, 1) := by decide +kernel
theorem dX8_makeTables_14 : decode cX8_makeTables 14 = .ok (.new 57, 3) := by decide +kernel
theorem dX8_makeTables_17 : decode cX8_makeTables 17 = .ok (.dup, 1) := by decide +kernel
theorem dX8_makeTables_18 : decode cX8_makeTables 18 = .ok (.invokespecial 59, 3) := by decide +kernel
theorem dX8_makeTables_21 : decode cX8_makeTables 21 = .ok (.aastore, 1) := by decide +kernel
theorem dX8_makeTables_22 : decode cX8_makeTables 22 = .ok (.iinc 1 1, 3) := by decide +kernel
theorem dX8_makeTables_25 : decode cX8_makeTables 25 = .ok (.goto (-18), 3) := by decide +kernel
theorem dX8_makeTables_28 : decode cX8_makeTables 28 = .ok (.aload_n 0, 1) := by decide +kernel
theorem dX8_makeTables_29 : decode cX8_makeTables 29 = .ok (.areturn, 1) := by decide +kernel
theorem dX8_makeReports_0 : decode cX8_makeReports 0 = .ok (.bipush 8, 2) := by decide +kernel
theorem dX8_makeReports_2 : decode cX8_makeReports 2 = .ok (.anewarray 60, 3) := by decide +kernel
theorem dX8_makeReports_5 : decode cX8_makeReports 5 = .ok (.astore_n 0, 1) := by decide +kernel
theorem dX8_makeReports_6 : decode cX8_makeReports 6 = .ok (.iconst 0, 1) := by decide +kernel
theorem dX8_makeReports_7 : decode cX8_makeReports 7 = .ok (.istore_n 1, 1) := by decide +kernel
theorem dX8_makeReports_8 : decode cX8_makeReports 8 = .ok (.iload_n 1, 1) := by decide +kernel
theorem dX8_makeReports_9 : decode cX8_makeReports 9 = .ok (.bipush 8, 2) := by decide +kernel
theorem dX8_makeReports_11 : decode cX8_makeReports 11 = .ok (.if_icmp .ge 19, 3) := by decide +kernel
theorem dX8_makeReports_14 : decode cX8_makeReports 14 = .ok (.aload_n 0, 1) := by decide +kernel
theorem dX8_makeReports_15 : decode cX8_makeReports 15 = .ok (.iload_n 1, 1) := by decide +kernel
theorem dX8_makeReports_16 : decode cX8_makeReports 16 = .ok (.new 60, 3) := by decide +kernel
theorem dX8_makeReports_19 : decode cX8_makeReports 19 = .ok (.dup, 1) := by decide +kernel
theorem dX8_makeReports_20 : decode cX8_makeReports 20 = .ok (.invokespecial 62, 3) := by decide +kernel
theorem dX8_makeReports_23 : decode cX8_makeReports 23 = .ok (.aastore, 1) := by decide +kernel
theorem dX8_makeReports_24 : decode cX8_makeReports 24 = .ok (.iinc 1 1, 3) := by decide +kernel
theorem dX8_makeReports_27 : decode cX8_makeReports 27 = .ok (.goto (-19), 3) := by decide +kernel
theorem dX8_makeReports_30 : decode cX8_makeReports 30 = .ok (.aload_n 0, 1) := by decide +kernel
theorem dX8_makeReports_31 : decode cX8_makeReports 31 = .ok (.areturn, 1) := by decide +kernel
theorem dX8_addTable_0 : decode cX8_addTable 0 = .ok (.iload_n 1, 1) := by decide +kernel
theorem dX8_addTable_1 : decode cX8_addTable 1 = .ok (.iconst 1, 1) := by decide +kernel
theorem dX8_addTable_2 : decode cX8_addTable 2 = .ok (.if_icmp .lt 8, 3) := by decide +kernel
theorem dX8_addTable_5 : decode cX8_addTable 5 = .ok (.iload_n 1, 1) := by decide +kernel
theorem dX8_addTable_6 : decode cX8_addTable 6 = .ok (.iconst 3, 1) := by decide +kernel
theorem dX8_addTable_7 : decode cX8_addTable 7 = .ok (.if_icmp .le 13, 3) := by decide +kernel
theorem dX8_addTable_10 : decode cX8_addTable 10 = .ok (.new 63, 3) := by decide +kernel
theorem dX8_addTable_13 : decode cX8_addTable 13 = .ok (.dup, 1) := by decide +kernel
theorem dX8_addTable_14 : decode cX8_addTable 14 = .ok (.ldc 65, 2) := by decide +kernel
theorem dX8_addTable_16 : decode cX8_addTable 16 = .ok (.invokespecial 67, 3) := by decide +kernel
theorem dX8_addTable_19 : decode cX8_addTable 19 = .ok (.athrow, 1) := by decide +kernel
theorem dX8_addTable_20 : decode cX8_addTable 20 = .ok (.aload_n 0, 1) := by decide +kernel
theorem dX8_addTable_21 : decode cX8_addTable 21 = .ok (.getfield 70, 3) := by decide +kernel
theorem dX8_addTable_24 : decode cX8_addTable 24 = .ok (.iconst 4, 1) := by decide +kernel
theorem dX8_addTable_25 : decode cX8_addTable 25 = .ok (.if_icmp .lt 13, 3) := by decide +kernel
theorem dX8_addTable_28 : decode cX8_addTable 28 = .ok (.new 74, 3) := by decide +kernel
theorem dX8_addTable_31 : decode cX8_addTable 31 = .ok (.dup, 1) := by decide +kernel
theorem dX8_addTable_32 : decode cX8_addTable 32 = .ok (.ldc 76, 2) := by decide +kernel
theorem dX8_addTable_34 : decode cX8_addTable 34 = .ok (.invokespecial 78, 3) := by decide +kernel
theorem dX8_addTable_37 : decode cX8_addTable 37 = .ok (.athrow, 1) := by decide +kernel
theorem dX8_addTable_38 : decode cX8_addTable 38 = .ok (.aload_n 0, 1) := by decide +kernel
theorem dX8_addTable_39 : decode cX8_addTable 39 = .ok (.getfield 32, 3) := by decide +kernel
theorem dX8_addTable_42 : decode cX8_addTable 42 = .ok (.aload_n 0, 1) := by decide +kernel
theorem dX8_addTable_43 : decode cX8_addTable 43 = .ok (.getfield 70, 3) := by decide +kernel
theorem dX8_addTable_46 : decode cX8_addTable 46 = .ok (.aaload, 1) := by decide +kernel
theorem dX8_addTable_47 : decode cX8_addTable 47 = .ok (.iload_n 1, 1) := by decide +kernel
theorem dX8_addTable_48 : decode cX8_addTable 48 = .ok (.putfield 79, 3) := by decide +kernel
theorem dX8_addTable_51 : decode cX8_addTable 51 = .ok (.aload_n 0, 1) := by decide +kernel
theorem dX8_addTable_52 : decode cX8_addTable 52 = .ok (.dup, 1) := by decide +kernel
theorem dX8_addTable_53 : decode cX8_addTable 53 = .ok (.getfield 70, 3) := by decide +kernel
theorem dX8_addTable_56 : decode cX8_addTable 56 = .ok (.iconst 1, 1) := by decide +kernel
theorem dX8_addTable_57 : decode cX8_addTable 57 = .ok (.iadd, 1) := by decide +kernel
theorem dX8_addTable_58 : decode cX8_addTable 58 = .ok (.putfield 70, 3) := by decide +kernel
theorem dX8_addTable_61 : decode cX8_addTable 61 = .ok (.aload_n 0, 1) := by decide +kernel
theorem dX8_addTable_62 : decode cX8_addTable 62 = .ok (.getfield 70, 3) := by decide +kernel
theorem dX8_addTable_65 : decode cX8_addTable 65 = .ok (.iconst 1, 1) := by decide +kernel
theorem dX8_addTable_66 : decode cX8_addTable 66 = .ok (.isub, 1) := by decide +kernel
theorem dX8_addTable_67 : decode cX8_addTable 67 = .ok (.ireturn, 1) := by decide +kernel
theorem dX8_insert_0 : decode cX8_insert 0 = .ok (.aload_n 0, 1) := by decide +kernel
theorem dX8_insert_1 : decode cX8_insert 1 = .ok (.iload_n 1, 1) := by decide +kernel
theorem dX8_insert_2 : decode cX8_insert 2 = .ok (.invokevirtual 82, 3) := by decide +kernel
theorem dX8_insert_5 : decode cX8_insert 5 = .ok (.astore 5, 2) := by decide +kernel
theorem dX8_insert_7 : decode cX8_insert 7 = .ok (.aload 5, 2) := by decide +kernel
theorem dX8_insert_9 : decode cX8_insert 9 = .ok (.iconst 0, 1) := by decide +kernel
theorem dX8_insert_10 : decode cX8_insert 10 = .ok (.iload_n 2, 1) := by decide +kernel
theorem dX8_insert_11 : decode cX8_insert 11 = .ok (.invokevirtual 86, 3) := by decide +kernel
theorem dX8_insert_14 : decode cX8_insert 14 = .ok (.ifCond .eq 24, 3) := by decide +kernel
theorem dX8_insert_17 : decode cX8_insert 17 = .ok (.aload 5, 2) := by decide +kernel
theorem dX8_insert_19 : decode cX8_insert 19 = .ok (.iconst 1, 1) := by decide +kernel
theorem dX8_insert_20 : decode cX8_insert 20 = .ok (.iload_n 3, 1) := by decide +kernel
theorem dX8_insert_21 : decode cX8_insert 21 = .ok (.invokevirtual 86, 3) := by decide +kernel
theorem dX8_insert_24 : decode cX8_insert 24 = .ok (.ifCond .eq 14, 3) := by decide +kernel
theorem dX8_insert_27 : decode cX8_insert 27 = .ok (.aload 5, 2) := by decide +kernel
theorem dX8_insert_29 : decode cX8_insert 29 = .ok (.iconst 2, 1) := by decide +kernel
theorem dX8_insert_30 : decode cX8_insert 30 = .ok (.iload 4, 2) := by decide +kernel
theorem dX8_insert_32 : decode cX8_insert 32 = .ok (.invokevirtual 86, 3) := by decide +kernel
theorem dX8_insert_35 : decode cX8_insert 35 = .ok (.ifCond .ne 13, 3) := by decide +kernel
theorem dX8_insert_38 : decode cX8_insert 38 = .ok (.new 63, 3) := by decide +kernel
theorem dX8_insert_41 : decode cX8_insert 41 = .ok (.dup, 1) := by decide +kernel
theorem dX8_insert_42 : decode cX8_insert 42 = .ok (.ldc 90, 2) := by decide +kernel
theorem dX8_insert_44 : decode cX8_insert 44 = .ok (.invokespecial 67, 3) := by decide +kernel
theorem dX8_insert_47 : decode cX8_insert 47 = .ok (.athrow, 1) := by decide +kernel
theorem dX8_insert_48 : decode cX8_insert 48 = .ok (.aload 5, 2) := by decide +kernel
theorem dX8_insert_50 : decode cX8_insert 50 = .ok (.getfield 92, 3) := by decide +kernel
theorem dX8_insert_53 : decode cX8_insert 53 = .ok (.bipush 40, 2) := by decide +kernel
theorem dX8_insert_55 : decode cX8_insert 55 = .ok (.if_icmp .lt 13, 3) := by decide +kernel
theorem dX8_insert_58 : decode cX8_insert 58 = .ok (.new 74, 3) := by decide +kernel
theorem dX8_insert_61 : decode cX8_insert 61 = .ok (.dup, 1) := by decide +kernel
theorem dX8_insert_62 : decode cX8_insert 62 = .ok (.ldc 95, 2) := by decide +kernel
theorem dX8_insert_64 : decode cX8_insert 64 = .ok (.invokespecial 78, 3) := by decide +kernel
theorem dX8_insert_67 : decode cX8_insert 67 = .ok (.athrow, 1) := by decide +kernel
theorem dX8_insert_68 : decode cX8_insert 68 = .ok (.aload 5, 2) := by decide +kernel
theorem dX8_insert_70 : decode cX8_insert 70 = .ok (.iload_n 2, 1) := by decide +kernel
theorem dX8_insert_71 : decode cX8_insert 71 = .ok (.iload_n 3, 1) := by decide +kernel
theorem dX8_insert_72 : decode cX8_insert 72 = .ok (.iload 4, 2) := by decide +kernel
theorem dX8_insert_74 : decode cX8_insert 74 = .ok (.invokevirtual 97, 3) := by decide +kernel
theorem dX8_insert_77 : decode cX8_insert 77 = .ok (.ireturn, 1) := by decide +kernel
theorem dX8_delete_0 : decode cX8_delete 0 = .ok (.aload_n 0, 1) := by decide +kernel
theorem dX8_delete_1 : decode cX8_delete 1 = .ok (.iload_n 1, 1) := by decide +kernel
theorem dX8_delete_2 : decode cX8_delete 2 = .ok (.invokevirtual 82, 3) := by decide +kernel
theorem dX8_delete_5 : decode cX8_delete 5 = .ok (.astore_n 3, 1) := by decide +kernel
theorem dX8_delete_6 : decode cX8_delete 6 = .ok (.aload_n 3, 1) := by decide +kernel
theorem dX8_delete_7 : decode cX8_delete 7 = .ok (.iload_n 2, 1) := by decide +kernel
theorem dX8_delete_8 : decode cX8_delete 8 = .ok (.invokestatic 101, 3) := by decide +kernel
theorem dX8_delete_11 : decode cX8_delete 11 = .ok (.aload_n 3, 1) := by decide +kernel
theorem dX8_delete_12 : decode cX8_delete 12 = .ok (.getfield 105, 3) := by decide +kernel
theorem dX8_delete_15 : decode cX8_delete 15 = .ok (.iload_n 2, 1) := by decide +kernel
theorem dX8_delete_16 : decode cX8_delete 16 = .ok (.iconst 0, 1) := by decide +kernel
theorem dX8_delete_17 : decode cX8_delete 17 = .ok (.bastore, 1) := by decide +kernel
theorem dX8_delete_18 : decode cX8_delete 18 = .ok (.aload_n 3, 1) := by decide +kernel
theorem dX8_delete_19 : decode cX8_delete 19 = .ok (.dup, 1) := by decide +kernel
theorem dX8_delete_20 : decode cX8_delete 20 = .ok (.getfield 109, 3) := by decide +kernel
theorem dX8_delete_23 : decode cX8_delete 23 = .ok (.iconst 1, 1) := by decide +kernel
theorem dX8_delete_24 : decode cX8_delete 24 = .ok (.isub, 1) := by decide +kernel
theorem dX8_delete_25 : decode cX8_delete 25 = .ok (.putfield 109, 3) := by decide +kernel
theorem dX8_delete_28 : decode cX8_delete 28 = .ok (.aload_n 3, 1) := by decide +kernel
theorem dX8_delete_29 : decode cX8_delete 29 = .ok (.getfield 109, 3) := by decide +kernel
theorem dX8_delete_32 : decode cX8_delete 32 = .ok (.ireturn, 1) := by decide +kernel
theorem dX8_setIndex_0 : decode cX8_setIndex 0 = .ok (.aload_n 0, 1) := by decide +kernel
theorem dX8_setIndex_1 : decode cX8_setIndex 1 = .ok (.iload_n 1, 1) := by decide +kernel
theorem dX8_setIndex_2 : decode cX8_setIndex 2 = .ok (.iload_n 2, 1) := by decide +kernel
theorem dX8_setIndex_3 : decode cX8_setIndex 3 = .ok (.invokevirtual 112, 3) := by decide +kernel
theorem dX8_setIndex_6 : decode cX8_setIndex 6 = .ok (.astore 4, 2) := by decide +kernel
theorem dX8_setIndex_8 : decode cX8_setIndex 8 = .ok (.aload 4, 2) := by decide +kernel
theorem dX8_setIndex_10 : decode cX8_setIndex 10 = .ok (.getfield 116, 3) := by decide +kernel
theorem dX8_setIndex_13 : decode cX8_setIndex 13 = .ok (.istore 5, 2) := by decide +kernel
theorem dX8_setIndex_15 : decode cX8_setIndex 15 = .ok (.aload 4, 2) := by decide +kernel
theorem dX8_setIndex_17 : decode cX8_setIndex 17 = .ok (.iload_n 3, 1) := by decide +kernel
theorem dX8_setIndex_18 : decode cX8_setIndex 18 = .ok (.putfield 116, 3) := by decide +kernel
theorem dX8_setIndex_21 : decode cX8_setIndex 21 = .ok (.iload 5, 2) := by decide +kernel
theorem dX8_setIndex_23 : decode cX8_setIndex 23 = .ok (.ireturn, 1) := by decide +kernel
theorem dX8_rows_0 : decode cX8_rows 0 = .ok (.aload_n 0, 1) := by decide +kernel
theorem dX8_rows_1 : decode cX8_rows 1 = .ok (.iload_n 1, 1) := by decide +kernel
theorem dX8_rows_2 : decode cX8_rows 2 = .ok (.invokevirtual 82, 3) := by decide +kernel
theorem dX8_rows_5 : decode cX8_rows 5 = .ok (.getfield 109, 3) := by decide +kernel
theorem dX8_rows_8 : decode cX8_rows 8 = .ok (.ireturn, 1) := by decide +kernel
theorem dX8_value_0 : decode cX8_value 0 = .ok (.aload_n 0, 1) := by decide +kernel
theorem dX8_value_1 : decode cX8_value 1 = .ok (.iload_n 1, 1) := by decide +kernel
theorem dX8_value_2 : decode cX8_value 2 = .ok (.invokevirtual 82, 3) := by decide +kernel
theorem dX8_value_5 : decode cX8_value 5 = .ok (.astore 4, 2) := by decide +kernel
theorem dX8_value_7 : decode cX8_value 7 = .ok (.aload 4, 2) := by decide +kernel
theorem dX8_value_9 : decode cX8_value 9 = .ok (.iload_n 2, 1) := by decide +kernel
theorem dX8_value_10 : decode cX8_value 10 = .ok (.invokestatic 101, 3) := by decide +kernel
theorem dX8_value_13 : decode cX8_value 13 = .ok (.aload 4, 2) := by decide +kernel
theorem dX8_value_15 : decode cX8_value 15 = .ok (.iload_n 3, 1) := by decide +kernel
theorem dX8_value_16 : decode cX8_value 16 = .ok (.invokestatic 122, 3) := by decide +kernel
theorem dX8_value_19 : decode cX8_value 19 = .ok (.aload 4, 2) := by decide +kernel
theorem dX8_value_21 : decode cX8_value 21 = .ok (.getfield 125, 3) := by decide +kernel
theorem dX8_value_24 : decode cX8_value 24 = .ok (.iload_n 2, 1) := by decide +kernel
theorem dX8_value_25 : decode cX8_value 25 = .ok (.aaload, 1) := by decide +kernel
theorem dX8_value_26 : decode cX8_value 26 = .ok (.iload_n 3, 1) := by decide +kernel
theorem dX8_value_27 : decode cX8_value 27 = .ok (.iaload, 1) := by decide +kernel
theorem dX8_value_28 : decode cX8_value 28 = .ok (.ireturn, 1) := by decide +kernel
theorem dX8_renew_0 : decode cX8_renew 0 = .ok (.aload_n 0, 1) := by decide +kernel
theorem dX8_renew_1 : decode cX8_renew 1 = .ok (.iload_n 1, 1) := by decide +kernel
theorem dX8_renew_2 : decode cX8_renew 2 = .ok (.invokevirtual 82, 3) := by decide +kernel
theorem dX8_renew_5 : decode cX8_renew 5 = .ok (.astore_n 3, 1) := by decide +kernel
theorem dX8_renew_6 : decode cX8_renew 6 = .ok (.iload_n 2, 1) := by decide +kernel
theorem dX8_renew_7 : decode cX8_renew 7 = .ok (.invokestatic 129, 3) := by decide +kernel
theorem dX8_renew_10 : decode cX8_renew 10 = .ok (.aload_n 3, 1) := by decide +kernel
theorem dX8_renew_11 : decode cX8_renew 11 = .ok (.iload_n 2, 1) := by decide +kernel
theorem dX8_renew_12 : decode cX8_renew 12 = .ok (.invokevirtual 133, 3) := by decide +kernel
theorem dX8_renew_15 : decode cX8_renew 15 = .ok (.ireturn, 1) := by decide +kernel
theorem dX8_setStep_0 : decode cX8_setStep 0 = .ok (.iload_n 1, 1) := by decide +kernel
theorem dX8_setStep_1 : decode cX8_setStep 1 = .ok (.invokestatic 129, 3) := by decide +kernel
theorem dX8_setStep_4 : decode cX8_setStep 4 = .ok (.aload_n 0, 1) := by decide +kernel
theorem dX8_setStep_5 : decode cX8_setStep 5 = .ok (.getfield 53, 3) := by decide +kernel
theorem dX8_setStep_8 : decode cX8_setStep 8 = .ok (.getfield 137, 3) := by decide +kernel
theorem dX8_setStep_11 : decode cX8_setStep 11 = .ok (.istore_n 2, 1) := by decide +kernel
theorem dX8_setStep_12 : decode cX8_setStep 12 = .ok (.aload_n 0, 1) := by decide +kernel
theorem dX8_setStep_13 : decode cX8_setStep 13 = .ok (.getfield 53, 3) := by decide +kernel
theorem dX8_setStep_16 : decode cX8_setStep 16 = .ok (.iload_n 1, 1) := by decide +kernel
theorem dX8_setStep_17 : decode cX8_setStep 17 = .ok (.putfield 137, 3) := by decide +kernel
theorem dX8_setStep_20 : decode cX8_setStep 20 = .ok (.iload_n 2, 1) := by decide +kernel
theorem dX8_setStep_21 : decode cX8_setStep 21 = .ok (.ireturn, 1) := by decide +kernel
theorem dX8_toldRows_0 : decode cX8_toldRows 0 = .ok (.aload_n 0, 1) := by decide +kernel
theorem dX8_toldRows_1 : decode cX8_toldRows 1 = .ok (.iload_n 1, 1) := by decide +kernel
theorem dX8_toldRows_2 : decode cX8_toldRows 2 = .ok (.invokevirtual 82, 3) := by decide +kernel
theorem dX8_toldRows_5 : decode cX8_toldRows 5 = .ok (.getfield 140, 3) := by decide +kernel
theorem dX8_toldRows_8 : decode cX8_toldRows 8 = .ok (.ireturn, 1) := by decide +kernel
theorem dX8_unlike_0 : decode cX8_unlike 0 = .ok (.aload_n 0, 1) := by decide +kernel
theorem dX8_unlike_1 : decode cX8_unlike 1 = .ok (.iload_n 1, 1) := by decide +kernel
theorem dX8_unlike_2 : decode cX8_unlike 2 = .ok (.iload_n 2, 1) := by decide +kernel
theorem dX8_unlike_3 : decode cX8_unlike 3 = .ok (.invokevirtual 112, 3) := by decide +kernel
theorem dX8_unlike_6 : decode cX8_unlike 6 = .ok (.getfield 143, 3) := by decide +kernel
theorem dX8_unlike_9 : decode cX8_unlike 9 = .ok (.ireturn, 1) := by decide +kernel
theorem dX8_least_0 : decode cX8_least 0 = .ok (.aload_n 0, 1) := by decide +kernel
theorem dX8_least_1 : decode cX8_least 1 = .ok (.iload_n 1, 1) := by decide +kernel
theorem dX8_least_2 : decode cX8_least 2 = .ok (.iload_n 2, 1) := by decide +kernel
theorem dX8_least_3 : decode cX8_least 3 = .ok (.invokevirtual 112, 3) := by decide +kernel
theorem dX8_least_6 : decode cX8_least 6 = .ok (.getfield 146, 3) := by decide +kernel
theorem dX8_least_9 : decode cX8_least 9 = .ok (.ireturn, 1) := by decide +kernel
theorem dX8_greatest_0 : decode cX8_greatest 0 = .ok (.aload_n 0, 1) := by decide +kernel
theorem dX8_greatest_1 : decode cX8_greatest 1 = .ok (.iload_n 1, 1) := by decide +kernel
theorem dX8_greatest_2 : decode cX8_greatest 2 = .ok (.iload_n 2, 1) := by decide +kernel
theorem dX8_greatest_3 : decode cX8_greatest 3 = .ok (.invokevirtual 112, 3) := by decide +kernel
theorem dX8_greatest_6 : decode cX8_greatest 6 = .ok (.getfield 149, 3) := by decide +kernel
theorem dX8_greatest_9 : decode cX8_greatest 9 = .ok (.ireturn, 1) := by decide +kernel
theorem dX8_isMarked_0 : decode cX8_isMarked 0 = .ok (.aload_n 0, 1) := by decide +kernel
theorem dX8_isMarked_1 : decode cX8_isMarked 1 = .ok (.iload_n 1, 1) := by decide +kernel
theorem dX8_isMarked_2 : decode cX8_isMarked 2 = .ok (.invokevirtual 82, 3) := by decide +kernel
theorem dX8_isMarked_5 : decode cX8_isMarked 5 = .ok (.getfield 152, 3) := by decide +kernel
theorem dX8_isMarked_8 : decode cX8_isMarked 8 = .ok (.ireturn, 1) := by decide +kernel
theorem dX8_addReport_0 : decode cX8_addReport 0 = .ok (.iload_n 1, 1) := by decide +kernel
theorem dX8_addReport_1 : decode cX8_addReport 1 = .ok (.ifCond .lt 10, 3) := by decide +kernel
theorem dX8_addReport_4 : decode cX8_addReport 4 = .ok (.iload_n 1, 1) := by decide +kernel
theorem dX8_addReport_5 : decode cX8_addReport 5 = .ok (.sipush 1000, 3) := by decide +kernel
theorem dX8_addReport_8 : decode cX8_addReport 8 = .ok (.if_icmp .le 13, 3) := by decide +kernel
theorem dX8_addReport_11 : decode cX8_addReport 11 = .ok (.new 63, 3) := by decide +kernel
theorem dX8_addReport_14 : decode cX8_addReport 14 = .ok (.dup, 1) := by decide +kernel
theorem dX8_addReport_15 : decode cX8_addReport 15 = .ok (.ldc 155, 2) := by decide +kernel
theorem dX8_addReport_17 : decode cX8_addReport 17 = .ok (.invokespecial 67, 3) := by decide +kernel
theorem dX8_addReport_20 : decode cX8_addReport 20 = .ok (.athrow, 1) := by decide +kernel
theorem dX8_addReport_21 : decode cX8_addReport 21 = .ok (.aload_n 0, 1) := by decide +kernel
theorem dX8_addReport_22 : decode cX8_addReport 22 = .ok (.getfield 157, 3) := by decide +kernel
theorem dX8_addReport_25 : decode cX8_addReport 25 = .ok (.bipush 8, 2) := by decide +kernel
theorem dX8_addReport_27 : decode cX8_addReport 27 = .ok (.if_icmp .lt 13, 3) := by decide +kernel
theorem dX8_addReport_30 : decode cX8_addReport 30 = .ok (.new 74, 3) := by decide +kernel
theorem dX8_addReport_33 : decode cX8_addReport 33 = .ok (.dup, 1) := by decide +kernel
theorem dX8_addReport_34 : decode cX8_addReport 34 = .ok (.ldc 160, 2) := by decide +kernel
theorem dX8_addReport_36 : decode cX8_addReport 36 = .ok (.invokespecial 78, 3) := by decide +kernel
theorem dX8_addReport_39 : decode cX8_addReport 39 = .ok (.athrow, 1) := by decide +kernel
theorem dX8_addReport_40 : decode cX8_addReport 40 = .ok (.aload_n 0, 1) := by decide +kernel
theorem dX8_addReport_41 : decode cX8_addReport 41 = .ok (.getfield 36, 3) := by decide +kernel
theorem dX8_addReport_44 : decode cX8_addReport 44 = .ok (.aload_n 0, 1) := by decide +kernel
theorem dX8_addReport_45 : decode cX8_addReport 45 = .ok (.getfield 157, 3) := by decide +kernel
theorem dX8_addReport_48 : decode cX8_addReport 48 = .ok (.aaload, 1) := by decide +kernel
theorem dX8_addReport_49 : decode cX8_addReport 49 = .ok (.iload_n 1, 1) := by decide +kernel
theorem dX8_addReport_50 : decode cX8_addReport 50 = .ok (.putfield 162, 3) := by decide +kernel
theorem dX8_addReport_53 : decode cX8_addReport 53 = .ok (.aload_n 0, 1) := by decide +kernel
theorem dX8_addReport_54 : decode cX8_addReport 54 = .ok (.dup, 1) := by decide +kernel
theorem dX8_addReport_55 : decode cX8_addReport 55 = .ok (.getfield 157, 3) := by decide +kernel
theorem dX8_addReport_58 : decode cX8_addReport 58 = .ok (.iconst 1, 1) := by decide +kernel
theorem dX8_addReport_59 : decode cX8_addReport 59 = .ok (.iadd, 1) := by decide +kernel
theorem dX8_addReport_60 : decode cX8_addReport 60 = .ok (.putfield 157, 3) := by decide +kernel
theorem dX8_addReport_63 : decode cX8_addReport 63 = .ok (.aload_n 0, 1) := by decide +kernel
theorem dX8_addReport_64 : decode cX8_addReport 64 = .ok (.getfield 157, 3) := by decide +kernel
theorem dX8_addReport_67 : decode cX8_addReport 67 = .ok (.iconst 1, 1) := by decide +kernel
theorem dX8_addReport_68 : decode cX8_addReport 68 = .ok (.isub, 1) := by decide +kernel
theorem dX8_addReport_69 : decode cX8_addReport 69 = .ok (.ireturn, 1) := by decide +kernel
theorem dX8_addSource_0 : decode cX8_addSource 0 = .ok (.aload_n 0, 1) := by decide +kernel
theorem dX8_addSource_1 : decode cX8_addSource 1 = .ok (.iload_n 1, 1) := by decide +kernel
theorem dX8_addSource_2 : decode cX8_addSource 2 = .ok (.invokevirtual 165, 3) := by decide +kernel
theorem dX8_addSource_5 : decode cX8_addSource 5 = .ok (.astore_n 3, 1) := by decide +kernel
theorem dX8_addSource_6 : decode cX8_addSource 6 = .ok (.aload_n 0, 1) := by decide +kernel
theorem dX8_addSource_7 : decode cX8_addSource 7 = .ok (.iload_n 2, 1) := by decide +kernel
theorem dX8_addSource_8 : decode cX8_addSource 8 = .ok (.invokevirtual 82, 3) := by decide +kernel
theorem dX8_addSource_11 : decode cX8_addSource 11 = .ok (.pop, 1) := by decide +kernel
theorem dX8_addSource_12 : decode cX8_addSource 12 = .ok (.aload_n 3, 1) := by decide +kernel
theorem dX8_addSource_13 : decode cX8_addSource 13 = .ok (.getfield 169, 3) := by decide +kernel
theorem dX8_addSource_16 : decode cX8_addSource 16 = .ok (.iconst 3, 1) := by decide +kernel
theorem dX8_addSource_17 : decode cX8_addSource 17 = .ok (.if_icmp .lt 13, 3) := by decide +kernel
theorem dX8_addSource_20 : decode cX8_addSource 20 = .ok (.new 74, 3) := by decide +kernel
theorem dX8_addSource_23 : decode cX8_addSource 23 = .ok (.dup, 1) := by decide +kernel
theorem dX8_addSource_24 : decode cX8_addSource 24 = .ok (.ldc 172, 2) := by decide +kernel
theorem dX8_addSource_26 : decode cX8_addSource 26 = .ok (.invokespecial 78, 3) := by decide +kernel
theorem dX8_addSource_29 : decode cX8_addSource 29 = .ok (.athrow, 1) := by decide +kernel
theorem dX8_addSource_30 : decode cX8_addSource 30 = .ok (.aload_n 3, 1) := by decide +kernel
theorem dX8_addSource_31 : decode cX8_addSource 31 = .ok (.getfield 174, 3) := by decide +kernel
theorem dX8_addSource_34 : decode cX8_addSource 34 = .ok (.aload_n 3, 1) := by decide +kernel
theorem dX8_addSource_35 : decode cX8_addSource 35 = .ok (.getfield 169, 3) := by decide +kernel
theorem dX8_addSource_38 : decode cX8_addSource 38 = .ok (.iload_n 2, 1) := by decide +kernel
theorem dX8_addSource_39 : decode cX8_addSource 39 = .ok (.iastore, 1) := by decide +kernel
theorem dX8_addSource_40 : decode cX8_addSource 40 = .ok (.aload_n 3, 1) := by decide +kernel
theorem dX8_addSource_41 : decode cX8_addSource 41 = .ok (.dup, 1) := by decide +kernel
theorem dX8_addSource_42 : decode cX8_addSource 42 = .ok (.getfield 169, 3) := by decide +kernel
theorem dX8_addSource_45 : decode cX8_addSource 45 = .ok (.iconst 1, 1) := by decide +kernel
theorem dX8_addSource_46 : decode cX8_addSource 46 = .ok (.iadd, 1) := by decide +kernel
theorem dX8_addSource_47 : decode cX8_addSource 47 = .ok (.putfield 169, 3) := by decide +kernel
theorem dX8_addSource_50 : decode cX8_addSource 50 = .ok (.aload_n 3, 1) := by decide +kernel
theorem dX8_addSource_51 : decode cX8_addSource 51 = .ok (.getfield 169, 3) := by decide +kernel
theorem dX8_addSource_54 : decode cX8_addSource 54 = .ok (.iconst 1, 1) := by decide +kernel
theorem dX8_addSource_55 : decode cX8_addSource 55 = .ok (.isub, 1) := by decide +kernel
theorem dX8_addSource_56 : decode cX8_addSource 56 = .ok (.ireturn, 1) := by decide +kernel
theorem dX8_addCondition_0 : decode cX8_addCondition 0 = .ok (.aload_n 0, 1) := by decide +kernel
theorem dX8_addCondition_1 : decode cX8_addCondition 1 = .ok (.iload_n 1, 1) := by decide +kernel
theorem dX8_addCondition_2 : decode cX8_addCondition 2 = .ok (.invokevirtual 165, 3) := by decide +kernel
theorem dX8_addCondition_5 : decode cX8_addCondition 5 = .ok (.astore 6, 2) := by decide +kernel
theorem dX8_addCondition_7 : decode cX8_addCondition 7 = .ok (.aload_n 0, 1) := by decide +kernel
theorem dX8_addCondition_8 : decode cX8_addCondition 8 = .ok (.aload 6, 2) := by decide +kernel
theorem dX8_addCondition_10 : decode cX8_addCondition 10 = .ok (.iload_n 2, 1) := by decide +kernel
theorem dX8_addCondition_11 : decode cX8_addCondition 11 = .ok (.iload_n 3, 1) := by decide +kernel
theorem dX8_addCondition_12 : decode cX8_addCondition 12 = .ok (.invokevirtual 178, 3) := by decide +kernel
theorem dX8_addCondition_15 : decode cX8_addCondition 15 = .ok (.iload 4, 2) := by decide +kernel
theorem dX8_addCondition_17 : decode cX8_addCondition 17 = .ok (.ifCond .lt 9, 3) := by decide +kernel
theorem dX8_addCondition_20 : decode cX8_addCondition 20 = .ok (.iload 4, 2) := by decide +kernel
theorem dX8_addCondition_22 : decode cX8_addCondition 22 = .ok (.iconst 2, 1) := by decide +kernel
theorem dX8_addCondition_23 : decode cX8_addCondition 23 = .ok (.if_icmp .le 13, 3) := by decide +kernel
theorem dX8_addCondition_26 : decode cX8_addCondition 26 = .ok (.new 63, 3) := by decide +kernel
theorem dX8_addCondition_29 : decode cX8_addCondition 29 = .ok (.dup, 1) := by decide +kernel
theorem dX8_addCondition_30 : decode cX8_addCondition 30 = .ok (.ldc 182, 2) := by decide +kernel
theorem dX8_addCondition_32 : decode cX8_addCondition 32 = .ok (.invokespecial 67, 3) := by decide +kernel
theorem dX8_addCondition_35 : decode cX8_addCondition 35 = .ok (.athrow, 1) := by decide +kernel
theorem dX8_addCondition_36 : decode cX8_addCondition 36 = .ok (.iload 5, 2) := by decide +kernel
theorem dX8_addCondition_38 : decode cX8_addCondition 38 = .ok (.ifCond .lt 11, 3) := by decide +kernel
theorem dX8_addCondition_41 : decode cX8_addCondition 41 = .ok (.iload 5, 2) := by decide +kernel
theorem dX8_addCondition_43 : decode cX8_addCondition 43 = .ok (.sipush 999, 3) := by decide +kernel
theorem dX8_addCondition_46 : decode cX8_addCondition 46 = .ok (.if_icmp .le 13, 3) := by decide +kernel
theorem dX8_addCondition_49 : decode cX8_addCondition 49 = .ok (.new 63, 3) := by decide +kernel
theorem dX8_addCondition_52 : decode cX8_addCondition 52 = .ok (.dup, 1) := by decide +kernel
theorem dX8_addCondition_53 : decode cX8_addCondition 53 = .ok (.ldc 184, 2) := by decide +kernel
theorem dX8_addCondition_55 : decode cX8_addCondition 55 = .ok (.invokespecial 67, 3) := by decide +kernel
theorem dX8_addCondition_58 : decode cX8_addCondition 58 = .ok (.athrow, 1) := by decide +kernel
theorem dX8_addCondition_59 : decode cX8_addCondition 59 = .ok (.aload 6, 2) := by decide +kernel
theorem dX8_addCondition_61 : decode cX8_addCondition 61 = .ok (.invokestatic 186, 3) := by decide +kernel
theorem dX8_addCondition_64 : decode cX8_addCondition 64 = .ok (.aload 6, 2) := by decide +kernel
theorem dX8_addCondition_66 : decode cX8_addCondition 66 = .ok (.getfield 190, 3) := by decide +kernel
theorem dX8_addCondition_69 : decode cX8_addCondition 69 = .ok (.aload 6, 2) := by decide +kernel
theorem dX8_addCondition_71 : decode cX8_addCondition 71 = .ok (.getfield 194, 3) := by decide +kernel
theorem dX8_addCondition_74 : decode cX8_addCondition 74 = .ok (.aaload, 1) := by decide +kernel
theorem dX8_addCondition_75 : decode cX8_addCondition 75 = .ok (.iload_n 2, 1) := by decide +kernel
theorem dX8_addCondition_76 : decode cX8_addCondition 76 = .ok (.iload_n 3, 1) := by decide +kernel
theorem dX8_addCondition_77 : decode cX8_addCondition 77 = .ok (.iload 4, 2) := by decide +kernel
theorem dX8_addCondition_79 : decode cX8_addCondition 79 = .ok (.iload 5, 2) := by decide +kernel
theorem dX8_addCondition_81 : decode cX8_addCondition 81 = .ok (.invokevirtual 197, 3) := by decide +kernel
theorem dX8_addCondition_84 : decode cX8_addCondition 84 = .ok (.aload 6, 2) := by decide +kernel
theorem dX8_addCondition_86 : decode cX8_addCondition 86 = .ok (.dup, 1) := by decide +kernel
theorem dX8_addCondition_87 : decode cX8_addCondition 87 = .ok (.getfield 194, 3) := by decide +kernel
theorem dX8_addCondition_90 : decode cX8_addCondition 90 = .ok (.iconst 1, 1) := by decide +kernel
theorem dX8_addCondition_91 : decode cX8_addCondition 91 = .ok (.iadd, 1) := by decide +kernel
theorem dX8_addCondition_92 : decode cX8_addCondition 92 = .ok (.putfield 194, 3) := by decide +kernel
theorem dX8_addCondition_95 : decode cX8_addCondition 95 = .ok (.aload 6, 2) := by decide +kernel
theorem dX8_addCondition_97 : decode cX8_addCondition 97 = .ok (.getfield 194, 3) := by decide +kernel
theorem dX8_addCondition_100 : decode cX8_addCondition 100 = .ok (.iconst 1, 1) := by decide +kernel
theorem dX8_addCondition_101 : decode cX8_addCondition 101 = .ok (.isub, 1) := by decide +kernel
theorem dX8_addCondition_102 : decode cX8_addCondition 102 = .ok (.ireturn, 1) := by decide +kernel
theorem dX8_addJoin_0 : decode cX8_addJoin 0 = .ok (.aload_n 0, 1) := by decide +kernel
theorem dX8_addJoin_1 : decode cX8_addJoin 1 = .ok (.iload_n 1, 1) := by decide +kernel
theorem dX8_addJoin_2 : decode cX8_addJoin 2 = .ok (.invokevirtual 165, 3) := by decide +kernel
theorem dX8_addJoin_5 : decode cX8_addJoin 5 = .ok (.astore 6, 2) := by decide +kernel
theorem dX8_addJoin_7 : decode cX8_addJoin 7 = .ok (.aload_n 0, 1) := by decide +kernel
theorem dX8_addJoin_8 : decode cX8_addJoin 8 = .ok (.aload 6, 2) := by decide +kernel
theorem dX8_addJoin_10 : decode cX8_addJoin 10 = .ok (.iload_n 2, 1) := by decide +kernel
theorem dX8_addJoin_11 : decode cX8_addJoin 11 = .ok (.iload_n 3, 1) := by decide +kernel
theorem dX8_addJoin_12 : decode cX8_addJoin 12 = .ok (.invokevirtual 178, 3) := by decide +kernel
theorem dX8_addJoin_15 : decode cX8_addJoin 15 = .ok (.aload_n 0, 1) := by decide +kernel
theorem dX8_addJoin_16 : decode cX8_addJoin 16 = .ok (.aload 6, 2) := by decide +kernel
theorem dX8_addJoin_18 : decode cX8_addJoin 18 = .ok (.iload 4, 2) := by decide +kernel
theorem dX8_addJoin_20 : decode cX8_addJoin 20 = .ok (.iload 5, 2) := by decide +kernel
theorem dX8_addJoin_22 : decode cX8_addJoin 22 = .ok (.invokevirtual 178, 3) := by decide +kernel
theorem dX8_addJoin_25 : decode cX8_addJoin 25 = .ok (.iload_n 2, 1) := by decide +kernel
theorem dX8_addJoin_26 : decode cX8_addJoin 26 = .ok (.iload 4, 2) := by decide +kernel
theorem dX8_addJoin_28 : decode cX8_addJoin 28 = .ok (.if_icmp .ne 13, 3) := by decide +kernel
theorem dX8_addJoin_31 : decode cX8_addJoin 31 = .ok (.new 63, 3) := by decide +kernel
theorem dX8_addJoin_34 : decode cX8_addJoin 34 = .ok (.dup, 1) := by decide +kernel
theorem dX8_addJoin_35 : decode cX8_addJoin 35 = .ok (.ldc 203, 2) := by decide +kernel
theorem dX8_addJoin_37 : decode cX8_addJoin 37 = .ok (.invokespecial 67, 3) := by decide +kernel
theorem dX8_addJoin_40 : decode cX8_addJoin 40 = .ok (.athrow, 1) := by decide +kernel
theorem dX8_addJoin_41 : decode cX8_addJoin 41 = .ok (.aload 6, 2) := by decide +kernel
theorem dX8_addJoin_43 : decode cX8_addJoin 43 = .ok (.invokestatic 186, 3) := by decide +kernel
theorem dX8_addJoin_46 : decode cX8_addJoin 46 = .ok (.aload 6, 2) := by decide +kernel
theorem dX8_addJoin_48 : decode cX8_addJoin 48 = .ok (.getfield 190, 3) := by decide +kernel
theorem dX8_addJoin_51 : decode cX8_addJoin 51 = .ok (.aload 6, 2) := by decide +kernel
theorem dX8_addJoin_53 : decode cX8_addJoin 53 = .ok (.getfield 194, 3) := by decide +kernel
theorem dX8_addJoin_56 : decode cX8_addJoin 56 = .ok (.aaload, 1) := by decide +kernel
theorem dX8_addJoin_57 : decode cX8_addJoin 57 = .ok (.iload_n 2, 1) := by decide +kernel
theorem dX8_addJoin_58 : decode cX8_addJoin 58 = .ok (.iload_n 3, 1) := by decide +kernel
theorem dX8_addJoin_59 : decode cX8_addJoin 59 = .ok (.iload 4, 2) := by decide +kernel
theorem dX8_addJoin_61 : decode cX8_addJoin 61 = .ok (.iload 5, 2) := by decide +kernel
theorem dX8_addJoin_63 : decode cX8_addJoin 63 = .ok (.invokevirtual 205, 3) := by decide +kernel
theorem dX8_addJoin_66 : decode cX8_addJoin 66 = .ok (.aload 6, 2) := by decide +kernel
theorem dX8_addJoin_68 : decode cX8_addJoin 68 = .ok (.dup, 1) := by decide +kernel
theorem dX8_addJoin_69 : decode cX8_addJoin 69 = .ok (.getfield 194, 3) := by decide +kernel
theorem dX8_addJoin_72 : decode cX8_addJoin 72 = .ok (.iconst 1, 1) := by decide +kernel
theorem dX8_addJoin_73 : decode cX8_addJoin 73 = .ok (.iadd, 1) := by decide +kernel
theorem dX8_addJoin_74 : decode cX8_addJoin 74 = .ok (.putfield 194, 3) := by decide +kernel
theorem dX8_addJoin_77 : decode cX8_addJoin 77 = .ok (.aload 6, 2) := by decide +kernel
theorem dX8_addJoin_79 : decode cX8_addJoin 79 = .ok (.getfield 194, 3) := by decide +kernel
theorem dX8_addJoin_82 : decode cX8_addJoin 82 = .ok (.iconst 1, 1) := by decide +kernel
theorem dX8_addJoin_83 : decode cX8_addJoin 83 = .ok (.isub, 1) := by decide +kernel
theorem dX8_addJoin_84 : decode cX8_addJoin 84 = .ok (.ireturn, 1) := by decide +kernel
theorem dX8_dropCondition_0 : decode cX8_dropCondition 0 = .ok (.aload_n 0, 1) := by decide +kernel
theorem dX8_dropCondition_1 : decode cX8_dropCondition 1 = .ok (.iload_n 1, 1) := by decide +kernel
theorem dX8_dropCondition_2 : decode cX8_dropCondition 2 = .ok (.invokevirtual 165, 3) := by decide +kernel
theorem dX8_dropCondition_5 : decode cX8_dropCondition 5 = .ok (.astore_n 2, 1) := by decide +kernel
theorem dX8_dropCondition_6 : decode cX8_dropCondition 6 = .ok (.aload_n 2, 1) := by decide +kernel
theorem dX8_dropCondition_7 : decode cX8_dropCondition 7 = .ok (.getfield 194, 3) := by decide +kernel
theorem dX8_dropCondition_10 : decode cX8_dropCondition 10 = .ok (.ifCond .ne 13, 3) := by decide +kernel
theorem dX8_dropCondition_13 : decode cX8_dropCondition 13 = .ok (.new 74, 3) := by decide +kernel
theorem dX8_dropCondition_16 : decode cX8_dropCondition 16 = .ok (.dup, 1) := by decide +kernel
theorem dX8_dropCondition_17 : decode cX8_dropCondition 17 = .ok (.ldc 208, 2) := by decide +kernel
theorem dX8_dropCondition_19 : decode cX8_dropCondition 19 = .ok (.invokespecial 78, 3) := by decide +kernel
theorem dX8_dropCondition_22 : decode cX8_dropCondition 22 = .ok (.athrow, 1) := by decide +kernel
theorem dX8_dropCondition_23 : decode cX8_dropCondition 23 = .ok (.aload_n 2, 1) := by decide +kernel
theorem dX8_dropCondition_24 : decode cX8_dropCondition 24 = .ok (.dup, 1) := by decide +kernel
theorem dX8_dropCondition_25 : decode cX8_dropCondition 25 = .ok (.getfield 194, 3) := by decide +kernel
theorem dX8_dropCondition_28 : decode cX8_dropCondition 28 = .ok (.iconst 1, 1) := by decide +kernel
theorem dX8_dropCondition_29 : decode cX8_dropCondition 29 = .ok (.isub, 1) := by decide +kernel
theorem dX8_dropCondition_30 : decode cX8_dropCondition 30 = .ok (.putfield 194, 3) := by decide +kernel
theorem dX8_dropCondition_33 : decode cX8_dropCondition 33 = .ok (.aload_n 2, 1) := by decide +kernel
theorem dX8_dropCondition_34 : decode cX8_dropCondition 34 = .ok (.getfield 194, 3) := by decide +kernel
theorem dX8_dropCondition_37 : decode cX8_dropCondition 37 = .ok (.ireturn, 1) := by decide +kernel
theorem dX8_setSum_0 : decode cX8_setSum 0 = .ok (.aload_n 0, 1) := by decide +kernel
theorem dX8_setSum_1 : decode cX8_setSum 1 = .ok (.iload_n 1, 1) := by decide +kernel
theorem dX8_setSum_2 : decode cX8_setSum 2 = .ok (.invokevirtual 165, 3) := by decide +kernel
theorem dX8_setSum_5 : decode cX8_setSum 5 = .ok (.astore 4, 2) := by decide +kernel
theorem dX8_setSum_7 : decode cX8_setSum 7 = .ok (.iload_n 2, 1) := by decide +kernel
theorem dX8_setSum_8 : decode cX8_setSum 8 = .ok (.iconst (-1), 1) := by decide +kernel
theorem dX8_setSum_9 : decode cX8_setSum 9 = .ok (.if_icmp .eq 17, 3) := by decide +kernel
theorem dX8_setSum_12 : decode cX8_setSum 12 = .ok (.aload_n 0, 1) := by decide +kernel
theorem dX8_setSum_13 : decode cX8_setSum 13 = .ok (.aload 4, 2) := by decide +kernel
theorem dX8_setSum_15 : decode cX8_setSum 15 = .ok (.iload_n 2, 1) := by decide +kernel
theorem dX8_setSum_16 : decode cX8_setSum 16 = .ok (.iload_n 3, 1) := by decide +kernel
theorem dX8_setSum_17 : decode cX8_setSum 17 = .ok (.invokevirtual 178, 3) := by decide +kernel
theorem dX8_setSum_20 : decode cX8_setSum 20 = .ok (.aload 4, 2) := by decide +kernel
theorem dX8_setSum_22 : decode cX8_setSum 22 = .ok (.iload_n 3, 1) := by decide +kernel
theorem dX8_setSum_23 : decode cX8_setSum 23 = .ok (.putfield 210, 3) := by decide +kernel
theorem dX8_setSum_26 : decode cX8_setSum 26 = .ok (.aload 4, 2) := by decide +kernel
theorem dX8_setSum_28 : decode cX8_setSum 28 = .ok (.iload_n 2, 1) := by decide +kernel
theorem dX8_setSum_29 : decode cX8_setSum 29 = .ok (.putfield 213, 3) := by decide +kernel
theorem dX8_setSum_32 : decode cX8_setSum 32 = .ok (.return_, 1) := by decide +kernel
theorem dX8_setDue_0 : decode cX8_setDue 0 = .ok (.aload_n 0, 1) := by decide +kernel
theorem dX8_setDue_1 : decode cX8_setDue 1 = .ok (.iload_n 1, 1) := by decide +kernel
theorem dX8_setDue_2 : decode cX8_setDue 2 = .ok (.invokevirtual 165, 3) := by decide +kernel
theorem dX8_setDue_5 : decode cX8_setDue 5 = .ok (.astore_n 3, 1) := by decide +kernel
theorem dX8_setDue_6 : decode cX8_setDue 6 = .ok (.aload_n 3, 1) := by decide +kernel
theorem dX8_setDue_7 : decode cX8_setDue 7 = .ok (.getfield 216, 3) := by decide +kernel
theorem dX8_setDue_10 : decode cX8_setDue 10 = .ok (.istore 4, 2) := by decide +kernel
theorem dX8_setDue_12 : decode cX8_setDue 12 = .ok (.aload_n 3, 1) := by decide +kernel
theorem dX8_setDue_13 : decode cX8_setDue 13 = .ok (.iload_n 2, 1) := by decide +kernel
theorem dX8_setDue_14 : decode cX8_setDue 14 = .ok (.putfield 216, 3) := by decide +kernel
theorem dX8_setDue_17 : decode cX8_setDue 17 = .ok (.iload 4, 2) := by decide +kernel
theorem dX8_setDue_19 : decode cX8_setDue 19 = .ok (.ireturn, 1) := by decide +kernel
theorem dX8_isDue_0 : decode cX8_isDue 0 = .ok (.aload_n 0, 1) := by decide +kernel
theorem dX8_isDue_1 : decode cX8_isDue 1 = .ok (.iload_n 1, 1) := by decide +kernel
theorem dX8_isDue_2 : decode cX8_isDue 2 = .ok (.invokevirtual 165, 3) := by decide +kernel
theorem dX8_isDue_5 : decode cX8_isDue 5 = .ok (.getfield 216, 3) := by decide +kernel
theorem dX8_isDue_8 : decode cX8_isDue 8 = .ok (.ireturn, 1) := by decide +kernel
theorem dX8_planSource_0 : decode cX8_planSource 0 = .ok (.aload_n 0, 1) := by decide +kernel
theorem dX8_planSource_1 : decode cX8_planSource 1 = .ok (.iload_n 1, 1) := by decide +kernel
theorem dX8_planSource_2 : decode cX8_planSource 2 = .ok (.invokevirtual 165, 3) := by decide +kernel
theorem dX8_planSource_5 : decode cX8_planSource 5 = .ok (.astore_n 3, 1) := by decide +kernel
theorem dX8_planSource_6 : decode cX8_planSource 6 = .ok (.aload_n 3, 1) := by decide +kernel
theorem dX8_planSource_7 : decode cX8_planSource 7 = .ok (.iload_n 2, 1) := by decide +kernel
theorem dX8_planSource_8 : decode cX8_planSource 8 = .ok (.invokestatic 219, 3) := by decide +kernel
theorem dX8_planSource_11 : decode cX8_planSource 11 = .ok (.aload_n 0, 1) := by decide +kernel
theorem dX8_planSource_12 : decode cX8_planSource 12 = .ok (.getfield 40, 3) := by decide +kernel
theorem dX8_planSource_15 : decode cX8_planSource 15 = .ok (.aload_n 3, 1) := by decide +kernel
theorem dX8_planSource_16 : decode cX8_planSource 16 = .ok (.invokevirtual 223, 3) := by decide +kernel
theorem dX8_planSource_19 : decode cX8_planSource 19 = .ok (.getfield 227, 3) := by decide +kernel
theorem dX8_planSource_22 : decode cX8_planSource 22 = .ok (.iload_n 2, 1) := by decide +kernel
theorem dX8_planSource_23 : decode cX8_planSource 23 = .ok (.iaload, 1) := by decide +kernel
theorem dX8_planSource_24 : decode cX8_planSource 24 = .ok (.ireturn, 1) := by decide +kernel
theorem dX8_planWay_0 : decode cX8_planWay 0 = .ok (.aload_n 0, 1) := by decide +kernel
theorem dX8_planWay_1 : decode cX8_planWay 1 = .ok (.iload_n 1, 1) := by decide +kernel
theorem dX8_planWay_2 : decode cX8_planWay 2 = .ok (.invokevirtual 165, 3) := by decide +kernel
theorem dX8_planWay_5 : decode cX8_planWay 5 = .ok (.astore_n 3, 1) := by decide +kernel
theorem dX8_planWay_6 : decode cX8_planWay 6 = .ok (.aload_n 3, 1) := by decide +kernel
theorem dX8_planWay_7 : decode cX8_planWay 7 = .ok (.iload_n 2, 1) := by decide +kernel
theorem dX8_planWay_8 : decode cX8_planWay 8 = .ok (.invokestatic 219, 3) := by decide +kernel
theorem dX8_planWay_11 : decode cX8_planWay 11 = .ok (.aload_n 0, 1) := by decide +kernel
theorem dX8_planWay_12 : decode cX8_planWay 12 = .ok (.getfield 40, 3) := by decide +kernel
theorem dX8_planWay_15 : decode cX8_planWay 15 = .ok (.aload_n 3, 1) := by decide +kernel
theorem dX8_planWay_16 : decode cX8_planWay 16 = .ok (.invokevirtual 223, 3) := by decide +kernel
theorem dX8_planWay_19 : decode cX8_planWay 19 = .ok (.getfield 230, 3) := by decide +kernel
theorem dX8_planWay_22 : decode cX8_planWay 22 = .ok (.iload_n 2, 1) := by decide +kernel
theorem dX8_planWay_23 : decode cX8_planWay 23 = .ok (.iaload, 1) := by decide +kernel
theorem dX8_planWay_24 : decode cX8_planWay 24 = .ok (.ireturn, 1) := by decide +kernel
theorem dX8_foretold_0 : decode cX8_foretold 0 = .ok (.aload_n 0, 1) := by decide +kernel
theorem dX8_foretold_1 : decode cX8_foretold 1 = .ok (.getfield 40, 3) := by decide +kernel
theorem dX8_foretold_4 : decode cX8_foretold 4 = .ok (.aload_n 0, 1) := by decide +kernel
theorem dX8_foretold_5 : decode cX8_foretold 5 = .ok (.iload_n 1, 1) := by decide +kernel
theorem dX8_foretold_6 : decode cX8_foretold 6 = .ok (.invokevirtual 165, 3) := by decide +kernel
theorem dX8_foretold_9 : decode cX8_foretold 9 = .ok (.invokevirtual 223, 3) := by decide +kernel
theorem dX8_foretold_12 : decode cX8_foretold 12 = .ok (.invokevirtual 233, 3) := by decide +kernel
theorem dX8_foretold_15 : decode cX8_foretold 15 = .ok (.ireturn, 1) := by decide +kernel
theorem dX8_minutes_0 : decode cX8_minutes 0 = .ok (.aload_n 0, 1) := by decide +kernel
theorem dX8_minutes_1 : decode cX8_minutes 1 = .ok (.aload_n 0, 1) := by decide +kernel
theorem dX8_minutes_2 : decode cX8_minutes 2 = .ok (.iload_n 1, 1) := by decide +kernel
theorem dX8_minutes_3 : decode cX8_minutes 3 = .ok (.invokevirtual 165, 3) := by decide +kernel
theorem dX8_minutes_6 : decode cX8_minutes 6 = .ok (.invokevirtual 237, 3) := by decide +kernel
theorem dX8_minutes_9 : decode cX8_minutes 9 = .ok (.aload_n 0, 1) := by decide +kernel
theorem dX8_minutes_10 : decode cX8_minutes 10 = .ok (.getfield 44, 3) := by decide +kernel
theorem dX8_minutes_13 : decode cX8_minutes 13 = .ok (.getfield 240, 3) := by decide +kernel
theorem dX8_minutes_16 : decode cX8_minutes 16 = .ok (.ireturn, 1) := by decide +kernel
theorem dX8_answer_0 : decode cX8_answer 0 = .ok (.aload_n 0, 1) := by decide +kernel
theorem dX8_answer_1 : decode cX8_answer 1 = .ok (.aload_n 0, 1) := by decide +kernel
theorem dX8_answer_2 : decode cX8_answer 2 = .ok (.iload_n 1, 1) := by decide +kernel
theorem dX8_answer_3 : decode cX8_answer 3 = .ok (.invokevirtual 165, 3) := by decide +kernel
theorem dX8_answer_6 : decode cX8_answer 6 = .ok (.invokevirtual 237, 3) := by decide +kernel
theorem dX8_answer_9 : decode cX8_answer 9 = .ok (.aload_n 0, 1) := by decide +kernel
theorem dX8_answer_10 : decode cX8_answer 10 = .ok (.getfield 44, 3) := by decide +kernel
theorem dX8_answer_13 : decode cX8_answer 13 = .ok (.getfield 243, 3) := by decide +kernel
theorem dX8_answer_16 : decode cX8_answer 16 = .ok (.ireturn, 1) := by decide +kernel
theorem dX8_sum_0 : decode cX8_sum 0 = .ok (.aload_n 0, 1) := by decide +kernel
theorem dX8_sum_1 : decode cX8_sum 1 = .ok (.aload_n 0, 1) := by decide +kernel
theorem dX8_sum_2 : decode cX8_sum 2 = .ok (.iload_n 1, 1) := by decide +kernel
theorem dX8_sum_3 : decode cX8_sum 3 = .ok (.invokevirtual 165, 3) := by decide +kernel
theorem dX8_sum_6 : decode cX8_sum 6 = .ok (.invokevirtual 237, 3) := by decide +kernel
theorem dX8_sum_9 : decode cX8_sum 9 = .ok (.aload_n 0, 1) := by decide +kernel
theorem dX8_sum_10 : decode cX8_sum 10 = .ok (.getfield 44, 3) := by decide +kernel
theorem dX8_sum_13 : decode cX8_sum 13 = .ok (.getfield 246, 3) := by decide +kernel
theorem dX8_sum_16 : decode cX8_sum 16 = .ok (.ireturn, 1) := by decide +kernel
theorem dX8_plainAnswer_0 : decode cX8_plainAnswer 0 = .ok (.aload_n 0, 1) := by decide +kernel
theorem dX8_plainAnswer_1 : decode cX8_plainAnswer 1 = .ok (.aload_n 0, 1) := by decide +kernel
theorem dX8_plainAnswer_2 : decode cX8_plainAnswer 2 = .ok (.iload_n 1, 1) := by decide +kernel
theorem dX8_plainAnswer_3 : decode cX8_plainAnswer 3 = .ok (.invokevirtual 165, 3) := by decide +kernel
theorem dX8_plainAnswer_6 : decode cX8_plainAnswer 6 = .ok (.invokevirtual 249, 3) := by decide +kernel
theorem dX8_plainAnswer_9 : decode cX8_plainAnswer 9 = .ok (.aload_n 0, 1) := by decide +kernel
theorem dX8_plainAnswer_10 : decode cX8_plainAnswer 10 = .ok (.getfield 44, 3) := by decide +kernel
theorem dX8_plainAnswer_13 : decode cX8_plainAnswer 13 = .ok (.getfield 243, 3) := by decide +kernel
theorem dX8_plainAnswer_16 : decode cX8_plainAnswer 16 = .ok (.ireturn, 1) := by decide +kernel
theorem dX8_plainSum_0 : decode cX8_plainSum 0 = .ok (.aload_n 0, 1) := by decide +kernel
theorem dX8_plainSum_1 : decode cX8_plainSum 1 = .ok (.aload_n 0, 1) := by decide +kernel
theorem dX8_plainSum_2 : decode cX8_plainSum 2 = .ok (.iload_n 1, 1) := by decide +kernel
theorem dX8_plainSum_3 : decode cX8_plainSum 3 = .ok (.invokevirtual 165, 3) := by decide +kernel
theorem dX8_plainSum_6 : decode cX8_plainSum 6 = .ok (.invokevirtual 249, 3) := by decide +kernel
theorem dX8_plainSum_9 : decode cX8_plainSum 9 = .ok (.aload_n 0, 1) := by decide +kernel
theorem dX8_plainSum_10 : decode cX8_plainSum 10 = .ok (.getfield 44, 3) := by decide +kernel
theorem dX8_plainSum_13 : decode cX8_plainSum 13 = .ok (.getfield 246, 3) := by decide +kernel
theorem dX8_plainSum_16 : decode cX8_plainSum 16 = .ok (.ireturn, 1) := by decide +kernel
theorem dX8_night_0 : decode cX8_night 0 = .ok (.iload_n 1, 1) := by decide +kernel
theorem dX8_night_1 : decode cX8_night 1 = .ok (.ifCond .lt 10, 3) := by decide +kernel
theorem dX8_night_4 : decode cX8_night 4 = .ok (.iload_n 1, 1) := by decide +kernel
theorem dX8_night_5 : decode cX8_night 5 = .ok (.sipush 1000, 3) := by decide +kernel
theorem dX8_night_8 : decode cX8_night 8 = .ok (.if_icmp .le 13, 3) := by decide +kernel
theorem dX8_night_11 : decode cX8_night 11 = .ok (.new 63, 3) := by decide +kernel
theorem dX8_night_14 : decode cX8_night 14 = .ok (.dup, 1) := by decide +kernel
theorem dX8_night_15 : decode cX8_night 15 = .ok (.ldc 252, 2) := by decide +kernel
theorem dX8_night_17 : decode cX8_night 17 = .ok (.invokespecial 67, 3) := by decide +kernel
theorem dX8_night_20 : decode cX8_night 20 = .ok (.athrow, 1) := by decide +kernel
theorem dX8_night_21 : decode cX8_night 21 = .ok (.aload_n 0, 1) := by decide +kernel
theorem dX8_night_22 : decode cX8_night 22 = .ok (.getfield 53, 3) := by decide +kernel
theorem dX8_night_25 : decode cX8_night 25 = .ok (.getfield 254, 3) := by decide +kernel
theorem dX8_night_28 : decode cX8_night 28 = .ok (.sipush 500, 3) := by decide +kernel
theorem dX8_night_31 : decode cX8_night 31 = .ok (.if_icmp .lt 14, 3) := by decide +kernel
theorem dX8_night_34 : decode cX8_night 34 = .ok (.new 74, 3) := by decide +kernel
theorem dX8_night_37 : decode cX8_night 37 = .ok (.dup, 1) := by decide +kernel
theorem dX8_night_38 : decode cX8_night 38 = .ok (.ldc_w 257, 3) := by decide +kernel
theorem dX8_night_41 : decode cX8_night 41 = .ok (.invokespecial 78, 3) := by decide +kernel
theorem dX8_night_44 : decode cX8_night 44 = .ok (.athrow, 1) := by decide +kernel
theorem dX8_night_45 : decode cX8_night 45 = .ok (.aload_n 0, 1) := by decide +kernel
theorem dX8_night_46 : decode cX8_night 46 = .ok (.getfield 53, 3) := by decide +kernel
theorem dX8_night_49 : decode cX8_night 49 = .ok (.iload_n 1, 1) := by decide +kernel
theorem dX8_night_50 : decode cX8_night 50 = .ok (.invokevirtual 259, 3) := by decide +kernel
theorem dX8_night_53 : decode cX8_night 53 = .ok (.aload_n 0, 1) := by decide +kernel
theorem dX8_night_54 : decode cX8_night 54 = .ok (.getfield 53, 3) := by decide +kernel
theorem dX8_night_57 : decode cX8_night 57 = .ok (.invokevirtual 262, 3) := by decide +kernel
theorem dX8_night_60 : decode cX8_night 60 = .ok (.aload_n 0, 1) := by decide +kernel
theorem dX8_night_61 : decode cX8_night 61 = .ok (.getfield 53, 3) := by decide +kernel
theorem dX8_night_64 : decode cX8_night 64 = .ok (.invokevirtual 265, 3) := by decide +kernel
theorem dX8_night_67 : decode cX8_night 67 = .ok (.ireturn, 1) := by decide +kernel
theorem dX8_nights_0 : decode cX8_nights 0 = .ok (.aload_n 0, 1) := by decide +kernel
theorem dX8_nights_1 : decode cX8_nights 1 = .ok (.getfield 53, 3) := by decide +kernel
theorem dX8_nights_4 : decode cX8_nights 4 = .ok (.getfield 254, 3) := by decide +kernel
theorem dX8_nights_7 : decode cX8_nights 7 = .ok (.ireturn, 1) := by decide +kernel
theorem dX8_paid_0 : decode cX8_paid 0 = .ok (.aload_n 0, 1) := by decide +kernel
theorem dX8_paid_1 : decode cX8_paid 1 = .ok (.getfield 53, 3) := by decide +kernel
theorem dX8_paid_4 : decode cX8_paid 4 = .ok (.getfield 268, 3) := by decide +kernel
theorem dX8_paid_7 : decode cX8_paid 7 = .ok (.ireturn, 1) := by decide +kernel
theorem dX8_left_0 : decode cX8_left 0 = .ok (.aload_n 0, 1) := by decide +kernel
theorem dX8_left_1 : decode cX8_left 1 = .ok (.getfield 53, 3) := by decide +kernel
theorem dX8_left_4 : decode cX8_left 4 = .ok (.getfield 271, 3) := by decide +kernel
theorem dX8_left_7 : decode cX8_left 7 = .ok (.ireturn, 1) := by decide +kernel
theorem dX8_owed_0 : decode cX8_owed 0 = .ok (.aload_n 0, 1) := by decide +kernel
theorem dX8_owed_1 : decode cX8_owed 1 = .ok (.getfield 53, 3) := by decide +kernel
theorem dX8_owed_4 : decode cX8_owed 4 = .ok (.getfield 274, 3) := by decide +kernel
theorem dX8_owed_7 : decode cX8_owed 7 = .ok (.ireturn, 1) := by decide +kernel
theorem dX8_kept_0 : decode cX8_kept 0 = .ok (.aload_n 0, 1) := by decide +kernel
theorem dX8_kept_1 : decode cX8_kept 1 = .ok (.iload_n 1, 1) := by decide +kernel
theorem dX8_kept_2 : decode cX8_kept 2 = .ok (.invokevirtual 165, 3) := by decide +kernel
theorem dX8_kept_5 : decode cX8_kept 5 = .ok (.getfield 277, 3) := by decide +kernel
theorem dX8_kept_8 : decode cX8_kept 8 = .ok (.ireturn, 1) := by decide +kernel
theorem dX8_keptSum_0 : decode cX8_keptSum 0 = .ok (.aload_n 0, 1) := by decide +kernel
theorem dX8_keptSum_1 : decode cX8_keptSum 1 = .ok (.iload_n 1, 1) := by decide +kernel
theorem dX8_keptSum_2 : decode cX8_keptSum 2 = .ok (.invokevirtual 165, 3) := by decide +kernel
theorem dX8_keptSum_5 : decode cX8_keptSum 5 = .ok (.getfield 280, 3) := by decide +kernel
theorem dX8_keptSum_8 : decode cX8_keptSum 8 = .ok (.ireturn, 1) := by decide +kernel
theorem dX8_keptIn_0 : decode cX8_keptIn 0 = .ok (.aload_n 0, 1) := by decide +kernel
theorem dX8_keptIn_1 : decode cX8_keptIn 1 = .ok (.iload_n 1, 1) := by decide +kernel
theorem dX8_keptIn_2 : decode cX8_keptIn 2 = .ok (.invokevirtual 165, 3) := by decide +kernel
theorem dX8_keptIn_5 : decode cX8_keptIn 5 = .ok (.getfield 283, 3) := by decide +kernel
theorem dX8_keptIn_8 : decode cX8_keptIn 8 = .ok (.ireturn, 1) := by decide +kernel
theorem dX8_findTable_0 : decode cX8_findTable 0 = .ok (.iload_n 1, 1) := by decide +kernel
theorem dX8_findTable_1 : decode cX8_findTable 1 = .ok (.ifCond .lt 11, 3) := by decide +kernel
theorem dX8_findTable_4 : decode cX8_findTable 4 = .ok (.iload_n 1, 1) := by decide +kernel
theorem dX8_findTable_5 : decode cX8_findTable 5 = .ok (.aload_n 0, 1) := by decide +kernel
theorem dX8_findTable_6 : decode cX8_findTable 6 = .ok (.getfield 70, 3) := by decide +kernel
theorem dX8_findTable_9 : decode cX8_findTable 9 = .ok (.if_icmp .lt 14, 3) := by decide +kernel
theorem dX8_findTable_12 : decode cX8_findTable 12 = .ok (.new 286, 3) := by decide +kernel
theorem dX8_findTable_15 : decode cX8_findTable 15 = .ok (.dup, 1) := by decide +kernel
theorem dX8_findTable_16 : decode cX8_findTable 16 = .ok (.ldc_w 288, 3) := by decide +kernel
theorem dX8_findTable_19 : decode cX8_findTable 19 = .ok (.invokespecial 290, 3) := by decide +kernel
theorem dX8_findTable_22 : decode cX8_findTable 22 = .ok (.athrow, 1) := by decide +kernel
theorem dX8_findTable_23 : decode cX8_findTable 23 = .ok (.aload_n 0, 1) := by decide +kernel
theorem dX8_findTable_24 : decode cX8_findTable 24 = .ok (.getfield 32, 3) := by decide +kernel
theorem dX8_findTable_27 : decode cX8_findTable 27 = .ok (.iload_n 1, 1) := by decide +kernel
theorem dX8_findTable_28 : decode cX8_findTable 28 = .ok (.aaload, 1) := by decide +kernel
theorem dX8_findTable_29 : decode cX8_findTable 29 = .ok (.areturn, 1) := by decide +kernel
theorem dX8_findColumn_0 : decode cX8_findColumn 0 = .ok (.aload_n 0, 1) := by decide +kernel
theorem dX8_findColumn_1 : decode cX8_findColumn 1 = .ok (.iload_n 1, 1) := by decide +kernel
theorem dX8_findColumn_2 : decode cX8_findColumn 2 = .ok (.invokevirtual 82, 3) := by decide +kernel
theorem dX8_findColumn_5 : decode cX8_findColumn 5 = .ok (.astore_n 3, 1) := by decide +kernel
theorem dX8_findColumn_6 : decode cX8_findColumn 6 = .ok (.aload_n 3, 1) := by decide +kernel
theorem dX8_findColumn_7 : decode cX8_findColumn 7 = .ok (.iload_n 2, 1) := by decide +kernel
theorem dX8_findColumn_8 : decode cX8_findColumn 8 = .ok (.invokestatic 122, 3) := by decide +kernel
theorem dX8_findColumn_11 : decode cX8_findColumn 11 = .ok (.aload_n 3, 1) := by decide +kernel
theorem dX8_findColumn_12 : decode cX8_findColumn 12 = .ok (.getfield 291, 3) := by decide +kernel
theorem dX8_findColumn_15 : decode cX8_findColumn 15 = .ok (.iload_n 2, 1) := by decide +kernel
theorem dX8_findColumn_16 : decode cX8_findColumn 16 = .ok (.aaload, 1) := by decide +kernel
theorem dX8_findColumn_17 : decode cX8_findColumn 17 = .ok (.areturn, 1) := by decide +kernel
theorem dX8_findReport_0 : decode cX8_findReport 0 = .ok (.iload_n 1, 1) := by decide +kernel
theorem dX8_findReport_1 : decode cX8_findReport 1 = .ok (.ifCond .lt 11, 3) := by decide +kernel
theorem dX8_findReport_4 : decode cX8_findReport 4 = .ok (.iload_n 1, 1) := by decide +kernel
theorem dX8_findReport_5 : decode cX8_findReport 5 = .ok (.aload_n 0, 1) := by decide +kernel
theorem dX8_findReport_6 : decode cX8_findReport 6 = .ok (.getfield 157, 3) := by decide +kernel
theorem dX8_findReport_9 : decode cX8_findReport 9 = .ok (.if_icmp .lt 14, 3) := by decide +kernel
theorem dX8_findReport_12 : decode cX8_findReport 12 = .ok (.new 286, 3) := by decide +kernel
theorem dX8_findReport_15 : decode cX8_findReport 15 = .ok (.dup, 1) := by decide +kernel
theorem dX8_findReport_16 : decode cX8_findReport 16 = .ok (.ldc_w 295, 3) := by decide +kernel
theorem dX8_findReport_19 : decode cX8_findReport 19 = .ok (.invokespecial 290, 3) := by decide +kernel
theorem dX8_findReport_22 : decode cX8_findReport 22 = .ok (.athrow, 1) := by decide +kernel
theorem dX8_findReport_23 : decode cX8_findReport 23 = .ok (.aload_n 0, 1) := by decide +kernel
theorem dX8_findReport_24 : decode cX8_findReport 24 = .ok (.getfield 36, 3) := by decide +kernel
theorem dX8_findReport_27 : decode cX8_findReport 27 = .ok (.iload_n 1, 1) := by decide +kernel
theorem dX8_findReport_28 : decode cX8_findReport 28 = .ok (.aaload, 1) := by decide +kernel
theorem dX8_findReport_29 : decode cX8_findReport 29 = .ok (.areturn, 1) := by decide +kernel
theorem dX8_checkColumn_0 : decode cX8_checkColumn 0 = .ok (.iload_n 1, 1) := by decide +kernel
theorem dX8_checkColumn_1 : decode cX8_checkColumn 1 = .ok (.ifCond .lt 11, 3) := by decide +kernel
theorem dX8_checkColumn_4 : decode cX8_checkColumn 4 = .ok (.iload_n 1, 1) := by decide +kernel
theorem dX8_checkColumn_5 : decode cX8_checkColumn 5 = .ok (.aload_n 0, 1) := by decide +kernel
theorem dX8_checkColumn_6 : decode cX8_checkColumn 6 = .ok (.getfield 79, 3) := by decide +kernel
theorem dX8_checkColumn_9 : decode cX8_checkColumn 9 = .ok (.if_icmp .lt 14, 3) := by decide +kernel
theorem dX8_checkColumn_12 : decode cX8_checkColumn 12 = .ok (.new 286, 3) := by decide +kernel
theorem dX8_checkColumn_15 : decode cX8_checkColumn 15 = .ok (.dup, 1) := by decide +kernel
theorem dX8_checkColumn_16 : decode cX8_checkColumn 16 = .ok (.ldc_w 297, 3) := by decide +kernel
theorem dX8_checkColumn_19 : decode cX8_checkColumn 19 = .ok (.invokespecial 290, 3) := by decide +kernel
theorem dX8_checkColumn_22 : decode cX8_checkColumn 22 = .ok (.athrow, 1) := by decide +kernel
theorem dX8_checkColumn_23 : decode cX8_checkColumn 23 = .ok (.return_, 1) := by decide +kernel
theorem dX8_checkRow_0 : decode cX8_checkRow 0 = .ok (.iload_n 1, 1) := by decide +kernel
theorem dX8_checkRow_1 : decode cX8_checkRow 1 = .ok (.ifCond .lt 20, 3) := by decide +kernel
theorem dX8_checkRow_4 : decode cX8_checkRow 4 = .ok (.iload_n 1, 1) := by decide +kernel
theorem dX8_checkRow_5 : decode cX8_checkRow 5 = .ok (.aload_n 0, 1) := by decide +kernel
theorem dX8_checkRow_6 : decode cX8_checkRow 6 = .ok (.getfield 92, 3) := by decide +kernel
theorem dX8_checkRow_9 : decode cX8_checkRow 9 = .ok (.if_icmp .ge 12, 3) := by decide +kernel
theorem dX8_checkRow_12 : decode cX8_checkRow 12 = .ok (.aload_n 0, 1) := by decide +kernel
theorem dX8_checkRow_13 : decode cX8_checkRow 13 = .ok (.getfield 105, 3) := by decide +kernel
theorem dX8_checkRow_16 : decode cX8_checkRow 16 = .ok (.iload_n 1, 1) := by decide +kernel
theorem dX8_checkRow_17 : decode cX8_checkRow 17 = .ok (.baload, 1) := by decide +kernel
theorem dX8_checkRow_18 : decode cX8_checkRow 18 = .ok (.ifCond .ne 14, 3) := by decide +kernel
theorem dX8_checkRow_21 : decode cX8_checkRow 21 = .ok (.new 286, 3) := by decide +kernel
theorem dX8_checkRow_24 : decode cX8_checkRow 24 = .ok (.dup, 1) := by decide +kernel
theorem dX8_checkRow_25 : decode cX8_checkRow 25 = .ok (.ldc_w 299, 3) := by decide +kernel
theorem dX8_checkRow_28 : decode cX8_checkRow 28 = .ok (.invokespecial 290, 3) := by decide +kernel
theorem dX8_checkRow_31 : decode cX8_checkRow 31 = .ok (.athrow, 1) := by decide +kernel
theorem dX8_checkRow_32 : decode cX8_checkRow 32 = .ok (.return_, 1) := by decide +kernel
theorem dX8_checkSourceColumn_0 : decode cX8_checkSourceColumn 0 = .ok (.iload_n 2, 1) := by decide +kernel
theorem dX8_checkSourceColumn_1 : decode cX8_checkSourceColumn 1 = .ok (.ifCond .lt 11, 3) := by decide +kernel
theorem dX8_checkSourceColumn_4 : decode cX8_checkSourceColumn 4 = .ok (.iload_n 2, 1) := by decide +kernel
theorem dX8_checkSourceColumn_5 : decode cX8_checkSourceColumn 5 = .ok (.aload_n 1, 1) := by decide +kernel
theorem dX8_checkSourceColumn_6 : decode cX8_checkSourceColumn 6 = .ok (.getfield 169, 3) := by decide +kernel
theorem dX8_checkSourceColumn_9 : decode cX8_checkSourceColumn 9 = .ok (.if_icmp .lt 14, 3) := by decide +kernel
theorem dX8_checkSourceColumn_12 : decode cX8_checkSourceColumn 12 = .ok (.new 286, 3) := by decide +kernel
theorem dX8_checkSourceColumn_15 : decode cX8_checkSourceColumn 15 = .ok (.dup, 1) := by decide +kernel
theorem dX8_checkSourceColumn_16 : decode cX8_checkSourceColumn 16 = .ok (.ldc_w 301, 3) := by decide +kernel
theorem dX8_checkSourceColumn_19 : decode cX8_checkSourceColumn 19 = .ok (.invokespecial 290, 3) := by decide +kernel
theorem dX8_checkSourceColumn_22 : decode cX8_checkSourceColumn 22 = .ok (.athrow, 1) := by decide +kernel
theorem dX8_checkSourceColumn_23 : decode cX8_checkSourceColumn 23 = .ok (.aload_n 0, 1) := by decide +kernel
theorem dX8_checkSourceColumn_24 : decode cX8_checkSourceColumn 24 = .ok (.getfield 32, 3) := by decide +kernel
theorem dX8_checkSourceColumn_27 : decode cX8_checkSourceColumn 27 = .ok (.aload_n 1, 1) := by decide +kernel
theorem dX8_checkSourceColumn_28 : decode cX8_checkSourceColumn 28 = .ok (.getfield 174, 3) := by decide +kernel
theorem dX8_checkSourceColumn_31 : decode cX8_checkSourceColumn 31 = .ok (.iload_n 2, 1) := by decide +kernel
theorem dX8_checkSourceColumn_32 : decode cX8_checkSourceColumn 32 = .ok (.iaload, 1) := by decide +kernel
theorem dX8_checkSourceColumn_33 : decode cX8_checkSourceColumn 33 = .ok (.aaload, 1) := by decide +kernel
theorem dX8_checkSourceColumn_34 : decode cX8_checkSourceColumn 34 = .ok (.iload_n 3, 1) := by decide +kernel
theorem dX8_checkSourceColumn_35 : decode cX8_checkSourceColumn 35 = .ok (.invokestatic 122, 3) := by decide +kernel
theorem dX8_checkSourceColumn_38 : decode cX8_checkSourceColumn 38 = .ok (.return_, 1) := by decide +kernel
theorem dX8_checkPlanStep_0 : decode cX8_checkPlanStep 0 = .ok (.iload_n 1, 1) := by decide +kernel
theorem dX8_checkPlanStep_1 : decode cX8_checkPlanStep 1 = .ok (.ifCond .lt 11, 3) := by decide +kernel
theorem dX8_checkPlanStep_4 : decode cX8_checkPlanStep 4 = .ok (.iload_n 1, 1) := by decide +kernel
theorem dX8_checkPlanStep_5 : decode cX8_checkPlanStep 5 = .ok (.aload_n 0, 1) := by decide +kernel
theorem dX8_checkPlanStep_6 : decode cX8_checkPlanStep 6 = .ok (.getfield 169, 3) := by decide +kernel
theorem dX8_checkPlanStep_9 : decode cX8_checkPlanStep 9 = .ok (.if_icmp .lt 14, 3) := by decide +kernel
theorem dX8_checkPlanStep_12 : decode cX8_checkPlanStep 12 = .ok (.new 286, 3) := by decide +kernel
theorem dX8_checkPlanStep_15 : decode cX8_checkPlanStep 15 = .ok (.dup, 1) := by decide +kernel
theorem dX8_checkPlanStep_16 : decode cX8_checkPlanStep 16 = .ok (.ldc_w 303, 3) := by decide +kernel
theorem dX8_checkPlanStep_19 : decode cX8_checkPlanStep 19 = .ok (.invokespecial 290, 3) := by decide +kernel
theorem dX8_checkPlanStep_22 : decode cX8_checkPlanStep 22 = .ok (.athrow, 1) := by decide +kernel
theorem dX8_checkPlanStep_23 : decode cX8_checkPlanStep 23 = .ok (.return_, 1) := by decide +kernel
theorem dX8_checkConditionRoom_0 : decode cX8_checkConditionRoom 0 = .ok (.aload_n 0, 1) := by decide +kernel
theorem dX8_checkConditionRoom_1 : decode cX8_checkConditionRoom 1 = .ok (.getfield 194, 3) := by decide +kernel
theorem dX8_checkConditionRoom_4 : decode cX8_checkConditionRoom 4 = .ok (.bipush 6, 2) := by decide +kernel
theorem dX8_checkConditionRoom_6 : decode cX8_checkConditionRoom 6 = .ok (.if_icmp .lt 14, 3) := by decide +kernel
theorem dX8_checkConditionRoom_9 : decode cX8_checkConditionRoom 9 = .ok (.new 74, 3) := by decide +kernel
theorem dX8_checkConditionRoom_12 : decode cX8_checkConditionRoom 12 = .ok (.dup, 1) := by decide +kernel
theorem dX8_checkConditionRoom_13 : decode cX8_checkConditionRoom 13 = .ok (.ldc_w 305, 3) := by decide +kernel
theorem dX8_checkConditionRoom_16 : decode cX8_checkConditionRoom 16 = .ok (.invokespecial 78, 3) := by decide +kernel
theorem dX8_checkConditionRoom_19 : decode cX8_checkConditionRoom 19 = .ok (.athrow, 1) := by decide +kernel
theorem dX8_checkConditionRoom_20 : decode cX8_checkConditionRoom 20 = .ok (.return_, 1) := by decide +kernel
theorem dX8_checkSampleStep_0 : decode cX8_checkSampleStep 0 = .ok (.iload_n 0, 1) := by decide +kernel
theorem dX8_checkSampleStep_1 : decode cX8_checkSampleStep 1 = .ok (.iconst 1, 1) := by decide +kernel
theorem dX8_checkSampleStep_2 : decode cX8_checkSampleStep 2 = .ok (.if_icmp .lt 9, 3) := by decide +kernel
theorem dX8_checkSampleStep_5 : decode cX8_checkSampleStep 5 = .ok (.iload_n 0, 1) := by decide +kernel
theorem dX8_checkSampleStep_6 : decode cX8_checkSampleStep 6 = .ok (.bipush 10, 2) := by decide +kernel
theorem dX8_checkSampleStep_8 : decode cX8_checkSampleStep 8 = .ok (.if_icmp .le 14, 3) := by decide +kernel
theorem dX8_checkSampleStep_11 : decode cX8_checkSampleStep 11 = .ok (.new 63, 3) := by decide +kernel
theorem dX8_checkSampleStep_14 : decode cX8_checkSampleStep 14 = .ok (.dup, 1) := by decide +kernel
theorem dX8_checkSampleStep_15 : decode cX8_checkSampleStep 15 = .ok (.ldc_w 307, 3) := by decide +kernel
theorem dX8_checkSampleStep_18 : decode cX8_checkSampleStep 18 = .ok (.invokespecial 67, 3) := by decide +kernel
theorem dX8_checkSampleStep_21 : decode cX8_checkSampleStep 21 = .ok (.athrow, 1) := by decide +kernel
theorem dX8_checkSampleStep_22 : decode cX8_checkSampleStep 22 = .ok (.return_, 1) := by decide +kernel
theorem dX8_runChosenPlan_0 : decode cX8_runChosenPlan 0 = .ok (.aload_n 0, 1) := by decide +kernel
theorem dX8_runChosenPlan_1 : decode cX8_runChosenPlan 1 = .ok (.getfield 44, 3) := by decide +kernel
theorem dX8_runChosenPlan_4 : decode cX8_runChosenPlan 4 = .ok (.aload_n 1, 1) := by decide +kernel
theorem dX8_runChosenPlan_5 : decode cX8_runChosenPlan 5 = .ok (.aload_n 0, 1) := by decide +kernel
theorem dX8_runChosenPlan_6 : decode cX8_runChosenPlan 6 = .ok (.getfield 40, 3) := by decide +kernel
theorem dX8_runChosenPlan_9 : decode cX8_runChosenPlan 9 = .ok (.aload_n 1, 1) := by decide +kernel
theorem dX8_runChosenPlan_10 : decode cX8_runChosenPlan 10 = .ok (.invokevirtual 223, 3) := by decide +kernel
theorem dX8_runChosenPlan_13 : decode cX8_runChosenPlan 13 = .ok (.invokevirtual 309, 3) := by decide +kernel
theorem dX8_runChosenPlan_16 : decode cX8_runChosenPlan 16 = .ok (.return_, 1) := by decide +kernel
theorem dX8_runPlainPlan_0 : decode cX8_runPlainPlan 0 = .ok (.aload_n 0, 1) := by decide +kernel
theorem dX8_runPlainPlan_1 : decode cX8_runPlainPlan 1 = .ok (.getfield 12, 3) := by decide +kernel
theorem dX8_runPlainPlan_4 : decode cX8_runPlainPlan 4 = .ok (.aload_n 1, 1) := by decide +kernel
theorem dX8_runPlainPlan_5 : decode cX8_runPlainPlan 5 = .ok (.getfield 169, 3) := by decide +kernel
theorem dX8_runPlainPlan_8 : decode cX8_runPlainPlan 8 = .ok (.invokevirtual 313, 3) := by decide +kernel
theorem dX8_runPlainPlan_11 : decode cX8_runPlainPlan 11 = .ok (.aload_n 0, 1) := by decide +kernel
theorem dX8_runPlainPlan_12 : decode cX8_runPlainPlan 12 = .ok (.getfield 44, 3) := by decide +kernel
theorem dX8_runPlainPlan_15 : decode cX8_runPlainPlan 15 = .ok (.aload_n 1, 1) := by decide +kernel
theorem dX8_runPlainPlan_16 : decode cX8_runPlainPlan 16 = .ok (.aload_n 0, 1) := by decide +kernel
theorem dX8_runPlainPlan_17 : decode cX8_runPlainPlan 17 = .ok (.getfield 12, 3) := by decide +kernel
theorem dX8_runPlainPlan_20 : decode cX8_runPlainPlan 20 = .ok (.invokevirtual 309, 3) := by decide +kernel
theorem dX8_runPlainPlan_23 : decode cX8_runPlainPlan 23 = .ok (.return_, 1) := by decide +kernel
