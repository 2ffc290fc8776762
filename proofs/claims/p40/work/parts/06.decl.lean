theorem dL_drawn_0 : decode cL_drawn 0 = .ok (.iload_n 1, 1) := by decide +kernel
theorem dL_drawn_1 : decode cL_drawn 1 = .ok (.aload_n 0, 1) := by decide +kernel
theorem dL_drawn_2 : decode cL_drawn 2 = .ok (.arraylength, 1) := by decide +kernel
theorem dL_drawn_3 : decode cL_drawn 3 = .ok (.if_icmp .ge 9, 3) := by decide +kernel
theorem dL_drawn_6 : decode cL_drawn 6 = .ok (.aload_n 0, 1) := by decide +kernel
theorem dL_drawn_7 : decode cL_drawn 7 = .ok (.iload_n 1, 1) := by decide +kernel
theorem dL_drawn_8 : decode cL_drawn 8 = .ok (.iaload, 1) := by decide +kernel
theorem dL_drawn_9 : decode cL_drawn 9 = .ok (.goto 12, 3) := by decide +kernel
theorem dL_drawn_12 : decode cL_drawn 12 = .ok (.sipush 12421, 3) := by decide +kernel
theorem dL_drawn_15 : decode cL_drawn 15 = .ok (.iload_n 1, 1) := by decide +kernel
theorem dL_drawn_16 : decode cL_drawn 16 = .ok (.imul, 1) := by decide +kernel
theorem dL_drawn_17 : decode cL_drawn 17 = .ok (.sipush 9019, 3) := by decide +kernel
theorem dL_drawn_20 : decode cL_drawn 20 = .ok (.iadd, 1) := by decide +kernel
theorem dL_drawn_21 : decode cL_drawn 21 = .ok (.istore_n 2, 1) := by decide +kernel
theorem dL_drawn_22 : decode cL_drawn 22 = .ok (.iload_n 2, 1) := by decide +kernel
theorem dL_drawn_23 : decode cL_drawn 23 = .ok (.ldc 7, 2) := by decide +kernel
theorem dL_drawn_25 : decode cL_drawn 25 = .ok (.iand, 1) := by decide +kernel
theorem dL_drawn_26 : decode cL_drawn 26 = .ok (.ireturn, 1) := by decide +kernel
theorem dL_insert_0 : decode cL_insert 0 = .ok (.aload_n 0, 1) := by decide +kernel
theorem dL_insert_1 : decode cL_insert 1 = .ok (.iload_n 1, 1) := by decide +kernel
theorem dL_insert_2 : decode cL_insert 2 = .ok (.iload_n 2, 1) := by decide +kernel
theorem dL_insert_3 : decode cL_insert 3 = .ok (.iload_n 3, 1) := by decide +kernel
theorem dL_insert_4 : decode cL_insert 4 = .ok (.iload 4, 2) := by decide +kernel
theorem dL_insert_6 : decode cL_insert 6 = .ok (.invokevirtual 8, 3) := by decide +kernel
theorem dL_insert_9 : decode cL_insert 9 = .ok (.ireturn, 1) := by decide +kernel
theorem dL_insert_10 : decode cL_insert 10 = .ok (.astore 5, 2) := by decide +kernel
theorem dL_insert_12 : decode cL_insert 12 = .ok (.bipush (-8), 2) := by decide +kernel
theorem dL_insert_14 : decode cL_insert 14 = .ok (.ireturn, 1) := by decide +kernel
theorem dL_insert_15 : decode cL_insert 15 = .ok (.astore 5, 2) := by decide +kernel
theorem dL_insert_17 : decode cL_insert 17 = .ok (.bipush (-8), 2) := by decide +kernel
theorem dL_insert_19 : decode cL_insert 19 = .ok (.ireturn, 1) := by decide +kernel
theorem dL_insert_20 : decode cL_insert 20 = .ok (.astore 5, 2) := by decide +kernel
theorem dL_insert_22 : decode cL_insert 22 = .ok (.bipush (-8), 2) := by decide +kernel
theorem dL_insert_24 : decode cL_insert 24 = .ok (.ireturn, 1) := by decide +kernel
theorem dL_add_0 : decode cL_add 0 = .ok (.iload_n 1, 1) := by decide +kernel
theorem dL_add_1 : decode cL_add 1 = .ok (.ifCond .ne 11, 3) := by decide +kernel
theorem dL_add_4 : decode cL_add 4 = .ok (.aload_n 0, 1) := by decide +kernel
theorem dL_add_5 : decode cL_add 5 = .ok (.iload_n 2, 1) := by decide +kernel
theorem dL_add_6 : decode cL_add 6 = .ok (.invokevirtual 20, 3) := by decide +kernel
theorem dL_add_9 : decode cL_add 9 = .ok (.goto 47, 3) := by decide +kernel
theorem dL_add_12 : decode cL_add 12 = .ok (.iload_n 1, 1) := by decide +kernel
theorem dL_add_13 : decode cL_add 13 = .ok (.iconst 1, 1) := by decide +kernel
theorem dL_add_14 : decode cL_add 14 = .ok (.if_icmp .ne 11, 3) := by decide +kernel
theorem dL_add_17 : decode cL_add 17 = .ok (.aload_n 0, 1) := by decide +kernel
theorem dL_add_18 : decode cL_add 18 = .ok (.iload_n 2, 1) := by decide +kernel
theorem dL_add_19 : decode cL_add 19 = .ok (.invokevirtual 24, 3) := by decide +kernel
theorem dL_add_22 : decode cL_add 22 = .ok (.goto 34, 3) := by decide +kernel
theorem dL_add_25 : decode cL_add 25 = .ok (.iload_n 1, 1) := by decide +kernel
theorem dL_add_26 : decode cL_add 26 = .ok (.iconst 2, 1) := by decide +kernel
theorem dL_add_27 : decode cL_add 27 = .ok (.if_icmp .ne 11, 3) := by decide +kernel
theorem dL_add_30 : decode cL_add 30 = .ok (.aload_n 0, 1) := by decide +kernel
theorem dL_add_31 : decode cL_add 31 = .ok (.iload_n 2, 1) := by decide +kernel
theorem dL_add_32 : decode cL_add 32 = .ok (.invokevirtual 27, 3) := by decide +kernel
theorem dL_add_35 : decode cL_add 35 = .ok (.goto 21, 3) := by decide +kernel
theorem dL_add_38 : decode cL_add 38 = .ok (.iload_n 1, 1) := by decide +kernel
theorem dL_add_39 : decode cL_add 39 = .ok (.iconst 3, 1) := by decide +kernel
theorem dL_add_40 : decode cL_add 40 = .ok (.if_icmp .ne 11, 3) := by decide +kernel
theorem dL_add_43 : decode cL_add 43 = .ok (.aload_n 0, 1) := by decide +kernel
theorem dL_add_44 : decode cL_add 44 = .ok (.iload_n 2, 1) := by decide +kernel
theorem dL_add_45 : decode cL_add 45 = .ok (.invokevirtual 30, 3) := by decide +kernel
theorem dL_add_48 : decode cL_add 48 = .ok (.goto 8, 3) := by decide +kernel
theorem dL_add_51 : decode cL_add 51 = .ok (.aload_n 0, 1) := by decide +kernel
theorem dL_add_52 : decode cL_add 52 = .ok (.iload_n 2, 1) := by decide +kernel
theorem dL_add_53 : decode cL_add 53 = .ok (.invokevirtual 33, 3) := by decide +kernel
theorem dL_add_56 : decode cL_add 56 = .ok (.ireturn, 1) := by decide +kernel
theorem dL_add_57 : decode cL_add 57 = .ok (.astore_n 3, 1) := by decide +kernel
theorem dL_add_58 : decode cL_add 58 = .ok (.bipush (-8), 2) := by decide +kernel
theorem dL_add_60 : decode cL_add 60 = .ok (.ireturn, 1) := by decide +kernel
theorem dL_add_61 : decode cL_add 61 = .ok (.astore_n 3, 1) := by decide +kernel
theorem dL_add_62 : decode cL_add 62 = .ok (.bipush (-8), 2) := by decide +kernel
theorem dL_add_64 : decode cL_add 64 = .ok (.ireturn, 1) := by decide +kernel
theorem dL_add_65 : decode cL_add 65 = .ok (.astore_n 3, 1) := by decide +kernel
theorem dL_add_66 : decode cL_add 66 = .ok (.bipush (-8), 2) := by decide +kernel
theorem dL_add_68 : decode cL_add 68 = .ok (.ireturn, 1) := by decide +kernel
theorem dL_does_0 : decode cL_does 0 = .ok (.iload_n 1, 1) := by decide +kernel
theorem dL_does_1 : decode cL_does 1 = .ok (.ifCond .ne 12, 3) := by decide +kernel
theorem dL_does_4 : decode cL_does 4 = .ok (.aload_n 0, 1) := by decide +kernel
theorem dL_does_5 : decode cL_does 5 = .ok (.iload_n 2, 1) := by decide +kernel
theorem dL_does_6 : decode cL_does 6 = .ok (.iload_n 3, 1) := by decide +kernel
theorem dL_does_7 : decode cL_does 7 = .ok (.invokevirtual 36, 3) := by decide +kernel
theorem dL_does_10 : decode cL_does 10 = .ok (.goto 81, 3) := by decide +kernel
theorem dL_does_13 : decode cL_does 13 = .ok (.iload_n 1, 1) := by decide +kernel
theorem dL_does_14 : decode cL_does 14 = .ok (.iconst 1, 1) := by decide +kernel
theorem dL_does_15 : decode cL_does 15 = .ok (.if_icmp .ne 12, 3) := by decide +kernel
theorem dL_does_18 : decode cL_does 18 = .ok (.aload_n 0, 1) := by decide +kernel
theorem dL_does_19 : decode cL_does 19 = .ok (.iload_n 2, 1) := by decide +kernel
theorem dL_does_20 : decode cL_does 20 = .ok (.iload_n 3, 1) := by decide +kernel
theorem dL_does_21 : decode cL_does 21 = .ok (.invokevirtual 40, 3) := by decide +kernel
theorem dL_does_24 : decode cL_does 24 = .ok (.goto 67, 3) := by decide +kernel
theorem dL_does_27 : decode cL_does 27 = .ok (.iload_n 1, 1) := by decide +kernel
theorem dL_does_28 : decode cL_does 28 = .ok (.iconst 2, 1) := by decide +kernel
theorem dL_does_29 : decode cL_does 29 = .ok (.if_icmp .ne 12, 3) := by decide +kernel
theorem dL_does_32 : decode cL_does 32 = .ok (.aload_n 0, 1) := by decide +kernel
theorem dL_does_33 : decode cL_does 33 = .ok (.iload_n 2, 1) := by decide +kernel
theorem dL_does_34 : decode cL_does 34 = .ok (.iload_n 3, 1) := by decide +kernel
theorem dL_does_35 : decode cL_does 35 = .ok (.invokevirtual 43, 3) := by decide +kernel
theorem dL_does_38 : decode cL_does 38 = .ok (.goto 53, 3) := by decide +kernel
theorem dL_does_41 : decode cL_does 41 = .ok (.iload_n 1, 1) := by decide +kernel
theorem dL_does_42 : decode cL_does 42 = .ok (.iconst 5, 1) := by decide +kernel
theorem dL_does_43 : decode cL_does 43 = .ok (.if_icmp .ge 24, 3) := by decide +kernel
theorem dL_does_46 : decode cL_does 46 = .ok (.aload_n 0, 1) := by decide +kernel
theorem dL_does_47 : decode cL_does 47 = .ok (.iload_n 2, 1) := by decide +kernel
theorem dL_does_48 : decode cL_does 48 = .ok (.iload_n 1, 1) := by decide +kernel
theorem dL_does_49 : decode cL_does 49 = .ok (.iconst 3, 1) := by decide +kernel
theorem dL_does_50 : decode cL_does 50 = .ok (.if_icmp .ne 7, 3) := by decide +kernel
theorem dL_does_53 : decode cL_does 53 = .ok (.iconst 1, 1) := by decide +kernel
theorem dL_does_54 : decode cL_does 54 = .ok (.goto 4, 3) := by decide +kernel
theorem dL_does_57 : decode cL_does 57 = .ok (.iconst 0, 1) := by decide +kernel
theorem dL_does_58 : decode cL_does 58 = .ok (.invokevirtual 46, 3) := by decide +kernel
theorem dL_does_61 : decode cL_does 61 = .ok (.ifCond .eq 29, 3) := by decide +kernel
theorem dL_does_64 : decode cL_does 64 = .ok (.goto 22, 3) := by decide +kernel
theorem dL_does_67 : decode cL_does 67 = .ok (.aload_n 0, 1) := by decide +kernel
theorem dL_does_68 : decode cL_does 68 = .ok (.iload_n 2, 1) := by decide +kernel
theorem dL_does_69 : decode cL_does 69 = .ok (.iload_n 3, 1) := by decide +kernel
theorem dL_does_70 : decode cL_does 70 = .ok (.iload_n 1, 1) := by decide +kernel
theorem dL_does_71 : decode cL_does 71 = .ok (.iconst 5, 1) := by decide +kernel
theorem dL_does_72 : decode cL_does 72 = .ok (.if_icmp .ne 7, 3) := by decide +kernel
theorem dL_does_75 : decode cL_does 75 = .ok (.iconst 1, 1) := by decide +kernel
theorem dL_does_76 : decode cL_does 76 = .ok (.goto 4, 3) := by decide +kernel
theorem dL_does_79 : decode cL_does 79 = .ok (.iconst 0, 1) := by decide +kernel
theorem dL_does_80 : decode cL_does 80 = .ok (.invokevirtual 50, 3) := by decide +kernel
theorem dL_does_83 : decode cL_does 83 = .ok (.ifCond .eq 7, 3) := by decide +kernel
theorem dL_does_86 : decode cL_does 86 = .ok (.iconst 1, 1) := by decide +kernel
theorem dL_does_87 : decode cL_does 87 = .ok (.goto 4, 3) := by decide +kernel
theorem dL_does_90 : decode cL_does 90 = .ok (.iconst 0, 1) := by decide +kernel
theorem dL_does_91 : decode cL_does 91 = .ok (.ireturn, 1) := by decide +kernel
theorem dL_does_92 : decode cL_does 92 = .ok (.astore 4, 2) := by decide +kernel
theorem dL_does_94 : decode cL_does 94 = .ok (.bipush (-8), 2) := by decide +kernel
theorem dL_does_96 : decode cL_does 96 = .ok (.ireturn, 1) := by decide +kernel
theorem dL_does_97 : decode cL_does 97 = .ok (.astore 4, 2) := by decide +kernel
theorem dL_does_99 : decode cL_does 99 = .ok (.bipush (-8), 2) := by decide +kernel
theorem dL_does_101 : decode cL_does 101 = .ok (.ireturn, 1) := by decide +kernel
theorem dL_does_102 : decode cL_does 102 = .ok (.astore 4, 2) := by decide +kernel
theorem dL_does_104 : decode cL_does 104 = .ok (.bipush (-8), 2) := by decide +kernel
theorem dL_does_106 : decode cL_does 106 = .ok (.ireturn, 1) := by decide +kernel
theorem dL_ask_0 : decode cL_ask 0 = .ok (.iload 4, 2) := by decide +kernel
theorem dL_ask_2 : decode cL_ask 2 = .ok (.iconst 3, 1) := by decide +kernel
theorem dL_ask_3 : decode cL_ask 3 = .ok (.if_icmp .ne 17, 3) := by decide +kernel
theorem dL_ask_6 : decode cL_ask 6 = .ok (.aload_n 0, 1) := by decide +kernel
theorem dL_ask_7 : decode cL_ask 7 = .ok (.iload_n 1, 1) := by decide +kernel
theorem dL_ask_8 : decode cL_ask 8 = .ok (.iload_n 2, 1) := by decide +kernel
theorem dL_ask_9 : decode cL_ask 9 = .ok (.iload_n 3, 1) := by decide +kernel
theorem dL_ask_10 : decode cL_ask 10 = .ok (.iload 5, 2) := by decide +kernel
theorem dL_ask_12 : decode cL_ask 12 = .ok (.iload 6, 2) := by decide +kernel
theorem dL_ask_14 : decode cL_ask 14 = .ok (.invokevirtual 54, 3) := by decide +kernel
theorem dL_ask_17 : decode cL_ask 17 = .ok (.goto 14, 3) := by decide +kernel
theorem dL_ask_20 : decode cL_ask 20 = .ok (.aload_n 0, 1) := by decide +kernel
theorem dL_ask_21 : decode cL_ask 21 = .ok (.iload_n 1, 1) := by decide +kernel
theorem dL_ask_22 : decode cL_ask 22 = .ok (.iload_n 2, 1) := by decide +kernel
theorem dL_ask_23 : decode cL_ask 23 = .ok (.iload_n 3, 1) := by decide +kernel
theorem dL_ask_24 : decode cL_ask 24 = .ok (.iload 4, 2) := by decide +kernel
theorem dL_ask_26 : decode cL_ask 26 = .ok (.iload 5, 2) := by decide +kernel
theorem dL_ask_28 : decode cL_ask 28 = .ok (.invokevirtual 58, 3) := by decide +kernel
theorem dL_ask_31 : decode cL_ask 31 = .ok (.ireturn, 1) := by decide +kernel
theorem dL_ask_32 : decode cL_ask 32 = .ok (.astore 7, 2) := by decide +kernel
theorem dL_ask_34 : decode cL_ask 34 = .ok (.bipush (-8), 2) := by decide +kernel
theorem dL_ask_36 : decode cL_ask 36 = .ok (.ireturn, 1) := by decide +kernel
theorem dL_ask_37 : decode cL_ask 37 = .ok (.astore 7, 2) := by decide +kernel
theorem dL_ask_39 : decode cL_ask 39 = .ok (.bipush (-8), 2) := by decide +kernel
theorem dL_ask_41 : decode cL_ask 41 = .ok (.ireturn, 1) := by decide +kernel
theorem dL_ask_42 : decode cL_ask 42 = .ok (.astore 7, 2) := by decide +kernel
theorem dL_ask_44 : decode cL_ask 44 = .ok (.bipush (-8), 2) := by decide +kernel
theorem dL_ask_46 : decode cL_ask 46 = .ok (.ireturn, 1) := by decide +kernel
theorem dL_sums_0 : decode cL_sums 0 = .ok (.aload_n 0, 1) := by decide +kernel
theorem dL_sums_1 : decode cL_sums 1 = .ok (.iload_n 1, 1) := by decide +kernel
theorem dL_sums_2 : decode cL_sums 2 = .ok (.iload_n 2, 1) := by decide +kernel
theorem dL_sums_3 : decode cL_sums 3 = .ok (.iload_n 3, 1) := by decide +kernel
theorem dL_sums_4 : decode cL_sums 4 = .ok (.invokevirtual 61, 3) := by decide +kernel
theorem dL_sums_7 : decode cL_sums 7 = .ok (.goto 7, 3) := by decide +kernel
theorem dL_sums_10 : decode cL_sums 10 = .ok (.astore 4, 2) := by decide +kernel
theorem dL_sums_12 : decode cL_sums 12 = .ok (.iconst 0, 1) := by decide +kernel
theorem dL_sums_13 : decode cL_sums 13 = .ok (.ireturn, 1) := by decide +kernel
theorem dL_sums_14 : decode cL_sums 14 = .ok (.iconst 1, 1) := by decide +kernel
theorem dL_sums_15 : decode cL_sums 15 = .ok (.ireturn, 1) := by decide +kernel
theorem dL_of_0 : decode cL_of 0 = .ok (.iload_n 1, 1) := by decide +kernel
theorem dL_of_1 : decode cL_of 1 = .ok (.ifCond .ne 11, 3) := by decide +kernel
theorem dL_of_4 : decode cL_of 4 = .ok (.aload_n 0, 1) := by decide +kernel
theorem dL_of_5 : decode cL_of 5 = .ok (.iload_n 2, 1) := by decide +kernel
theorem dL_of_6 : decode cL_of 6 = .ok (.invokevirtual 65, 3) := by decide +kernel
theorem dL_of_9 : decode cL_of 9 = .ok (.goto 173, 3) := by decide +kernel
theorem dL_of_12 : decode cL_of 12 = .ok (.iload_n 1, 1) := by decide +kernel
theorem dL_of_13 : decode cL_of 13 = .ok (.iconst 1, 1) := by decide +kernel
theorem dL_of_14 : decode cL_of 14 = .ok (.if_icmp .ne 11, 3) := by decide +kernel
theorem dL_of_17 : decode cL_of 17 = .ok (.aload_n 0, 1) := by decide +kernel
theorem dL_of_18 : decode cL_of 18 = .ok (.iload_n 2, 1) := by decide +kernel
theorem dL_of_19 : decode cL_of 19 = .ok (.invokevirtual 68, 3) := by decide +kernel
theorem dL_of_22 : decode cL_of 22 = .ok (.goto 160, 3) := by decide +kernel
theorem dL_of_25 : decode cL_of 25 = .ok (.iload_n 1, 1) := by decide +kernel
theorem dL_of_26 : decode cL_of 26 = .ok (.iconst 2, 1) := by decide +kernel
theorem dL_of_27 : decode cL_of 27 = .ok (.if_icmp .ne 19, 3) := by decide +kernel
theorem dL_of_30 : decode cL_of 30 = .ok (.aload_n 0, 1) := by decide +kernel
theorem dL_of_31 : decode cL_of 31 = .ok (.iload_n 2, 1) := by decide +kernel
theorem dL_of_32 : decode cL_of 32 = .ok (.invokevirtual 71, 3) := by decide +kernel
theorem dL_of_35 : decode cL_of 35 = .ok (.ifCond .eq 7, 3) := by decide +kernel
theorem dL_of_38 : decode cL_of 38 = .ok (.iconst 1, 1) := by decide +kernel
theorem dL_of_39 : decode cL_of 39 = .ok (.goto 143, 3) := by decide +kernel
theorem dL_of_42 : decode cL_of 42 = .ok (.iconst 0, 1) := by decide +kernel
theorem dL_of_43 : decode cL_of 43 = .ok (.goto 139, 3) := by decide +kernel
theorem dL_of_46 : decode cL_of 46 = .ok (.iload_n 1, 1) := by decide +kernel
theorem dL_of_47 : decode cL_of 47 = .ok (.iconst 3, 1) := by decide +kernel
theorem dL_of_48 : decode cL_of 48 = .ok (.if_icmp .ne 19, 3) := by decide +kernel
theorem dL_of_51 : decode cL_of 51 = .ok (.aload_n 0, 1) := by decide +kernel
theorem dL_of_52 : decode cL_of 52 = .ok (.iload_n 2, 1) := by decide +kernel
theorem dL_of_53 : decode cL_of 53 = .ok (.invokevirtual 75, 3) := by decide +kernel
theorem dL_of_56 : decode cL_of 56 = .ok (.ifCond .eq 7, 3) := by decide +kernel
theorem dL_of_59 : decode cL_of 59 = .ok (.iconst 1, 1) := by decide +kernel
theorem dL_of_60 : decode cL_of 60 = .ok (.goto 122, 3) := by decide +kernel
theorem dL_of_63 : decode cL_of 63 = .ok (.iconst 0, 1) := by decide +kernel
theorem dL_of_64 : decode cL_of 64 = .ok (.goto 118, 3) := by decide +kernel
theorem dL_of_67 : decode cL_of 67 = .ok (.iload_n 1, 1) := by decide +kernel
theorem dL_of_68 : decode cL_of 68 = .ok (.iconst 4, 1) := by decide +kernel
theorem dL_of_69 : decode cL_of 69 = .ok (.if_icmp .ne 11, 3) := by decide +kernel
theorem dL_of_72 : decode cL_of 72 = .ok (.aload_n 0, 1) := by decide +kernel
theorem dL_of_73 : decode cL_of 73 = .ok (.iload_n 2, 1) := by decide +kernel
theorem dL_of_74 : decode cL_of 74 = .ok (.invokevirtual 78, 3) := by decide +kernel
theorem dL_of_77 : decode cL_of 77 = .ok (.goto 105, 3) := by decide +kernel
theorem dL_of_80 : decode cL_of 80 = .ok (.iload_n 1, 1) := by decide +kernel
theorem dL_of_81 : decode cL_of 81 = .ok (.iconst 5, 1) := by decide +kernel
theorem dL_of_82 : decode cL_of 82 = .ok (.if_icmp .ne 11, 3) := by decide +kernel
theorem dL_of_85 : decode cL_of 85 = .ok (.aload_n 0, 1) := by decide +kernel
theorem dL_of_86 : decode cL_of 86 = .ok (.iload_n 2, 1) := by decide +kernel
theorem dL_of_87 : decode cL_of 87 = .ok (.invokevirtual 81, 3) := by decide +kernel
theorem dL_of_90 : decode cL_of 90 = .ok (.goto 92, 3) := by decide +kernel
theorem dL_of_93 : decode cL_of 93 = .ok (.iload_n 1, 1) := by decide +kernel
theorem dL_of_94 : decode cL_of 94 = .ok (.bipush 6, 2) := by decide +kernel
theorem dL_of_96 : decode cL_of 96 = .ok (.if_icmp .ne 11, 3) := by decide +kernel
theorem dL_of_99 : decode cL_of 99 = .ok (.aload_n 0, 1) := by decide +kernel
theorem dL_of_100 : decode cL_of 100 = .ok (.iload_n 2, 1) := by decide +kernel
theorem dL_of_101 : decode cL_of 101 = .ok (.invokevirtual 84, 3) := by decide +kernel
theorem dL_of_104 : decode cL_of 104 = .ok (.goto 78, 3) := by decide +kernel
theorem dL_of_107 : decode cL_of 107 = .ok (.iload_n 1, 1) := by decide +kernel
theorem dL_of_108 : decode cL_of 108 = .ok (.bipush 7, 2) := by decide +kernel
theorem dL_of_110 : decode cL_of 110 = .ok (.if_icmp .ne 11, 3) := by decide +kernel
theorem dL_of_113 : decode cL_of 113 = .ok (.aload_n 0, 1) := by decide +kernel
theorem dL_of_114 : decode cL_of 114 = .ok (.iload_n 2, 1) := by decide +kernel
theorem dL_of_115 : decode cL_of 115 = .ok (.invokevirtual 87, 3) := by decide +kernel
theorem dL_of_118 : decode cL_of 118 = .ok (.goto 64, 3) := by decide +kernel
theorem dL_of_121 : decode cL_of 121 = .ok (.iload_n 1, 1) := by decide +kernel
theorem dL_of_122 : decode cL_of 122 = .ok (.bipush 8, 2) := by decide +kernel
theorem dL_of_124 : decode cL_of 124 = .ok (.if_icmp .ne 11, 3) := by decide +kernel
theorem dL_of_127 : decode cL_of 127 = .ok (.aload_n 0, 1) := by decide +kernel
theorem dL_of_128 : decode cL_of 128 = .ok (.iload_n 2, 1) := by decide +kernel
theorem dL_of_129 : decode cL_of 129 = .ok (.invokevirtual 90, 3) := by decide +kernel
theorem dL_of_132 : decode cL_of 132 = .ok (.goto 50, 3) := by decide +kernel
theorem dL_of_135 : decode cL_of 135 = .ok (.iload_n 1, 1) := by decide +kernel
theorem dL_of_136 : decode cL_of 136 = .ok (.bipush 9, 2) := by decide +kernel
theorem dL_of_138 : decode cL_of 138 = .ok (.if_icmp .ne 11, 3) := by decide +kernel
theorem dL_of_141 : decode cL_of 141 = .ok (.aload_n 0, 1) := by decide +kernel
theorem dL_of_142 : decode cL_of 142 = .ok (.iload_n 2, 1) := by decide +kernel
theorem dL_of_143 : decode cL_of 143 = .ok (.invokevirtual 93, 3) := by decide +kernel
theorem dL_of_146 : decode cL_of 146 = .ok (.goto 36, 3) := by decide +kernel
theorem dL_of_149 : decode cL_of 149 = .ok (.iload_n 1, 1) := by decide +kernel
theorem dL_of_150 : decode cL_of 150 = .ok (.bipush 10, 2) := by decide +kernel
theorem dL_of_152 : decode cL_of 152 = .ok (.if_icmp .ne 11, 3) := by decide +kernel
theorem dL_of_155 : decode cL_of 155 = .ok (.aload_n 0, 1) := by decide +kernel
theorem dL_of_156 : decode cL_of 156 = .ok (.iload_n 2, 1) := by decide +kernel
theorem dL_of_157 : decode cL_of 157 = .ok (.invokevirtual 96, 3) := by decide +kernel
theorem dL_of_160 : decode cL_of 160 = .ok (.goto 22, 3) := by decide +kernel
theorem dL_of_163 : decode cL_of 163 = .ok (.iload_n 1, 1) := by decide +kernel
theorem dL_of_164 : decode cL_of 164 = .ok (.bipush 11, 2) := by decide +kernel
theorem dL_of_166 : decode cL_of 166 = .ok (.if_icmp .ne 11, 3) := by decide +kernel
theorem dL_of_169 : decode cL_of 169 = .ok (.aload_n 0, 1) := by decide +kernel
theorem dL_of_170 : decode cL_of 170 = .ok (.iload_n 2, 1) := by decide +kernel
theorem dL_of_171 : decode cL_of 171 = .ok (.invokevirtual 99, 3) := by decide +kernel
theorem dL_of_174 : decode cL_of 174 = .ok (.goto 8, 3) := by decide +kernel
theorem dL_of_177 : decode cL_of 177 = .ok (.aload_n 0, 1) := by decide +kernel
theorem dL_of_178 : decode cL_of 178 = .ok (.iload_n 2, 1) := by decide +kernel
theorem dL_of_179 : decode cL_of 179 = .ok (.invokevirtual 102, 3) := by decide +kernel
theorem dL_of_182 : decode cL_of 182 = .ok (.ireturn, 1) := by decide +kernel
theorem dL_of_183 : decode cL_of 183 = .ok (.astore_n 3, 1) := by decide +kernel
theorem dL_of_184 : decode cL_of 184 = .ok (.bipush (-8), 2) := by decide +kernel
theorem dL_of_186 : decode cL_of 186 = .ok (.ireturn, 1) := by decide +kernel
theorem dL_at_0 : decode cL_at 0 = .ok (.iload_n 1, 1) := by decide +kernel
theorem dL_at_1 : decode cL_at 1 = .ok (.ifCond .ne 12, 3) := by decide +kernel
theorem dL_at_4 : decode cL_at 4 = .ok (.aload_n 0, 1) := by decide +kernel
theorem dL_at_5 : decode cL_at 5 = .ok (.iload_n 2, 1) := by decide +kernel
theorem dL_at_6 : decode cL_at 6 = .ok (.iload_n 3, 1) := by decide +kernel
theorem dL_at_7 : decode cL_at 7 = .ok (.invokevirtual 105, 3) := by decide +kernel
theorem dL_at_10 : decode cL_at 10 = .ok (.goto 51, 3) := by decide +kernel
theorem dL_at_13 : decode cL_at 13 = .ok (.iload_n 1, 1) := by decide +kernel
theorem dL_at_14 : decode cL_at 14 = .ok (.iconst 1, 1) := by decide +kernel
theorem dL_at_15 : decode cL_at 15 = .ok (.if_icmp .ne 12, 3) := by decide +kernel
theorem dL_at_18 : decode cL_at 18 = .ok (.aload_n 0, 1) := by decide +kernel
theorem dL_at_19 : decode cL_at 19 = .ok (.iload_n 2, 1) := by decide +kernel
theorem dL_at_20 : decode cL_at 20 = .ok (.iload_n 3, 1) := by decide +kernel
theorem dL_at_21 : decode cL_at 21 = .ok (.invokevirtual 108, 3) := by decide +kernel
theorem dL_at_24 : decode cL_at 24 = .ok (.goto 37, 3) := by decide +kernel
theorem dL_at_27 : decode cL_at 27 = .ok (.iload_n 1, 1) := by decide +kernel
theorem dL_at_28 : decode cL_at 28 = .ok (.iconst 2, 1) := by decide +kernel
theorem dL_at_29 : decode cL_at 29 = .ok (.if_icmp .ne 12, 3) := by decide +kernel
theorem dL_at_32 : decode cL_at 32 = .ok (.aload_n 0, 1) := by decide +kernel
theorem dL_at_33 : decode cL_at 33 = .ok (.iload_n 2, 1) := by decide +kernel
theorem dL_at_34 : decode cL_at 34 = .ok (.iload_n 3, 1) := by decide +kernel
theorem dL_at_35 : decode cL_at 35 = .ok (.invokevirtual 111, 3) := by decide +kernel
theorem dL_at_38 : decode cL_at 38 = .ok (.goto 23, 3) := by decide +kernel
theorem dL_at_41 : decode cL_at 41 = .ok (.iload_n 1, 1) := by decide +kernel
theorem dL_at_42 : decode cL_at 42 = .ok (.iconst 3, 1) := by decide +kernel
theorem dL_at_43 : decode cL_at 43 = .ok (.if_icmp .ne 12, 3) := by decide +kernel
theorem dL_at_46 : decode cL_at 46 = .ok (.aload_n 0, 1) := by decide +kernel
theorem dL_at_47 : decode cL_at 47 = .ok (.iload_n 2, 1) := by decide +kernel
theorem dL_at_48 : decode cL_at 48 = .ok (.iload_n 3, 1) := by decide +kernel
theorem dL_at_49 : decode cL_at 49 = .ok (.invokevirtual 114, 3) := by decide +kernel
theorem dL_at_52 : decode cL_at 52 = .ok (.goto 9, 3) := by decide +kernel
theorem dL_at_55 : decode cL_at 55 = .ok (.aload_n 0, 1) := by decide +kernel
theorem dL_at_56 : decode cL_at 56 = .ok (.iload_n 2, 1) := by decide +kernel
theorem dL_at_57 : decode cL_at 57 = .ok (.iload_n 3, 1) := by decide +kernel
theorem dL_at_58 : decode cL_at 58 = .ok (.invokevirtual 117, 3) := by decide +kernel
theorem dL_at_61 : decode cL_at 61 = .ok (.ireturn, 1) := by decide +kernel
theorem dL_at_62 : decode cL_at 62 = .ok (.astore 4, 2) := by decide +kernel
theorem dL_at_64 : decode cL_at 64 = .ok (.bipush (-8), 2) := by decide +kernel
theorem dL_at_66 : decode cL_at 66 = .ok (.ireturn, 1) := by decide +kernel
theorem dL_value_0 : decode cL_value 0 = .ok (.aload_n 0, 1) := by decide +kernel
theorem dL_value_1 : decode cL_value 1 = .ok (.iload_n 1, 1) := by decide +kernel
theorem dL_value_2 : decode cL_value 2 = .ok (.iload_n 2, 1) := by decide +kernel
theorem dL_value_3 : decode cL_value 3 = .ok (.iload_n 3, 1) := by decide +kernel
theorem dL_value_4 : decode cL_value 4 = .ok (.invokevirtual 120, 3) := by decide +kernel
theorem dL_value_7 : decode cL_value 7 = .ok (.ireturn, 1) := by decide +kernel
theorem dL_value_8 : decode cL_value 8 = .ok (.astore 4, 2) := by decide +kernel
theorem dL_value_10 : decode cL_value 10 = .ok (.bipush (-8), 2) := by decide +kernel
theorem dL_value_12 : decode cL_value 12 = .ok (.ireturn, 1) := by decide +kernel
theorem dL_same_0 : decode cL_same 0 = .ok (.iload 4, 2) := by decide +kernel
theorem dL_same_2 : decode cL_same 2 = .ok (.iconst 3, 1) := by decide +kernel
theorem dL_same_3 : decode cL_same 3 = .ok (.irem, 1) := by decide +kernel
theorem dL_same_4 : decode cL_same 4 = .ok (.istore 6, 2) := by decide +kernel
theorem dL_same_6 : decode cL_same 6 = .ok (.iload 4, 2) := by decide +kernel
theorem dL_same_8 : decode cL_same 8 = .ok (.iconst 3, 1) := by decide +kernel
theorem dL_same_9 : decode cL_same 9 = .ok (.idiv, 1) := by decide +kernel
theorem dL_same_10 : decode cL_same 10 = .ok (.aload_n 2, 1) := by decide +kernel
theorem dL_same_11 : decode cL_same 11 = .ok (.iload 6, 2) := by decide +kernel
theorem dL_same_13 : decode cL_same 13 = .ok (.iaload, 1) := by decide +kernel
theorem dL_same_14 : decode cL_same 14 = .ok (.irem, 1) := by decide +kernel
theorem dL_same_15 : decode cL_same 15 = .ok (.istore 7, 2) := by decide +kernel
theorem dL_same_17 : decode cL_same 17 = .ok (.iload 4, 2) := by decide +kernel
theorem dL_same_19 : decode cL_same 19 = .ok (.bipush 9, 2) := by decide +kernel
theorem dL_same_21 : decode cL_same 21 = .ok (.idiv, 1) := by decide +kernel
theorem dL_same_22 : decode cL_same 22 = .ok (.bipush 40, 2) := by decide +kernel
theorem dL_same_24 : decode cL_same 24 = .ok (.irem, 1) := by decide +kernel
theorem dL_same_25 : decode cL_same 25 = .ok (.istore 8, 2) := by decide +kernel
theorem dL_same_27 : decode cL_same 27 = .ok (.aload_n 0, 1) := by decide +kernel
theorem dL_same_28 : decode cL_same 28 = .ok (.invokevirtual 124, 3) := by decide +kernel
theorem dL_same_31 : decode cL_same 31 = .ok (.aload_n 1, 1) := by decide +kernel
theorem dL_same_32 : decode cL_same 32 = .ok (.invokevirtual 124, 3) := by decide +kernel
theorem dL_same_35 : decode cL_same 35 = .ok (.if_icmp .ne 61, 3) := by decide +kernel
theorem dL_same_38 : decode cL_same 38 = .ok (.aload_n 0, 1) := by decide +kernel
theorem dL_same_39 : decode cL_same 39 = .ok (.invokevirtual 128, 3) := by decide +kernel
theorem dL_same_42 : decode cL_same 42 = .ok (.aload_n 1, 1) := by decide +kernel
theorem dL_same_43 : decode cL_same 43 = .ok (.invokevirtual 128, 3) := by decide +kernel
theorem dL_same_46 : decode cL_same 46 = .ok (.if_icmp .ne 50, 3) := by decide +kernel
theorem dL_same_49 : decode cL_same 49 = .ok (.aload_n 0, 1) := by decide +kernel
theorem dL_same_50 : decode cL_same 50 = .ok (.invokevirtual 131, 3) := by decide +kernel
theorem dL_same_53 : decode cL_same 53 = .ok (.aload_n 1, 1) := by decide +kernel
theorem dL_same_54 : decode cL_same 54 = .ok (.invokevirtual 131, 3) := by decide +kernel
theorem dL_same_57 : decode cL_same 57 = .ok (.if_icmp .ne 39, 3) := by decide +kernel
theorem dL_same_60 : decode cL_same 60 = .ok (.aload_n 0, 1) := by decide +kernel
theorem dL_same_61 : decode cL_same 61 = .ok (.invokevirtual 134, 3) := by decide +kernel
theorem dL_same_64 : decode cL_same 64 = .ok (.aload_n 1, 1) := by decide +kernel
theorem dL_same_65 : decode cL_same 65 = .ok (.invokevirtual 134, 3) := by decide +kernel
theorem dL_same_68 : decode cL_same 68 = .ok (.if_icmp .ne 28, 3) := by decide +kernel
theorem dL_same_71 : decode cL_same 71 = .ok (.aload_n 0, 1) := by decide +kernel
theorem dL_same_72 : decode cL_same 72 = .ok (.iconst 0, 1) := by decide +kernel
theorem dL_same_73 : decode cL_same 73 = .ok (.iload 6, 2) := by decide +kernel
theorem dL_same_75 : decode cL_same 75 = .ok (.iload 7, 2) := by decide +kernel
theorem dL_same_77 : decode cL_same 77 = .ok (.invokestatic 137, 3) := by decide +kernel
theorem dL_same_80 : decode cL_same 80 = .ok (.aload_n 1, 1) := by decide +kernel
theorem dL_same_81 : decode cL_same 81 = .ok (.iconst 0, 1) := by decide +kernel
theorem dL_same_82 : decode cL_same 82 = .ok (.iload 6, 2) := by decide +kernel
theorem dL_same_84 : decode cL_same 84 = .ok (.iload 7, 2) := by decide +kernel
theorem dL_same_86 : decode cL_same 86 = .ok (.invokestatic 137, 3) := by decide +kernel
theorem dL_same_89 : decode cL_same 89 = .ok (.if_icmp .ne 7, 3) := by decide +kernel
theorem dL_same_92 : decode cL_same 92 = .ok (.iconst 1, 1) := by decide +kernel
theorem dL_same_93 : decode cL_same 93 = .ok (.goto 4, 3) := by decide +kernel
theorem dL_same_96 : decode cL_same 96 = .ok (.iconst 0, 1) := by decide +kernel
theorem dL_same_97 : decode cL_same 97 = .ok (.istore 9, 2) := by decide +kernel
theorem dL_same_99 : decode cL_same 99 = .ok (.aload_n 0, 1) := by decide +kernel
theorem dL_same_100 : decode cL_same 100 = .ok (.iload 6, 2) := by decide +kernel
theorem dL_same_102 : decode cL_same 102 = .ok (.iload 8, 2) := by decide +kernel
theorem dL_same_104 : decode cL_same 104 = .ok (.iload 7, 2) := by decide +kernel
theorem dL_same_106 : decode cL_same 106 = .ok (.invokestatic 143, 3) := by decide +kernel
theorem dL_same_109 : decode cL_same 109 = .ok (.istore 10, 2) := by decide +kernel
theorem dL_same_111 : decode cL_same 111 = .ok (.aload_n 0, 1) := by decide +kernel
theorem dL_same_112 : decode cL_same 112 = .ok (.iconst 1, 1) := by decide +kernel
theorem dL_same_113 : decode cL_same 113 = .ok (.iload 6, 2) := by decide +kernel
theorem dL_same_115 : decode cL_same 115 = .ok (.invokestatic 145, 3) := by decide +kernel
theorem dL_same_118 : decode cL_same 118 = .ok (.ifCond .ne 7, 3) := by decide +kernel
theorem dL_same_121 : decode cL_same 121 = .ok (.iconst 1, 1) := by decide +kernel
theorem dL_same_122 : decode cL_same 122 = .ok (.goto 4, 3) := by decide +kernel
theorem dL_same_125 : decode cL_same 125 = .ok (.iconst 0, 1) := by decide +kernel
theorem dL_same_126 : decode cL_same 126 = .ok (.istore 11, 2) := by decide +kernel
theorem dL_same_128 : decode cL_same 128 = .ok (.iload 9, 2) := by decide +kernel
theorem dL_same_130 : decode cL_same 130 = .ok (.ifCond .eq 101, 3) := by decide +kernel
theorem dL_same_133 : decode cL_same 133 = .ok (.aload_n 1, 1) := by decide +kernel
theorem dL_same_134 : decode cL_same 134 = .ok (.iload 6, 2) := by decide +kernel
theorem dL_same_136 : decode cL_same 136 = .ok (.iload 8, 2) := by decide +kernel
theorem dL_same_138 : decode cL_same 138 = .ok (.iload 7, 2) := by decide +kernel
theorem dL_same_140 : decode cL_same 140 = .ok (.invokestatic 143, 3) := by decide +kernel
theorem dL_same_143 : decode cL_same 143 = .ok (.iload 10, 2) := by decide +kernel
theorem dL_same_145 : decode cL_same 145 = .ok (.ifCond .ge 8, 3) := by decide +kernel
theorem dL_same_148 : decode cL_same 148 = .ok (.iload 10, 2) := by decide +kernel
theorem dL_same_150 : decode cL_same 150 = .ok (.goto 8, 3) := by decide +kernel
theorem dL_same_153 : decode cL_same 153 = .ok (.iload 10, 2) := by decide +kernel
theorem dL_same_155 : decode cL_same 155 = .ok (.iload 5, 2) := by decide +kernel
theorem dL_same_157 : decode cL_same 157 = .ok (.iadd, 1) := by decide +kernel
theorem dL_same_158 : decode cL_same 158 = .ok (.if_icmp .ne 73, 3) := by decide +kernel
theorem dL_same_161 : decode cL_same 161 = .ok (.aload_n 1, 1) := by decide +kernel
theorem dL_same_162 : decode cL_same 162 = .ok (.iconst 1, 1) := by decide +kernel
theorem dL_same_163 : decode cL_same 163 = .ok (.iload 6, 2) := by decide +kernel
theorem dL_same_165 : decode cL_same 165 = .ok (.iload 7, 2) := by decide +kernel
theorem dL_same_167 : decode cL_same 167 = .ok (.invokestatic 137, 3) := by decide +kernel
theorem dL_same_170 : decode cL_same 170 = .ok (.iload 11, 2) := by decide +kernel
theorem dL_same_172 : decode cL_same 172 = .ok (.ifCond .eq 7, 3) := by decide +kernel
theorem dL_same_175 : decode cL_same 175 = .ok (.iconst 0, 1) := by decide +kernel
theorem dL_same_176 : decode cL_same 176 = .ok (.goto 15, 3) := by decide +kernel
theorem dL_same_179 : decode cL_same 179 = .ok (.aload_n 0, 1) := by decide +kernel
theorem dL_same_180 : decode cL_same 180 = .ok (.iconst 1, 1) := by decide +kernel
theorem dL_same_181 : decode cL_same 181 = .ok (.iload 6, 2) := by decide +kernel
theorem dL_same_183 : decode cL_same 183 = .ok (.iload 7, 2) := by decide +kernel
theorem dL_same_185 : decode cL_same 185 = .ok (.invokestatic 137, 3) := by decide +kernel
theorem dL_same_188 : decode cL_same 188 = .ok (.iload 5, 2) := by decide +kernel
theorem dL_same_190 : decode cL_same 190 = .ok (.iadd, 1) := by decide +kernel
theorem dL_same_191 : decode cL_same 191 = .ok (.if_icmp .ne 40, 3) := by decide +kernel
theorem dL_same_194 : decode cL_same 194 = .ok (.aload_n 1, 1) := by decide +kernel
theorem dL_same_195 : decode cL_same 195 = .ok (.iconst 2, 1) := by decide +kernel
theorem dL_same_196 : decode cL_same 196 = .ok (.iload 6, 2) := by decide +kernel
theorem dL_same_198 : decode cL_same 198 = .ok (.iload 7, 2) := by decide +kernel
theorem dL_same_200 : decode cL_same 200 = .ok (.invokestatic 137, 3) := by decide +kernel
theorem dL_same_203 : decode cL_same 203 = .ok (.iload 11, 2) := by decide +kernel
theorem dL_same_205 : decode cL_same 205 = .ok (.ifCond .eq 7, 3) := by decide +kernel
theorem dL_same_208 : decode cL_same 208 = .ok (.iconst 0, 1) := by decide +kernel
theorem dL_same_209 : decode cL_same 209 = .ok (.goto 15, 3) := by decide +kernel
theorem dL_same_212 : decode cL_same 212 = .ok (.aload_n 0, 1) := by decide +kernel
theorem dL_same_213 : decode cL_same 213 = .ok (.iconst 2, 1) := by decide +kernel
theorem dL_same_214 : decode cL_same 214 = .ok (.iload 6, 2) := by decide +kernel
theorem dL_same_216 : decode cL_same 216 = .ok (.iload 7, 2) := by decide +kernel
theorem dL_same_218 : decode cL_same 218 = .ok (.invokestatic 137, 3) := by decide +kernel
theorem dL_same_221 : decode cL_same 221 = .ok (.iload 5, 2) := by decide +kernel
theorem dL_same_223 : decode cL_same 223 = .ok (.iadd, 1) := by decide +kernel
theorem dL_same_224 : decode cL_same 224 = .ok (.if_icmp .ne 7, 3) := by decide +kernel
theorem dL_same_227 : decode cL_same 227 = .ok (.iconst 1, 1) := by decide +kernel
theorem dL_same_228 : decode cL_same 228 = .ok (.goto 4, 3) := by decide +kernel
theorem dL_same_231 : decode cL_same 231 = .ok (.iconst 0, 1) := by decide +kernel
theorem dL_same_232 : decode cL_same 232 = .ok (.istore 9, 2) := by decide +kernel
theorem dL_same_234 : decode cL_same 234 = .ok (.aload_n 3, 1) := by decide +kernel
theorem dL_same_235 : decode cL_same 235 = .ok (.iconst 0, 1) := by decide +kernel
theorem dL_same_236 : decode cL_same 236 = .ok (.iaload, 1) := by decide +kernel
theorem dL_same_237 : decode cL_same 237 = .ok (.ifCond .ne 7, 3) := by decide +kernel
theorem dL_same_240 : decode cL_same 240 = .ok (.iconst 0, 1) := by decide +kernel
theorem dL_same_241 : decode cL_same 241 = .ok (.goto 11, 3) := by decide +kernel
theorem dL_same_244 : decode cL_same 244 = .ok (.iload 4, 2) := by decide +kernel
theorem dL_same_246 : decode cL_same 246 = .ok (.iconst 5, 1) := by decide +kernel
theorem dL_same_247 : decode cL_same 247 = .ok (.idiv, 1) := by decide +kernel
theorem dL_same_248 : decode cL_same 248 = .ok (.aload_n 3, 1) := by decide +kernel
theorem dL_same_249 : decode cL_same 249 = .ok (.iconst 0, 1) := by decide +kernel
theorem dL_same_250 : decode cL_same 250 = .ok (.iaload, 1) := by decide +kernel
theorem dL_same_251 : decode cL_same 251 = .ok (.irem, 1) := by decide +kernel
theorem dL_same_252 : decode cL_same 252 = .ok (.istore 12, 2) := by decide +kernel
theorem dL_same_254 : decode cL_same 254 = .ok (.iconst 0, 1) := by decide +kernel
theorem dL_same_255 : decode cL_same 255 = .ok (.istore 13, 2) := by decide +kernel
theorem dL_same_257 : decode cL_same 257 = .ok (.iload 13, 2) := by decide +kernel
theorem dL_same_259 : decode cL_same 259 = .ok (.bipush 13, 2) := by decide +kernel
theorem dL_same_261 : decode cL_same 261 = .ok (.if_icmp .ge 95, 3) := by decide +kernel
theorem dL_same_264 : decode cL_same 264 = .ok (.iload 9, 2) := by decide +kernel
theorem dL_same_266 : decode cL_same 266 = .ok (.ifCond .eq 90, 3) := by decide +kernel
theorem dL_same_269 : decode cL_same 269 = .ok (.iload 13, 2) := by decide +kernel
theorem dL_same_271 : decode cL_same 271 = .ok (.bipush 7, 2) := by decide +kernel
theorem dL_same_273 : decode cL_same 273 = .ok (.if_icmp .eq 17, 3) := by decide +kernel
theorem dL_same_276 : decode cL_same 276 = .ok (.iload 13, 2) := by decide +kernel
theorem dL_same_278 : decode cL_same 278 = .ok (.bipush 9, 2) := by decide +kernel
theorem dL_same_280 : decode cL_same 280 = .ok (.if_icmp .eq 10, 3) := by decide +kernel
theorem dL_same_283 : decode cL_same 283 = .ok (.iload 13, 2) := by decide +kernel
theorem dL_same_285 : decode cL_same 285 = .ok (.bipush 11, 2) := by decide +kernel
theorem dL_same_287 : decode cL_same 287 = .ok (.if_icmp .ne 7, 3) := by decide +kernel
theorem dL_same_290 : decode cL_same 290 = .ok (.iconst 1, 1) := by decide +kernel
theorem dL_same_291 : decode cL_same 291 = .ok (.goto 4, 3) := by decide +kernel
theorem dL_same_294 : decode cL_same 294 = .ok (.iconst 0, 1) := by decide +kernel
theorem dL_same_295 : decode cL_same 295 = .ok (.istore 14, 2) := by decide +kernel
theorem dL_same_297 : decode cL_same 297 = .ok (.iload 14, 2) := by decide +kernel
theorem dL_same_299 : decode cL_same 299 = .ok (.ifCond .ne 44, 3) := by decide +kernel
theorem dL_same_302 : decode cL_same 302 = .ok (.aload_n 0, 1) := by decide +kernel
theorem dL_same_303 : decode cL_same 303 = .ok (.iload 13, 2) := by decide +kernel
theorem dL_same_305 : decode cL_same 305 = .ok (.iload 13, 2) := by decide +kernel
theorem dL_same_307 : decode cL_same 307 = .ok (.iconst 3, 1) := by decide +kernel
theorem dL_same_308 : decode cL_same 308 = .ok (.if_icmp .ge 8, 3) := by decide +kernel
theorem dL_same_311 : decode cL_same 311 = .ok (.iload 6, 2) := by decide +kernel
theorem dL_same_313 : decode cL_same 313 = .ok (.goto 5, 3) := by decide +kernel
theorem dL_same_316 : decode cL_same 316 = .ok (.iload 12, 2) := by decide +kernel
theorem dL_same_318 : decode cL_same 318 = .ok (.invokestatic 145, 3) := by decide +kernel
theorem dL_same_321 : decode cL_same 321 = .ok (.aload_n 1, 1) := by decide +kernel
theorem dL_same_322 : decode cL_same 322 = .ok (.iload 13, 2) := by decide +kernel
theorem dL_same_324 : decode cL_same 324 = .ok (.iload 13, 2) := by decide +kernel
theorem dL_same_326 : decode cL_same 326 = .ok (.iconst 3, 1) := by decide +kernel
theorem dL_same_327 : decode cL_same 327 = .ok (.if_icmp .ge 8, 3) := by decide +kernel
theorem dL_same_330 : decode cL_same 330 = .ok (.iload 6, 2) := by decide +kernel
theorem dL_same_332 : decode cL_same 332 = .ok (.goto 5, 3) := by decide +kernel
theorem dL_same_335 : decode cL_same 335 = .ok (.iload 12, 2) := by decide +kernel
theorem dL_same_337 : decode cL_same 337 = .ok (.invokestatic 145, 3) := by decide +kernel
theorem dL_same_340 : decode cL_same 340 = .ok (.if_icmp .ne 7, 3) := by decide +kernel
theorem dL_same_343 : decode cL_same 343 = .ok (.iconst 1, 1) := by decide +kernel
theorem dL_same_344 : decode cL_same 344 = .ok (.goto 4, 3) := by decide +kernel
theorem dL_same_347 : decode cL_same 347 = .ok (.iconst 0, 1) := by decide +kernel
theorem dL_same_348 : decode cL_same 348 = .ok (.istore 9, 2) := by decide +kernel
theorem dL_same_350 : decode cL_same 350 = .ok (.iinc 13 1, 3) := by decide +kernel
theorem dL_same_353 : decode cL_same 353 = .ok (.goto (-96), 3) := by decide +kernel
theorem dL_same_356 : decode cL_same 356 = .ok (.aload_n 3, 1) := by decide +kernel
theorem dL_same_357 : decode cL_same 357 = .ok (.iconst 1, 1) := by decide +kernel
theorem dL_same_358 : decode cL_same 358 = .ok (.iaload, 1) := by decide +kernel
theorem dL_same_359 : decode cL_same 359 = .ok (.iload 12, 2) := by decide +kernel
theorem dL_same_361 : decode cL_same 361 = .ok (.ishr, 1) := by decide +kernel
theorem dL_same_362 : decode cL_same 362 = .ok (.iconst 1, 1) := by decide +kernel
theorem dL_same_363 : decode cL_same 363 = .ok (.iand, 1) := by decide +kernel
theorem dL_same_364 : decode cL_same 364 = .ok (.iconst 1, 1) := by decide +kernel
theorem dL_same_365 : decode cL_same 365 = .ok (.if_icmp .ne 17, 3) := by decide +kernel
theorem dL_same_368 : decode cL_same 368 = .ok (.iload 5, 2) := by decide +kernel
theorem dL_same_370 : decode cL_same 370 = .ok (.aload_n 0, 1) := by decide +kernel
theorem dL_same_371 : decode cL_same 371 = .ok (.bipush 6, 2) := by decide +kernel
theorem dL_same_373 : decode cL_same 373 = .ok (.iload 12, 2) := by decide +kernel
theorem dL_same_375 : decode cL_same 375 = .ok (.invokestatic 145, 3) := by decide +kernel
theorem dL_same_378 : decode cL_same 378 = .ok (.imul, 1) := by decide +kernel
theorem dL_same_379 : decode cL_same 379 = .ok (.goto 4, 3) := by decide +kernel
theorem dL_same_382 : decode cL_same 382 = .ok (.iconst 0, 1) := by decide +kernel
theorem dL_same_383 : decode cL_same 383 = .ok (.istore 13, 2) := by decide +kernel
theorem dL_same_385 : decode cL_same 385 = .ok (.iload 9, 2) := by decide +kernel
theorem dL_same_387 : decode cL_same 387 = .ok (.ifCond .eq 57, 3) := by decide +kernel
theorem dL_same_390 : decode cL_same 390 = .ok (.aload_n 3, 1) := by decide +kernel
theorem dL_same_391 : decode cL_same 391 = .ok (.iconst 0, 1) := by decide +kernel
theorem dL_same_392 : decode cL_same 392 = .ok (.iaload, 1) := by decide +kernel
theorem dL_same_393 : decode cL_same 393 = .ok (.ifCond .eq 47, 3) := by decide +kernel
theorem dL_same_396 : decode cL_same 396 = .ok (.aload_n 1, 1) := by decide +kernel
theorem dL_same_397 : decode cL_same 397 = .ok (.bipush 7, 2) := by decide +kernel
theorem dL_same_399 : decode cL_same 399 = .ok (.iload 12, 2) := by decide +kernel
theorem dL_same_401 : decode cL_same 401 = .ok (.invokestatic 145, 3) := by decide +kernel
theorem dL_same_404 : decode cL_same 404 = .ok (.aload_n 0, 1) := by decide +kernel
theorem dL_same_405 : decode cL_same 405 = .ok (.bipush 7, 2) := by decide +kernel
theorem dL_same_407 : decode cL_same 407 = .ok (.iload 12, 2) := by decide +kernel
theorem dL_same_409 : decode cL_same 409 = .ok (.invokestatic 145, 3) := by decide +kernel
theorem dL_same_412 : decode cL_same 412 = .ok (.iload 13, 2) := by decide +kernel
theorem dL_same_414 : decode cL_same 414 = .ok (.iadd, 1) := by decide +kernel
theorem dL_same_415 : decode cL_same 415 = .ok (.if_icmp .ne 29, 3) := by decide +kernel
theorem dL_same_418 : decode cL_same 418 = .ok (.aload_n 1, 1) := by decide +kernel
theorem dL_same_419 : decode cL_same 419 = .ok (.bipush 9, 2) := by decide +kernel
theorem dL_same_421 : decode cL_same 421 = .ok (.iload 12, 2) := by decide +kernel
theorem dL_same_423 : decode cL_same 423 = .ok (.invokestatic 145, 3) := by decide +kernel
theorem dL_same_426 : decode cL_same 426 = .ok (.aload_n 0, 1) := by decide +kernel
theorem dL_same_427 : decode cL_same 427 = .ok (.bipush 9, 2) := by decide +kernel
theorem dL_same_429 : decode cL_same 429 = .ok (.iload 12, 2) := by decide +kernel
theorem dL_same_431 : decode cL_same 431 = .ok (.invokestatic 145, 3) := by decide +kernel
theorem dL_same_434 : decode cL_same 434 = .ok (.iload 13, 2) := by decide +kernel
theorem dL_same_436 : decode cL_same 436 = .ok (.iadd, 1) := by decide +kernel
theorem dL_same_437 : decode cL_same 437 = .ok (.if_icmp .ne 7, 3) := by decide +kernel
theorem dL_same_440 : decode cL_same 440 = .ok (.iconst 1, 1) := by decide +kernel
theorem dL_same_441 : decode cL_same 441 = .ok (.goto 4, 3) := by decide +kernel
theorem dL_same_444 : decode cL_same 444 = .ok (.iconst 0, 1) := by decide +kernel
theorem dL_same_445 : decode cL_same 445 = .ok (.istore 9, 2) := by decide +kernel
theorem dL_same_447 : decode cL_same 447 = .ok (.iload 9, 2) := by decide +kernel
theorem dL_same_449 : decode cL_same 449 = .ok (.ifCond .eq 57, 3) := by decide +kernel
theorem dL_same_452 : decode cL_same 452 = .ok (.aload_n 0, 1) := by decide +kernel
theorem dL_same_453 : decode cL_same 453 = .ok (.iconst 3, 1) := by decide +kernel
theorem dL_same_454 : decode cL_same 454 = .ok (.iload 12, 2) := by decide +kernel
theorem dL_same_456 : decode cL_same 456 = .ok (.iload 4, 2) := by decide +kernel
theorem dL_same_458 : decode cL_same 458 = .ok (.iconst 3, 1) := by decide +kernel
theorem dL_same_459 : decode cL_same 459 = .ok (.irem, 1) := by decide +kernel
theorem dL_same_460 : decode cL_same 460 = .ok (.invokestatic 137, 3) := by decide +kernel
theorem dL_same_463 : decode cL_same 463 = .ok (.aload_n 1, 1) := by decide +kernel
theorem dL_same_464 : decode cL_same 464 = .ok (.iconst 3, 1) := by decide +kernel
theorem dL_same_465 : decode cL_same 465 = .ok (.iload 12, 2) := by decide +kernel
theorem dL_same_467 : decode cL_same 467 = .ok (.iload 4, 2) := by decide +kernel
theorem dL_same_469 : decode cL_same 469 = .ok (.iconst 3, 1) := by decide +kernel
theorem dL_same_470 : decode cL_same 470 = .ok (.irem, 1) := by decide +kernel
theorem dL_same_471 : decode cL_same 471 = .ok (.invokestatic 137, 3) := by decide +kernel
theorem dL_same_474 : decode cL_same 474 = .ok (.if_icmp .ne 32, 3) := by decide +kernel
theorem dL_same_477 : decode cL_same 477 = .ok (.aload_n 0, 1) := by decide +kernel
theorem dL_same_478 : decode cL_same 478 = .ok (.iconst 4, 1) := by decide +kernel
theorem dL_same_479 : decode cL_same 479 = .ok (.iload 12, 2) := by decide +kernel
theorem dL_same_481 : decode cL_same 481 = .ok (.iload 4, 2) := by decide +kernel
theorem dL_same_483 : decode cL_same 483 = .ok (.iconst 3, 1) := by decide +kernel
theorem dL_same_484 : decode cL_same 484 = .ok (.irem, 1) := by decide +kernel
theorem dL_same_485 : decode cL_same 485 = .ok (.invokestatic 137, 3) := by decide +kernel
theorem dL_same_488 : decode cL_same 488 = .ok (.aload_n 1, 1) := by decide +kernel
theorem dL_same_489 : decode cL_same 489 = .ok (.iconst 4, 1) := by decide +kernel
theorem dL_same_490 : decode cL_same 490 = .ok (.iload 12, 2) := by decide +kernel
theorem dL_same_492 : decode cL_same 492 = .ok (.iload 4, 2) := by decide +kernel
theorem dL_same_494 : decode cL_same 494 = .ok (.iconst 3, 1) := by decide +kernel
theorem dL_same_495 : decode cL_same 495 = .ok (.irem, 1) := by decide +kernel
theorem dL_same_496 : decode cL_same 496 = .ok (.invokestatic 137, 3) := by decide +kernel
theorem dL_same_499 : decode cL_same 499 = .ok (.if_icmp .ne 7, 3) := by decide +kernel
theorem dL_same_502 : decode cL_same 502 = .ok (.iconst 1, 1) := by decide +kernel
theorem dL_same_503 : decode cL_same 503 = .ok (.goto 4, 3) := by decide +kernel
theorem dL_same_506 : decode cL_same 506 = .ok (.iconst 0, 1) := by decide +kernel
theorem dL_same_507 : decode cL_same 507 = .ok (.ireturn, 1) := by decide +kernel
theorem dL_law_0 : decode cL_law 0 = .ok (.new 9, 3) := by decide +kernel
theorem dL_law_3 : decode cL_law 3 = .ok (.dup, 1) := by decide +kernel
theorem dL_law_4 : decode cL_law 4 = .ok (.invokespecial 149, 3) := by decide +kernel
theorem dL_law_7 : decode cL_law 7 = .ok (.astore_n 1, 1) := by decide +kernel
theorem dL_law_8 : decode cL_law 8 = .ok (.new 9, 3) := by decide +kernel
theorem dL_law_11 : decode cL_law 11 = .ok (.dup, 1) := by decide +kernel
theorem dL_law_12 : decode cL_law 12 = .ok (.invokespecial 149, 3) := by decide +kernel
theorem dL_law_15 : decode cL_law 15 = .ok (.astore_n 2, 1) := by decide +kernel
theorem dL_law_16 : decode cL_law 16 = .ok (.iconst 1, 1) := by decide +kernel
theorem dL_law_17 : decode cL_law 17 = .ok (.aload_n 0, 1) := by decide +kernel
theorem dL_law_18 : decode cL_law 18 = .ok (.iconst 0, 1) := by decide +kernel
theorem dL_law_19 : decode cL_law 19 = .ok (.invokestatic 150, 3) := by decide +kernel
theorem dL_law_22 : decode cL_law 22 = .ok (.sipush 400, 3) := by decide +kernel
theorem dL_law_25 : decode cL_law 25 = .ok (.irem, 1) := by decide +kernel
theorem dL_law_26 : decode cL_law 26 = .ok (.iadd, 1) := by decide +kernel
theorem dL_law_27 : decode cL_law 27 = .ok (.istore_n 3, 1) := by decide +kernel
theorem dL_law_28 : decode cL_law 28 = .ok (.iconst 3, 1) := by decide +kernel
theorem dL_law_29 : decode cL_law 29 = .ok (.newarray .int, 2) := by decide +kernel
theorem dL_law_31 : decode cL_law 31 = .ok (.astore 4, 2) := by decide +kernel
theorem dL_law_33 : decode cL_law 33 = .ok (.iconst 2, 1) := by decide +kernel
theorem dL_law_34 : decode cL_law 34 = .ok (.newarray .int, 2) := by decide +kernel
theorem dL_law_36 : decode cL_law 36 = .ok (.astore 5, 2) := by decide +kernel
theorem dL_law_38 : decode cL_law 38 = .ok (.iconst 1, 1) := by decide +kernel
theorem dL_law_39 : decode cL_law 39 = .ok (.istore 6, 2) := by decide +kernel
theorem dL_law_41 : decode cL_law 41 = .ok (.iconst 0, 1) := by decide +kernel
theorem dL_law_42 : decode cL_law 42 = .ok (.istore 7, 2) := by decide +kernel
theorem dL_law_44 : decode cL_law 44 = .ok (.iload 7, 2) := by decide +kernel
theorem dL_law_46 : decode cL_law 46 = .ok (.iconst 3, 1) := by decide +kernel
theorem dL_law_47 : decode cL_law 47 = .ok (.if_icmp .ge 69, 3) := by decide +kernel
theorem dL_law_50 : decode cL_law 50 = .ok (.aload 4, 2) := by decide +kernel
theorem dL_law_52 : decode cL_law 52 = .ok (.iload 7, 2) := by decide +kernel
theorem dL_law_54 : decode cL_law 54 = .ok (.iconst 1, 1) := by decide +kernel
theorem dL_law_55 : decode cL_law 55 = .ok (.aload_n 0, 1) := by decide +kernel
theorem dL_law_56 : decode cL_law 56 = .ok (.bipush 61, 2) := by decide +kernel
theorem dL_law_58 : decode cL_law 58 = .ok (.iload 7, 2) := by decide +kernel
theorem dL_law_60 : decode cL_law 60 = .ok (.iadd, 1) := by decide +kernel
theorem dL_law_61 : decode cL_law 61 = .ok (.invokestatic 150, 3) := by decide +kernel
theorem dL_law_64 : decode cL_law 64 = .ok (.iconst 3, 1) := by decide +kernel
theorem dL_law_65 : decode cL_law 65 = .ok (.irem, 1) := by decide +kernel
theorem dL_law_66 : decode cL_law 66 = .ok (.iadd, 1) := by decide +kernel
theorem dL_law_67 : decode cL_law 67 = .ok (.iastore, 1) := by decide +kernel
theorem dL_law_68 : decode cL_law 68 = .ok (.iload 6, 2) := by decide +kernel
theorem dL_law_70 : decode cL_law 70 = .ok (.ifCond .eq 37, 3) := by decide +kernel
theorem dL_law_73 : decode cL_law 73 = .ok (.aload_n 1, 1) := by decide +kernel
theorem dL_law_74 : decode cL_law 74 = .ok (.iconst 0, 1) := by decide +kernel
theorem dL_law_75 : decode cL_law 75 = .ok (.aload 4, 2) := by decide +kernel
theorem dL_law_77 : decode cL_law 77 = .ok (.iload 7, 2) := by decide +kernel
theorem dL_law_79 : decode cL_law 79 = .ok (.iaload, 1) := by decide +kernel
theorem dL_law_80 : decode cL_law 80 = .ok (.invokestatic 154, 3) := by decide +kernel
theorem dL_law_83 : decode cL_law 83 = .ok (.iload 7, 2) := by decide +kernel
theorem dL_law_85 : decode cL_law 85 = .ok (.if_icmp .ne 22, 3) := by decide +kernel
theorem dL_law_88 : decode cL_law 88 = .ok (.aload_n 2, 1) := by decide +kernel
theorem dL_law_89 : decode cL_law 89 = .ok (.iconst 0, 1) := by decide +kernel
theorem dL_law_90 : decode cL_law 90 = .ok (.aload 4, 2) := by decide +kernel
theorem dL_law_92 : decode cL_law 92 = .ok (.iload 7, 2) := by decide +kernel
theorem dL_law_94 : decode cL_law 94 = .ok (.iaload, 1) := by decide +kernel
theorem dL_law_95 : decode cL_law 95 = .ok (.invokestatic 154, 3) := by decide +kernel
theorem dL_law_98 : decode cL_law 98 = .ok (.iload 7, 2) := by decide +kernel
theorem dL_law_100 : decode cL_law 100 = .ok (.if_icmp .ne 7, 3) := by decide +kernel
theorem dL_law_103 : decode cL_law 103 = .ok (.iconst 1, 1) := by decide +kernel
theorem dL_law_104 : decode cL_law 104 = .ok (.goto 4, 3) := by decide +kernel
theorem dL_law_107 : decode cL_law 107 = .ok (.iconst 0, 1) := by decide +kernel
theorem dL_law_108 : decode cL_law 108 = .ok (.istore 6, 2) := by decide +kernel
theorem dL_law_110 : decode cL_law 110 = .ok (.iinc 7 1, 3) := by decide +kernel
theorem dL_law_113 : decode cL_law 113 = .ok (.goto (-69), 3) := by decide +kernel
theorem dL_law_116 : decode cL_law 116 = .ok (.iconst 1, 1) := by decide +kernel
theorem dL_law_117 : decode cL_law 117 = .ok (.istore 7, 2) := by decide +kernel
theorem dL_law_119 : decode cL_law 119 = .ok (.iload 7, 2) := by decide +kernel
theorem dL_law_121 : decode cL_law 121 = .ok (.bipush 120, 2) := by decide +kernel
theorem dL_law_123 : decode cL_law 123 = .ok (.if_icmp .ge 848, 3) := by decide +kernel
theorem dL_law_126 : decode cL_law 126 = .ok (.iload 6, 2) := by decide +kernel
theorem dL_law_128 : decode cL_law 128 = .ok (.ifCond .eq 843, 3) := by decide +kernel
theorem dL_law_131 : decode cL_law 131 = .ok (.aload_n 0, 1) := by decide +kernel
theorem dL_law_132 : decode cL_law 132 = .ok (.iload 7, 2) := by decide +kernel
theorem dL_law_134 : decode cL_law 134 = .ok (.bipush 60, 2) := by decide +kernel
theorem dL_law_136 : decode cL_law 136 = .ok (.irem, 1) := by decide +kernel
theorem dL_law_137 : decode cL_law 137 = .ok (.invokestatic 150, 3) := by decide +kernel
theorem dL_law_140 : decode cL_law 140 = .ok (.iconst 1, 1) := by decide +kernel
theorem dL_law_141 : decode cL_law 141 = .ok (.iload 7, 2) := by decide +kernel
theorem dL_law_143 : decode cL_law 143 = .ok (.bipush 60, 2) := by decide +kernel
theorem dL_law_145 : decode cL_law 145 = .ok (.idiv, 1) := by decide +kernel
theorem dL_law_146 : decode cL_law 146 = .ok (.iadd, 1) := by decide +kernel
theorem dL_law_147 : decode cL_law 147 = .ok (.idiv, 1) := by decide +kernel
theorem dL_law_148 : decode cL_law 148 = .ok (.bipush 7, 2) := by decide +kernel
theorem dL_law_150 : decode cL_law 150 = .ok (.iload 7, 2) := by decide +kernel
theorem dL_law_152 : decode cL_law 152 = .ok (.bipush 60, 2) := by decide +kernel
theorem dL_law_154 : decode cL_law 154 = .ok (.idiv, 1) := by decide +kernel
theorem dL_law_155 : decode cL_law 155 = .ok (.imul, 1) := by decide +kernel
theorem dL_law_156 : decode cL_law 156 = .ok (.iadd, 1) := by decide +kernel
theorem dL_law_157 : decode cL_law 157 = .ok (.istore 8, 2) := by decide +kernel
theorem dL_law_159 : decode cL_law 159 = .ok (.iload 8, 2) := by decide +kernel
theorem dL_law_161 : decode cL_law 161 = .ok (.bipush 40, 2) := by decide +kernel
theorem dL_law_163 : decode cL_law 163 = .ok (.irem, 1) := by decide +kernel
theorem dL_law_164 : decode cL_law 164 = .ok (.istore 9, 2) := by decide +kernel
theorem dL_law_166 : decode cL_law 166 = .ok (.iload 8, 2) := by decide +kernel
theorem dL_law_168 : decode cL_law 168 = .ok (.bipush 40, 2) := by decide +kernel
theorem dL_law_170 : decode cL_law 170 = .ok (.idiv, 1) := by decide +kernel
theorem dL_law_171 : decode cL_law 171 = .ok (.istore 10, 2) := by decide +kernel
theorem dL_law_173 : decode cL_law 173 = .ok (.iload 10, 2) := by decide +kernel
theorem dL_law_175 : decode cL_law 175 = .ok (.iconst 3, 1) := by decide +kernel
theorem dL_law_176 : decode cL_law 176 = .ok (.irem, 1) := by decide +kernel
theorem dL_law_177 : decode cL_law 177 = .ok (.istore 11, 2) := by decide +kernel
theorem dL_law_179 : decode cL_law 179 = .ok (.iload 10, 2) := by decide +kernel
theorem dL_law_181 : decode cL_law 181 = .ok (.iconst 3, 1) := by decide +kernel
theorem dL_law_182 : decode cL_law 182 = .ok (.idiv, 1) := by decide +kernel
theorem dL_law_183 : decode cL_law 183 = .ok (.iconst 3, 1) := by decide +kernel
theorem dL_law_184 : decode cL_law 184 = .ok (.irem, 1) := by decide +kernel
theorem dL_law_185 : decode cL_law 185 = .ok (.istore 12, 2) := by decide +kernel
theorem dL_law_187 : decode cL_law 187 = .ok (.aload 5, 2) := by decide +kernel
theorem dL_law_189 : decode cL_law 189 = .ok (.iconst 0, 1) := by decide +kernel
theorem dL_law_190 : decode cL_law 190 = .ok (.iaload, 1) := by decide +kernel
theorem dL_law_191 : decode cL_law 191 = .ok (.ifCond .ne 7, 3) := by decide +kernel
theorem dL_law_194 : decode cL_law 194 = .ok (.iconst 0, 1) := by decide +kernel
theorem dL_law_195 : decode cL_law 195 = .ok (.goto 13, 3) := by decide +kernel
theorem dL_law_198 : decode cL_law 198 = .ok (.iload 10, 2) := by decide +kernel
theorem dL_law_200 : decode cL_law 200 = .ok (.bipush 9, 2) := by decide +kernel
theorem dL_law_202 : decode cL_law 202 = .ok (.idiv, 1) := by decide +kernel
theorem dL_law_203 : decode cL_law 203 = .ok (.aload 5, 2) := by decide +kernel
theorem dL_law_205 : decode cL_law 205 = .ok (.iconst 0, 1) := by decide +kernel
theorem dL_law_206 : decode cL_law 206 = .ok (.iaload, 1) := by decide +kernel
theorem dL_law_207 : decode cL_law 207 = .ok (.irem, 1) := by decide +kernel
theorem dL_law_208 : decode cL_law 208 = .ok (.istore 13, 2) := by decide +kernel
theorem dL_law_210 : decode cL_law 210 = .ok (.iload 9, 2) := by decide +kernel
theorem dL_law_212 : decode cL_law 212 = .ok (.bipush 10, 2) := by decide +kernel
theorem dL_law_214 : decode cL_law 214 = .ok (.if_icmp .ge 128, 3) := by decide +kernel
theorem dL_law_217 : decode cL_law 217 = .ok (.iload 10, 2) := by decide +kernel
theorem dL_law_219 : decode cL_law 219 = .ok (.iconst 3, 1) := by decide +kernel
theorem dL_law_220 : decode cL_law 220 = .ok (.idiv, 1) := by decide +kernel
theorem dL_law_221 : decode cL_law 221 = .ok (.sipush 500, 3) := by decide +kernel
theorem dL_law_224 : decode cL_law 224 = .ok (.irem, 1) := by decide +kernel
theorem dL_law_225 : decode cL_law 225 = .ok (.istore 14, 2) := by decide +kernel
theorem dL_law_227 : decode cL_law 227 = .ok (.aload 4, 2) := by decide +kernel
theorem dL_law_229 : decode cL_law 229 = .ok (.iload 11, 2) := by decide +kernel
theorem dL_law_231 : decode cL_law 231 = .ok (.iaload, 1) := by decide +kernel
theorem dL_law_232 : decode cL_law 232 = .ok (.iconst 1, 1) := by decide +kernel
theorem dL_law_233 : decode cL_law 233 = .ok (.if_icmp .le 14, 3) := by decide +kernel
theorem dL_law_236 : decode cL_law 236 = .ok (.iload 10, 2) := by decide +kernel
theorem dL_law_238 : decode cL_law 238 = .ok (.bipush 7, 2) := by decide +kernel
theorem dL_law_240 : decode cL_law 240 = .ok (.idiv, 1) := by decide +kernel
theorem dL_law_241 : decode cL_law 241 = .ok (.bipush 6, 2) := by decide +kernel
theorem dL_law_243 : decode cL_law 243 = .ok (.irem, 1) := by decide +kernel
theorem dL_law_244 : decode cL_law 244 = .ok (.goto 4, 3) := by decide +kernel
theorem dL_law_247 : decode cL_law 247 = .ok (.iconst 0, 1) := by decide +kernel
theorem dL_law_248 : decode cL_law 248 = .ok (.istore 15, 2) := by decide +kernel
theorem dL_law_250 : decode cL_law 250 = .ok (.aload 4, 2) := by decide +kernel
theorem dL_law_252 : decode cL_law 252 = .ok (.iload 11, 2) := by decide +kernel
theorem dL_law_254 : decode cL_law 254 = .ok (.iaload, 1) := by decide +kernel
theorem dL_law_255 : decode cL_law 255 = .ok (.iconst 2, 1) := by decide +kernel
theorem dL_law_256 : decode cL_law 256 = .ok (.if_icmp .le 14, 3) := by decide +kernel
theorem dL_law_259 : decode cL_law 259 = .ok (.iload 10, 2) := by decide +kernel
theorem dL_law_261 : decode cL_law 261 = .ok (.bipush 11, 2) := by decide +kernel
theorem dL_law_263 : decode cL_law 263 = .ok (.idiv, 1) := by decide +kernel
theorem dL_law_264 : decode cL_law 264 = .ok (.bipush 6, 2) := by decide +kernel
theorem dL_law_266 : decode cL_law 266 = .ok (.irem, 1) := by decide +kernel
theorem dL_law_267 : decode cL_law 267 = .ok (.goto 4, 3) := by decide +kernel
theorem dL_law_270 : decode cL_law 270 = .ok (.iconst 0, 1) := by decide +kernel
theorem dL_law_271 : decode cL_law 271 = .ok (.istore 16, 2) := by decide +kernel
theorem dL_law_273 : decode cL_law 273 = .ok (.aload_n 2, 1) := by decide +kernel
theorem dL_law_274 : decode cL_law 274 = .ok (.iload 11, 2) := by decide +kernel
theorem dL_law_276 : decode cL_law 276 = .ok (.iload 14, 2) := by decide +kernel
theorem dL_law_278 : decode cL_law 278 = .ok (.iload_n 3, 1) := by decide +kernel
theorem dL_law_279 : decode cL_law 279 = .ok (.iadd, 1) := by decide +kernel
theorem dL_law_280 : decode cL_law 280 = .ok (.aload 4, 2) := by decide +kernel
theorem dL_law_282 : decode cL_law 282 = .ok (.iload 11, 2) := by decide +kernel
theorem dL_law_284 : decode cL_law 284 = .ok (.iaload, 1) := by decide +kernel
theorem dL_law_285 : decode cL_law 285 = .ok (.iconst 1, 1) := by decide +kernel
theorem dL_law_286 : decode cL_law 286 = .ok (.if_icmp .le 10, 3) := by decide +kernel
theorem dL_law_289 : decode cL_law 289 = .ok (.iload 15, 2) := by decide +kernel
theorem dL_law_291 : decode cL_law 291 = .ok (.iload_n 3, 1) := by decide +kernel
theorem dL_law_292 : decode cL_law 292 = .ok (.iadd, 1) := by decide +kernel
theorem dL_law_293 : decode cL_law 293 = .ok (.goto 4, 3) := by decide +kernel
theorem dL_law_296 : decode cL_law 296 = .ok (.iconst 0, 1) := by decide +kernel
theorem dL_law_297 : decode cL_law 297 = .ok (.aload 4, 2) := by decide +kernel
theorem dL_law_299 : decode cL_law 299 = .ok (.iload 11, 2) := by decide +kernel
theorem dL_law_301 : decode cL_law 301 = .ok (.iaload, 1) := by decide +kernel
theorem dL_law_302 : decode cL_law 302 = .ok (.iconst 2, 1) := by decide +kernel
theorem dL_law_303 : decode cL_law 303 = .ok (.if_icmp .le 10, 3) := by decide +kernel
theorem dL_law_306 : decode cL_law 306 = .ok (.iload 16, 2) := by decide +kernel
theorem dL_law_308 : decode cL_law 308 = .ok (.iload_n 3, 1) := by decide +kernel
theorem dL_law_309 : decode cL_law 309 = .ok (.iadd, 1) := by decide +kernel
theorem dL_law_310 : decode cL_law 310 = .ok (.goto 4, 3) := by decide +kernel
theorem dL_law_313 : decode cL_law 313 = .ok (.iconst 0, 1) := by decide +kernel
theorem dL_law_314 : decode cL_law 314 = .ok (.invokestatic 157, 3) := by decide +kernel
theorem dL_law_317 : decode cL_law 317 = .ok (.aload_n 1, 1) := by decide +kernel
theorem dL_law_318 : decode cL_law 318 = .ok (.iload 11, 2) := by decide +kernel
theorem dL_law_320 : decode cL_law 320 = .ok (.iload 14, 2) := by decide +kernel
theorem dL_law_322 : decode cL_law 322 = .ok (.iload 15, 2) := by decide +kernel
theorem dL_law_324 : decode cL_law 324 = .ok (.iload 16, 2) := by decide +kernel
theorem dL_law_326 : decode cL_law 326 = .ok (.invokestatic 157, 3) := by decide +kernel
theorem dL_law_329 : decode cL_law 329 = .ok (.if_icmp .ne 7, 3) := by decide +kernel
theorem dL_law_332 : decode cL_law 332 = .ok (.iconst 1, 1) := by decide +kernel
theorem dL_law_333 : decode cL_law 333 = .ok (.goto 4, 3) := by decide +kernel
theorem dL_law_336 : decode cL_law 336 = .ok (.iconst 0, 1) := by decide +kernel
theorem dL_law_337 : decode cL_law 337 = .ok (.istore 6, 2) := by decide +kernel
theorem dL_law_339 : decode cL_law 339 = .ok (.goto 589, 3) := by decide +kernel
theorem dL_law_342 : decode cL_law 342 = .ok (.iload 9, 2) := by decide +kernel
theorem dL_law_344 : decode cL_law 344 = .ok (.bipush 10, 2) := by decide +kernel
theorem dL_law_346 : decode cL_law 346 = .ok (.if_icmp .ne 44, 3) := by decide +kernel
theorem dL_law_349 : decode cL_law 349 = .ok (.aload_n 1, 1) := by decide +kernel
theorem dL_law_350 : decode cL_law 350 = .ok (.iconst 0, 1) := by decide +kernel
theorem dL_law_351 : decode cL_law 351 = .ok (.iload 11, 2) := by decide +kernel
theorem dL_law_353 : decode cL_law 353 = .ok (.iload 10, 2) := by decide +kernel
theorem dL_law_355 : decode cL_law 355 = .ok (.iconst 3, 1) := by decide +kernel
theorem dL_law_356 : decode cL_law 356 = .ok (.idiv, 1) := by decide +kernel
theorem dL_law_357 : decode cL_law 357 = .ok (.bipush 12, 2) := by decide +kernel
theorem dL_law_359 : decode cL_law 359 = .ok (.irem, 1) := by decide +kernel
theorem dL_law_360 : decode cL_law 360 = .ok (.invokestatic 160, 3) := by decide +kernel
theorem dL_law_363 : decode cL_law 363 = .ok (.aload_n 2, 1) := by decide +kernel
theorem dL_law_364 : decode cL_law 364 = .ok (.iconst 0, 1) := by decide +kernel
theorem dL_law_365 : decode cL_law 365 = .ok (.iload 11, 2) := by decide +kernel
theorem dL_law_367 : decode cL_law 367 = .ok (.iload 10, 2) := by decide +kernel
theorem dL_law_369 : decode cL_law 369 = .ok (.iconst 3, 1) := by decide +kernel
theorem dL_law_370 : decode cL_law 370 = .ok (.idiv, 1) := by decide +kernel
theorem dL_law_371 : decode cL_law 371 = .ok (.bipush 12, 2) := by decide +kernel
theorem dL_law_373 : decode cL_law 373 = .ok (.irem, 1) := by decide +kernel
theorem dL_law_374 : decode cL_law 374 = .ok (.invokestatic 160, 3) := by decide +kernel
theorem dL_law_377 : decode cL_law 377 = .ok (.if_icmp .ne 7, 3) := by decide +kernel
theorem dL_law_380 : decode cL_law 380 = .ok (.iconst 1, 1) := by decide +kernel
theorem dL_law_381 : decode cL_law 381 = .ok (.goto 4, 3) := by decide +kernel
theorem dL_law_384 : decode cL_law 384 = .ok (.iconst 0, 1) := by decide +kernel
theorem dL_law_385 : decode cL_law 385 = .ok (.istore 6, 2) := by decide +kernel
theorem dL_law_387 : decode cL_law 387 = .ok (.goto 541, 3) := by decide +kernel
theorem dL_law_390 : decode cL_law 390 = .ok (.iload 9, 2) := by decide +kernel
theorem dL_law_392 : decode cL_law 392 = .ok (.bipush 13, 2) := by decide +kernel
theorem dL_law_394 : decode cL_law 394 = .ok (.if_icmp .ge 50, 3) := by decide +kernel
theorem dL_law_397 : decode cL_law 397 = .ok (.aload_n 1, 1) := by decide +kernel
theorem dL_law_398 : decode cL_law 398 = .ok (.iconst 5, 1) := by decide +kernel
theorem dL_law_399 : decode cL_law 399 = .ok (.iload 10, 2) := by decide +kernel
theorem dL_law_401 : decode cL_law 401 = .ok (.bipush 9, 2) := by decide +kernel
theorem dL_law_403 : decode cL_law 403 = .ok (.idiv, 1) := by decide +kernel
theorem dL_law_404 : decode cL_law 404 = .ok (.iconst 2, 1) := by decide +kernel
theorem dL_law_405 : decode cL_law 405 = .ok (.irem, 1) := by decide +kernel
theorem dL_law_406 : decode cL_law 406 = .ok (.iadd, 1) := by decide +kernel
theorem dL_law_407 : decode cL_law 407 = .ok (.iload 11, 2) := by decide +kernel
theorem dL_law_409 : decode cL_law 409 = .ok (.iload 12, 2) := by decide +kernel
theorem dL_law_411 : decode cL_law 411 = .ok (.invokestatic 160, 3) := by decide +kernel
theorem dL_law_414 : decode cL_law 414 = .ok (.aload_n 2, 1) := by decide +kernel
theorem dL_law_415 : decode cL_law 415 = .ok (.iconst 5, 1) := by decide +kernel
theorem dL_law_416 : decode cL_law 416 = .ok (.iload 10, 2) := by decide +kernel
theorem dL_law_418 : decode cL_law 418 = .ok (.bipush 9, 2) := by decide +kernel
theorem dL_law_420 : decode cL_law 420 = .ok (.idiv, 1) := by decide +kernel
theorem dL_law_421 : decode cL_law 421 = .ok (.iconst 2, 1) := by decide +kernel
theorem dL_law_422 : decode cL_law 422 = .ok (.irem, 1) := by decide +kernel
theorem dL_law_423 : decode cL_law 423 = .ok (.iadd, 1) := by decide +kernel
theorem dL_law_424 : decode cL_law 424 = .ok (.iload 11, 2) := by decide +kernel
theorem dL_law_426 : decode cL_law 426 = .ok (.iload 12, 2) := by decide +kernel
theorem dL_law_428 : decode cL_law 428 = .ok (.invokestatic 160, 3) := by decide +kernel
theorem dL_law_431 : decode cL_law 431 = .ok (.if_icmp .ne 7, 3) := by decide +kernel
theorem dL_law_434 : decode cL_law 434 = .ok (.iconst 1, 1) := by decide +kernel
theorem dL_law_435 : decode cL_law 435 = .ok (.goto 4, 3) := by decide +kernel
theorem dL_law_438 : decode cL_law 438 = .ok (.iconst 0, 1) := by decide +kernel
theorem dL_law_439 : decode cL_law 439 = .ok (.istore 6, 2) := by decide +kernel
theorem dL_law_441 : decode cL_law 441 = .ok (.goto 487, 3) := by decide +kernel
theorem dL_law_444 : decode cL_law 444 = .ok (.iload 9, 2) := by decide +kernel
theorem dL_law_446 : decode cL_law 446 = .ok (.bipush 16, 2) := by decide +kernel
theorem dL_law_448 : decode cL_law 448 = .ok (.if_icmp .ge 46, 3) := by decide +kernel
theorem dL_law_451 : decode cL_law 451 = .ok (.aload_n 1, 1) := by decide +kernel
theorem dL_law_452 : decode cL_law 452 = .ok (.iconst 1, 1) := by decide +kernel
theorem dL_law_453 : decode cL_law 453 = .ok (.iload 11, 2) := by decide +kernel
theorem dL_law_455 : decode cL_law 455 = .ok (.iconst 1, 1) := by decide +kernel
theorem dL_law_456 : decode cL_law 456 = .ok (.iload 10, 2) := by decide +kernel
theorem dL_law_458 : decode cL_law 458 = .ok (.iconst 3, 1) := by decide +kernel
theorem dL_law_459 : decode cL_law 459 = .ok (.idiv, 1) := by decide +kernel
theorem dL_law_460 : decode cL_law 460 = .ok (.iconst 4, 1) := by decide +kernel
theorem dL_law_461 : decode cL_law 461 = .ok (.irem, 1) := by decide +kernel
theorem dL_law_462 : decode cL_law 462 = .ok (.iadd, 1) := by decide +kernel
theorem dL_law_463 : decode cL_law 463 = .ok (.invokestatic 160, 3) := by decide +kernel
theorem dL_law_466 : decode cL_law 466 = .ok (.aload_n 2, 1) := by decide +kernel
theorem dL_law_467 : decode cL_law 467 = .ok (.iconst 1, 1) := by decide +kernel
theorem dL_law_468 : decode cL_law 468 = .ok (.iload 11, 2) := by decide +kernel
theorem dL_law_470 : decode cL_law 470 = .ok (.iconst 1, 1) := by decide +kernel
theorem dL_law_471 : decode cL_law 471 = .ok (.iload 10, 2) := by decide +kernel
theorem dL_law_473 : decode cL_law 473 = .ok (.iconst 3, 1) := by decide +kernel
theorem dL_law_474 : decode cL_law 474 = .ok (.idiv, 1) := by decide +kernel
theorem dL_law_475 : decode cL_law 475 = .ok (.iconst 4, 1) := by decide +kernel
theorem dL_law_476 : decode cL_law 476 = .ok (.irem, 1) := by decide +kernel
theorem dL_law_477 : decode cL_law 477 = .ok (.iadd, 1) := by decide +kernel
theorem dL_law_478 : decode cL_law 478 = .ok (.invokestatic 160, 3) := by decide +kernel
theorem dL_law_481 : decode cL_law 481 = .ok (.if_icmp .ne 7, 3) := by decide +kernel
theorem dL_law_484 : decode cL_law 484 = .ok (.iconst 1, 1) := by decide +kernel
theorem dL_law_485 : decode cL_law 485 = .ok (.goto 4, 3) := by decide +kernel
theorem dL_law_488 : decode cL_law 488 = .ok (.iconst 0, 1) := by decide +kernel
theorem dL_law_489 : decode cL_law 489 = .ok (.istore 6, 2) := by decide +kernel
theorem dL_law_491 : decode cL_law 491 = .ok (.goto 437, 3) := by decide +kernel
theorem dL_law_494 : decode cL_law 494 = .ok (.iload 9, 2) := by decide +kernel
theorem dL_law_496 : decode cL_law 496 = .ok (.bipush 16, 2) := by decide +kernel
theorem dL_law_498 : decode cL_law 498 = .ok (.if_icmp .ne 38, 3) := by decide +kernel
theorem dL_law_501 : decode cL_law 501 = .ok (.aload_n 1, 1) := by decide +kernel
theorem dL_law_502 : decode cL_law 502 = .ok (.iconst 2, 1) := by decide +kernel
theorem dL_law_503 : decode cL_law 503 = .ok (.iconst 1, 1) := by decide +kernel
theorem dL_law_504 : decode cL_law 504 = .ok (.iload 10, 2) := by decide +kernel
theorem dL_law_506 : decode cL_law 506 = .ok (.iconst 4, 1) := by decide +kernel
theorem dL_law_507 : decode cL_law 507 = .ok (.irem, 1) := by decide +kernel
theorem dL_law_508 : decode cL_law 508 = .ok (.iadd, 1) := by decide +kernel
theorem dL_law_509 : decode cL_law 509 = .ok (.invokestatic 154, 3) := by decide +kernel
theorem dL_law_512 : decode cL_law 512 = .ok (.aload_n 2, 1) := by decide +kernel
theorem dL_law_513 : decode cL_law 513 = .ok (.iconst 2, 1) := by decide +kernel
theorem dL_law_514 : decode cL_law 514 = .ok (.iconst 1, 1) := by decide +kernel
theorem dL_law_515 : decode cL_law 515 = .ok (.iload 10, 2) := by decide +kernel
theorem dL_law_517 : decode cL_law 517 = .ok (.iconst 4, 1) := by decide +kernel
theorem dL_law_518 : decode cL_law 518 = .ok (.irem, 1) := by decide +kernel
theorem dL_law_519 : decode cL_law 519 = .ok (.iadd, 1) := by decide +kernel
theorem dL_law_520 : decode cL_law 520 = .ok (.invokestatic 154, 3) := by decide +kernel
theorem dL_law_523 : decode cL_law 523 = .ok (.if_icmp .ne 7, 3) := by decide +kernel
theorem dL_law_526 : decode cL_law 526 = .ok (.iconst 1, 1) := by decide +kernel
theorem dL_law_527 : decode cL_law 527 = .ok (.goto 4, 3) := by decide +kernel
theorem dL_law_530 : decode cL_law 530 = .ok (.iconst 0, 1) := by decide +kernel
theorem dL_law_531 : decode cL_law 531 = .ok (.istore 6, 2) := by decide +kernel
theorem dL_law_533 : decode cL_law 533 = .ok (.goto 395, 3) := by decide +kernel
theorem dL_law_536 : decode cL_law 536 = .ok (.iload 9, 2) := by decide +kernel
theorem dL_law_538 : decode cL_law 538 = .ok (.bipush 21, 2) := by decide +kernel
theorem dL_law_540 : decode cL_law 540 = .ok (.if_icmp .ge 36, 3) := by decide +kernel
theorem dL_law_543 : decode cL_law 543 = .ok (.aload_n 1, 1) := by decide +kernel
theorem dL_law_544 : decode cL_law 544 = .ok (.iconst 3, 1) := by decide +kernel
theorem dL_law_545 : decode cL_law 545 = .ok (.iload 10, 2) := by decide +kernel
theorem dL_law_547 : decode cL_law 547 = .ok (.bipush 40, 2) := by decide +kernel
theorem dL_law_549 : decode cL_law 549 = .ok (.irem, 1) := by decide +kernel
theorem dL_law_550 : decode cL_law 550 = .ok (.invokestatic 154, 3) := by decide +kernel
theorem dL_law_553 : decode cL_law 553 = .ok (.aload_n 2, 1) := by decide +kernel
theorem dL_law_554 : decode cL_law 554 = .ok (.iconst 3, 1) := by decide +kernel
theorem dL_law_555 : decode cL_law 555 = .ok (.iload 10, 2) := by decide +kernel
theorem dL_law_557 : decode cL_law 557 = .ok (.bipush 40, 2) := by decide +kernel
theorem dL_law_559 : decode cL_law 559 = .ok (.irem, 1) := by decide +kernel
theorem dL_law_560 : decode cL_law 560 = .ok (.invokestatic 154, 3) := by decide +kernel
theorem dL_law_563 : decode cL_law 563 = .ok (.if_icmp .ne 7, 3) := by decide +kernel
theorem dL_law_566 : decode cL_law 566 = .ok (.iconst 1, 1) := by decide +kernel
theorem dL_law_567 : decode cL_law 567 = .ok (.goto 4, 3) := by decide +kernel
theorem dL_law_570 : decode cL_law 570 = .ok (.iconst 0, 1) := by decide +kernel
theorem dL_law_571 : decode cL_law 571 = .ok (.istore 6, 2) := by decide +kernel
theorem dL_law_573 : decode cL_law 573 = .ok (.goto 355, 3) := by decide +kernel
theorem dL_law_576 : decode cL_law 576 = .ok (.iload 9, 2) := by decide +kernel
theorem dL_law_578 : decode cL_law 578 = .ok (.bipush 23, 2) := by decide +kernel
theorem dL_law_580 : decode cL_law 580 = .ok (.if_icmp .ge 55, 3) := by decide +kernel
theorem dL_law_583 : decode cL_law 583 = .ok (.aload_n 1, 1) := by decide +kernel
theorem dL_law_584 : decode cL_law 584 = .ok (.iconst 1, 1) := by decide +kernel
theorem dL_law_585 : decode cL_law 585 = .ok (.iload 10, 2) := by decide +kernel
theorem dL_law_587 : decode cL_law 587 = .ok (.iconst 5, 1) := by decide +kernel
theorem dL_law_588 : decode cL_law 588 = .ok (.irem, 1) := by decide +kernel
theorem dL_law_589 : decode cL_law 589 = .ok (.invokestatic 154, 3) := by decide +kernel
theorem dL_law_592 : decode cL_law 592 = .ok (.istore 14, 2) := by decide +kernel
theorem dL_law_594 : decode cL_law 594 = .ok (.aload 5, 2) := by decide +kernel
theorem dL_law_596 : decode cL_law 596 = .ok (.iconst 0, 1) := by decide +kernel
theorem dL_law_597 : decode cL_law 597 = .ok (.dup2, 1) := by decide +kernel
theorem dL_law_598 : decode cL_law 598 = .ok (.iaload, 1) := by decide +kernel
theorem dL_law_599 : decode cL_law 599 = .ok (.iload 14, 2) := by decide +kernel
theorem dL_law_601 : decode cL_law 601 = .ok (.ifCond .lt 7, 3) := by decide +kernel
theorem dL_law_604 : decode cL_law 604 = .ok (.iconst 1, 1) := by decide +kernel
theorem dL_law_605 : decode cL_law 605 = .ok (.goto 4, 3) := by decide +kernel
theorem dL_law_608 : decode cL_law 608 = .ok (.iconst 0, 1) := by decide +kernel
theorem dL_law_609 : decode cL_law 609 = .ok (.iadd, 1) := by decide +kernel
theorem dL_law_610 : decode cL_law 610 = .ok (.iastore, 1) := by decide +kernel
theorem dL_law_611 : decode cL_law 611 = .ok (.aload_n 2, 1) := by decide +kernel
theorem dL_law_612 : decode cL_law 612 = .ok (.iconst 1, 1) := by decide +kernel
theorem dL_law_613 : decode cL_law 613 = .ok (.iload 10, 2) := by decide +kernel
theorem dL_law_615 : decode cL_law 615 = .ok (.iconst 5, 1) := by decide +kernel
theorem dL_law_616 : decode cL_law 616 = .ok (.irem, 1) := by decide +kernel
theorem dL_law_617 : decode cL_law 617 = .ok (.invokestatic 154, 3) := by decide +kernel
theorem dL_law_620 : decode cL_law 620 = .ok (.iload 14, 2) := by decide +kernel
theorem dL_law_622 : decode cL_law 622 = .ok (.if_icmp .ne 7, 3) := by decide +kernel
theorem dL_law_625 : decode cL_law 625 = .ok (.iconst 1, 1) := by decide +kernel
theorem dL_law_626 : decode cL_law 626 = .ok (.goto 4, 3) := by decide +kernel
theorem dL_law_629 : decode cL_law 629 = .ok (.iconst 0, 1) := by decide +kernel
theorem dL_law_630 : decode cL_law 630 = .ok (.istore 6, 2) := by decide +kernel
theorem dL_law_632 : decode cL_law 632 = .ok (.goto 296, 3) := by decide +kernel
theorem dL_law_635 : decode cL_law 635 = .ok (.iload 9, 2) := by decide +kernel
theorem dL_law_637 : decode cL_law 637 = .ok (.bipush 27, 2) := by decide +kernel
theorem dL_law_639 : decode cL_law 639 = .ok (.if_icmp .ge 34, 3) := by decide +kernel
theorem dL_law_642 : decode cL_law 642 = .ok (.aload_n 1, 1) := by decide +kernel
theorem dL_law_643 : decode cL_law 643 = .ok (.iconst 2, 1) := by decide +kernel
theorem dL_law_644 : decode cL_law 644 = .ok (.iload 13, 2) := by decide +kernel
theorem dL_law_646 : decode cL_law 646 = .ok (.iload 11, 2) := by decide +kernel
theorem dL_law_648 : decode cL_law 648 = .ok (.invokestatic 160, 3) := by decide +kernel
theorem dL_law_651 : decode cL_law 651 = .ok (.aload_n 2, 1) := by decide +kernel
theorem dL_law_652 : decode cL_law 652 = .ok (.iconst 2, 1) := by decide +kernel
theorem dL_law_653 : decode cL_law 653 = .ok (.iload 13, 2) := by decide +kernel
theorem dL_law_655 : decode cL_law 655 = .ok (.iload 11, 2) := by decide +kernel
theorem dL_law_657 : decode cL_law 657 = .ok (.invokestatic 160, 3) := by decide +kernel
theorem dL_law_660 : decode cL_law 660 = .ok (.if_icmp .ne 7, 3) := by decide +kernel
theorem dL_law_663 : decode cL_law 663 = .ok (.iconst 1, 1) := by decide +kernel
theorem dL_law_664 : decode cL_law 664 = .ok (.goto 4, 3) := by decide +kernel
theorem dL_law_667 : decode cL_law 667 = .ok (.iconst 0, 1) := by decide +kernel
theorem dL_law_668 : decode cL_law 668 = .ok (.istore 6, 2) := by decide +kernel
theorem dL_law_670 : decode cL_law 670 = .ok (.goto 258, 3) := by decide +kernel
theorem dL_law_673 : decode cL_law 673 = .ok (.iload 9, 2) := by decide +kernel
theorem dL_law_675 : decode cL_law 675 = .ok (.bipush 34, 2) := by decide +kernel
theorem dL_law_677 : decode cL_law 677 = .ok (.if_icmp .ge 111, 3) := by decide +kernel
theorem dL_law_680 : decode cL_law 680 = .ok (.iload 10, 2) := by decide +kernel
theorem dL_law_682 : decode cL_law 682 = .ok (.bipush 81, 2) := by decide +kernel
theorem dL_law_684 : decode cL_law 684 = .ok (.idiv, 1) := by decide +kernel
theorem dL_law_685 : decode cL_law 685 = .ok (.iconst 4, 1) := by decide +kernel
theorem dL_law_686 : decode cL_law 686 = .ok (.irem, 1) := by decide +kernel
theorem dL_law_687 : decode cL_law 687 = .ok (.istore 14, 2) := by decide +kernel
theorem dL_law_689 : decode cL_law 689 = .ok (.iload 14, 2) := by decide +kernel
theorem dL_law_691 : decode cL_law 691 = .ok (.iconst 3, 1) := by decide +kernel
theorem dL_law_692 : decode cL_law 692 = .ok (.if_icmp .ne 14, 3) := by decide +kernel
theorem dL_law_695 : decode cL_law 695 = .ok (.iload 10, 2) := by decide +kernel
theorem dL_law_697 : decode cL_law 697 = .ok (.sipush 324, 3) := by decide +kernel
theorem dL_law_700 : decode cL_law 700 = .ok (.idiv, 1) := by decide +kernel
theorem dL_law_701 : decode cL_law 701 = .ok (.iconst 3, 1) := by decide +kernel
theorem dL_law_702 : decode cL_law 702 = .ok (.irem, 1) := by decide +kernel
theorem dL_law_703 : decode cL_law 703 = .ok (.goto 13, 3) := by decide +kernel
theorem dL_law_706 : decode cL_law 706 = .ok (.iload 10, 2) := by decide +kernel
theorem dL_law_708 : decode cL_law 708 = .ok (.sipush 324, 3) := by decide +kernel
theorem dL_law_711 : decode cL_law 711 = .ok (.idiv, 1) := by decide +kernel
theorem dL_law_712 : decode cL_law 712 = .ok (.sipush 500, 3) := by decide +kernel
theorem dL_law_715 : decode cL_law 715 = .ok (.irem, 1) := by decide +kernel
theorem dL_law_716 : decode cL_law 716 = .ok (.istore 15, 2) := by decide +kernel
theorem dL_law_718 : decode cL_law 718 = .ok (.aload_n 1, 1) := by decide +kernel
theorem dL_law_719 : decode cL_law 719 = .ok (.iload 13, 2) := by decide +kernel
theorem dL_law_721 : decode cL_law 721 = .ok (.iload 11, 2) := by decide +kernel
theorem dL_law_723 : decode cL_law 723 = .ok (.iload 12, 2) := by decide +kernel
theorem dL_law_725 : decode cL_law 725 = .ok (.iload 14, 2) := by decide +kernel
theorem dL_law_727 : decode cL_law 727 = .ok (.iload 15, 2) := by decide +kernel
theorem dL_law_729 : decode cL_law 729 = .ok (.iload 10, 2) := by decide +kernel
theorem dL_law_731 : decode cL_law 731 = .ok (.sipush 972, 3) := by decide +kernel
theorem dL_law_734 : decode cL_law 734 = .ok (.idiv, 1) := by decide +kernel
theorem dL_law_735 : decode cL_law 735 = .ok (.iconst 3, 1) := by decide +kernel
theorem dL_law_736 : decode cL_law 736 = .ok (.irem, 1) := by decide +kernel
theorem dL_law_737 : decode cL_law 737 = .ok (.invokestatic 163, 3) := by decide +kernel
theorem dL_law_740 : decode cL_law 740 = .ok (.aload_n 2, 1) := by decide +kernel
theorem dL_law_741 : decode cL_law 741 = .ok (.iload 13, 2) := by decide +kernel
theorem dL_law_743 : decode cL_law 743 = .ok (.iload 11, 2) := by decide +kernel
theorem dL_law_745 : decode cL_law 745 = .ok (.iload 12, 2) := by decide +kernel
theorem dL_law_747 : decode cL_law 747 = .ok (.iload 14, 2) := by decide +kernel
theorem dL_law_749 : decode cL_law 749 = .ok (.iload 14, 2) := by decide +kernel
theorem dL_law_751 : decode cL_law 751 = .ok (.iconst 3, 1) := by decide +kernel
theorem dL_law_752 : decode cL_law 752 = .ok (.if_icmp .ne 8, 3) := by decide +kernel
theorem dL_law_755 : decode cL_law 755 = .ok (.iload 15, 2) := by decide +kernel
theorem dL_law_757 : decode cL_law 757 = .ok (.goto 7, 3) := by decide +kernel
theorem dL_law_760 : decode cL_law 760 = .ok (.iload 15, 2) := by decide +kernel
theorem dL_law_762 : decode cL_law 762 = .ok (.iload_n 3, 1) := by decide +kernel
theorem dL_law_763 : decode cL_law 763 = .ok (.iadd, 1) := by decide +kernel
theorem dL_law_764 : decode cL_law 764 = .ok (.iload 10, 2) := by decide +kernel
theorem dL_law_766 : decode cL_law 766 = .ok (.sipush 972, 3) := by decide +kernel
theorem dL_law_769 : decode cL_law 769 = .ok (.idiv, 1) := by decide +kernel
theorem dL_law_770 : decode cL_law 770 = .ok (.iconst 3, 1) := by decide +kernel
theorem dL_law_771 : decode cL_law 771 = .ok (.irem, 1) := by decide +kernel
theorem dL_law_772 : decode cL_law 772 = .ok (.invokestatic 163, 3) := by decide +kernel
theorem dL_law_775 : decode cL_law 775 = .ok (.if_icmp .ne 7, 3) := by decide +kernel
theorem dL_law_778 : decode cL_law 778 = .ok (.iconst 1, 1) := by decide +kernel
theorem dL_law_779 : decode cL_law 779 = .ok (.goto 4, 3) := by decide +kernel
theorem dL_law_782 : decode cL_law 782 = .ok (.iconst 0, 1) := by decide +kernel
theorem dL_law_783 : decode cL_law 783 = .ok (.istore 6, 2) := by decide +kernel
theorem dL_law_785 : decode cL_law 785 = .ok (.goto 143, 3) := by decide +kernel
theorem dL_law_788 : decode cL_law 788 = .ok (.iload 9, 2) := by decide +kernel
theorem dL_law_790 : decode cL_law 790 = .ok (.bipush 34, 2) := by decide +kernel
theorem dL_law_792 : decode cL_law 792 = .ok (.if_icmp .ne 30, 3) := by decide +kernel
theorem dL_law_795 : decode cL_law 795 = .ok (.aload_n 1, 1) := by decide +kernel
theorem dL_law_796 : decode cL_law 796 = .ok (.iconst 4, 1) := by decide +kernel
theorem dL_law_797 : decode cL_law 797 = .ok (.iload 13, 2) := by decide +kernel
theorem dL_law_799 : decode cL_law 799 = .ok (.invokestatic 154, 3) := by decide +kernel
theorem dL_law_802 : decode cL_law 802 = .ok (.aload_n 2, 1) := by decide +kernel
theorem dL_law_803 : decode cL_law 803 = .ok (.iconst 4, 1) := by decide +kernel
theorem dL_law_804 : decode cL_law 804 = .ok (.iload 13, 2) := by decide +kernel
theorem dL_law_806 : decode cL_law 806 = .ok (.invokestatic 154, 3) := by decide +kernel
theorem dL_law_809 : decode cL_law 809 = .ok (.if_icmp .ne 7, 3) := by decide +kernel
theorem dL_law_812 : decode cL_law 812 = .ok (.iconst 1, 1) := by decide +kernel
theorem dL_law_813 : decode cL_law 813 = .ok (.goto 4, 3) := by decide +kernel
theorem dL_law_816 : decode cL_law 816 = .ok (.iconst 0, 1) := by decide +kernel
theorem dL_law_817 : decode cL_law 817 = .ok (.istore 6, 2) := by decide +kernel
theorem dL_law_819 : decode cL_law 819 = .ok (.goto 109, 3) := by decide +kernel
theorem dL_law_822 : decode cL_law 822 = .ok (.iload 9, 2) := by decide +kernel
theorem dL_law_824 : decode cL_law 824 = .ok (.bipush 37, 2) := by decide +kernel
theorem dL_law_826 : decode cL_law 826 = .ok (.if_icmp .ge 60, 3) := by decide +kernel
theorem dL_law_829 : decode cL_law 829 = .ok (.aload_n 1, 1) := by decide +kernel
theorem dL_law_830 : decode cL_law 830 = .ok (.iload 13, 2) := by decide +kernel
theorem dL_law_832 : decode cL_law 832 = .ok (.iload 11, 2) := by decide +kernel
theorem dL_law_834 : decode cL_law 834 = .ok (.iload 12, 2) := by decide +kernel
theorem dL_law_836 : decode cL_law 836 = .ok (.invokestatic 167, 3) := by decide +kernel
theorem dL_law_839 : decode cL_law 839 = .ok (.istore 14, 2) := by decide +kernel
theorem dL_law_841 : decode cL_law 841 = .ok (.aload 5, 2) := by decide +kernel
theorem dL_law_843 : decode cL_law 843 = .ok (.iconst 1, 1) := by decide +kernel
theorem dL_law_844 : decode cL_law 844 = .ok (.dup2, 1) := by decide +kernel
theorem dL_law_845 : decode cL_law 845 = .ok (.iaload, 1) := by decide +kernel
theorem dL_law_846 : decode cL_law 846 = .ok (.iload 14, 2) := by decide +kernel
theorem dL_law_848 : decode cL_law 848 = .ok (.ifCond .eq 10, 3) := by decide +kernel
theorem dL_law_851 : decode cL_law 851 = .ok (.iconst 1, 1) := by decide +kernel
theorem dL_law_852 : decode cL_law 852 = .ok (.iload 13, 2) := by decide +kernel
theorem dL_law_854 : decode cL_law 854 = .ok (.ishl, 1) := by decide +kernel
theorem dL_law_855 : decode cL_law 855 = .ok (.goto 4, 3) := by decide +kernel
theorem dL_law_858 : decode cL_law 858 = .ok (.iconst 0, 1) := by decide +kernel
theorem dL_law_859 : decode cL_law 859 = .ok (.ior, 1) := by decide +kernel
theorem dL_law_860 : decode cL_law 860 = .ok (.iastore, 1) := by decide +kernel
theorem dL_law_861 : decode cL_law 861 = .ok (.aload_n 2, 1) := by decide +kernel
theorem dL_law_862 : decode cL_law 862 = .ok (.iload 13, 2) := by decide +kernel
theorem dL_law_864 : decode cL_law 864 = .ok (.iload 11, 2) := by decide +kernel
theorem dL_law_866 : decode cL_law 866 = .ok (.iload 12, 2) := by decide +kernel
theorem dL_law_868 : decode cL_law 868 = .ok (.invokestatic 167, 3) := by decide +kernel
theorem dL_law_871 : decode cL_law 871 = .ok (.iload 14, 2) := by decide +kernel
theorem dL_law_873 : decode cL_law 873 = .ok (.if_icmp .ne 7, 3) := by decide +kernel
theorem dL_law_876 : decode cL_law 876 = .ok (.iconst 1, 1) := by decide +kernel
theorem dL_law_877 : decode cL_law 877 = .ok (.goto 4, 3) := by decide +kernel
theorem dL_law_880 : decode cL_law 880 = .ok (.iconst 0, 1) := by decide +kernel
theorem dL_law_881 : decode cL_law 881 = .ok (.istore 6, 2) := by decide +kernel
theorem dL_law_883 : decode cL_law 883 = .ok (.goto 45, 3) := by decide +kernel
theorem dL_law_886 : decode cL_law 886 = .ok (.aload_n 1, 1) := by decide +kernel
theorem dL_law_887 : decode cL_law 887 = .ok (.iconst 3, 1) := by decide +kernel
theorem dL_law_888 : decode cL_law 888 = .ok (.iload 10, 2) := by decide +kernel
theorem dL_law_890 : decode cL_law 890 = .ok (.bipush 81, 2) := by decide +kernel
theorem dL_law_892 : decode cL_law 892 = .ok (.idiv, 1) := by decide +kernel
theorem dL_law_893 : decode cL_law 893 = .ok (.iconst 2, 1) := by decide +kernel
theorem dL_law_894 : decode cL_law 894 = .ok (.irem, 1) := by decide +kernel
theorem dL_law_895 : decode cL_law 895 = .ok (.iadd, 1) := by decide +kernel
theorem dL_law_896 : decode cL_law 896 = .ok (.iload 13, 2) := by decide +kernel
theorem dL_law_898 : decode cL_law 898 = .ok (.iconst 0, 1) := by decide +kernel
theorem dL_law_899 : decode cL_law 899 = .ok (.invokestatic 160, 3) := by decide +kernel
theorem dL_law_902 : decode cL_law 902 = .ok (.aload_n 2, 1) := by decide +kernel
theorem dL_law_903 : decode cL_law 903 = .ok (.iconst 3, 1) := by decide +kernel
theorem dL_law_904 : decode cL_law 904 = .ok (.iload 10, 2) := by decide +kernel
theorem dL_law_906 : decode cL_law 906 = .ok (.bipush 81, 2) := by decide +kernel
theorem dL_law_908 : decode cL_law 908 = .ok (.idiv, 1) := by decide +kernel
theorem dL_law_909 : decode cL_law 909 = .ok (.iconst 2, 1) := by decide +kernel
theorem dL_law_910 : decode cL_law 910 = .ok (.irem, 1) := by decide +kernel
theorem dL_law_911 : decode cL_law 911 = .ok (.iadd, 1) := by decide +kernel
theorem dL_law_912 : decode cL_law 912 = .ok (.iload 13, 2) := by decide +kernel
theorem dL_law_914 : decode cL_law 914 = .ok (.iconst 0, 1) := by decide +kernel
theorem dL_law_915 : decode cL_law 915 = .ok (.invokestatic 160, 3) := by decide +kernel
theorem dL_law_918 : decode cL_law 918 = .ok (.if_icmp .ne 7, 3) := by decide +kernel
theorem dL_law_921 : decode cL_law 921 = .ok (.iconst 1, 1) := by decide +kernel
theorem dL_law_922 : decode cL_law 922 = .ok (.goto 4, 3) := by decide +kernel
theorem dL_law_925 : decode cL_law 925 = .ok (.iconst 0, 1) := by decide +kernel
theorem dL_law_926 : decode cL_law 926 = .ok (.istore 6, 2) := by decide +kernel
theorem dL_law_928 : decode cL_law 928 = .ok (.iload 6, 2) := by decide +kernel
theorem dL_law_930 : decode cL_law 930 = .ok (.ifCond .eq 32, 3) := by decide +kernel
theorem dL_law_933 : decode cL_law 933 = .ok (.iload 7, 2) := by decide +kernel
theorem dL_law_935 : decode cL_law 935 = .ok (.iconst 3, 1) := by decide +kernel
theorem dL_law_936 : decode cL_law 936 = .ok (.irem, 1) := by decide +kernel
theorem dL_law_937 : decode cL_law 937 = .ok (.iconst 2, 1) := by decide +kernel
theorem dL_law_938 : decode cL_law 938 = .ok (.if_icmp .lt 20, 3) := by decide +kernel
theorem dL_law_941 : decode cL_law 941 = .ok (.aload_n 1, 1) := by decide +kernel
theorem dL_law_942 : decode cL_law 942 = .ok (.aload_n 2, 1) := by decide +kernel
theorem dL_law_943 : decode cL_law 943 = .ok (.aload 4, 2) := by decide +kernel
theorem dL_law_945 : decode cL_law 945 = .ok (.aload 5, 2) := by decide +kernel
theorem dL_law_947 : decode cL_law 947 = .ok (.iload 8, 2) := by decide +kernel
theorem dL_law_949 : decode cL_law 949 = .ok (.iconst 3, 1) := by decide +kernel
theorem dL_law_950 : decode cL_law 950 = .ok (.idiv, 1) := by decide +kernel
theorem dL_law_951 : decode cL_law 951 = .ok (.iload_n 3, 1) := by decide +kernel
theorem dL_law_952 : decode cL_law 952 = .ok (.invokestatic 171, 3) := by decide +kernel
theorem dL_law_955 : decode cL_law 955 = .ok (.ifCond .eq 7, 3) := by decide +kernel
theorem dL_law_958 : decode cL_law 958 = .ok (.iconst 1, 1) := by decide +kernel
theorem dL_law_959 : decode cL_law 959 = .ok (.goto 4, 3) := by decide +kernel
theorem dL_law_962 : decode cL_law 962 = .ok (.iconst 0, 1) := by decide +kernel
theorem dL_law_963 : decode cL_law 963 = .ok (.istore 6, 2) := by decide +kernel
theorem dL_law_965 : decode cL_law 965 = .ok (.iinc 7 1, 3) := by decide +kernel
theorem dL_law_968 : decode cL_law 968 = .ok (.goto (-849), 3) := by decide +kernel
theorem dL_law_971 : decode cL_law 971 = .ok (.iload 6, 2) := by decide +kernel
theorem dL_law_973 : decode cL_law 973 = .ok (.ireturn, 1) := by decide +kernel
