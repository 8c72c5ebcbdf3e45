/-! decode rows -/
theorem dX5_add_0 : decode cX5_add 0 = .ok (.aload_n 0, 1) := by decide +kernel
theorem dX5_add_1 : decode cX5_add 1 = .ok (.getfield 15, 3) := by decide +kernel
theorem dX5_add_4 : decode cX5_add 4 = .ok (.bipush 100, 2) := by decide +kernel
theorem dX5_add_6 : decode cX5_add 6 = .ok (.if_icmp .ge 23, 3) := by decide +kernel
theorem dX5_add_9 : decode cX5_add 9 = .ok (.aload_n 0, 1) := by decide +kernel
theorem dX5_add_10 : decode cX5_add 10 = .ok (.getfield 9, 3) := by decide +kernel
theorem dX5_add_13 : decode cX5_add 13 = .ok (.aload_n 0, 1) := by decide +kernel
theorem dX5_add_14 : decode cX5_add 14 = .ok (.getfield 15, 3) := by decide +kernel
theorem dX5_add_17 : decode cX5_add 17 = .ok (.iload_n 1, 1) := by decide +kernel
theorem dX5_add_18 : decode cX5_add 18 = .ok (.iastore, 1) := by decide +kernel
theorem dX5_add_19 : decode cX5_add 19 = .ok (.aload_n 0, 1) := by decide +kernel
theorem dX5_add_20 : decode cX5_add 20 = .ok (.dup, 1) := by decide +kernel
theorem dX5_add_21 : decode cX5_add 21 = .ok (.getfield 15, 3) := by decide +kernel
theorem dX5_add_24 : decode cX5_add 24 = .ok (.iconst 1, 1) := by decide +kernel
theorem dX5_add_25 : decode cX5_add 25 = .ok (.iadd, 1) := by decide +kernel
theorem dX5_add_26 : decode cX5_add 26 = .ok (.putfield 15, 3) := by decide +kernel
theorem dX5_add_29 : decode cX5_add 29 = .ok (.return_, 1) := by decide +kernel
theorem dX5_faultOf_0 : decode cX5_faultOf 0 = .ok (.aload_n 0, 1) := by decide +kernel
theorem dX5_faultOf_1 : decode cX5_faultOf 1 = .ok (.aload_n 1, 1) := by decide +kernel
theorem dX5_faultOf_2 : decode cX5_faultOf 2 = .ok (.putfield 19, 3) := by decide +kernel
theorem dX5_faultOf_5 : decode cX5_faultOf 5 = .ok (.aload_n 1, 1) := by decide +kernel
theorem dX5_faultOf_6 : decode cX5_faultOf 6 = .ok (.invokevirtual 23, 3) := by decide +kernel
theorem dX5_faultOf_9 : decode cX5_faultOf 9 = .ok (.aload_n 0, 1) := by decide +kernel
theorem dX5_faultOf_10 : decode cX5_faultOf 10 = .ok (.iconst 0, 1) := by decide +kernel
theorem dX5_faultOf_11 : decode cX5_faultOf 11 = .ok (.putfield 28, 3) := by decide +kernel
theorem dX5_faultOf_14 : decode cX5_faultOf 14 = .ok (.aload_n 0, 1) := by decide +kernel
theorem dX5_faultOf_15 : decode cX5_faultOf 15 = .ok (.iconst 0, 1) := by decide +kernel
theorem dX5_faultOf_16 : decode cX5_faultOf 16 = .ok (.putfield 31, 3) := by decide +kernel
theorem dX5_faultOf_19 : decode cX5_faultOf 19 = .ok (.aload_n 0, 1) := by decide +kernel
theorem dX5_faultOf_20 : decode cX5_faultOf 20 = .ok (.invokevirtual 35, 3) := by decide +kernel
theorem dX5_faultOf_23 : decode cX5_faultOf 23 = .ok (.iconst 1, 1) := by decide +kernel
theorem dX5_faultOf_24 : decode cX5_faultOf 24 = .ok (.istore_n 2, 1) := by decide +kernel
theorem dX5_faultOf_25 : decode cX5_faultOf 25 = .ok (.iload_n 2, 1) := by decide +kernel
theorem dX5_faultOf_26 : decode cX5_faultOf 26 = .ok (.bipush 6, 2) := by decide +kernel
theorem dX5_faultOf_28 : decode cX5_faultOf 28 = .ok (.if_icmp .ge 32, 3) := by decide +kernel
theorem dX5_faultOf_31 : decode cX5_faultOf 31 = .ok (.aload_n 0, 1) := by decide +kernel
theorem dX5_faultOf_32 : decode cX5_faultOf 32 = .ok (.bipush 59, 2) := by decide +kernel
theorem dX5_faultOf_34 : decode cX5_faultOf 34 = .ok (.invokevirtual 38, 3) := by decide +kernel
theorem dX5_faultOf_37 : decode cX5_faultOf 37 = .ok (.ifCond .eq 23, 3) := by decide +kernel
theorem dX5_faultOf_40 : decode cX5_faultOf 40 = .ok (.aload_n 0, 1) := by decide +kernel
theorem dX5_faultOf_41 : decode cX5_faultOf 41 = .ok (.dup, 1) := by decide +kernel
theorem dX5_faultOf_42 : decode cX5_faultOf 42 = .ok (.getfield 28, 3) := by decide +kernel
theorem dX5_faultOf_45 : decode cX5_faultOf 45 = .ok (.iconst 1, 1) := by decide +kernel
theorem dX5_faultOf_46 : decode cX5_faultOf 46 = .ok (.iadd, 1) := by decide +kernel
theorem dX5_faultOf_47 : decode cX5_faultOf 47 = .ok (.putfield 28, 3) := by decide +kernel
theorem dX5_faultOf_50 : decode cX5_faultOf 50 = .ok (.aload_n 0, 1) := by decide +kernel
theorem dX5_faultOf_51 : decode cX5_faultOf 51 = .ok (.invokevirtual 35, 3) := by decide +kernel
theorem dX5_faultOf_54 : decode cX5_faultOf 54 = .ok (.iinc 2 1, 3) := by decide +kernel
theorem dX5_faultOf_57 : decode cX5_faultOf 57 = .ok (.goto (-32), 3) := by decide +kernel
theorem dX5_faultOf_60 : decode cX5_faultOf 60 = .ok (.aload_n 0, 1) := by decide +kernel
theorem dX5_faultOf_61 : decode cX5_faultOf 61 = .ok (.getfield 31, 3) := by decide +kernel
theorem dX5_faultOf_64 : decode cX5_faultOf 64 = .ok (.ifCond .ne 14, 3) := by decide +kernel
theorem dX5_faultOf_67 : decode cX5_faultOf 67 = .ok (.aload_n 0, 1) := by decide +kernel
theorem dX5_faultOf_68 : decode cX5_faultOf 68 = .ok (.getfield 28, 3) := by decide +kernel
theorem dX5_faultOf_71 : decode cX5_faultOf 71 = .ok (.aload_n 0, 1) := by decide +kernel
theorem dX5_faultOf_72 : decode cX5_faultOf 72 = .ok (.getfield 15, 3) := by decide +kernel
theorem dX5_faultOf_75 : decode cX5_faultOf 75 = .ok (.if_icmp .ge 10, 3) := by decide +kernel
theorem dX5_faultOf_78 : decode cX5_faultOf 78 = .ok (.aload_n 0, 1) := by decide +kernel
theorem dX5_faultOf_79 : decode cX5_faultOf 79 = .ok (.getfield 28, 3) := by decide +kernel
theorem dX5_faultOf_82 : decode cX5_faultOf 82 = .ok (.goto 4, 3) := by decide +kernel
theorem dX5_faultOf_85 : decode cX5_faultOf 85 = .ok (.iconst (-1), 1) := by decide +kernel
theorem dX5_faultOf_86 : decode cX5_faultOf 86 = .ok (.ireturn, 1) := by decide +kernel
theorem dX5_isNext_0 : decode cX5_isNext 0 = .ok (.aload_n 0, 1) := by decide +kernel
theorem dX5_isNext_1 : decode cX5_isNext 1 = .ok (.getfield 31, 3) := by decide +kernel
theorem dX5_isNext_4 : decode cX5_isNext 4 = .ok (.ifCond .ne 31, 3) := by decide +kernel
theorem dX5_isNext_7 : decode cX5_isNext 7 = .ok (.aload_n 0, 1) := by decide +kernel
theorem dX5_isNext_8 : decode cX5_isNext 8 = .ok (.getfield 28, 3) := by decide +kernel
theorem dX5_isNext_11 : decode cX5_isNext 11 = .ok (.aload_n 0, 1) := by decide +kernel
theorem dX5_isNext_12 : decode cX5_isNext 12 = .ok (.getfield 15, 3) := by decide +kernel
theorem dX5_isNext_15 : decode cX5_isNext 15 = .ok (.if_icmp .ge 20, 3) := by decide +kernel
theorem dX5_isNext_18 : decode cX5_isNext 18 = .ok (.aload_n 0, 1) := by decide +kernel
theorem dX5_isNext_19 : decode cX5_isNext 19 = .ok (.getfield 9, 3) := by decide +kernel
theorem dX5_isNext_22 : decode cX5_isNext 22 = .ok (.aload_n 0, 1) := by decide +kernel
theorem dX5_isNext_23 : decode cX5_isNext 23 = .ok (.getfield 28, 3) := by decide +kernel
theorem dX5_isNext_26 : decode cX5_isNext 26 = .ok (.iaload, 1) := by decide +kernel
theorem dX5_isNext_27 : decode cX5_isNext 27 = .ok (.iload_n 1, 1) := by decide +kernel
theorem dX5_isNext_28 : decode cX5_isNext 28 = .ok (.if_icmp .ne 7, 3) := by decide +kernel
theorem dX5_isNext_31 : decode cX5_isNext 31 = .ok (.iconst 1, 1) := by decide +kernel
theorem dX5_isNext_32 : decode cX5_isNext 32 = .ok (.goto 4, 3) := by decide +kernel
theorem dX5_isNext_35 : decode cX5_isNext 35 = .ok (.iconst 0, 1) := by decide +kernel
theorem dX5_isNext_36 : decode cX5_isNext 36 = .ok (.ireturn, 1) := by decide +kernel
theorem dX5_take_0 : decode cX5_take 0 = .ok (.iconst 0, 1) := by decide +kernel
theorem dX5_take_1 : decode cX5_take 1 = .ok (.istore_n 2, 1) := by decide +kernel
theorem dX5_take_2 : decode cX5_take 2 = .ok (.iload_n 2, 1) := by decide +kernel
theorem dX5_take_3 : decode cX5_take 3 = .ok (.aload_n 1, 1) := by decide +kernel
theorem dX5_take_4 : decode cX5_take 4 = .ok (.invokevirtual 42, 3) := by decide +kernel
theorem dX5_take_7 : decode cX5_take 7 = .ok (.if_icmp .ge 46, 3) := by decide +kernel
theorem dX5_take_10 : decode cX5_take 10 = .ok (.aload_n 0, 1) := by decide +kernel
theorem dX5_take_11 : decode cX5_take 11 = .ok (.getfield 31, 3) := by decide +kernel
theorem dX5_take_14 : decode cX5_take 14 = .ok (.ifCond .ne 39, 3) := by decide +kernel
theorem dX5_take_17 : decode cX5_take 17 = .ok (.aload_n 0, 1) := by decide +kernel
theorem dX5_take_18 : decode cX5_take 18 = .ok (.aload_n 1, 1) := by decide +kernel
theorem dX5_take_19 : decode cX5_take 19 = .ok (.iload_n 2, 1) := by decide +kernel
theorem dX5_take_20 : decode cX5_take 20 = .ok (.invokevirtual 47, 3) := by decide +kernel
theorem dX5_take_23 : decode cX5_take 23 = .ok (.invokevirtual 38, 3) := by decide +kernel
theorem dX5_take_26 : decode cX5_take 26 = .ok (.ifCond .eq 16, 3) := by decide +kernel
theorem dX5_take_29 : decode cX5_take 29 = .ok (.aload_n 0, 1) := by decide +kernel
theorem dX5_take_30 : decode cX5_take 30 = .ok (.dup, 1) := by decide +kernel
theorem dX5_take_31 : decode cX5_take 31 = .ok (.getfield 28, 3) := by decide +kernel
theorem dX5_take_34 : decode cX5_take 34 = .ok (.iconst 1, 1) := by decide +kernel
theorem dX5_take_35 : decode cX5_take 35 = .ok (.iadd, 1) := by decide +kernel
theorem dX5_take_36 : decode cX5_take 36 = .ok (.putfield 28, 3) := by decide +kernel
theorem dX5_take_39 : decode cX5_take 39 = .ok (.goto 8, 3) := by decide +kernel
theorem dX5_take_42 : decode cX5_take 42 = .ok (.aload_n 0, 1) := by decide +kernel
theorem dX5_take_43 : decode cX5_take 43 = .ok (.iconst 1, 1) := by decide +kernel
theorem dX5_take_44 : decode cX5_take 44 = .ok (.putfield 31, 3) := by decide +kernel
theorem dX5_take_47 : decode cX5_take 47 = .ok (.iinc 2 1, 3) := by decide +kernel
theorem dX5_take_50 : decode cX5_take 50 = .ok (.goto (-48), 3) := by decide +kernel
theorem dX5_take_53 : decode cX5_take 53 = .ok (.return_, 1) := by decide +kernel
theorem dX5_takeOneOf_0 : decode cX5_takeOneOf 0 = .ok (.aload_n 0, 1) := by decide +kernel
theorem dX5_takeOneOf_1 : decode cX5_takeOneOf 1 = .ok (.getfield 31, 3) := by decide +kernel
theorem dX5_takeOneOf_4 : decode cX5_takeOneOf 4 = .ok (.ifCond .ne 31, 3) := by decide +kernel
theorem dX5_takeOneOf_7 : decode cX5_takeOneOf 7 = .ok (.aload_n 0, 1) := by decide +kernel
theorem dX5_takeOneOf_8 : decode cX5_takeOneOf 8 = .ok (.getfield 28, 3) := by decide +kernel
theorem dX5_takeOneOf_11 : decode cX5_takeOneOf 11 = .ok (.aload_n 0, 1) := by decide +kernel
theorem dX5_takeOneOf_12 : decode cX5_takeOneOf 12 = .ok (.getfield 15, 3) := by decide +kernel
theorem dX5_takeOneOf_15 : decode cX5_takeOneOf 15 = .ok (.if_icmp .ge 20, 3) := by decide +kernel
theorem dX5_takeOneOf_18 : decode cX5_takeOneOf 18 = .ok (.aload_n 1, 1) := by decide +kernel
theorem dX5_takeOneOf_19 : decode cX5_takeOneOf 19 = .ok (.aload_n 0, 1) := by decide +kernel
theorem dX5_takeOneOf_20 : decode cX5_takeOneOf 20 = .ok (.getfield 9, 3) := by decide +kernel
theorem dX5_takeOneOf_23 : decode cX5_takeOneOf 23 = .ok (.aload_n 0, 1) := by decide +kernel
theorem dX5_takeOneOf_24 : decode cX5_takeOneOf 24 = .ok (.getfield 28, 3) := by decide +kernel
theorem dX5_takeOneOf_27 : decode cX5_takeOneOf 27 = .ok (.iaload, 1) := by decide +kernel
theorem dX5_takeOneOf_28 : decode cX5_takeOneOf 28 = .ok (.i2c, 1) := by decide +kernel
theorem dX5_takeOneOf_29 : decode cX5_takeOneOf 29 = .ok (.invokevirtual 51, 3) := by decide +kernel
theorem dX5_takeOneOf_32 : decode cX5_takeOneOf 32 = .ok (.goto 4, 3) := by decide +kernel
theorem dX5_takeOneOf_35 : decode cX5_takeOneOf 35 = .ok (.iconst (-1), 1) := by decide +kernel
theorem dX5_takeOneOf_36 : decode cX5_takeOneOf 36 = .ok (.istore_n 2, 1) := by decide +kernel
theorem dX5_takeOneOf_37 : decode cX5_takeOneOf 37 = .ok (.iload_n 2, 1) := by decide +kernel
theorem dX5_takeOneOf_38 : decode cX5_takeOneOf 38 = .ok (.ifCond .ge 10, 3) := by decide +kernel
theorem dX5_takeOneOf_41 : decode cX5_takeOneOf 41 = .ok (.aload_n 0, 1) := by decide +kernel
theorem dX5_takeOneOf_42 : decode cX5_takeOneOf 42 = .ok (.iconst 1, 1) := by decide +kernel
theorem dX5_takeOneOf_43 : decode cX5_takeOneOf 43 = .ok (.putfield 31, 3) := by decide +kernel
theorem dX5_takeOneOf_46 : decode cX5_takeOneOf 46 = .ok (.iconst 0, 1) := by decide +kernel
theorem dX5_takeOneOf_47 : decode cX5_takeOneOf 47 = .ok (.ireturn, 1) := by decide +kernel
theorem dX5_takeOneOf_48 : decode cX5_takeOneOf 48 = .ok (.aload_n 0, 1) := by decide +kernel
theorem dX5_takeOneOf_49 : decode cX5_takeOneOf 49 = .ok (.dup, 1) := by decide +kernel
theorem dX5_takeOneOf_50 : decode cX5_takeOneOf 50 = .ok (.getfield 28, 3) := by decide +kernel
theorem dX5_takeOneOf_53 : decode cX5_takeOneOf 53 = .ok (.iconst 1, 1) := by decide +kernel
theorem dX5_takeOneOf_54 : decode cX5_takeOneOf 54 = .ok (.iadd, 1) := by decide +kernel
theorem dX5_takeOneOf_55 : decode cX5_takeOneOf 55 = .ok (.putfield 28, 3) := by decide +kernel
theorem dX5_takeOneOf_58 : decode cX5_takeOneOf 58 = .ok (.iload_n 2, 1) := by decide +kernel
theorem dX5_takeOneOf_59 : decode cX5_takeOneOf 59 = .ok (.ireturn, 1) := by decide +kernel
theorem dX5_takeClause_0 : decode cX5_takeClause 0 = .ok (.aload_n 0, 1) := by decide +kernel
theorem dX5_takeClause_1 : decode cX5_takeClause 1 = .ok (.bipush 98, 2) := by decide +kernel
theorem dX5_takeClause_3 : decode cX5_takeClause 3 = .ok (.invokevirtual 38, 3) := by decide +kernel
theorem dX5_takeClause_6 : decode cX5_takeClause 6 = .ok (.ifCond .ne 12, 3) := by decide +kernel
theorem dX5_takeClause_9 : decode cX5_takeClause 9 = .ok (.aload_n 0, 1) := by decide +kernel
theorem dX5_takeClause_10 : decode cX5_takeClause 10 = .ok (.bipush 115, 2) := by decide +kernel
theorem dX5_takeClause_12 : decode cX5_takeClause 12 = .ok (.invokevirtual 38, 3) := by decide +kernel
theorem dX5_takeClause_15 : decode cX5_takeClause 15 = .ok (.ifCond .eq 65, 3) := by decide +kernel
theorem dX5_takeClause_18 : decode cX5_takeClause 18 = .ok (.aload_n 0, 1) := by decide +kernel
theorem dX5_takeClause_19 : decode cX5_takeClause 19 = .ok (.bipush 98, 2) := by decide +kernel
theorem dX5_takeClause_21 : decode cX5_takeClause 21 = .ok (.invokevirtual 38, 3) := by decide +kernel
theorem dX5_takeClause_24 : decode cX5_takeClause 24 = .ok (.ifCond .eq 7, 3) := by decide +kernel
theorem dX5_takeClause_27 : decode cX5_takeClause 27 = .ok (.iconst 0, 1) := by decide +kernel
theorem dX5_takeClause_28 : decode cX5_takeClause 28 = .ok (.goto 4, 3) := by decide +kernel
theorem dX5_takeClause_31 : decode cX5_takeClause 31 = .ok (.iconst 1, 1) := by decide +kernel
theorem dX5_takeClause_32 : decode cX5_takeClause 32 = .ok (.istore_n 1, 1) := by decide +kernel
theorem dX5_takeClause_33 : decode cX5_takeClause 33 = .ok (.aload_n 0, 1) := by decide +kernel
theorem dX5_takeClause_34 : decode cX5_takeClause 34 = .ok (.iload_n 1, 1) := by decide +kernel
theorem dX5_takeClause_35 : decode cX5_takeClause 35 = .ok (.ifCond .ne 8, 3) := by decide +kernel
theorem dX5_takeClause_38 : decode cX5_takeClause 38 = .ok (.ldc 55, 2) := by decide +kernel
theorem dX5_takeClause_40 : decode cX5_takeClause 40 = .ok (.goto 5, 3) := by decide +kernel
theorem dX5_takeClause_43 : decode cX5_takeClause 43 = .ok (.ldc 57, 2) := by decide +kernel
theorem dX5_takeClause_45 : decode cX5_takeClause 45 = .ok (.invokevirtual 59, 3) := by decide +kernel
theorem dX5_takeClause_48 : decode cX5_takeClause 48 = .ok (.iconst 1, 1) := by decide +kernel
theorem dX5_takeClause_49 : decode cX5_takeClause 49 = .ok (.aload_n 0, 1) := by decide +kernel
theorem dX5_takeClause_50 : decode cX5_takeClause 50 = .ok (.ldc 63, 2) := by decide +kernel
theorem dX5_takeClause_52 : decode cX5_takeClause 52 = .ok (.invokevirtual 65, 3) := by decide +kernel
theorem dX5_takeClause_55 : decode cX5_takeClause 55 = .ok (.iadd, 1) := by decide +kernel
theorem dX5_takeClause_56 : decode cX5_takeClause 56 = .ok (.istore_n 2, 1) := by decide +kernel
theorem dX5_takeClause_57 : decode cX5_takeClause 57 = .ok (.aload_n 0, 1) := by decide +kernel
theorem dX5_takeClause_58 : decode cX5_takeClause 58 = .ok (.ldc 69, 2) := by decide +kernel
theorem dX5_takeClause_60 : decode cX5_takeClause 60 = .ok (.invokevirtual 59, 3) := by decide +kernel
theorem dX5_takeClause_63 : decode cX5_takeClause 63 = .ok (.aload_n 0, 1) := by decide +kernel
theorem dX5_takeClause_64 : decode cX5_takeClause 64 = .ok (.iconst 0, 1) := by decide +kernel
theorem dX5_takeClause_65 : decode cX5_takeClause 65 = .ok (.invokevirtual 71, 3) := by decide +kernel
theorem dX5_takeClause_68 : decode cX5_takeClause 68 = .ok (.aload_n 0, 1) := by decide +kernel
theorem dX5_takeClause_69 : decode cX5_takeClause 69 = .ok (.getfield 19, 3) := by decide +kernel
theorem dX5_takeClause_72 : decode cX5_takeClause 72 = .ok (.iload_n 1, 1) := by decide +kernel
theorem dX5_takeClause_73 : decode cX5_takeClause 73 = .ok (.iload_n 2, 1) := by decide +kernel
theorem dX5_takeClause_74 : decode cX5_takeClause 74 = .ok (.invokevirtual 75, 3) := by decide +kernel
theorem dX5_takeClause_77 : decode cX5_takeClause 77 = .ok (.goto 48, 3) := by decide +kernel
theorem dX5_takeClause_80 : decode cX5_takeClause 80 = .ok (.aload_n 0, 1) := by decide +kernel
theorem dX5_takeClause_81 : decode cX5_takeClause 81 = .ok (.bipush 108, 2) := by decide +kernel
theorem dX5_takeClause_83 : decode cX5_takeClause 83 = .ok (.invokevirtual 38, 3) := by decide +kernel
theorem dX5_takeClause_86 : decode cX5_takeClause 86 = .ok (.ifCond .eq 7, 3) := by decide +kernel
theorem dX5_takeClause_89 : decode cX5_takeClause 89 = .ok (.iconst 2, 1) := by decide +kernel
theorem dX5_takeClause_90 : decode cX5_takeClause 90 = .ok (.goto 4, 3) := by decide +kernel
theorem dX5_takeClause_93 : decode cX5_takeClause 93 = .ok (.iconst 3, 1) := by decide +kernel
theorem dX5_takeClause_94 : decode cX5_takeClause 94 = .ok (.istore_n 1, 1) := by decide +kernel
theorem dX5_takeClause_95 : decode cX5_takeClause 95 = .ok (.aload_n 0, 1) := by decide +kernel
theorem dX5_takeClause_96 : decode cX5_takeClause 96 = .ok (.iload_n 1, 1) := by decide +kernel
theorem dX5_takeClause_97 : decode cX5_takeClause 97 = .ok (.iconst 2, 1) := by decide +kernel
theorem dX5_takeClause_98 : decode cX5_takeClause 98 = .ok (.if_icmp .ne 8, 3) := by decide +kernel
theorem dX5_takeClause_101 : decode cX5_takeClause 101 = .ok (.ldc 79, 2) := by decide +kernel
theorem dX5_takeClause_103 : decode cX5_takeClause 103 = .ok (.goto 5, 3) := by decide +kernel
theorem dX5_takeClause_106 : decode cX5_takeClause 106 = .ok (.ldc 81, 2) := by decide +kernel
theorem dX5_takeClause_108 : decode cX5_takeClause 108 = .ok (.invokevirtual 59, 3) := by decide +kernel
theorem dX5_takeClause_111 : decode cX5_takeClause 111 = .ok (.aload_n 0, 1) := by decide +kernel
theorem dX5_takeClause_112 : decode cX5_takeClause 112 = .ok (.getfield 19, 3) := by decide +kernel
theorem dX5_takeClause_115 : decode cX5_takeClause 115 = .ok (.iload_n 1, 1) := by decide +kernel
theorem dX5_takeClause_116 : decode cX5_takeClause 116 = .ok (.aload_n 0, 1) := by decide +kernel
theorem dX5_takeClause_117 : decode cX5_takeClause 117 = .ok (.ldc 83, 2) := by decide +kernel
theorem dX5_takeClause_119 : decode cX5_takeClause 119 = .ok (.invokevirtual 65, 3) := by decide +kernel
theorem dX5_takeClause_122 : decode cX5_takeClause 122 = .ok (.invokevirtual 75, 3) := by decide +kernel
theorem dX5_takeClause_125 : decode cX5_takeClause 125 = .ok (.return_, 1) := by decide +kernel
theorem dX5_takeEither_0 : decode cX5_takeEither 0 = .ok (.aload_n 0, 1) := by decide +kernel
theorem dX5_takeEither_1 : decode cX5_takeEither 1 = .ok (.iload_n 1, 1) := by decide +kernel
theorem dX5_takeEither_2 : decode cX5_takeEither 2 = .ok (.invokevirtual 85, 3) := by decide +kernel
theorem dX5_takeEither_5 : decode cX5_takeEither 5 = .ok (.bipush 100, 2) := by decide +kernel
theorem dX5_takeEither_7 : decode cX5_takeEither 7 = .ok (.istore_n 2, 1) := by decide +kernel
theorem dX5_takeEither_8 : decode cX5_takeEither 8 = .ok (.iload_n 2, 1) := by decide +kernel
theorem dX5_takeEither_9 : decode cX5_takeEither 9 = .ok (.ifCond .le 42, 3) := by decide +kernel
theorem dX5_takeEither_12 : decode cX5_takeEither 12 = .ok (.aload_n 0, 1) := by decide +kernel
theorem dX5_takeEither_13 : decode cX5_takeEither 13 = .ok (.bipush 124, 2) := by decide +kernel
theorem dX5_takeEither_15 : decode cX5_takeEither 15 = .ok (.invokevirtual 38, 3) := by decide +kernel
theorem dX5_takeEither_18 : decode cX5_takeEither 18 = .ok (.ifCond .eq 33, 3) := by decide +kernel
theorem dX5_takeEither_21 : decode cX5_takeEither 21 = .ok (.aload_n 0, 1) := by decide +kernel
theorem dX5_takeEither_22 : decode cX5_takeEither 22 = .ok (.dup, 1) := by decide +kernel
theorem dX5_takeEither_23 : decode cX5_takeEither 23 = .ok (.getfield 28, 3) := by decide +kernel
theorem dX5_takeEither_26 : decode cX5_takeEither 26 = .ok (.iconst 1, 1) := by decide +kernel
theorem dX5_takeEither_27 : decode cX5_takeEither 27 = .ok (.iadd, 1) := by decide +kernel
theorem dX5_takeEither_28 : decode cX5_takeEither 28 = .ok (.putfield 28, 3) := by decide +kernel
theorem dX5_takeEither_31 : decode cX5_takeEither 31 = .ok (.aload_n 0, 1) := by decide +kernel
theorem dX5_takeEither_32 : decode cX5_takeEither 32 = .ok (.iload_n 1, 1) := by decide +kernel
theorem dX5_takeEither_33 : decode cX5_takeEither 33 = .ok (.invokevirtual 85, 3) := by decide +kernel
theorem dX5_takeEither_36 : decode cX5_takeEither 36 = .ok (.aload_n 0, 1) := by decide +kernel
theorem dX5_takeEither_37 : decode cX5_takeEither 37 = .ok (.getfield 19, 3) := by decide +kernel
theorem dX5_takeEither_40 : decode cX5_takeEither 40 = .ok (.bipush (-2), 2) := by decide +kernel
theorem dX5_takeEither_42 : decode cX5_takeEither 42 = .ok (.invokevirtual 88, 3) := by decide +kernel
theorem dX5_takeEither_45 : decode cX5_takeEither 45 = .ok (.iinc 2 (-1), 3) := by decide +kernel
theorem dX5_takeEither_48 : decode cX5_takeEither 48 = .ok (.goto (-40), 3) := by decide +kernel
theorem dX5_takeEither_51 : decode cX5_takeEither 51 = .ok (.return_, 1) := by decide +kernel
theorem dX5_takeBoth_0 : decode cX5_takeBoth 0 = .ok (.aload_n 0, 1) := by decide +kernel
theorem dX5_takeBoth_1 : decode cX5_takeBoth 1 = .ok (.iload_n 1, 1) := by decide +kernel
theorem dX5_takeBoth_2 : decode cX5_takeBoth 2 = .ok (.invokevirtual 91, 3) := by decide +kernel
theorem dX5_takeBoth_5 : decode cX5_takeBoth 5 = .ok (.bipush 100, 2) := by decide +kernel
theorem dX5_takeBoth_7 : decode cX5_takeBoth 7 = .ok (.istore_n 2, 1) := by decide +kernel
theorem dX5_takeBoth_8 : decode cX5_takeBoth 8 = .ok (.iload_n 2, 1) := by decide +kernel
theorem dX5_takeBoth_9 : decode cX5_takeBoth 9 = .ok (.ifCond .le 41, 3) := by decide +kernel
theorem dX5_takeBoth_12 : decode cX5_takeBoth 12 = .ok (.aload_n 0, 1) := by decide +kernel
theorem dX5_takeBoth_13 : decode cX5_takeBoth 13 = .ok (.bipush 38, 2) := by decide +kernel
theorem dX5_takeBoth_15 : decode cX5_takeBoth 15 = .ok (.invokevirtual 38, 3) := by decide +kernel
theorem dX5_takeBoth_18 : decode cX5_takeBoth 18 = .ok (.ifCond .eq 32, 3) := by decide +kernel
theorem dX5_takeBoth_21 : decode cX5_takeBoth 21 = .ok (.aload_n 0, 1) := by decide +kernel
theorem dX5_takeBoth_22 : decode cX5_takeBoth 22 = .ok (.dup, 1) := by decide +kernel
theorem dX5_takeBoth_23 : decode cX5_takeBoth 23 = .ok (.getfield 28, 3) := by decide +kernel
theorem dX5_takeBoth_26 : decode cX5_takeBoth 26 = .ok (.iconst 1, 1) := by decide +kernel
theorem dX5_takeBoth_27 : decode cX5_takeBoth 27 = .ok (.iadd, 1) := by decide +kernel
theorem dX5_takeBoth_28 : decode cX5_takeBoth 28 = .ok (.putfield 28, 3) := by decide +kernel
theorem dX5_takeBoth_31 : decode cX5_takeBoth 31 = .ok (.aload_n 0, 1) := by decide +kernel
theorem dX5_takeBoth_32 : decode cX5_takeBoth 32 = .ok (.iload_n 1, 1) := by decide +kernel
theorem dX5_takeBoth_33 : decode cX5_takeBoth 33 = .ok (.invokevirtual 91, 3) := by decide +kernel
theorem dX5_takeBoth_36 : decode cX5_takeBoth 36 = .ok (.aload_n 0, 1) := by decide +kernel
theorem dX5_takeBoth_37 : decode cX5_takeBoth 37 = .ok (.getfield 19, 3) := by decide +kernel
theorem dX5_takeBoth_40 : decode cX5_takeBoth 40 = .ok (.iconst (-1), 1) := by decide +kernel
theorem dX5_takeBoth_41 : decode cX5_takeBoth 41 = .ok (.invokevirtual 88, 3) := by decide +kernel
theorem dX5_takeBoth_44 : decode cX5_takeBoth 44 = .ok (.iinc 2 (-1), 3) := by decide +kernel
theorem dX5_takeBoth_47 : decode cX5_takeBoth 47 = .ok (.goto (-39), 3) := by decide +kernel
theorem dX5_takeBoth_50 : decode cX5_takeBoth 50 = .ok (.return_, 1) := by decide +kernel
theorem dX5_takePart_0 : decode cX5_takePart 0 = .ok (.aload_n 0, 1) := by decide +kernel
theorem dX5_takePart_1 : decode cX5_takePart 1 = .ok (.bipush 33, 2) := by decide +kernel
theorem dX5_takePart_3 : decode cX5_takePart 3 = .ok (.invokevirtual 38, 3) := by decide +kernel
theorem dX5_takePart_6 : decode cX5_takePart 6 = .ok (.istore_n 2, 1) := by decide +kernel
theorem dX5_takePart_7 : decode cX5_takePart 7 = .ok (.iload_n 2, 1) := by decide +kernel
theorem dX5_takePart_8 : decode cX5_takePart 8 = .ok (.ifCond .ne 19, 3) := by decide +kernel
theorem dX5_takePart_11 : decode cX5_takePart 11 = .ok (.aload_n 0, 1) := by decide +kernel
theorem dX5_takePart_12 : decode cX5_takePart 12 = .ok (.bipush 40, 2) := by decide +kernel
theorem dX5_takePart_14 : decode cX5_takePart 14 = .ok (.invokevirtual 38, 3) := by decide +kernel
theorem dX5_takePart_17 : decode cX5_takePart 17 = .ok (.ifCond .ne 10, 3) := by decide +kernel
theorem dX5_takePart_20 : decode cX5_takePart 20 = .ok (.aload_n 0, 1) := by decide +kernel
theorem dX5_takePart_21 : decode cX5_takePart 21 = .ok (.invokevirtual 94, 3) := by decide +kernel
theorem dX5_takePart_24 : decode cX5_takePart 24 = .ok (.goto 72, 3) := by decide +kernel
theorem dX5_takePart_27 : decode cX5_takePart 27 = .ok (.iload_n 1, 1) := by decide +kernel
theorem dX5_takePart_28 : decode cX5_takePart 28 = .ok (.iconst 4, 1) := by decide +kernel
theorem dX5_takePart_29 : decode cX5_takePart 29 = .ok (.if_icmp .lt 11, 3) := by decide +kernel
theorem dX5_takePart_32 : decode cX5_takePart 32 = .ok (.aload_n 0, 1) := by decide +kernel
theorem dX5_takePart_33 : decode cX5_takePart 33 = .ok (.iconst 1, 1) := by decide +kernel
theorem dX5_takePart_34 : decode cX5_takePart 34 = .ok (.putfield 31, 3) := by decide +kernel
theorem dX5_takePart_37 : decode cX5_takePart 37 = .ok (.goto 59, 3) := by decide +kernel
theorem dX5_takePart_40 : decode cX5_takePart 40 = .ok (.iload_n 2, 1) := by decide +kernel
theorem dX5_takePart_41 : decode cX5_takePart 41 = .ok (.ifCond .eq 32, 3) := by decide +kernel
theorem dX5_takePart_44 : decode cX5_takePart 44 = .ok (.aload_n 0, 1) := by decide +kernel
theorem dX5_takePart_45 : decode cX5_takePart 45 = .ok (.dup, 1) := by decide +kernel
theorem dX5_takePart_46 : decode cX5_takePart 46 = .ok (.getfield 28, 3) := by decide +kernel
theorem dX5_takePart_49 : decode cX5_takePart 49 = .ok (.iconst 1, 1) := by decide +kernel
theorem dX5_takePart_50 : decode cX5_takePart 50 = .ok (.iadd, 1) := by decide +kernel
theorem dX5_takePart_51 : decode cX5_takePart 51 = .ok (.putfield 28, 3) := by decide +kernel
theorem dX5_takePart_54 : decode cX5_takePart 54 = .ok (.aload_n 0, 1) := by decide +kernel
theorem dX5_takePart_55 : decode cX5_takePart 55 = .ok (.iload_n 1, 1) := by decide +kernel
theorem dX5_takePart_56 : decode cX5_takePart 56 = .ok (.iconst 1, 1) := by decide +kernel
theorem dX5_takePart_57 : decode cX5_takePart 57 = .ok (.iadd, 1) := by decide +kernel
theorem dX5_takePart_58 : decode cX5_takePart 58 = .ok (.invokevirtual 91, 3) := by decide +kernel
theorem dX5_takePart_61 : decode cX5_takePart 61 = .ok (.aload_n 0, 1) := by decide +kernel
theorem dX5_takePart_62 : decode cX5_takePart 62 = .ok (.getfield 19, 3) := by decide +kernel
theorem dX5_takePart_65 : decode cX5_takePart 65 = .ok (.bipush (-3), 2) := by decide +kernel
theorem dX5_takePart_67 : decode cX5_takePart 67 = .ok (.invokevirtual 88, 3) := by decide +kernel
theorem dX5_takePart_70 : decode cX5_takePart 70 = .ok (.goto 26, 3) := by decide +kernel
theorem dX5_takePart_73 : decode cX5_takePart 73 = .ok (.aload_n 0, 1) := by decide +kernel
theorem dX5_takePart_74 : decode cX5_takePart 74 = .ok (.dup, 1) := by decide +kernel
theorem dX5_takePart_75 : decode cX5_takePart 75 = .ok (.getfield 28, 3) := by decide +kernel
theorem dX5_takePart_78 : decode cX5_takePart 78 = .ok (.iconst 1, 1) := by decide +kernel
theorem dX5_takePart_79 : decode cX5_takePart 79 = .ok (.iadd, 1) := by decide +kernel
theorem dX5_takePart_80 : decode cX5_takePart 80 = .ok (.putfield 28, 3) := by decide +kernel
theorem dX5_takePart_83 : decode cX5_takePart 83 = .ok (.aload_n 0, 1) := by decide +kernel
theorem dX5_takePart_84 : decode cX5_takePart 84 = .ok (.iload_n 1, 1) := by decide +kernel
theorem dX5_takePart_85 : decode cX5_takePart 85 = .ok (.iconst 1, 1) := by decide +kernel
theorem dX5_takePart_86 : decode cX5_takePart 86 = .ok (.iadd, 1) := by decide +kernel
theorem dX5_takePart_87 : decode cX5_takePart 87 = .ok (.invokevirtual 71, 3) := by decide +kernel
theorem dX5_takePart_90 : decode cX5_takePart 90 = .ok (.aload_n 0, 1) := by decide +kernel
theorem dX5_takePart_91 : decode cX5_takePart 91 = .ok (.ldc 97, 2) := by decide +kernel
theorem dX5_takePart_93 : decode cX5_takePart 93 = .ok (.invokevirtual 59, 3) := by decide +kernel
theorem dX5_takePart_96 : decode cX5_takePart 96 = .ok (.return_, 1) := by decide +kernel
theorem dX5_takeTest_0 : decode cX5_takeTest 0 = .ok (.aload_n 0, 1) := by decide +kernel
theorem dX5_takeTest_1 : decode cX5_takeTest 1 = .ok (.ldc 99, 2) := by decide +kernel
theorem dX5_takeTest_3 : decode cX5_takeTest 3 = .ok (.invokevirtual 65, 3) := by decide +kernel
theorem dX5_takeTest_6 : decode cX5_takeTest 6 = .ok (.istore_n 1, 1) := by decide +kernel
theorem dX5_takeTest_7 : decode cX5_takeTest 7 = .ok (.aload_n 0, 1) := by decide +kernel
theorem dX5_takeTest_8 : decode cX5_takeTest 8 = .ok (.ldc 101, 2) := by decide +kernel
theorem dX5_takeTest_10 : decode cX5_takeTest 10 = .ok (.invokevirtual 65, 3) := by decide +kernel
theorem dX5_takeTest_13 : decode cX5_takeTest 13 = .ok (.istore_n 2, 1) := by decide +kernel
theorem dX5_takeTest_14 : decode cX5_takeTest 14 = .ok (.aload_n 0, 1) := by decide +kernel
theorem dX5_takeTest_15 : decode cX5_takeTest 15 = .ok (.ldc 83, 2) := by decide +kernel
theorem dX5_takeTest_17 : decode cX5_takeTest 17 = .ok (.invokevirtual 65, 3) := by decide +kernel
theorem dX5_takeTest_20 : decode cX5_takeTest 20 = .ok (.istore_n 3, 1) := by decide +kernel
theorem dX5_takeTest_21 : decode cX5_takeTest 21 = .ok (.aload_n 0, 1) := by decide +kernel
theorem dX5_takeTest_22 : decode cX5_takeTest 22 = .ok (.getfield 31, 3) := by decide +kernel
theorem dX5_takeTest_25 : decode cX5_takeTest 25 = .ok (.ifCond .ne 70, 3) := by decide +kernel
theorem dX5_takeTest_28 : decode cX5_takeTest 28 = .ok (.aload_n 0, 1) := by decide +kernel
theorem dX5_takeTest_29 : decode cX5_takeTest 29 = .ok (.getfield 28, 3) := by decide +kernel
theorem dX5_takeTest_32 : decode cX5_takeTest 32 = .ok (.aload_n 0, 1) := by decide +kernel
theorem dX5_takeTest_33 : decode cX5_takeTest 33 = .ok (.getfield 15, 3) := by decide +kernel
theorem dX5_takeTest_36 : decode cX5_takeTest 36 = .ok (.if_icmp .ge 59, 3) := by decide +kernel
theorem dX5_takeTest_39 : decode cX5_takeTest 39 = .ok (.aload_n 0, 1) := by decide +kernel
theorem dX5_takeTest_40 : decode cX5_takeTest 40 = .ok (.getfield 9, 3) := by decide +kernel
theorem dX5_takeTest_43 : decode cX5_takeTest 43 = .ok (.aload_n 0, 1) := by decide +kernel
theorem dX5_takeTest_44 : decode cX5_takeTest 44 = .ok (.getfield 28, 3) := by decide +kernel
theorem dX5_takeTest_47 : decode cX5_takeTest 47 = .ok (.iaload, 1) := by decide +kernel
theorem dX5_takeTest_48 : decode cX5_takeTest 48 = .ok (.bipush 48, 2) := by decide +kernel
theorem dX5_takeTest_50 : decode cX5_takeTest 50 = .ok (.if_icmp .lt 45, 3) := by decide +kernel
theorem dX5_takeTest_53 : decode cX5_takeTest 53 = .ok (.aload_n 0, 1) := by decide +kernel
theorem dX5_takeTest_54 : decode cX5_takeTest 54 = .ok (.getfield 9, 3) := by decide +kernel
theorem dX5_takeTest_57 : decode cX5_takeTest 57 = .ok (.aload_n 0, 1) := by decide +kernel
theorem dX5_takeTest_58 : decode cX5_takeTest 58 = .ok (.getfield 28, 3) := by decide +kernel
theorem dX5_takeTest_61 : decode cX5_takeTest 61 = .ok (.iaload, 1) := by decide +kernel
theorem dX5_takeTest_62 : decode cX5_takeTest 62 = .ok (.bipush 57, 2) := by decide +kernel
theorem dX5_takeTest_64 : decode cX5_takeTest 64 = .ok (.if_icmp .gt 31, 3) := by decide +kernel
theorem dX5_takeTest_67 : decode cX5_takeTest 67 = .ok (.bipush 10, 2) := by decide +kernel
theorem dX5_takeTest_69 : decode cX5_takeTest 69 = .ok (.iload_n 3, 1) := by decide +kernel
theorem dX5_takeTest_70 : decode cX5_takeTest 70 = .ok (.imul, 1) := by decide +kernel
theorem dX5_takeTest_71 : decode cX5_takeTest 71 = .ok (.aload_n 0, 1) := by decide +kernel
theorem dX5_takeTest_72 : decode cX5_takeTest 72 = .ok (.getfield 9, 3) := by decide +kernel
theorem dX5_takeTest_75 : decode cX5_takeTest 75 = .ok (.aload_n 0, 1) := by decide +kernel
theorem dX5_takeTest_76 : decode cX5_takeTest 76 = .ok (.getfield 28, 3) := by decide +kernel
theorem dX5_takeTest_79 : decode cX5_takeTest 79 = .ok (.iaload, 1) := by decide +kernel
theorem dX5_takeTest_80 : decode cX5_takeTest 80 = .ok (.iadd, 1) := by decide +kernel
theorem dX5_takeTest_81 : decode cX5_takeTest 81 = .ok (.bipush 48, 2) := by decide +kernel
theorem dX5_takeTest_83 : decode cX5_takeTest 83 = .ok (.isub, 1) := by decide +kernel
theorem dX5_takeTest_84 : decode cX5_takeTest 84 = .ok (.istore_n 3, 1) := by decide +kernel
theorem dX5_takeTest_85 : decode cX5_takeTest 85 = .ok (.aload_n 0, 1) := by decide +kernel
theorem dX5_takeTest_86 : decode cX5_takeTest 86 = .ok (.dup, 1) := by decide +kernel
theorem dX5_takeTest_87 : decode cX5_takeTest 87 = .ok (.getfield 28, 3) := by decide +kernel
theorem dX5_takeTest_90 : decode cX5_takeTest 90 = .ok (.iconst 1, 1) := by decide +kernel
theorem dX5_takeTest_91 : decode cX5_takeTest 91 = .ok (.iadd, 1) := by decide +kernel
theorem dX5_takeTest_92 : decode cX5_takeTest 92 = .ok (.putfield 28, 3) := by decide +kernel
theorem dX5_takeTest_95 : decode cX5_takeTest 95 = .ok (.aload_n 0, 1) := by decide +kernel
theorem dX5_takeTest_96 : decode cX5_takeTest 96 = .ok (.getfield 19, 3) := by decide +kernel
theorem dX5_takeTest_99 : decode cX5_takeTest 99 = .ok (.iload_n 1, 1) := by decide +kernel
theorem dX5_takeTest_100 : decode cX5_takeTest 100 = .ok (.iload_n 2, 1) := by decide +kernel
theorem dX5_takeTest_101 : decode cX5_takeTest 101 = .ok (.iload_n 3, 1) := by decide +kernel
theorem dX5_takeTest_102 : decode cX5_takeTest 102 = .ok (.invokevirtual 103, 3) := by decide +kernel
theorem dX5_takeTest_105 : decode cX5_takeTest 105 = .ok (.return_, 1) := by decide +kernel
