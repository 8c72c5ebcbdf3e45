/-! decode rows -/
theorem dX3_clear_0 : decode cX3_clear 0 = .ok (.aload_n 0, 1) := by decide +kernel
theorem dX3_clear_1 : decode cX3_clear 1 = .ok (.iconst 0, 1) := by decide +kernel
theorem dX3_clear_2 : decode cX3_clear 2 = .ok (.putfield 24, 3) := by decide +kernel
theorem dX3_clear_5 : decode cX3_clear 5 = .ok (.aload_n 0, 1) := by decide +kernel
theorem dX3_clear_6 : decode cX3_clear 6 = .ok (.iconst 0, 1) := by decide +kernel
theorem dX3_clear_7 : decode cX3_clear 7 = .ok (.putfield 28, 3) := by decide +kernel
theorem dX3_clear_10 : decode cX3_clear 10 = .ok (.return_, 1) := by decide +kernel
theorem dX3_addClause_0 : decode cX3_addClause 0 = .ok (.aload_n 0, 1) := by decide +kernel
theorem dX3_addClause_1 : decode cX3_addClause 1 = .ok (.getfield 24, 3) := by decide +kernel
theorem dX3_addClause_4 : decode cX3_addClause 4 = .ok (.bipush 6, 2) := by decide +kernel
theorem dX3_addClause_6 : decode cX3_addClause 6 = .ok (.if_icmp .ge 46, 3) := by decide +kernel
theorem dX3_addClause_9 : decode cX3_addClause 9 = .ok (.aload_n 0, 1) := by decide +kernel
theorem dX3_addClause_10 : decode cX3_addClause 10 = .ok (.getfield 9, 3) := by decide +kernel
theorem dX3_addClause_13 : decode cX3_addClause 13 = .ok (.aload_n 0, 1) := by decide +kernel
theorem dX3_addClause_14 : decode cX3_addClause 14 = .ok (.getfield 24, 3) := by decide +kernel
theorem dX3_addClause_17 : decode cX3_addClause 17 = .ok (.iload_n 1, 1) := by decide +kernel
theorem dX3_addClause_18 : decode cX3_addClause 18 = .ok (.iastore, 1) := by decide +kernel
theorem dX3_addClause_19 : decode cX3_addClause 19 = .ok (.aload_n 0, 1) := by decide +kernel
theorem dX3_addClause_20 : decode cX3_addClause 20 = .ok (.getfield 15, 3) := by decide +kernel
theorem dX3_addClause_23 : decode cX3_addClause 23 = .ok (.aload_n 0, 1) := by decide +kernel
theorem dX3_addClause_24 : decode cX3_addClause 24 = .ok (.getfield 24, 3) := by decide +kernel
theorem dX3_addClause_27 : decode cX3_addClause 27 = .ok (.iload_n 2, 1) := by decide +kernel
theorem dX3_addClause_28 : decode cX3_addClause 28 = .ok (.iastore, 1) := by decide +kernel
theorem dX3_addClause_29 : decode cX3_addClause 29 = .ok (.aload_n 0, 1) := by decide +kernel
theorem dX3_addClause_30 : decode cX3_addClause 30 = .ok (.getfield 18, 3) := by decide +kernel
theorem dX3_addClause_33 : decode cX3_addClause 33 = .ok (.aload_n 0, 1) := by decide +kernel
theorem dX3_addClause_34 : decode cX3_addClause 34 = .ok (.getfield 24, 3) := by decide +kernel
theorem dX3_addClause_37 : decode cX3_addClause 37 = .ok (.aload_n 0, 1) := by decide +kernel
theorem dX3_addClause_38 : decode cX3_addClause 38 = .ok (.getfield 28, 3) := by decide +kernel
theorem dX3_addClause_41 : decode cX3_addClause 41 = .ok (.iastore, 1) := by decide +kernel
theorem dX3_addClause_42 : decode cX3_addClause 42 = .ok (.aload_n 0, 1) := by decide +kernel
theorem dX3_addClause_43 : decode cX3_addClause 43 = .ok (.dup, 1) := by decide +kernel
theorem dX3_addClause_44 : decode cX3_addClause 44 = .ok (.getfield 24, 3) := by decide +kernel
theorem dX3_addClause_47 : decode cX3_addClause 47 = .ok (.iconst 1, 1) := by decide +kernel
theorem dX3_addClause_48 : decode cX3_addClause 48 = .ok (.iadd, 1) := by decide +kernel
theorem dX3_addClause_49 : decode cX3_addClause 49 = .ok (.putfield 24, 3) := by decide +kernel
theorem dX3_addClause_52 : decode cX3_addClause 52 = .ok (.return_, 1) := by decide +kernel
theorem dX3_addStep_0 : decode cX3_addStep 0 = .ok (.aload_n 0, 1) := by decide +kernel
theorem dX3_addStep_1 : decode cX3_addStep 1 = .ok (.getfield 28, 3) := by decide +kernel
theorem dX3_addStep_4 : decode cX3_addStep 4 = .ok (.bipush 100, 2) := by decide +kernel
theorem dX3_addStep_6 : decode cX3_addStep 6 = .ok (.if_icmp .ge 23, 3) := by decide +kernel
theorem dX3_addStep_9 : decode cX3_addStep 9 = .ok (.aload_n 0, 1) := by decide +kernel
theorem dX3_addStep_10 : decode cX3_addStep 10 = .ok (.getfield 21, 3) := by decide +kernel
theorem dX3_addStep_13 : decode cX3_addStep 13 = .ok (.aload_n 0, 1) := by decide +kernel
theorem dX3_addStep_14 : decode cX3_addStep 14 = .ok (.getfield 28, 3) := by decide +kernel
theorem dX3_addStep_17 : decode cX3_addStep 17 = .ok (.iload_n 1, 1) := by decide +kernel
theorem dX3_addStep_18 : decode cX3_addStep 18 = .ok (.iastore, 1) := by decide +kernel
theorem dX3_addStep_19 : decode cX3_addStep 19 = .ok (.aload_n 0, 1) := by decide +kernel
theorem dX3_addStep_20 : decode cX3_addStep 20 = .ok (.dup, 1) := by decide +kernel
theorem dX3_addStep_21 : decode cX3_addStep 21 = .ok (.getfield 28, 3) := by decide +kernel
theorem dX3_addStep_24 : decode cX3_addStep 24 = .ok (.iconst 1, 1) := by decide +kernel
theorem dX3_addStep_25 : decode cX3_addStep 25 = .ok (.iadd, 1) := by decide +kernel
theorem dX3_addStep_26 : decode cX3_addStep 26 = .ok (.putfield 28, 3) := by decide +kernel
theorem dX3_addStep_29 : decode cX3_addStep 29 = .ok (.return_, 1) := by decide +kernel
theorem dX3_addTest_0 : decode cX3_addTest 0 = .ok (.aload_n 0, 1) := by decide +kernel
theorem dX3_addTest_1 : decode cX3_addTest 1 = .ok (.iload_n 1, 1) := by decide +kernel
theorem dX3_addTest_2 : decode cX3_addTest 2 = .ok (.sipush 1000, 3) := by decide +kernel
theorem dX3_addTest_5 : decode cX3_addTest 5 = .ok (.imul, 1) := by decide +kernel
theorem dX3_addTest_6 : decode cX3_addTest 6 = .ok (.iload_n 2, 1) := by decide +kernel
theorem dX3_addTest_7 : decode cX3_addTest 7 = .ok (.bipush 100, 2) := by decide +kernel
theorem dX3_addTest_9 : decode cX3_addTest 9 = .ok (.imul, 1) := by decide +kernel
theorem dX3_addTest_10 : decode cX3_addTest 10 = .ok (.iadd, 1) := by decide +kernel
theorem dX3_addTest_11 : decode cX3_addTest 11 = .ok (.iload_n 3, 1) := by decide +kernel
theorem dX3_addTest_12 : decode cX3_addTest 12 = .ok (.iadd, 1) := by decide +kernel
theorem dX3_addTest_13 : decode cX3_addTest 13 = .ok (.invokevirtual 31, 3) := by decide +kernel
theorem dX3_addTest_16 : decode cX3_addTest 16 = .ok (.return_, 1) := by decide +kernel
theorem dX3_numberOf_0 : decode cX3_numberOf 0 = .ok (.iload_n 3, 1) := by decide +kernel
theorem dX3_numberOf_1 : decode cX3_numberOf 1 = .ok (.istore 5, 2) := by decide +kernel
theorem dX3_numberOf_3 : decode cX3_numberOf 3 = .ok (.iconst 0, 1) := by decide +kernel
theorem dX3_numberOf_4 : decode cX3_numberOf 4 = .ok (.istore 6, 2) := by decide +kernel
theorem dX3_numberOf_6 : decode cX3_numberOf 6 = .ok (.iload 6, 2) := by decide +kernel
theorem dX3_numberOf_8 : decode cX3_numberOf 8 = .ok (.aload_n 0, 1) := by decide +kernel
theorem dX3_numberOf_9 : decode cX3_numberOf 9 = .ok (.getfield 24, 3) := by decide +kernel
theorem dX3_numberOf_12 : decode cX3_numberOf 12 = .ok (.if_icmp .ge 40, 3) := by decide +kernel
theorem dX3_numberOf_15 : decode cX3_numberOf 15 = .ok (.iload 6, 2) := by decide +kernel
theorem dX3_numberOf_17 : decode cX3_numberOf 17 = .ok (.iload_n 2, 1) := by decide +kernel
theorem dX3_numberOf_18 : decode cX3_numberOf 18 = .ok (.if_icmp .eq 28, 3) := by decide +kernel
theorem dX3_numberOf_21 : decode cX3_numberOf 21 = .ok (.aload_n 0, 1) := by decide +kernel
theorem dX3_numberOf_22 : decode cX3_numberOf 22 = .ok (.getfield 9, 3) := by decide +kernel
theorem dX3_numberOf_25 : decode cX3_numberOf 25 = .ok (.iload 6, 2) := by decide +kernel
theorem dX3_numberOf_27 : decode cX3_numberOf 27 = .ok (.iaload, 1) := by decide +kernel
theorem dX3_numberOf_28 : decode cX3_numberOf 28 = .ok (.iload_n 1, 1) := by decide +kernel
theorem dX3_numberOf_29 : decode cX3_numberOf 29 = .ok (.if_icmp .ne 17, 3) := by decide +kernel
theorem dX3_numberOf_32 : decode cX3_numberOf 32 = .ok (.aload_n 0, 1) := by decide +kernel
theorem dX3_numberOf_33 : decode cX3_numberOf 33 = .ok (.getfield 15, 3) := by decide +kernel
theorem dX3_numberOf_36 : decode cX3_numberOf 36 = .ok (.iload 6, 2) := by decide +kernel
theorem dX3_numberOf_38 : decode cX3_numberOf 38 = .ok (.iaload, 1) := by decide +kernel
theorem dX3_numberOf_39 : decode cX3_numberOf 39 = .ok (.iload 4, 2) := by decide +kernel
theorem dX3_numberOf_41 : decode cX3_numberOf 41 = .ok (.invokestatic 35, 3) := by decide +kernel
theorem dX3_numberOf_44 : decode cX3_numberOf 44 = .ok (.istore 5, 2) := by decide +kernel
theorem dX3_numberOf_46 : decode cX3_numberOf 46 = .ok (.iinc 6 1, 3) := by decide +kernel
theorem dX3_numberOf_49 : decode cX3_numberOf 49 = .ok (.goto (-43), 3) := by decide +kernel
theorem dX3_numberOf_52 : decode cX3_numberOf 52 = .ok (.iload 5, 2) := by decide +kernel
theorem dX3_numberOf_54 : decode cX3_numberOf 54 = .ok (.ireturn, 1) := by decide +kernel
theorem dX3_kindsThat_0 : decode cX3_kindsThat 0 = .ok (.iconst 0, 1) := by decide +kernel
theorem dX3_kindsThat_1 : decode cX3_kindsThat 1 = .ok (.istore 4, 2) := by decide +kernel
theorem dX3_kindsThat_3 : decode cX3_kindsThat 3 = .ok (.iconst 0, 1) := by decide +kernel
theorem dX3_kindsThat_4 : decode cX3_kindsThat 4 = .ok (.istore 5, 2) := by decide +kernel
theorem dX3_kindsThat_6 : decode cX3_kindsThat 6 = .ok (.iload 5, 2) := by decide +kernel
theorem dX3_kindsThat_8 : decode cX3_kindsThat 8 = .ok (.aload_n 0, 1) := by decide +kernel
theorem dX3_kindsThat_9 : decode cX3_kindsThat 9 = .ok (.getfield 24, 3) := by decide +kernel
theorem dX3_kindsThat_12 : decode cX3_kindsThat 12 = .ok (.if_icmp .ge 65, 3) := by decide +kernel
theorem dX3_kindsThat_15 : decode cX3_kindsThat 15 = .ok (.iload 5, 2) := by decide +kernel
theorem dX3_kindsThat_17 : decode cX3_kindsThat 17 = .ok (.iload_n 2, 1) := by decide +kernel
theorem dX3_kindsThat_18 : decode cX3_kindsThat 18 = .ok (.if_icmp .eq 53, 3) := by decide +kernel
theorem dX3_kindsThat_21 : decode cX3_kindsThat 21 = .ok (.aload_n 0, 1) := by decide +kernel
theorem dX3_kindsThat_22 : decode cX3_kindsThat 22 = .ok (.getfield 9, 3) := by decide +kernel
theorem dX3_kindsThat_25 : decode cX3_kindsThat 25 = .ok (.iload 5, 2) := by decide +kernel
theorem dX3_kindsThat_27 : decode cX3_kindsThat 27 = .ok (.iaload, 1) := by decide +kernel
theorem dX3_kindsThat_28 : decode cX3_kindsThat 28 = .ok (.iload_n 1, 1) := by decide +kernel
theorem dX3_kindsThat_29 : decode cX3_kindsThat 29 = .ok (.if_icmp .ne 42, 3) := by decide +kernel
theorem dX3_kindsThat_32 : decode cX3_kindsThat 32 = .ok (.iload 4, 2) := by decide +kernel
theorem dX3_kindsThat_34 : decode cX3_kindsThat 34 = .ok (.aload_n 0, 1) := by decide +kernel
theorem dX3_kindsThat_35 : decode cX3_kindsThat 35 = .ok (.getfield 15, 3) := by decide +kernel
theorem dX3_kindsThat_38 : decode cX3_kindsThat 38 = .ok (.iload 5, 2) := by decide +kernel
theorem dX3_kindsThat_40 : decode cX3_kindsThat 40 = .ok (.iaload, 1) := by decide +kernel
theorem dX3_kindsThat_41 : decode cX3_kindsThat 41 = .ok (.ishr, 1) := by decide +kernel
theorem dX3_kindsThat_42 : decode cX3_kindsThat 42 = .ok (.iconst 1, 1) := by decide +kernel
theorem dX3_kindsThat_43 : decode cX3_kindsThat 43 = .ok (.iand, 1) := by decide +kernel
theorem dX3_kindsThat_44 : decode cX3_kindsThat 44 = .ok (.ifCond .ne 27, 3) := by decide +kernel
theorem dX3_kindsThat_47 : decode cX3_kindsThat 47 = .ok (.aload_n 0, 1) := by decide +kernel
theorem dX3_kindsThat_48 : decode cX3_kindsThat 48 = .ok (.iload 5, 2) := by decide +kernel
theorem dX3_kindsThat_50 : decode cX3_kindsThat 50 = .ok (.aload_n 3, 1) := by decide +kernel
theorem dX3_kindsThat_51 : decode cX3_kindsThat 51 = .ok (.invokevirtual 41, 3) := by decide +kernel
theorem dX3_kindsThat_54 : decode cX3_kindsThat 54 = .ok (.ifCond .eq 17, 3) := by decide +kernel
theorem dX3_kindsThat_57 : decode cX3_kindsThat 57 = .ok (.iload 4, 2) := by decide +kernel
theorem dX3_kindsThat_59 : decode cX3_kindsThat 59 = .ok (.iconst 1, 1) := by decide +kernel
theorem dX3_kindsThat_60 : decode cX3_kindsThat 60 = .ok (.aload_n 0, 1) := by decide +kernel
theorem dX3_kindsThat_61 : decode cX3_kindsThat 61 = .ok (.getfield 15, 3) := by decide +kernel
theorem dX3_kindsThat_64 : decode cX3_kindsThat 64 = .ok (.iload 5, 2) := by decide +kernel
theorem dX3_kindsThat_66 : decode cX3_kindsThat 66 = .ok (.iaload, 1) := by decide +kernel
theorem dX3_kindsThat_67 : decode cX3_kindsThat 67 = .ok (.ishl, 1) := by decide +kernel
theorem dX3_kindsThat_68 : decode cX3_kindsThat 68 = .ok (.ior, 1) := by decide +kernel
theorem dX3_kindsThat_69 : decode cX3_kindsThat 69 = .ok (.istore 4, 2) := by decide +kernel
theorem dX3_kindsThat_71 : decode cX3_kindsThat 71 = .ok (.iinc 5 1, 3) := by decide +kernel
theorem dX3_kindsThat_74 : decode cX3_kindsThat 74 = .ok (.goto (-68), 3) := by decide +kernel
theorem dX3_kindsThat_77 : decode cX3_kindsThat 77 = .ok (.iload 4, 2) := by decide +kernel
theorem dX3_kindsThat_79 : decode cX3_kindsThat 79 = .ok (.ireturn, 1) := by decide +kernel
theorem dX3_holds_0 : decode cX3_holds 0 = .ok (.iconst 0, 1) := by decide +kernel
theorem dX3_holds_1 : decode cX3_holds 1 = .ok (.istore_n 3, 1) := by decide +kernel
theorem dX3_holds_2 : decode cX3_holds 2 = .ok (.iload_n 1, 1) := by decide +kernel
theorem dX3_holds_3 : decode cX3_holds 3 = .ok (.ifCond .ne 7, 3) := by decide +kernel
theorem dX3_holds_6 : decode cX3_holds 6 = .ok (.iconst 0, 1) := by decide +kernel
theorem dX3_holds_7 : decode cX3_holds 7 = .ok (.goto 11, 3) := by decide +kernel
theorem dX3_holds_10 : decode cX3_holds 10 = .ok (.aload_n 0, 1) := by decide +kernel
theorem dX3_holds_11 : decode cX3_holds 11 = .ok (.getfield 18, 3) := by decide +kernel
theorem dX3_holds_14 : decode cX3_holds 14 = .ok (.iload_n 1, 1) := by decide +kernel
theorem dX3_holds_15 : decode cX3_holds 15 = .ok (.iconst 1, 1) := by decide +kernel
theorem dX3_holds_16 : decode cX3_holds 16 = .ok (.isub, 1) := by decide +kernel
theorem dX3_holds_17 : decode cX3_holds 17 = .ok (.iaload, 1) := by decide +kernel
theorem dX3_holds_18 : decode cX3_holds 18 = .ok (.istore 4, 2) := by decide +kernel
theorem dX3_holds_20 : decode cX3_holds 20 = .ok (.iload 4, 2) := by decide +kernel
theorem dX3_holds_22 : decode cX3_holds 22 = .ok (.aload_n 0, 1) := by decide +kernel
theorem dX3_holds_23 : decode cX3_holds 23 = .ok (.getfield 18, 3) := by decide +kernel
theorem dX3_holds_26 : decode cX3_holds 26 = .ok (.iload_n 1, 1) := by decide +kernel
theorem dX3_holds_27 : decode cX3_holds 27 = .ok (.iaload, 1) := by decide +kernel
theorem dX3_holds_28 : decode cX3_holds 28 = .ok (.if_icmp .ge 191, 3) := by decide +kernel
theorem dX3_holds_31 : decode cX3_holds 31 = .ok (.iload_n 3, 1) := by decide +kernel
theorem dX3_holds_32 : decode cX3_holds 32 = .ok (.iconst 1, 1) := by decide +kernel
theorem dX3_holds_33 : decode cX3_holds 33 = .ok (.iand, 1) := by decide +kernel
theorem dX3_holds_34 : decode cX3_holds 34 = .ok (.istore 5, 2) := by decide +kernel
theorem dX3_holds_36 : decode cX3_holds 36 = .ok (.aload_n 0, 1) := by decide +kernel
theorem dX3_holds_37 : decode cX3_holds 37 = .ok (.getfield 21, 3) := by decide +kernel
theorem dX3_holds_40 : decode cX3_holds 40 = .ok (.iload 4, 2) := by decide +kernel
theorem dX3_holds_42 : decode cX3_holds 42 = .ok (.iaload, 1) := by decide +kernel
theorem dX3_holds_43 : decode cX3_holds 43 = .ok (.bipush (-3), 2) := by decide +kernel
theorem dX3_holds_45 : decode cX3_holds 45 = .ok (.if_icmp .ne 10, 3) := by decide +kernel
theorem dX3_holds_48 : decode cX3_holds 48 = .ok (.iload_n 3, 1) := by decide +kernel
theorem dX3_holds_49 : decode cX3_holds 49 = .ok (.iconst 1, 1) := by decide +kernel
theorem dX3_holds_50 : decode cX3_holds 50 = .ok (.ixor, 1) := by decide +kernel
theorem dX3_holds_51 : decode cX3_holds 51 = .ok (.istore_n 3, 1) := by decide +kernel
theorem dX3_holds_52 : decode cX3_holds 52 = .ok (.goto 161, 3) := by decide +kernel
theorem dX3_holds_55 : decode cX3_holds 55 = .ok (.aload_n 0, 1) := by decide +kernel
theorem dX3_holds_56 : decode cX3_holds 56 = .ok (.getfield 21, 3) := by decide +kernel
theorem dX3_holds_59 : decode cX3_holds 59 = .ok (.iload 4, 2) := by decide +kernel
theorem dX3_holds_61 : decode cX3_holds 61 = .ok (.iaload, 1) := by decide +kernel
theorem dX3_holds_62 : decode cX3_holds 62 = .ok (.iconst (-1), 1) := by decide +kernel
theorem dX3_holds_63 : decode cX3_holds 63 = .ok (.if_icmp .ne 16, 3) := by decide +kernel
theorem dX3_holds_66 : decode cX3_holds 66 = .ok (.iload_n 3, 1) := by decide +kernel
theorem dX3_holds_67 : decode cX3_holds 67 = .ok (.iconst 1, 1) := by decide +kernel
theorem dX3_holds_68 : decode cX3_holds 68 = .ok (.ishr, 1) := by decide +kernel
theorem dX3_holds_69 : decode cX3_holds 69 = .ok (.iload 5, 2) := by decide +kernel
theorem dX3_holds_71 : decode cX3_holds 71 = .ok (.bipush (-2), 2) := by decide +kernel
theorem dX3_holds_73 : decode cX3_holds 73 = .ok (.ior, 1) := by decide +kernel
theorem dX3_holds_74 : decode cX3_holds 74 = .ok (.iand, 1) := by decide +kernel
theorem dX3_holds_75 : decode cX3_holds 75 = .ok (.istore_n 3, 1) := by decide +kernel
theorem dX3_holds_76 : decode cX3_holds 76 = .ok (.goto 137, 3) := by decide +kernel
theorem dX3_holds_79 : decode cX3_holds 79 = .ok (.aload_n 0, 1) := by decide +kernel
theorem dX3_holds_80 : decode cX3_holds 80 = .ok (.getfield 21, 3) := by decide +kernel
theorem dX3_holds_83 : decode cX3_holds 83 = .ok (.iload 4, 2) := by decide +kernel
theorem dX3_holds_85 : decode cX3_holds 85 = .ok (.iaload, 1) := by decide +kernel
theorem dX3_holds_86 : decode cX3_holds 86 = .ok (.bipush (-2), 2) := by decide +kernel
theorem dX3_holds_88 : decode cX3_holds 88 = .ok (.if_icmp .ne 13, 3) := by decide +kernel
theorem dX3_holds_91 : decode cX3_holds 91 = .ok (.iload_n 3, 1) := by decide +kernel
theorem dX3_holds_92 : decode cX3_holds 92 = .ok (.iconst 1, 1) := by decide +kernel
theorem dX3_holds_93 : decode cX3_holds 93 = .ok (.ishr, 1) := by decide +kernel
theorem dX3_holds_94 : decode cX3_holds 94 = .ok (.iload 5, 2) := by decide +kernel
theorem dX3_holds_96 : decode cX3_holds 96 = .ok (.ior, 1) := by decide +kernel
theorem dX3_holds_97 : decode cX3_holds 97 = .ok (.istore_n 3, 1) := by decide +kernel
theorem dX3_holds_98 : decode cX3_holds 98 = .ok (.goto 115, 3) := by decide +kernel
theorem dX3_holds_101 : decode cX3_holds 101 = .ok (.aload_n 2, 1) := by decide +kernel
theorem dX3_holds_102 : decode cX3_holds 102 = .ok (.aload_n 0, 1) := by decide +kernel
theorem dX3_holds_103 : decode cX3_holds 103 = .ok (.getfield 21, 3) := by decide +kernel
theorem dX3_holds_106 : decode cX3_holds 106 = .ok (.iload 4, 2) := by decide +kernel
theorem dX3_holds_108 : decode cX3_holds 108 = .ok (.iaload, 1) := by decide +kernel
theorem dX3_holds_109 : decode cX3_holds 109 = .ok (.sipush 1000, 3) := by decide +kernel
theorem dX3_holds_112 : decode cX3_holds 112 = .ok (.idiv, 1) := by decide +kernel
theorem dX3_holds_113 : decode cX3_holds 113 = .ok (.iaload, 1) := by decide +kernel
theorem dX3_holds_114 : decode cX3_holds 114 = .ok (.istore 6, 2) := by decide +kernel
theorem dX3_holds_116 : decode cX3_holds 116 = .ok (.aload_n 0, 1) := by decide +kernel
theorem dX3_holds_117 : decode cX3_holds 117 = .ok (.getfield 21, 3) := by decide +kernel
theorem dX3_holds_120 : decode cX3_holds 120 = .ok (.iload 4, 2) := by decide +kernel
theorem dX3_holds_122 : decode cX3_holds 122 = .ok (.iaload, 1) := by decide +kernel
theorem dX3_holds_123 : decode cX3_holds 123 = .ok (.bipush 100, 2) := by decide +kernel
theorem dX3_holds_125 : decode cX3_holds 125 = .ok (.idiv, 1) := by decide +kernel
theorem dX3_holds_126 : decode cX3_holds 126 = .ok (.bipush 10, 2) := by decide +kernel
theorem dX3_holds_128 : decode cX3_holds 128 = .ok (.irem, 1) := by decide +kernel
theorem dX3_holds_129 : decode cX3_holds 129 = .ok (.istore 7, 2) := by decide +kernel
theorem dX3_holds_131 : decode cX3_holds 131 = .ok (.aload_n 0, 1) := by decide +kernel
theorem dX3_holds_132 : decode cX3_holds 132 = .ok (.getfield 21, 3) := by decide +kernel
theorem dX3_holds_135 : decode cX3_holds 135 = .ok (.iload 4, 2) := by decide +kernel
theorem dX3_holds_137 : decode cX3_holds 137 = .ok (.iaload, 1) := by decide +kernel
theorem dX3_holds_138 : decode cX3_holds 138 = .ok (.bipush 100, 2) := by decide +kernel
theorem dX3_holds_140 : decode cX3_holds 140 = .ok (.irem, 1) := by decide +kernel
theorem dX3_holds_141 : decode cX3_holds 141 = .ok (.istore 8, 2) := by decide +kernel
theorem dX3_holds_143 : decode cX3_holds 143 = .ok (.iload 7, 2) := by decide +kernel
theorem dX3_holds_145 : decode cX3_holds 145 = .ok (.ifCond .ne 18, 3) := by decide +kernel
theorem dX3_holds_148 : decode cX3_holds 148 = .ok (.iload 6, 2) := by decide +kernel
theorem dX3_holds_150 : decode cX3_holds 150 = .ok (.iload 8, 2) := by decide +kernel
theorem dX3_holds_152 : decode cX3_holds 152 = .ok (.if_icmp .ge 7, 3) := by decide +kernel
theorem dX3_holds_155 : decode cX3_holds 155 = .ok (.iconst 1, 1) := by decide +kernel
theorem dX3_holds_156 : decode cX3_holds 156 = .ok (.goto 40, 3) := by decide +kernel
theorem dX3_holds_159 : decode cX3_holds 159 = .ok (.iconst 0, 1) := by decide +kernel
theorem dX3_holds_160 : decode cX3_holds 160 = .ok (.goto 36, 3) := by decide +kernel
theorem dX3_holds_163 : decode cX3_holds 163 = .ok (.iload 7, 2) := by decide +kernel
theorem dX3_holds_165 : decode cX3_holds 165 = .ok (.iconst 1, 1) := by decide +kernel
theorem dX3_holds_166 : decode cX3_holds 166 = .ok (.if_icmp .ne 18, 3) := by decide +kernel
theorem dX3_holds_169 : decode cX3_holds 169 = .ok (.iload 6, 2) := by decide +kernel
theorem dX3_holds_171 : decode cX3_holds 171 = .ok (.iload 8, 2) := by decide +kernel
theorem dX3_holds_173 : decode cX3_holds 173 = .ok (.if_icmp .ne 7, 3) := by decide +kernel
theorem dX3_holds_176 : decode cX3_holds 176 = .ok (.iconst 1, 1) := by decide +kernel
theorem dX3_holds_177 : decode cX3_holds 177 = .ok (.goto 19, 3) := by decide +kernel
theorem dX3_holds_180 : decode cX3_holds 180 = .ok (.iconst 0, 1) := by decide +kernel
theorem dX3_holds_181 : decode cX3_holds 181 = .ok (.goto 15, 3) := by decide +kernel
theorem dX3_holds_184 : decode cX3_holds 184 = .ok (.iload 6, 2) := by decide +kernel
theorem dX3_holds_186 : decode cX3_holds 186 = .ok (.iload 8, 2) := by decide +kernel
theorem dX3_holds_188 : decode cX3_holds 188 = .ok (.if_icmp .le 7, 3) := by decide +kernel
theorem dX3_holds_191 : decode cX3_holds 191 = .ok (.iconst 1, 1) := by decide +kernel
theorem dX3_holds_192 : decode cX3_holds 192 = .ok (.goto 4, 3) := by decide +kernel
theorem dX3_holds_195 : decode cX3_holds 195 = .ok (.iconst 0, 1) := by decide +kernel
theorem dX3_holds_196 : decode cX3_holds 196 = .ok (.istore 9, 2) := by decide +kernel
theorem dX3_holds_198 : decode cX3_holds 198 = .ok (.iload_n 3, 1) := by decide +kernel
theorem dX3_holds_199 : decode cX3_holds 199 = .ok (.iconst 1, 1) := by decide +kernel
theorem dX3_holds_200 : decode cX3_holds 200 = .ok (.ishl, 1) := by decide +kernel
theorem dX3_holds_201 : decode cX3_holds 201 = .ok (.iload 9, 2) := by decide +kernel
theorem dX3_holds_203 : decode cX3_holds 203 = .ok (.ifCond .eq 7, 3) := by decide +kernel
theorem dX3_holds_206 : decode cX3_holds 206 = .ok (.iconst 1, 1) := by decide +kernel
theorem dX3_holds_207 : decode cX3_holds 207 = .ok (.goto 4, 3) := by decide +kernel
theorem dX3_holds_210 : decode cX3_holds 210 = .ok (.iconst 0, 1) := by decide +kernel
theorem dX3_holds_211 : decode cX3_holds 211 = .ok (.ior, 1) := by decide +kernel
theorem dX3_holds_212 : decode cX3_holds 212 = .ok (.istore_n 3, 1) := by decide +kernel
theorem dX3_holds_213 : decode cX3_holds 213 = .ok (.iinc 4 1, 3) := by decide +kernel
theorem dX3_holds_216 : decode cX3_holds 216 = .ok (.goto (-196), 3) := by decide +kernel
theorem dX3_holds_219 : decode cX3_holds 219 = .ok (.iload_n 3, 1) := by decide +kernel
theorem dX3_holds_220 : decode cX3_holds 220 = .ok (.iconst 1, 1) := by decide +kernel
theorem dX3_holds_221 : decode cX3_holds 221 = .ok (.iand, 1) := by decide +kernel
theorem dX3_holds_222 : decode cX3_holds 222 = .ok (.iconst 1, 1) := by decide +kernel
theorem dX3_holds_223 : decode cX3_holds 223 = .ok (.if_icmp .ne 7, 3) := by decide +kernel
theorem dX3_holds_226 : decode cX3_holds 226 = .ok (.iconst 1, 1) := by decide +kernel
theorem dX3_holds_227 : decode cX3_holds 227 = .ok (.goto 4, 3) := by decide +kernel
theorem dX3_holds_230 : decode cX3_holds 230 = .ok (.iconst 0, 1) := by decide +kernel
theorem dX3_holds_231 : decode cX3_holds 231 = .ok (.ireturn, 1) := by decide +kernel
