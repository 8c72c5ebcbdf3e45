/-! decode rows -/
theorem dX7_in_0 : decode cX7_in 0 = .ok (.iload_n 1, 1) := by decide +kernel
theorem dX7_in_1 : decode cX7_in 1 = .ok (.iload_n 2, 1) := by decide +kernel
theorem dX7_in_2 : decode cX7_in 2 = .ok (.if_icmp .lt 12, 3) := by decide +kernel
theorem dX7_in_5 : decode cX7_in 5 = .ok (.iload_n 1, 1) := by decide +kernel
theorem dX7_in_6 : decode cX7_in 6 = .ok (.iload_n 3, 1) := by decide +kernel
theorem dX7_in_7 : decode cX7_in 7 = .ok (.if_icmp .gt 7, 3) := by decide +kernel
theorem dX7_in_10 : decode cX7_in 10 = .ok (.iconst 1, 1) := by decide +kernel
theorem dX7_in_11 : decode cX7_in 11 = .ok (.goto 4, 3) := by decide +kernel
theorem dX7_in_14 : decode cX7_in 14 = .ok (.iconst 0, 1) := by decide +kernel
theorem dX7_in_15 : decode cX7_in 15 = .ok (.ireturn, 1) := by decide +kernel
theorem dX7_has_0 : decode cX7_has 0 = .ok (.iload_n 1, 1) := by decide +kernel
theorem dX7_has_1 : decode cX7_has 1 = .ok (.iload_n 2, 1) := by decide +kernel
theorem dX7_has_2 : decode cX7_has 2 = .ok (.ishr, 1) := by decide +kernel
theorem dX7_has_3 : decode cX7_has 3 = .ok (.iconst 1, 1) := by decide +kernel
theorem dX7_has_4 : decode cX7_has 4 = .ok (.iand, 1) := by decide +kernel
theorem dX7_has_5 : decode cX7_has 5 = .ok (.iconst 1, 1) := by decide +kernel
theorem dX7_has_6 : decode cX7_has 6 = .ok (.if_icmp .ne 7, 3) := by decide +kernel
theorem dX7_has_9 : decode cX7_has 9 = .ok (.iconst 1, 1) := by decide +kernel
theorem dX7_has_10 : decode cX7_has 10 = .ok (.goto 4, 3) := by decide +kernel
theorem dX7_has_13 : decode cX7_has 13 = .ok (.iconst 0, 1) := by decide +kernel
theorem dX7_has_14 : decode cX7_has 14 = .ok (.ireturn, 1) := by decide +kernel
theorem dX7_ones_0 : decode cX7_ones 0 = .ok (.iconst 0, 1) := by decide +kernel
theorem dX7_ones_1 : decode cX7_ones 1 = .ok (.istore_n 2, 1) := by decide +kernel
theorem dX7_ones_2 : decode cX7_ones 2 = .ok (.iload_n 1, 1) := by decide +kernel
theorem dX7_ones_3 : decode cX7_ones 3 = .ok (.istore_n 3, 1) := by decide +kernel
theorem dX7_ones_4 : decode cX7_ones 4 = .ok (.iload_n 3, 1) := by decide +kernel
theorem dX7_ones_5 : decode cX7_ones 5 = .ok (.ifCond .eq 15, 3) := by decide +kernel
theorem dX7_ones_8 : decode cX7_ones 8 = .ok (.iinc 2 1, 3) := by decide +kernel
theorem dX7_ones_11 : decode cX7_ones 11 = .ok (.iload_n 3, 1) := by decide +kernel
theorem dX7_ones_12 : decode cX7_ones 12 = .ok (.iload_n 3, 1) := by decide +kernel
theorem dX7_ones_13 : decode cX7_ones 13 = .ok (.iconst 1, 1) := by decide +kernel
theorem dX7_ones_14 : decode cX7_ones 14 = .ok (.isub, 1) := by decide +kernel
theorem dX7_ones_15 : decode cX7_ones 15 = .ok (.iand, 1) := by decide +kernel
theorem dX7_ones_16 : decode cX7_ones 16 = .ok (.istore_n 3, 1) := by decide +kernel
theorem dX7_ones_17 : decode cX7_ones 17 = .ok (.goto (-13), 3) := by decide +kernel
theorem dX7_ones_20 : decode cX7_ones 20 = .ok (.iload_n 2, 1) := by decide +kernel
theorem dX7_ones_21 : decode cX7_ones 21 = .ok (.ireturn, 1) := by decide +kernel
theorem dX7_isPoint_0 : decode cX7_isPoint 0 = .ok (.aload_n 0, 1) := by decide +kernel
theorem dX7_isPoint_1 : decode cX7_isPoint 1 = .ok (.iload_n 1, 1) := by decide +kernel
theorem dX7_isPoint_2 : decode cX7_isPoint 2 = .ok (.iconst 0, 1) := by decide +kernel
theorem dX7_isPoint_3 : decode cX7_isPoint 3 = .ok (.iconst 4, 1) := by decide +kernel
theorem dX7_isPoint_4 : decode cX7_isPoint 4 = .ok (.invokevirtual 1, 3) := by decide +kernel
theorem dX7_isPoint_7 : decode cX7_isPoint 7 = .ok (.ireturn, 1) := by decide +kernel
theorem dX7_isCase_0 : decode cX7_isCase 0 = .ok (.aload_n 0, 1) := by decide +kernel
theorem dX7_isCase_1 : decode cX7_isCase 1 = .ok (.iload_n 1, 1) := by decide +kernel
theorem dX7_isCase_2 : decode cX7_isCase 2 = .ok (.iconst 0, 1) := by decide +kernel
theorem dX7_isCase_3 : decode cX7_isCase 3 = .ok (.aload_n 0, 1) := by decide +kernel
theorem dX7_isCase_4 : decode cX7_isCase 4 = .ok (.getfield 7, 3) := by decide +kernel
theorem dX7_isCase_7 : decode cX7_isCase 7 = .ok (.iconst 1, 1) := by decide +kernel
theorem dX7_isCase_8 : decode cX7_isCase 8 = .ok (.isub, 1) := by decide +kernel
theorem dX7_isCase_9 : decode cX7_isCase 9 = .ok (.invokevirtual 1, 3) := by decide +kernel
theorem dX7_isCase_12 : decode cX7_isCase 12 = .ok (.ireturn, 1) := by decide +kernel
theorem dX7_link_0 : decode cX7_link 0 = .ok (.aload_n 0, 1) := by decide +kernel
theorem dX7_link_1 : decode cX7_link 1 = .ok (.iload_n 1, 1) := by decide +kernel
theorem dX7_link_2 : decode cX7_link 2 = .ok (.iconst 0, 1) := by decide +kernel
theorem dX7_link_3 : decode cX7_link 3 = .ok (.iconst 1, 1) := by decide +kernel
theorem dX7_link_4 : decode cX7_link 4 = .ok (.invokevirtual 1, 3) := by decide +kernel
theorem dX7_link_7 : decode cX7_link 7 = .ok (.ifCond .eq 19, 3) := by decide +kernel
theorem dX7_link_10 : decode cX7_link 10 = .ok (.aload_n 0, 1) := by decide +kernel
theorem dX7_link_11 : decode cX7_link 11 = .ok (.iload_n 2, 1) := by decide +kernel
theorem dX7_link_12 : decode cX7_link 12 = .ok (.invokevirtual 11, 3) := by decide +kernel
theorem dX7_link_15 : decode cX7_link 15 = .ok (.ifCond .eq 11, 3) := by decide +kernel
theorem dX7_link_18 : decode cX7_link 18 = .ok (.aload_n 0, 1) := by decide +kernel
theorem dX7_link_19 : decode cX7_link 19 = .ok (.iload_n 3, 1) := by decide +kernel
theorem dX7_link_20 : decode cX7_link 20 = .ok (.invokevirtual 11, 3) := by decide +kernel
theorem dX7_link_23 : decode cX7_link 23 = .ok (.ifCond .ne 5, 3) := by decide +kernel
theorem dX7_link_26 : decode cX7_link 26 = .ok (.iconst (-1), 1) := by decide +kernel
theorem dX7_link_27 : decode cX7_link 27 = .ok (.ireturn, 1) := by decide +kernel
theorem dX7_link_28 : decode cX7_link 28 = .ok (.iload_n 2, 1) := by decide +kernel
theorem dX7_link_29 : decode cX7_link 29 = .ok (.iload_n 3, 1) := by decide +kernel
theorem dX7_link_30 : decode cX7_link 30 = .ok (.if_icmp .eq 7, 3) := by decide +kernel
theorem dX7_link_33 : decode cX7_link 33 = .ok (.iload_n 3, 1) := by decide +kernel
theorem dX7_link_34 : decode cX7_link 34 = .ok (.ifCond .ne 6, 3) := by decide +kernel
theorem dX7_link_37 : decode cX7_link 37 = .ok (.bipush (-2), 2) := by decide +kernel
theorem dX7_link_39 : decode cX7_link 39 = .ok (.ireturn, 1) := by decide +kernel
theorem dX7_link_40 : decode cX7_link 40 = .ok (.iload_n 1, 1) := by decide +kernel
theorem dX7_link_41 : decode cX7_link 41 = .ok (.ifCond .ne 12, 3) := by decide +kernel
theorem dX7_link_44 : decode cX7_link 44 = .ok (.aload_n 0, 1) := by decide +kernel
theorem dX7_link_45 : decode cX7_link 45 = .ok (.getfield 15, 3) := by decide +kernel
theorem dX7_link_48 : decode cX7_link 48 = .ok (.iload_n 2, 1) := by decide +kernel
theorem dX7_link_49 : decode cX7_link 49 = .ok (.iaload, 1) := by decide +kernel
theorem dX7_link_50 : decode cX7_link 50 = .ok (.goto 9, 3) := by decide +kernel
theorem dX7_link_53 : decode cX7_link 53 = .ok (.aload_n 0, 1) := by decide +kernel
theorem dX7_link_54 : decode cX7_link 54 = .ok (.getfield 19, 3) := by decide +kernel
theorem dX7_link_57 : decode cX7_link 57 = .ok (.iload_n 2, 1) := by decide +kernel
theorem dX7_link_58 : decode cX7_link 58 = .ok (.iaload, 1) := by decide +kernel
theorem dX7_link_59 : decode cX7_link 59 = .ok (.istore 5, 2) := by decide +kernel
theorem dX7_link_61 : decode cX7_link 61 = .ok (.iload 4, 2) := by decide +kernel
theorem dX7_link_63 : decode cX7_link 63 = .ok (.ifCond .eq 12, 3) := by decide +kernel
theorem dX7_link_66 : decode cX7_link 66 = .ok (.iload 5, 2) := by decide +kernel
theorem dX7_link_68 : decode cX7_link 68 = .ok (.iconst 1, 1) := by decide +kernel
theorem dX7_link_69 : decode cX7_link 69 = .ok (.iload_n 3, 1) := by decide +kernel
theorem dX7_link_70 : decode cX7_link 70 = .ok (.ishl, 1) := by decide +kernel
theorem dX7_link_71 : decode cX7_link 71 = .ok (.ior, 1) := by decide +kernel
theorem dX7_link_72 : decode cX7_link 72 = .ok (.goto 11, 3) := by decide +kernel
theorem dX7_link_75 : decode cX7_link 75 = .ok (.iload 5, 2) := by decide +kernel
theorem dX7_link_77 : decode cX7_link 77 = .ok (.iconst 1, 1) := by decide +kernel
theorem dX7_link_78 : decode cX7_link 78 = .ok (.iload_n 3, 1) := by decide +kernel
theorem dX7_link_79 : decode cX7_link 79 = .ok (.ishl, 1) := by decide +kernel
theorem dX7_link_80 : decode cX7_link 80 = .ok (.iconst (-1), 1) := by decide +kernel
theorem dX7_link_81 : decode cX7_link 81 = .ok (.ixor, 1) := by decide +kernel
theorem dX7_link_82 : decode cX7_link 82 = .ok (.iand, 1) := by decide +kernel
theorem dX7_link_83 : decode cX7_link 83 = .ok (.istore 6, 2) := by decide +kernel
theorem dX7_link_85 : decode cX7_link 85 = .ok (.iload_n 1, 1) := by decide +kernel
theorem dX7_link_86 : decode cX7_link 86 = .ok (.ifCond .ne 14, 3) := by decide +kernel
theorem dX7_link_89 : decode cX7_link 89 = .ok (.aload_n 0, 1) := by decide +kernel
theorem dX7_link_90 : decode cX7_link 90 = .ok (.getfield 15, 3) := by decide +kernel
theorem dX7_link_93 : decode cX7_link 93 = .ok (.iload_n 2, 1) := by decide +kernel
theorem dX7_link_94 : decode cX7_link 94 = .ok (.iload 6, 2) := by decide +kernel
theorem dX7_link_96 : decode cX7_link 96 = .ok (.iastore, 1) := by decide +kernel
theorem dX7_link_97 : decode cX7_link 97 = .ok (.goto 11, 3) := by decide +kernel
theorem dX7_link_100 : decode cX7_link 100 = .ok (.aload_n 0, 1) := by decide +kernel
theorem dX7_link_101 : decode cX7_link 101 = .ok (.getfield 19, 3) := by decide +kernel
theorem dX7_link_104 : decode cX7_link 104 = .ok (.iload_n 2, 1) := by decide +kernel
theorem dX7_link_105 : decode cX7_link 105 = .ok (.iload 6, 2) := by decide +kernel
theorem dX7_link_107 : decode cX7_link 107 = .ok (.iastore, 1) := by decide +kernel
theorem dX7_link_108 : decode cX7_link 108 = .ok (.iload 5, 2) := by decide +kernel
theorem dX7_link_110 : decode cX7_link 110 = .ok (.iload_n 3, 1) := by decide +kernel
theorem dX7_link_111 : decode cX7_link 111 = .ok (.ishr, 1) := by decide +kernel
theorem dX7_link_112 : decode cX7_link 112 = .ok (.iconst 1, 1) := by decide +kernel
theorem dX7_link_113 : decode cX7_link 113 = .ok (.iand, 1) := by decide +kernel
theorem dX7_link_114 : decode cX7_link 114 = .ok (.ireturn, 1) := by decide +kernel
theorem dX7_newCase_0 : decode cX7_newCase 0 = .ok (.aload_n 0, 1) := by decide +kernel
theorem dX7_newCase_1 : decode cX7_newCase 1 = .ok (.iload_n 1, 1) := by decide +kernel
theorem dX7_newCase_2 : decode cX7_newCase 2 = .ok (.iconst 0, 1) := by decide +kernel
theorem dX7_newCase_3 : decode cX7_newCase 3 = .ok (.bipush 31, 2) := by decide +kernel
theorem dX7_newCase_5 : decode cX7_newCase 5 = .ok (.invokevirtual 1, 3) := by decide +kernel
theorem dX7_newCase_8 : decode cX7_newCase 8 = .ok (.ifCond .ne 6, 3) := by decide +kernel
theorem dX7_newCase_11 : decode cX7_newCase 11 = .ok (.bipush (-2), 2) := by decide +kernel
theorem dX7_newCase_13 : decode cX7_newCase 13 = .ok (.ireturn, 1) := by decide +kernel
theorem dX7_newCase_14 : decode cX7_newCase 14 = .ok (.aload_n 0, 1) := by decide +kernel
theorem dX7_newCase_15 : decode cX7_newCase 15 = .ok (.getfield 7, 3) := by decide +kernel
theorem dX7_newCase_18 : decode cX7_newCase 18 = .ok (.iconst 4, 1) := by decide +kernel
theorem dX7_newCase_19 : decode cX7_newCase 19 = .ok (.if_icmp .ne 6, 3) := by decide +kernel
theorem dX7_newCase_22 : decode cX7_newCase 22 = .ok (.bipush (-4), 2) := by decide +kernel
theorem dX7_newCase_24 : decode cX7_newCase 24 = .ok (.ireturn, 1) := by decide +kernel
theorem dX7_newCase_25 : decode cX7_newCase 25 = .ok (.aload_n 0, 1) := by decide +kernel
theorem dX7_newCase_26 : decode cX7_newCase 26 = .ok (.getfield 22, 3) := by decide +kernel
theorem dX7_newCase_29 : decode cX7_newCase 29 = .ok (.aload_n 0, 1) := by decide +kernel
theorem dX7_newCase_30 : decode cX7_newCase 30 = .ok (.getfield 7, 3) := by decide +kernel
theorem dX7_newCase_33 : decode cX7_newCase 33 = .ok (.iload_n 1, 1) := by decide +kernel
theorem dX7_newCase_34 : decode cX7_newCase 34 = .ok (.iastore, 1) := by decide +kernel
theorem dX7_newCase_35 : decode cX7_newCase 35 = .ok (.iconst 0, 1) := by decide +kernel
theorem dX7_newCase_36 : decode cX7_newCase 36 = .ok (.istore_n 2, 1) := by decide +kernel
theorem dX7_newCase_37 : decode cX7_newCase 37 = .ok (.iload_n 2, 1) := by decide +kernel
theorem dX7_newCase_38 : decode cX7_newCase 38 = .ok (.bipush 6, 2) := by decide +kernel
theorem dX7_newCase_40 : decode cX7_newCase 40 = .ok (.if_icmp .ge 55, 3) := by decide +kernel
theorem dX7_newCase_43 : decode cX7_newCase 43 = .ok (.aload_n 0, 1) := by decide +kernel
theorem dX7_newCase_44 : decode cX7_newCase 44 = .ok (.getfield 25, 3) := by decide +kernel
theorem dX7_newCase_47 : decode cX7_newCase 47 = .ok (.bipush 6, 2) := by decide +kernel
theorem dX7_newCase_49 : decode cX7_newCase 49 = .ok (.aload_n 0, 1) := by decide +kernel
theorem dX7_newCase_50 : decode cX7_newCase 50 = .ok (.getfield 7, 3) := by decide +kernel
theorem dX7_newCase_53 : decode cX7_newCase 53 = .ok (.imul, 1) := by decide +kernel
theorem dX7_newCase_54 : decode cX7_newCase 54 = .ok (.iload_n 2, 1) := by decide +kernel
theorem dX7_newCase_55 : decode cX7_newCase 55 = .ok (.iadd, 1) := by decide +kernel
theorem dX7_newCase_56 : decode cX7_newCase 56 = .ok (.iconst 5, 1) := by decide +kernel
theorem dX7_newCase_57 : decode cX7_newCase 57 = .ok (.iastore, 1) := by decide +kernel
theorem dX7_newCase_58 : decode cX7_newCase 58 = .ok (.aload_n 0, 1) := by decide +kernel
theorem dX7_newCase_59 : decode cX7_newCase 59 = .ok (.getfield 28, 3) := by decide +kernel
theorem dX7_newCase_62 : decode cX7_newCase 62 = .ok (.bipush 6, 2) := by decide +kernel
theorem dX7_newCase_64 : decode cX7_newCase 64 = .ok (.aload_n 0, 1) := by decide +kernel
theorem dX7_newCase_65 : decode cX7_newCase 65 = .ok (.getfield 7, 3) := by decide +kernel
theorem dX7_newCase_68 : decode cX7_newCase 68 = .ok (.imul, 1) := by decide +kernel
theorem dX7_newCase_69 : decode cX7_newCase 69 = .ok (.iload_n 2, 1) := by decide +kernel
theorem dX7_newCase_70 : decode cX7_newCase 70 = .ok (.iadd, 1) := by decide +kernel
theorem dX7_newCase_71 : decode cX7_newCase 71 = .ok (.iconst 5, 1) := by decide +kernel
theorem dX7_newCase_72 : decode cX7_newCase 72 = .ok (.iastore, 1) := by decide +kernel
theorem dX7_newCase_73 : decode cX7_newCase 73 = .ok (.aload_n 0, 1) := by decide +kernel
theorem dX7_newCase_74 : decode cX7_newCase 74 = .ok (.getfield 31, 3) := by decide +kernel
theorem dX7_newCase_77 : decode cX7_newCase 77 = .ok (.bipush 6, 2) := by decide +kernel
theorem dX7_newCase_79 : decode cX7_newCase 79 = .ok (.aload_n 0, 1) := by decide +kernel
theorem dX7_newCase_80 : decode cX7_newCase 80 = .ok (.getfield 7, 3) := by decide +kernel
theorem dX7_newCase_83 : decode cX7_newCase 83 = .ok (.imul, 1) := by decide +kernel
theorem dX7_newCase_84 : decode cX7_newCase 84 = .ok (.iload_n 2, 1) := by decide +kernel
theorem dX7_newCase_85 : decode cX7_newCase 85 = .ok (.iadd, 1) := by decide +kernel
theorem dX7_newCase_86 : decode cX7_newCase 86 = .ok (.bipush 10, 2) := by decide +kernel
theorem dX7_newCase_88 : decode cX7_newCase 88 = .ok (.iastore, 1) := by decide +kernel
theorem dX7_newCase_89 : decode cX7_newCase 89 = .ok (.iinc 2 1, 3) := by decide +kernel
theorem dX7_newCase_92 : decode cX7_newCase 92 = .ok (.goto (-55), 3) := by decide +kernel
theorem dX7_newCase_95 : decode cX7_newCase 95 = .ok (.aload_n 0, 1) := by decide +kernel
theorem dX7_newCase_96 : decode cX7_newCase 96 = .ok (.dup, 1) := by decide +kernel
theorem dX7_newCase_97 : decode cX7_newCase 97 = .ok (.getfield 7, 3) := by decide +kernel
theorem dX7_newCase_100 : decode cX7_newCase 100 = .ok (.iconst 1, 1) := by decide +kernel
theorem dX7_newCase_101 : decode cX7_newCase 101 = .ok (.iadd, 1) := by decide +kernel
theorem dX7_newCase_102 : decode cX7_newCase 102 = .ok (.putfield 7, 3) := by decide +kernel
theorem dX7_newCase_105 : decode cX7_newCase 105 = .ok (.aload_n 0, 1) := by decide +kernel
theorem dX7_newCase_106 : decode cX7_newCase 106 = .ok (.getfield 7, 3) := by decide +kernel
theorem dX7_newCase_109 : decode cX7_newCase 109 = .ok (.iconst 1, 1) := by decide +kernel
theorem dX7_newCase_110 : decode cX7_newCase 110 = .ok (.isub, 1) := by decide +kernel
theorem dX7_newCase_111 : decode cX7_newCase 111 = .ok (.ireturn, 1) := by decide +kernel
theorem dX7_put_0 : decode cX7_put 0 = .ok (.aload_n 0, 1) := by decide +kernel
theorem dX7_put_1 : decode cX7_put 1 = .ok (.iload_n 1, 1) := by decide +kernel
theorem dX7_put_2 : decode cX7_put 2 = .ok (.invokevirtual 34, 3) := by decide +kernel
theorem dX7_put_5 : decode cX7_put 5 = .ok (.ifCond .eq 21, 3) := by decide +kernel
theorem dX7_put_8 : decode cX7_put 8 = .ok (.aload_n 0, 1) := by decide +kernel
theorem dX7_put_9 : decode cX7_put 9 = .ok (.iload_n 2, 1) := by decide +kernel
theorem dX7_put_10 : decode cX7_put 10 = .ok (.invokevirtual 11, 3) := by decide +kernel
theorem dX7_put_13 : decode cX7_put 13 = .ok (.ifCond .eq 13, 3) := by decide +kernel
theorem dX7_put_16 : decode cX7_put 16 = .ok (.aload_n 0, 1) := by decide +kernel
theorem dX7_put_17 : decode cX7_put 17 = .ok (.iload_n 3, 1) := by decide +kernel
theorem dX7_put_18 : decode cX7_put 18 = .ok (.iconst 0, 1) := by decide +kernel
theorem dX7_put_19 : decode cX7_put 19 = .ok (.iconst 2, 1) := by decide +kernel
theorem dX7_put_20 : decode cX7_put 20 = .ok (.invokevirtual 1, 3) := by decide +kernel
theorem dX7_put_23 : decode cX7_put 23 = .ok (.ifCond .ne 5, 3) := by decide +kernel
theorem dX7_put_26 : decode cX7_put 26 = .ok (.iconst (-1), 1) := by decide +kernel
theorem dX7_put_27 : decode cX7_put 27 = .ok (.ireturn, 1) := by decide +kernel
theorem dX7_put_28 : decode cX7_put 28 = .ok (.aload_n 0, 1) := by decide +kernel
theorem dX7_put_29 : decode cX7_put 29 = .ok (.iload 4, 2) := by decide +kernel
theorem dX7_put_31 : decode cX7_put 31 = .ok (.iconst 0, 1) := by decide +kernel
theorem dX7_put_32 : decode cX7_put 32 = .ok (.bipush 10, 2) := by decide +kernel
theorem dX7_put_34 : decode cX7_put 34 = .ok (.invokevirtual 1, 3) := by decide +kernel
theorem dX7_put_37 : decode cX7_put 37 = .ok (.ifCond .ne 6, 3) := by decide +kernel
theorem dX7_put_40 : decode cX7_put 40 = .ok (.bipush (-2), 2) := by decide +kernel
theorem dX7_put_42 : decode cX7_put 42 = .ok (.ireturn, 1) := by decide +kernel
theorem dX7_put_43 : decode cX7_put 43 = .ok (.bipush 6, 2) := by decide +kernel
theorem dX7_put_45 : decode cX7_put 45 = .ok (.iload_n 1, 1) := by decide +kernel
theorem dX7_put_46 : decode cX7_put 46 = .ok (.imul, 1) := by decide +kernel
theorem dX7_put_47 : decode cX7_put 47 = .ok (.iload_n 2, 1) := by decide +kernel
theorem dX7_put_48 : decode cX7_put 48 = .ok (.iadd, 1) := by decide +kernel
theorem dX7_put_49 : decode cX7_put 49 = .ok (.istore 5, 2) := by decide +kernel
theorem dX7_put_51 : decode cX7_put 51 = .ok (.iload_n 3, 1) := by decide +kernel
theorem dX7_put_52 : decode cX7_put 52 = .ok (.ifCond .ne 13, 3) := by decide +kernel
theorem dX7_put_55 : decode cX7_put 55 = .ok (.aload_n 0, 1) := by decide +kernel
theorem dX7_put_56 : decode cX7_put 56 = .ok (.getfield 25, 3) := by decide +kernel
theorem dX7_put_59 : decode cX7_put 59 = .ok (.iload 5, 2) := by decide +kernel
theorem dX7_put_61 : decode cX7_put 61 = .ok (.iaload, 1) := by decide +kernel
theorem dX7_put_62 : decode cX7_put 62 = .ok (.goto 25, 3) := by decide +kernel
theorem dX7_put_65 : decode cX7_put 65 = .ok (.iload_n 3, 1) := by decide +kernel
theorem dX7_put_66 : decode cX7_put 66 = .ok (.iconst 1, 1) := by decide +kernel
theorem dX7_put_67 : decode cX7_put 67 = .ok (.if_icmp .ne 13, 3) := by decide +kernel
theorem dX7_put_70 : decode cX7_put 70 = .ok (.aload_n 0, 1) := by decide +kernel
theorem dX7_put_71 : decode cX7_put 71 = .ok (.getfield 28, 3) := by decide +kernel
theorem dX7_put_74 : decode cX7_put 74 = .ok (.iload 5, 2) := by decide +kernel
theorem dX7_put_76 : decode cX7_put 76 = .ok (.iaload, 1) := by decide +kernel
theorem dX7_put_77 : decode cX7_put 77 = .ok (.goto 10, 3) := by decide +kernel
theorem dX7_put_80 : decode cX7_put 80 = .ok (.aload_n 0, 1) := by decide +kernel
theorem dX7_put_81 : decode cX7_put 81 = .ok (.getfield 31, 3) := by decide +kernel
theorem dX7_put_84 : decode cX7_put 84 = .ok (.iload 5, 2) := by decide +kernel
theorem dX7_put_86 : decode cX7_put 86 = .ok (.iaload, 1) := by decide +kernel
theorem dX7_put_87 : decode cX7_put 87 = .ok (.istore 6, 2) := by decide +kernel
theorem dX7_put_89 : decode cX7_put 89 = .ok (.iload_n 3, 1) := by decide +kernel
theorem dX7_put_90 : decode cX7_put 90 = .ok (.ifCond .ne 12, 3) := by decide +kernel
theorem dX7_put_93 : decode cX7_put 93 = .ok (.aload_n 0, 1) := by decide +kernel
theorem dX7_put_94 : decode cX7_put 94 = .ok (.getfield 25, 3) := by decide +kernel
theorem dX7_put_97 : decode cX7_put 97 = .ok (.iload 5, 2) := by decide +kernel
theorem dX7_put_99 : decode cX7_put 99 = .ok (.iload 4, 2) := by decide +kernel
theorem dX7_put_101 : decode cX7_put 101 = .ok (.iastore, 1) := by decide +kernel
theorem dX7_put_102 : decode cX7_put 102 = .ok (.iload_n 3, 1) := by decide +kernel
theorem dX7_put_103 : decode cX7_put 103 = .ok (.iconst 1, 1) := by decide +kernel
theorem dX7_put_104 : decode cX7_put 104 = .ok (.if_icmp .ne 12, 3) := by decide +kernel
theorem dX7_put_107 : decode cX7_put 107 = .ok (.aload_n 0, 1) := by decide +kernel
theorem dX7_put_108 : decode cX7_put 108 = .ok (.getfield 28, 3) := by decide +kernel
theorem dX7_put_111 : decode cX7_put 111 = .ok (.iload 5, 2) := by decide +kernel
theorem dX7_put_113 : decode cX7_put 113 = .ok (.iload 4, 2) := by decide +kernel
theorem dX7_put_115 : decode cX7_put 115 = .ok (.iastore, 1) := by decide +kernel
theorem dX7_put_116 : decode cX7_put 116 = .ok (.iload_n 3, 1) := by decide +kernel
theorem dX7_put_117 : decode cX7_put 117 = .ok (.iconst 2, 1) := by decide +kernel
theorem dX7_put_118 : decode cX7_put 118 = .ok (.if_icmp .ne 12, 3) := by decide +kernel
theorem dX7_put_121 : decode cX7_put 121 = .ok (.aload_n 0, 1) := by decide +kernel
theorem dX7_put_122 : decode cX7_put 122 = .ok (.getfield 31, 3) := by decide +kernel
theorem dX7_put_125 : decode cX7_put 125 = .ok (.iload 5, 2) := by decide +kernel
theorem dX7_put_127 : decode cX7_put 127 = .ok (.iload 4, 2) := by decide +kernel
theorem dX7_put_129 : decode cX7_put 129 = .ok (.iastore, 1) := by decide +kernel
theorem dX7_put_130 : decode cX7_put 130 = .ok (.iload 6, 2) := by decide +kernel
theorem dX7_put_132 : decode cX7_put 132 = .ok (.ireturn, 1) := by decide +kernel
theorem dX7_findUp_0 : decode cX7_findUp 0 = .ok (.bipush 31, 2) := by decide +kernel
theorem dX7_findUp_2 : decode cX7_findUp 2 = .ok (.istore_n 2, 1) := by decide +kernel
theorem dX7_findUp_3 : decode cX7_findUp 3 = .ok (.iload_n 2, 1) := by decide +kernel
theorem dX7_findUp_4 : decode cX7_findUp 4 = .ok (.ifCond .le 137, 3) := by decide +kernel
theorem dX7_findUp_7 : decode cX7_findUp 7 = .ok (.iconst 0, 1) := by decide +kernel
theorem dX7_findUp_8 : decode cX7_findUp 8 = .ok (.istore_n 3, 1) := by decide +kernel
theorem dX7_findUp_9 : decode cX7_findUp 9 = .ok (.iload_n 3, 1) := by decide +kernel
theorem dX7_findUp_10 : decode cX7_findUp 10 = .ok (.iconst 5, 1) := by decide +kernel
theorem dX7_findUp_11 : decode cX7_findUp 11 = .ok (.if_icmp .ge 124, 3) := by decide +kernel
theorem dX7_findUp_14 : decode cX7_findUp 14 = .ok (.aload_n 0, 1) := by decide +kernel
theorem dX7_findUp_15 : decode cX7_findUp 15 = .ok (.iload_n 2, 1) := by decide +kernel
theorem dX7_findUp_16 : decode cX7_findUp 16 = .ok (.iload_n 3, 1) := by decide +kernel
theorem dX7_findUp_17 : decode cX7_findUp 17 = .ok (.invokevirtual 37, 3) := by decide +kernel
theorem dX7_findUp_20 : decode cX7_findUp 20 = .ok (.ifCond .eq 21, 3) := by decide +kernel
theorem dX7_findUp_23 : decode cX7_findUp 23 = .ok (.aload_n 0, 1) := by decide +kernel
theorem dX7_findUp_24 : decode cX7_findUp 24 = .ok (.aload_n 0, 1) := by decide +kernel
theorem dX7_findUp_25 : decode cX7_findUp 25 = .ok (.getfield 22, 3) := by decide +kernel
theorem dX7_findUp_28 : decode cX7_findUp 28 = .ok (.iload_n 1, 1) := by decide +kernel
theorem dX7_findUp_29 : decode cX7_findUp 29 = .ok (.iaload, 1) := by decide +kernel
theorem dX7_findUp_30 : decode cX7_findUp 30 = .ok (.iload_n 3, 1) := by decide +kernel
theorem dX7_findUp_31 : decode cX7_findUp 31 = .ok (.invokevirtual 37, 3) := by decide +kernel
theorem dX7_findUp_34 : decode cX7_findUp 34 = .ok (.ifCond .eq 7, 3) := by decide +kernel
theorem dX7_findUp_37 : decode cX7_findUp 37 = .ok (.iconst 1, 1) := by decide +kernel
theorem dX7_findUp_38 : decode cX7_findUp 38 = .ok (.goto 4, 3) := by decide +kernel
theorem dX7_findUp_41 : decode cX7_findUp 41 = .ok (.iconst 0, 1) := by decide +kernel
theorem dX7_findUp_42 : decode cX7_findUp 42 = .ok (.istore 4, 2) := by decide +kernel
theorem dX7_findUp_44 : decode cX7_findUp 44 = .ok (.iconst 0, 1) := by decide +kernel
theorem dX7_findUp_45 : decode cX7_findUp 45 = .ok (.istore 5, 2) := by decide +kernel
theorem dX7_findUp_47 : decode cX7_findUp 47 = .ok (.iload 5, 2) := by decide +kernel
theorem dX7_findUp_49 : decode cX7_findUp 49 = .ok (.iconst 5, 1) := by decide +kernel
theorem dX7_findUp_50 : decode cX7_findUp 50 = .ok (.if_icmp .ge 66, 3) := by decide +kernel
theorem dX7_findUp_53 : decode cX7_findUp 53 = .ok (.iload 4, 2) := by decide +kernel
theorem dX7_findUp_55 : decode cX7_findUp 55 = .ok (.ifCond .eq 52, 3) := by decide +kernel
theorem dX7_findUp_58 : decode cX7_findUp 58 = .ok (.aload_n 0, 1) := by decide +kernel
theorem dX7_findUp_59 : decode cX7_findUp 59 = .ok (.aload_n 0, 1) := by decide +kernel
theorem dX7_findUp_60 : decode cX7_findUp 60 = .ok (.getfield 15, 3) := by decide +kernel
theorem dX7_findUp_63 : decode cX7_findUp 63 = .ok (.iload_n 3, 1) := by decide +kernel
theorem dX7_findUp_64 : decode cX7_findUp 64 = .ok (.iaload, 1) := by decide +kernel
theorem dX7_findUp_65 : decode cX7_findUp 65 = .ok (.iload 5, 2) := by decide +kernel
theorem dX7_findUp_67 : decode cX7_findUp 67 = .ok (.invokevirtual 37, 3) := by decide +kernel
theorem dX7_findUp_70 : decode cX7_findUp 70 = .ok (.ifCond .eq 33, 3) := by decide +kernel
theorem dX7_findUp_73 : decode cX7_findUp 73 = .ok (.aload_n 0, 1) := by decide +kernel
theorem dX7_findUp_74 : decode cX7_findUp 74 = .ok (.iload_n 2, 1) := by decide +kernel
theorem dX7_findUp_75 : decode cX7_findUp 75 = .ok (.iload 5, 2) := by decide +kernel
theorem dX7_findUp_77 : decode cX7_findUp 77 = .ok (.invokevirtual 37, 3) := by decide +kernel
theorem dX7_findUp_80 : decode cX7_findUp 80 = .ok (.ifCond .ne 23, 3) := by decide +kernel
theorem dX7_findUp_83 : decode cX7_findUp 83 = .ok (.aload_n 0, 1) := by decide +kernel
theorem dX7_findUp_84 : decode cX7_findUp 84 = .ok (.getfield 41, 3) := by decide +kernel
theorem dX7_findUp_87 : decode cX7_findUp 87 = .ok (.bipush 6, 2) := by decide +kernel
theorem dX7_findUp_89 : decode cX7_findUp 89 = .ok (.iload_n 2, 1) := by decide +kernel
theorem dX7_findUp_90 : decode cX7_findUp 90 = .ok (.iconst 1, 1) := by decide +kernel
theorem dX7_findUp_91 : decode cX7_findUp 91 = .ok (.iload 5, 2) := by decide +kernel
theorem dX7_findUp_93 : decode cX7_findUp 93 = .ok (.ishl, 1) := by decide +kernel
theorem dX7_findUp_94 : decode cX7_findUp 94 = .ok (.ior, 1) := by decide +kernel
theorem dX7_findUp_95 : decode cX7_findUp 95 = .ok (.imul, 1) := by decide +kernel
theorem dX7_findUp_96 : decode cX7_findUp 96 = .ok (.iload 5, 2) := by decide +kernel
theorem dX7_findUp_98 : decode cX7_findUp 98 = .ok (.iadd, 1) := by decide +kernel
theorem dX7_findUp_99 : decode cX7_findUp 99 = .ok (.baload, 1) := by decide +kernel
theorem dX7_findUp_100 : decode cX7_findUp 100 = .ok (.ifCond .ne 7, 3) := by decide +kernel
theorem dX7_findUp_103 : decode cX7_findUp 103 = .ok (.iconst 1, 1) := by decide +kernel
theorem dX7_findUp_104 : decode cX7_findUp 104 = .ok (.goto 4, 3) := by decide +kernel
theorem dX7_findUp_107 : decode cX7_findUp 107 = .ok (.iconst 0, 1) := by decide +kernel
theorem dX7_findUp_108 : decode cX7_findUp 108 = .ok (.istore 4, 2) := by decide +kernel
theorem dX7_findUp_110 : decode cX7_findUp 110 = .ok (.iinc 5 1, 3) := by decide +kernel
theorem dX7_findUp_113 : decode cX7_findUp 113 = .ok (.goto (-66), 3) := by decide +kernel
theorem dX7_findUp_116 : decode cX7_findUp 116 = .ok (.aload_n 0, 1) := by decide +kernel
theorem dX7_findUp_117 : decode cX7_findUp 117 = .ok (.getfield 41, 3) := by decide +kernel
theorem dX7_findUp_120 : decode cX7_findUp 120 = .ok (.bipush 6, 2) := by decide +kernel
theorem dX7_findUp_122 : decode cX7_findUp 122 = .ok (.iload_n 2, 1) := by decide +kernel
theorem dX7_findUp_123 : decode cX7_findUp 123 = .ok (.imul, 1) := by decide +kernel
theorem dX7_findUp_124 : decode cX7_findUp 124 = .ok (.iload_n 3, 1) := by decide +kernel
theorem dX7_findUp_125 : decode cX7_findUp 125 = .ok (.iadd, 1) := by decide +kernel
theorem dX7_findUp_126 : decode cX7_findUp 126 = .ok (.iload 4, 2) := by decide +kernel
theorem dX7_findUp_128 : decode cX7_findUp 128 = .ok (.bastore, 1) := by decide +kernel
theorem dX7_findUp_129 : decode cX7_findUp 129 = .ok (.iinc 3 1, 3) := by decide +kernel
theorem dX7_findUp_132 : decode cX7_findUp 132 = .ok (.goto (-123), 3) := by decide +kernel
theorem dX7_findUp_135 : decode cX7_findUp 135 = .ok (.iinc 2 (-1), 3) := by decide +kernel
theorem dX7_findUp_138 : decode cX7_findUp 138 = .ok (.goto (-135), 3) := by decide +kernel
theorem dX7_findUp_141 : decode cX7_findUp 141 = .ok (.return_, 1) := by decide +kernel
theorem dX7_of_0 : decode cX7_of 0 = .ok (.aload_n 0, 1) := by decide +kernel
theorem dX7_of_1 : decode cX7_of 1 = .ok (.iload_n 1, 1) := by decide +kernel
theorem dX7_of_2 : decode cX7_of 2 = .ok (.invokevirtual 34, 3) := by decide +kernel
theorem dX7_of_5 : decode cX7_of 5 = .ok (.ifCond .eq 21, 3) := by decide +kernel
theorem dX7_of_8 : decode cX7_of 8 = .ok (.aload_n 0, 1) := by decide +kernel
theorem dX7_of_9 : decode cX7_of 9 = .ok (.iload_n 2, 1) := by decide +kernel
theorem dX7_of_10 : decode cX7_of 10 = .ok (.invokevirtual 11, 3) := by decide +kernel
theorem dX7_of_13 : decode cX7_of 13 = .ok (.ifCond .eq 13, 3) := by decide +kernel
theorem dX7_of_16 : decode cX7_of 16 = .ok (.aload_n 0, 1) := by decide +kernel
theorem dX7_of_17 : decode cX7_of 17 = .ok (.iload_n 3, 1) := by decide +kernel
theorem dX7_of_18 : decode cX7_of 18 = .ok (.iconst 0, 1) := by decide +kernel
theorem dX7_of_19 : decode cX7_of 19 = .ok (.iconst 4, 1) := by decide +kernel
theorem dX7_of_20 : decode cX7_of 20 = .ok (.invokevirtual 1, 3) := by decide +kernel
theorem dX7_of_23 : decode cX7_of 23 = .ok (.ifCond .ne 5, 3) := by decide +kernel
theorem dX7_of_26 : decode cX7_of 26 = .ok (.iconst (-1), 1) := by decide +kernel
theorem dX7_of_27 : decode cX7_of 27 = .ok (.ireturn, 1) := by decide +kernel
theorem dX7_of_28 : decode cX7_of 28 = .ok (.bipush 6, 2) := by decide +kernel
theorem dX7_of_30 : decode cX7_of 30 = .ok (.iload_n 1, 1) := by decide +kernel
theorem dX7_of_31 : decode cX7_of 31 = .ok (.imul, 1) := by decide +kernel
theorem dX7_of_32 : decode cX7_of 32 = .ok (.iload_n 2, 1) := by decide +kernel
theorem dX7_of_33 : decode cX7_of 33 = .ok (.iadd, 1) := by decide +kernel
theorem dX7_of_34 : decode cX7_of 34 = .ok (.istore 4, 2) := by decide +kernel
theorem dX7_of_36 : decode cX7_of 36 = .ok (.iload_n 3, 1) := by decide +kernel
theorem dX7_of_37 : decode cX7_of 37 = .ok (.iconst 4, 1) := by decide +kernel
theorem dX7_of_38 : decode cX7_of 38 = .ok (.if_icmp .ne 8, 3) := by decide +kernel
theorem dX7_of_41 : decode cX7_of 41 = .ok (.aload_n 0, 1) := by decide +kernel
theorem dX7_of_42 : decode cX7_of 42 = .ok (.iload_n 1, 1) := by decide +kernel
theorem dX7_of_43 : decode cX7_of 43 = .ok (.invokevirtual 45, 3) := by decide +kernel
theorem dX7_of_46 : decode cX7_of 46 = .ok (.iload_n 3, 1) := by decide +kernel
theorem dX7_of_47 : decode cX7_of 47 = .ok (.tableswitch 64 0 3 #[29, 37, 45, 53], 29) := by decide +kernel
theorem dX7_of_76 : decode cX7_of 76 = .ok (.aload_n 0, 1) := by decide +kernel
theorem dX7_of_77 : decode cX7_of 77 = .ok (.getfield 25, 3) := by decide +kernel
theorem dX7_of_80 : decode cX7_of 80 = .ok (.iload 4, 2) := by decide +kernel
theorem dX7_of_82 : decode cX7_of 82 = .ok (.iaload, 1) := by decide +kernel
theorem dX7_of_83 : decode cX7_of 83 = .ok (.ireturn, 1) := by decide +kernel
theorem dX7_of_84 : decode cX7_of 84 = .ok (.aload_n 0, 1) := by decide +kernel
theorem dX7_of_85 : decode cX7_of 85 = .ok (.getfield 28, 3) := by decide +kernel
theorem dX7_of_88 : decode cX7_of 88 = .ok (.iload 4, 2) := by decide +kernel
theorem dX7_of_90 : decode cX7_of 90 = .ok (.iaload, 1) := by decide +kernel
theorem dX7_of_91 : decode cX7_of 91 = .ok (.ireturn, 1) := by decide +kernel
theorem dX7_of_92 : decode cX7_of 92 = .ok (.aload_n 0, 1) := by decide +kernel
theorem dX7_of_93 : decode cX7_of 93 = .ok (.getfield 31, 3) := by decide +kernel
theorem dX7_of_96 : decode cX7_of 96 = .ok (.iload 4, 2) := by decide +kernel
theorem dX7_of_98 : decode cX7_of 98 = .ok (.iaload, 1) := by decide +kernel
theorem dX7_of_99 : decode cX7_of 99 = .ok (.ireturn, 1) := by decide +kernel
theorem dX7_of_100 : decode cX7_of 100 = .ok (.aload_n 0, 1) := by decide +kernel
theorem dX7_of_101 : decode cX7_of 101 = .ok (.getfield 22, 3) := by decide +kernel
theorem dX7_of_104 : decode cX7_of 104 = .ok (.iload_n 1, 1) := by decide +kernel
theorem dX7_of_105 : decode cX7_of 105 = .ok (.iaload, 1) := by decide +kernel
theorem dX7_of_106 : decode cX7_of 106 = .ok (.iload_n 2, 1) := by decide +kernel
theorem dX7_of_107 : decode cX7_of 107 = .ok (.ishr, 1) := by decide +kernel
theorem dX7_of_108 : decode cX7_of 108 = .ok (.iconst 1, 1) := by decide +kernel
theorem dX7_of_109 : decode cX7_of 109 = .ok (.iand, 1) := by decide +kernel
theorem dX7_of_110 : decode cX7_of 110 = .ok (.ireturn, 1) := by decide +kernel
theorem dX7_of_111 : decode cX7_of 111 = .ok (.aload_n 0, 1) := by decide +kernel
theorem dX7_of_112 : decode cX7_of 112 = .ok (.getfield 41, 3) := by decide +kernel
theorem dX7_of_115 : decode cX7_of 115 = .ok (.bipush 6, 2) := by decide +kernel
theorem dX7_of_117 : decode cX7_of 117 = .ok (.iconst 1, 1) := by decide +kernel
theorem dX7_of_118 : decode cX7_of 118 = .ok (.iload_n 2, 1) := by decide +kernel
theorem dX7_of_119 : decode cX7_of 119 = .ok (.ishl, 1) := by decide +kernel
theorem dX7_of_120 : decode cX7_of 120 = .ok (.imul, 1) := by decide +kernel
theorem dX7_of_121 : decode cX7_of 121 = .ok (.iload_n 2, 1) := by decide +kernel
theorem dX7_of_122 : decode cX7_of 122 = .ok (.iadd, 1) := by decide +kernel
theorem dX7_of_123 : decode cX7_of 123 = .ok (.baload, 1) := by decide +kernel
theorem dX7_of_124 : decode cX7_of 124 = .ok (.ifCond .eq 7, 3) := by decide +kernel
theorem dX7_of_127 : decode cX7_of 127 = .ok (.iconst 1, 1) := by decide +kernel
theorem dX7_of_128 : decode cX7_of 128 = .ok (.goto 4, 3) := by decide +kernel
theorem dX7_of_131 : decode cX7_of 131 = .ok (.iconst 0, 1) := by decide +kernel
theorem dX7_of_132 : decode cX7_of 132 = .ok (.ireturn, 1) := by decide +kernel
theorem dX7_isOught_0 : decode cX7_isOught 0 = .ok (.aload_n 0, 1) := by decide +kernel
theorem dX7_isOught_1 : decode cX7_isOught 1 = .ok (.iload_n 1, 1) := by decide +kernel
theorem dX7_isOught_2 : decode cX7_isOught 2 = .ok (.invokevirtual 45, 3) := by decide +kernel
theorem dX7_isOught_5 : decode cX7_isOught 5 = .ok (.aload_n 0, 1) := by decide +kernel
theorem dX7_isOught_6 : decode cX7_isOught 6 = .ok (.getfield 41, 3) := by decide +kernel
theorem dX7_isOught_9 : decode cX7_isOught 9 = .ok (.bipush 6, 2) := by decide +kernel
theorem dX7_isOught_11 : decode cX7_isOught 11 = .ok (.baload, 1) := by decide +kernel
theorem dX7_isOught_12 : decode cX7_isOught 12 = .ok (.ifCond .eq 20, 3) := by decide +kernel
theorem dX7_isOught_15 : decode cX7_isOught 15 = .ok (.aload_n 0, 1) := by decide +kernel
theorem dX7_isOught_16 : decode cX7_isOught 16 = .ok (.getfield 31, 3) := by decide +kernel
theorem dX7_isOught_19 : decode cX7_isOught 19 = .ok (.bipush 6, 2) := by decide +kernel
theorem dX7_isOught_21 : decode cX7_isOught 21 = .ok (.iload_n 1, 1) := by decide +kernel
theorem dX7_isOught_22 : decode cX7_isOught 22 = .ok (.imul, 1) := by decide +kernel
theorem dX7_isOught_23 : decode cX7_isOught 23 = .ok (.iaload, 1) := by decide +kernel
theorem dX7_isOught_24 : decode cX7_isOught 24 = .ok (.iconst 5, 1) := by decide +kernel
theorem dX7_isOught_25 : decode cX7_isOught 25 = .ok (.if_icmp .lt 7, 3) := by decide +kernel
theorem dX7_isOught_28 : decode cX7_isOught 28 = .ok (.iconst 1, 1) := by decide +kernel
theorem dX7_isOught_29 : decode cX7_isOught 29 = .ok (.goto 4, 3) := by decide +kernel
theorem dX7_isOught_32 : decode cX7_isOught 32 = .ok (.iconst 0, 1) := by decide +kernel
theorem dX7_isOught_33 : decode cX7_isOught 33 = .ok (.ireturn, 1) := by decide +kernel
theorem dX7_ought_0 : decode cX7_ought 0 = .ok (.aload_n 0, 1) := by decide +kernel
theorem dX7_ought_1 : decode cX7_ought 1 = .ok (.iload_n 1, 1) := by decide +kernel
theorem dX7_ought_2 : decode cX7_ought 2 = .ok (.invokevirtual 34, 3) := by decide +kernel
theorem dX7_ought_5 : decode cX7_ought 5 = .ok (.ifCond .ne 7, 3) := by decide +kernel
theorem dX7_ought_8 : decode cX7_ought 8 = .ok (.iconst (-1), 1) := by decide +kernel
theorem dX7_ought_9 : decode cX7_ought 9 = .ok (.goto 16, 3) := by decide +kernel
theorem dX7_ought_12 : decode cX7_ought 12 = .ok (.aload_n 0, 1) := by decide +kernel
theorem dX7_ought_13 : decode cX7_ought 13 = .ok (.iload_n 1, 1) := by decide +kernel
theorem dX7_ought_14 : decode cX7_ought 14 = .ok (.invokevirtual 49, 3) := by decide +kernel
theorem dX7_ought_17 : decode cX7_ought 17 = .ok (.ifCond .eq 7, 3) := by decide +kernel
theorem dX7_ought_20 : decode cX7_ought 20 = .ok (.iconst 1, 1) := by decide +kernel
theorem dX7_ought_21 : decode cX7_ought 21 = .ok (.goto 4, 3) := by decide +kernel
theorem dX7_ought_24 : decode cX7_ought 24 = .ok (.iconst 0, 1) := by decide +kernel
theorem dX7_ought_25 : decode cX7_ought 25 = .ok (.ireturn, 1) := by decide +kernel
theorem dX7_isRules_0 : decode cX7_isRules 0 = .ok (.aload_n 0, 1) := by decide +kernel
theorem dX7_isRules_1 : decode cX7_isRules 1 = .ok (.iload_n 1, 1) := by decide +kernel
theorem dX7_isRules_2 : decode cX7_isRules 2 = .ok (.iconst 0, 1) := by decide +kernel
theorem dX7_isRules_3 : decode cX7_isRules 3 = .ok (.aload_n 0, 1) := by decide +kernel
theorem dX7_isRules_4 : decode cX7_isRules 4 = .ok (.getfield 52, 3) := by decide +kernel
theorem dX7_isRules_7 : decode cX7_isRules 7 = .ok (.iconst 1, 1) := by decide +kernel
theorem dX7_isRules_8 : decode cX7_isRules 8 = .ok (.isub, 1) := by decide +kernel
theorem dX7_isRules_9 : decode cX7_isRules 9 = .ok (.invokevirtual 1, 3) := by decide +kernel
theorem dX7_isRules_12 : decode cX7_isRules 12 = .ok (.ireturn, 1) := by decide +kernel
theorem dX7_feed_0 : decode cX7_feed 0 = .ok (.aload_n 0, 1) := by decide +kernel
theorem dX7_feed_1 : decode cX7_feed 1 = .ok (.iload_n 2, 1) := by decide +kernel
theorem dX7_feed_2 : decode cX7_feed 2 = .ok (.iconst 0, 1) := by decide +kernel
theorem dX7_feed_3 : decode cX7_feed 3 = .ok (.iconst 4, 1) := by decide +kernel
theorem dX7_feed_4 : decode cX7_feed 4 = .ok (.invokevirtual 1, 3) := by decide +kernel
theorem dX7_feed_7 : decode cX7_feed 7 = .ok (.ifCond .ne 6, 3) := by decide +kernel
theorem dX7_feed_10 : decode cX7_feed 10 = .ok (.bipush (-2), 2) := by decide +kernel
theorem dX7_feed_12 : decode cX7_feed 12 = .ok (.ireturn, 1) := by decide +kernel
theorem dX7_feed_13 : decode cX7_feed 13 = .ok (.aload_n 0, 1) := by decide +kernel
theorem dX7_feed_14 : decode cX7_feed 14 = .ok (.getfield 55, 3) := by decide +kernel
theorem dX7_feed_17 : decode cX7_feed 17 = .ok (.iload_n 2, 1) := by decide +kernel
theorem dX7_feed_18 : decode cX7_feed 18 = .ok (.iadd, 1) := by decide +kernel
theorem dX7_feed_19 : decode cX7_feed 19 = .ok (.bipush 100, 2) := by decide +kernel
theorem dX7_feed_21 : decode cX7_feed 21 = .ok (.if_icmp .le 6, 3) := by decide +kernel
theorem dX7_feed_24 : decode cX7_feed 24 = .ok (.bipush (-4), 2) := by decide +kernel
theorem dX7_feed_26 : decode cX7_feed 26 = .ok (.ireturn, 1) := by decide +kernel
theorem dX7_feed_27 : decode cX7_feed 27 = .ok (.iload_n 2, 1) := by decide +kernel
theorem dX7_feed_28 : decode cX7_feed 28 = .ok (.iconst 1, 1) := by decide +kernel
theorem dX7_feed_29 : decode cX7_feed 29 = .ok (.isub, 1) := by decide +kernel
theorem dX7_feed_30 : decode cX7_feed 30 = .ok (.istore_n 3, 1) := by decide +kernel
theorem dX7_feed_31 : decode cX7_feed 31 = .ok (.iload_n 3, 1) := by decide +kernel
theorem dX7_feed_32 : decode cX7_feed 32 = .ok (.ifCond .lt 35, 3) := by decide +kernel
theorem dX7_feed_35 : decode cX7_feed 35 = .ok (.aload_n 0, 1) := by decide +kernel
theorem dX7_feed_36 : decode cX7_feed 36 = .ok (.getfield 58, 3) := by decide +kernel
theorem dX7_feed_39 : decode cX7_feed 39 = .ok (.aload_n 0, 1) := by decide +kernel
theorem dX7_feed_40 : decode cX7_feed 40 = .ok (.getfield 55, 3) := by decide +kernel
theorem dX7_feed_43 : decode cX7_feed 43 = .ok (.iload_n 1, 1) := by decide +kernel
theorem dX7_feed_44 : decode cX7_feed 44 = .ok (.bipush 8, 2) := by decide +kernel
theorem dX7_feed_46 : decode cX7_feed 46 = .ok (.iload_n 3, 1) := by decide +kernel
theorem dX7_feed_47 : decode cX7_feed 47 = .ok (.imul, 1) := by decide +kernel
theorem dX7_feed_48 : decode cX7_feed 48 = .ok (.ishr, 1) := by decide +kernel
theorem dX7_feed_49 : decode cX7_feed 49 = .ok (.i2b, 1) := by decide +kernel
theorem dX7_feed_50 : decode cX7_feed 50 = .ok (.iastore, 1) := by decide +kernel
theorem dX7_feed_51 : decode cX7_feed 51 = .ok (.aload_n 0, 1) := by decide +kernel
theorem dX7_feed_52 : decode cX7_feed 52 = .ok (.dup, 1) := by decide +kernel
theorem dX7_feed_53 : decode cX7_feed 53 = .ok (.getfield 55, 3) := by decide +kernel
theorem dX7_feed_56 : decode cX7_feed 56 = .ok (.iconst 1, 1) := by decide +kernel
theorem dX7_feed_57 : decode cX7_feed 57 = .ok (.iadd, 1) := by decide +kernel
theorem dX7_feed_58 : decode cX7_feed 58 = .ok (.putfield 55, 3) := by decide +kernel
theorem dX7_feed_61 : decode cX7_feed 61 = .ok (.iinc 3 (-1), 3) := by decide +kernel
theorem dX7_feed_64 : decode cX7_feed 64 = .ok (.goto (-33), 3) := by decide +kernel
theorem dX7_feed_67 : decode cX7_feed 67 = .ok (.aload_n 0, 1) := by decide +kernel
theorem dX7_feed_68 : decode cX7_feed 68 = .ok (.getfield 55, 3) := by decide +kernel
theorem dX7_feed_71 : decode cX7_feed 71 = .ok (.ireturn, 1) := by decide +kernel
theorem dX7_next_0 : decode cX7_next 0 = .ok (.aload_n 0, 1) := by decide +kernel
theorem dX7_next_1 : decode cX7_next 1 = .ok (.getfield 61, 3) := by decide +kernel
theorem dX7_next_4 : decode cX7_next 4 = .ok (.aload_n 0, 1) := by decide +kernel
theorem dX7_next_5 : decode cX7_next 5 = .ok (.getfield 55, 3) := by decide +kernel
theorem dX7_next_8 : decode cX7_next 8 = .ok (.if_icmp .ge 15, 3) := by decide +kernel
theorem dX7_next_11 : decode cX7_next 11 = .ok (.aload_n 0, 1) := by decide +kernel
theorem dX7_next_12 : decode cX7_next 12 = .ok (.getfield 58, 3) := by decide +kernel
theorem dX7_next_15 : decode cX7_next 15 = .ok (.aload_n 0, 1) := by decide +kernel
theorem dX7_next_16 : decode cX7_next 16 = .ok (.getfield 61, 3) := by decide +kernel
theorem dX7_next_19 : decode cX7_next 19 = .ok (.iaload, 1) := by decide +kernel
theorem dX7_next_20 : decode cX7_next 20 = .ok (.goto 4, 3) := by decide +kernel
theorem dX7_next_23 : decode cX7_next 23 = .ok (.iconst (-1), 1) := by decide +kernel
theorem dX7_next_24 : decode cX7_next 24 = .ok (.ireturn, 1) := by decide +kernel
theorem dX7_takes_0 : decode cX7_takes 0 = .ok (.aload_n 0, 1) := by decide +kernel
theorem dX7_takes_1 : decode cX7_takes 1 = .ok (.invokevirtual 64, 3) := by decide +kernel
theorem dX7_takes_4 : decode cX7_takes 4 = .ok (.iload_n 1, 1) := by decide +kernel
theorem dX7_takes_5 : decode cX7_takes 5 = .ok (.if_icmp .eq 5, 3) := by decide +kernel
theorem dX7_takes_8 : decode cX7_takes 8 = .ok (.iconst 0, 1) := by decide +kernel
theorem dX7_takes_9 : decode cX7_takes 9 = .ok (.ireturn, 1) := by decide +kernel
theorem dX7_takes_10 : decode cX7_takes 10 = .ok (.aload_n 0, 1) := by decide +kernel
theorem dX7_takes_11 : decode cX7_takes 11 = .ok (.dup, 1) := by decide +kernel
theorem dX7_takes_12 : decode cX7_takes 12 = .ok (.getfield 61, 3) := by decide +kernel
theorem dX7_takes_15 : decode cX7_takes 15 = .ok (.iconst 1, 1) := by decide +kernel
theorem dX7_takes_16 : decode cX7_takes 16 = .ok (.iadd, 1) := by decide +kernel
theorem dX7_takes_17 : decode cX7_takes 17 = .ok (.putfield 61, 3) := by decide +kernel
theorem dX7_takes_20 : decode cX7_takes 20 = .ok (.iconst 1, 1) := by decide +kernel
theorem dX7_takes_21 : decode cX7_takes 21 = .ok (.ireturn, 1) := by decide +kernel
theorem dX7_takesWord_0 : decode cX7_takesWord 0 = .ok (.iload_n 2, 1) := by decide +kernel
theorem dX7_takesWord_1 : decode cX7_takesWord 1 = .ok (.iconst 1, 1) := by decide +kernel
theorem dX7_takesWord_2 : decode cX7_takesWord 2 = .ok (.isub, 1) := by decide +kernel
theorem dX7_takesWord_3 : decode cX7_takesWord 3 = .ok (.istore_n 3, 1) := by decide +kernel
theorem dX7_takesWord_4 : decode cX7_takesWord 4 = .ok (.iload_n 3, 1) := by decide +kernel
theorem dX7_takesWord_5 : decode cX7_takesWord 5 = .ok (.ifCond .lt 29, 3) := by decide +kernel
theorem dX7_takesWord_8 : decode cX7_takesWord 8 = .ok (.aload_n 0, 1) := by decide +kernel
theorem dX7_takesWord_9 : decode cX7_takesWord 9 = .ok (.bipush 96, 2) := by decide +kernel
theorem dX7_takesWord_11 : decode cX7_takesWord 11 = .ok (.iload_n 1, 1) := by decide +kernel
theorem dX7_takesWord_12 : decode cX7_takesWord 12 = .ok (.iconst 5, 1) := by decide +kernel
theorem dX7_takesWord_13 : decode cX7_takesWord 13 = .ok (.iload_n 3, 1) := by decide +kernel
theorem dX7_takesWord_14 : decode cX7_takesWord 14 = .ok (.imul, 1) := by decide +kernel
theorem dX7_takesWord_15 : decode cX7_takesWord 15 = .ok (.ishr, 1) := by decide +kernel
theorem dX7_takesWord_16 : decode cX7_takesWord 16 = .ok (.bipush 31, 2) := by decide +kernel
theorem dX7_takesWord_18 : decode cX7_takesWord 18 = .ok (.iand, 1) := by decide +kernel
theorem dX7_takesWord_19 : decode cX7_takesWord 19 = .ok (.iadd, 1) := by decide +kernel
theorem dX7_takesWord_20 : decode cX7_takesWord 20 = .ok (.invokevirtual 68, 3) := by decide +kernel
theorem dX7_takesWord_23 : decode cX7_takesWord 23 = .ok (.ifCond .ne 5, 3) := by decide +kernel
theorem dX7_takesWord_26 : decode cX7_takesWord 26 = .ok (.iconst 0, 1) := by decide +kernel
theorem dX7_takesWord_27 : decode cX7_takesWord 27 = .ok (.ireturn, 1) := by decide +kernel
theorem dX7_takesWord_28 : decode cX7_takesWord 28 = .ok (.iinc 3 (-1), 3) := by decide +kernel
theorem dX7_takesWord_31 : decode cX7_takesWord 31 = .ok (.goto (-27), 3) := by decide +kernel
theorem dX7_takesWord_34 : decode cX7_takesWord 34 = .ok (.aload_n 0, 1) := by decide +kernel
theorem dX7_takesWord_35 : decode cX7_takesWord 35 = .ok (.bipush 32, 2) := by decide +kernel
theorem dX7_takesWord_37 : decode cX7_takesWord 37 = .ok (.invokevirtual 68, 3) := by decide +kernel
theorem dX7_takesWord_40 : decode cX7_takesWord 40 = .ok (.ireturn, 1) := by decide +kernel
theorem dX7_isDigit_0 : decode cX7_isDigit 0 = .ok (.aload_n 0, 1) := by decide +kernel
theorem dX7_isDigit_1 : decode cX7_isDigit 1 = .ok (.aload_n 0, 1) := by decide +kernel
theorem dX7_isDigit_2 : decode cX7_isDigit 2 = .ok (.invokevirtual 64, 3) := by decide +kernel
theorem dX7_isDigit_5 : decode cX7_isDigit 5 = .ok (.bipush 48, 2) := by decide +kernel
theorem dX7_isDigit_7 : decode cX7_isDigit 7 = .ok (.bipush 57, 2) := by decide +kernel
theorem dX7_isDigit_9 : decode cX7_isDigit 9 = .ok (.invokevirtual 1, 3) := by decide +kernel
theorem dX7_isDigit_12 : decode cX7_isDigit 12 = .ok (.ireturn, 1) := by decide +kernel
theorem dX7_takesNumber_0 : decode cX7_takesNumber 0 = .ok (.aload_n 0, 1) := by decide +kernel
theorem dX7_takesNumber_1 : decode cX7_takesNumber 1 = .ok (.invokevirtual 71, 3) := by decide +kernel
theorem dX7_takesNumber_4 : decode cX7_takesNumber 4 = .ok (.ifCond .ne 5, 3) := by decide +kernel
theorem dX7_takesNumber_7 : decode cX7_takesNumber 7 = .ok (.iconst 0, 1) := by decide +kernel
theorem dX7_takesNumber_8 : decode cX7_takesNumber 8 = .ok (.ireturn, 1) := by decide +kernel
theorem dX7_takesNumber_9 : decode cX7_takesNumber 9 = .ok (.aload_n 0, 1) := by decide +kernel
theorem dX7_takesNumber_10 : decode cX7_takesNumber 10 = .ok (.iconst 0, 1) := by decide +kernel
theorem dX7_takesNumber_11 : decode cX7_takesNumber 11 = .ok (.putfield 75, 3) := by decide +kernel
theorem dX7_takesNumber_14 : decode cX7_takesNumber 14 = .ok (.iconst 0, 1) := by decide +kernel
theorem dX7_takesNumber_15 : decode cX7_takesNumber 15 = .ok (.istore_n 2, 1) := by decide +kernel
theorem dX7_takesNumber_16 : decode cX7_takesNumber 16 = .ok (.iload_n 2, 1) := by decide +kernel
theorem dX7_takesNumber_17 : decode cX7_takesNumber 17 = .ok (.iload_n 1, 1) := by decide +kernel
theorem dX7_takesNumber_18 : decode cX7_takesNumber 18 = .ok (.if_icmp .ge 45, 3) := by decide +kernel
theorem dX7_takesNumber_21 : decode cX7_takesNumber 21 = .ok (.aload_n 0, 1) := by decide +kernel
theorem dX7_takesNumber_22 : decode cX7_takesNumber 22 = .ok (.invokevirtual 71, 3) := by decide +kernel
theorem dX7_takesNumber_25 : decode cX7_takesNumber 25 = .ok (.ifCond .eq 38, 3) := by decide +kernel
theorem dX7_takesNumber_28 : decode cX7_takesNumber 28 = .ok (.aload_n 0, 1) := by decide +kernel
theorem dX7_takesNumber_29 : decode cX7_takesNumber 29 = .ok (.bipush 10, 2) := by decide +kernel
theorem dX7_takesNumber_31 : decode cX7_takesNumber 31 = .ok (.aload_n 0, 1) := by decide +kernel
theorem dX7_takesNumber_32 : decode cX7_takesNumber 32 = .ok (.getfield 75, 3) := by decide +kernel
theorem dX7_takesNumber_35 : decode cX7_takesNumber 35 = .ok (.imul, 1) := by decide +kernel
theorem dX7_takesNumber_36 : decode cX7_takesNumber 36 = .ok (.aload_n 0, 1) := by decide +kernel
theorem dX7_takesNumber_37 : decode cX7_takesNumber 37 = .ok (.invokevirtual 64, 3) := by decide +kernel
theorem dX7_takesNumber_40 : decode cX7_takesNumber 40 = .ok (.iadd, 1) := by decide +kernel
theorem dX7_takesNumber_41 : decode cX7_takesNumber 41 = .ok (.bipush 48, 2) := by decide +kernel
theorem dX7_takesNumber_43 : decode cX7_takesNumber 43 = .ok (.isub, 1) := by decide +kernel
theorem dX7_takesNumber_44 : decode cX7_takesNumber 44 = .ok (.putfield 75, 3) := by decide +kernel
theorem dX7_takesNumber_47 : decode cX7_takesNumber 47 = .ok (.aload_n 0, 1) := by decide +kernel
theorem dX7_takesNumber_48 : decode cX7_takesNumber 48 = .ok (.dup, 1) := by decide +kernel
theorem dX7_takesNumber_49 : decode cX7_takesNumber 49 = .ok (.getfield 61, 3) := by decide +kernel
theorem dX7_takesNumber_52 : decode cX7_takesNumber 52 = .ok (.iconst 1, 1) := by decide +kernel
theorem dX7_takesNumber_53 : decode cX7_takesNumber 53 = .ok (.iadd, 1) := by decide +kernel
theorem dX7_takesNumber_54 : decode cX7_takesNumber 54 = .ok (.putfield 61, 3) := by decide +kernel
theorem dX7_takesNumber_57 : decode cX7_takesNumber 57 = .ok (.iinc 2 1, 3) := by decide +kernel
theorem dX7_takesNumber_60 : decode cX7_takesNumber 60 = .ok (.goto (-44), 3) := by decide +kernel
theorem dX7_takesNumber_63 : decode cX7_takesNumber 63 = .ok (.iconst 1, 1) := by decide +kernel
theorem dX7_takesNumber_64 : decode cX7_takesNumber 64 = .ok (.ireturn, 1) := by decide +kernel
theorem dX7_put__0 : decode cX7_put_ 0 = .ok (.aload_n 0, 1) := by decide +kernel
theorem dX7_put__1 : decode cX7_put_ 1 = .ok (.getfield 78, 3) := by decide +kernel
theorem dX7_put__4 : decode cX7_put_ 4 = .ok (.aload_n 0, 1) := by decide +kernel
theorem dX7_put__5 : decode cX7_put_ 5 = .ok (.getfield 81, 3) := by decide +kernel
theorem dX7_put__8 : decode cX7_put_ 8 = .ok (.iload_n 1, 1) := by decide +kernel
theorem dX7_put__9 : decode cX7_put_ 9 = .ok (.iastore, 1) := by decide +kernel
theorem dX7_put__10 : decode cX7_put_ 10 = .ok (.aload_n 0, 1) := by decide +kernel
theorem dX7_put__11 : decode cX7_put_ 11 = .ok (.dup, 1) := by decide +kernel
theorem dX7_put__12 : decode cX7_put_ 12 = .ok (.getfield 81, 3) := by decide +kernel
theorem dX7_put__15 : decode cX7_put_ 15 = .ok (.iconst 1, 1) := by decide +kernel
theorem dX7_put__16 : decode cX7_put_ 16 = .ok (.iadd, 1) := by decide +kernel
theorem dX7_put__17 : decode cX7_put_ 17 = .ok (.putfield 81, 3) := by decide +kernel
theorem dX7_put__20 : decode cX7_put_ 20 = .ok (.return_, 1) := by decide +kernel
theorem dX7_whole_0 : decode cX7_whole 0 = .ok (.aload_n 0, 1) := by decide +kernel
theorem dX7_whole_1 : decode cX7_whole 1 = .ok (.getfield 84, 3) := by decide +kernel
theorem dX7_whole_4 : decode cX7_whole 4 = .ok (.ifCond .le 48, 3) := by decide +kernel
theorem dX7_whole_7 : decode cX7_whole 7 = .ok (.aload_n 0, 1) := by decide +kernel
theorem dX7_whole_8 : decode cX7_whole 8 = .ok (.getfield 87, 3) := by decide +kernel
theorem dX7_whole_11 : decode cX7_whole 11 = .ok (.aload_n 0, 1) := by decide +kernel
theorem dX7_whole_12 : decode cX7_whole 12 = .ok (.getfield 84, 3) := by decide +kernel
theorem dX7_whole_15 : decode cX7_whole 15 = .ok (.iconst 1, 1) := by decide +kernel
theorem dX7_whole_16 : decode cX7_whole 16 = .ok (.isub, 1) := by decide +kernel
theorem dX7_whole_17 : decode cX7_whole 17 = .ok (.iaload, 1) := by decide +kernel
theorem dX7_whole_18 : decode cX7_whole 18 = .ok (.bipush 33, 2) := by decide +kernel
theorem dX7_whole_20 : decode cX7_whole 20 = .ok (.if_icmp .ne 32, 3) := by decide +kernel
theorem dX7_whole_23 : decode cX7_whole 23 = .ok (.aload_n 0, 1) := by decide +kernel
theorem dX7_whole_24 : decode cX7_whole 24 = .ok (.bipush (-33), 2) := by decide +kernel
theorem dX7_whole_26 : decode cX7_whole 26 = .ok (.invokevirtual 90, 3) := by decide +kernel
theorem dX7_whole_29 : decode cX7_whole 29 = .ok (.aload_n 0, 1) := by decide +kernel
theorem dX7_whole_30 : decode cX7_whole 30 = .ok (.dup, 1) := by decide +kernel
theorem dX7_whole_31 : decode cX7_whole 31 = .ok (.getfield 84, 3) := by decide +kernel
theorem dX7_whole_34 : decode cX7_whole 34 = .ok (.iconst 1, 1) := by decide +kernel
theorem dX7_whole_35 : decode cX7_whole 35 = .ok (.isub, 1) := by decide +kernel
theorem dX7_whole_36 : decode cX7_whole 36 = .ok (.putfield 84, 3) := by decide +kernel
theorem dX7_whole_39 : decode cX7_whole 39 = .ok (.aload_n 0, 1) := by decide +kernel
theorem dX7_whole_40 : decode cX7_whole 40 = .ok (.dup, 1) := by decide +kernel
theorem dX7_whole_41 : decode cX7_whole 41 = .ok (.getfield 93, 3) := by decide +kernel
theorem dX7_whole_44 : decode cX7_whole 44 = .ok (.iconst 1, 1) := by decide +kernel
theorem dX7_whole_45 : decode cX7_whole 45 = .ok (.isub, 1) := by decide +kernel
theorem dX7_whole_46 : decode cX7_whole 46 = .ok (.putfield 93, 3) := by decide +kernel
theorem dX7_whole_49 : decode cX7_whole 49 = .ok (.goto (-49), 3) := by decide +kernel
theorem dX7_whole_52 : decode cX7_whole 52 = .ok (.return_, 1) := by decide +kernel
theorem dX7_settle_0 : decode cX7_settle 0 = .ok (.aload_n 0, 1) := by decide +kernel
theorem dX7_settle_1 : decode cX7_settle 1 = .ok (.getfield 84, 3) := by decide +kernel
theorem dX7_settle_4 : decode cX7_settle 4 = .ok (.ifCond .le 68, 3) := by decide +kernel
theorem dX7_settle_7 : decode cX7_settle 7 = .ok (.aload_n 0, 1) := by decide +kernel
theorem dX7_settle_8 : decode cX7_settle 8 = .ok (.getfield 87, 3) := by decide +kernel
theorem dX7_settle_11 : decode cX7_settle 11 = .ok (.aload_n 0, 1) := by decide +kernel
theorem dX7_settle_12 : decode cX7_settle 12 = .ok (.getfield 84, 3) := by decide +kernel
theorem dX7_settle_15 : decode cX7_settle 15 = .ok (.iconst 1, 1) := by decide +kernel
theorem dX7_settle_16 : decode cX7_settle 16 = .ok (.isub, 1) := by decide +kernel
theorem dX7_settle_17 : decode cX7_settle 17 = .ok (.iaload, 1) := by decide +kernel
theorem dX7_settle_18 : decode cX7_settle 18 = .ok (.bipush 38, 2) := by decide +kernel
theorem dX7_settle_20 : decode cX7_settle 20 = .ok (.if_icmp .eq 25, 3) := by decide +kernel
theorem dX7_settle_23 : decode cX7_settle 23 = .ok (.aload_n 0, 1) := by decide +kernel
theorem dX7_settle_24 : decode cX7_settle 24 = .ok (.getfield 87, 3) := by decide +kernel
theorem dX7_settle_27 : decode cX7_settle 27 = .ok (.aload_n 0, 1) := by decide +kernel
theorem dX7_settle_28 : decode cX7_settle 28 = .ok (.getfield 84, 3) := by decide +kernel
theorem dX7_settle_31 : decode cX7_settle 31 = .ok (.iconst 1, 1) := by decide +kernel
theorem dX7_settle_32 : decode cX7_settle 32 = .ok (.isub, 1) := by decide +kernel
theorem dX7_settle_33 : decode cX7_settle 33 = .ok (.iaload, 1) := by decide +kernel
theorem dX7_settle_34 : decode cX7_settle 34 = .ok (.bipush 124, 2) := by decide +kernel
theorem dX7_settle_36 : decode cX7_settle 36 = .ok (.if_icmp .ne 36, 3) := by decide +kernel
theorem dX7_settle_39 : decode cX7_settle 39 = .ok (.iload_n 1, 1) := by decide +kernel
theorem dX7_settle_40 : decode cX7_settle 40 = .ok (.bipush 38, 2) := by decide +kernel
theorem dX7_settle_42 : decode cX7_settle 42 = .ok (.if_icmp .eq 30, 3) := by decide +kernel
theorem dX7_settle_45 : decode cX7_settle 45 = .ok (.aload_n 0, 1) := by decide +kernel
theorem dX7_settle_46 : decode cX7_settle 46 = .ok (.dup, 1) := by decide +kernel
theorem dX7_settle_47 : decode cX7_settle 47 = .ok (.getfield 84, 3) := by decide +kernel
theorem dX7_settle_50 : decode cX7_settle 50 = .ok (.iconst 1, 1) := by decide +kernel
theorem dX7_settle_51 : decode cX7_settle 51 = .ok (.isub, 1) := by decide +kernel
theorem dX7_settle_52 : decode cX7_settle 52 = .ok (.putfield 84, 3) := by decide +kernel
theorem dX7_settle_55 : decode cX7_settle 55 = .ok (.aload_n 0, 1) := by decide +kernel
theorem dX7_settle_56 : decode cX7_settle 56 = .ok (.aload_n 0, 1) := by decide +kernel
theorem dX7_settle_57 : decode cX7_settle 57 = .ok (.getfield 87, 3) := by decide +kernel
theorem dX7_settle_60 : decode cX7_settle 60 = .ok (.aload_n 0, 1) := by decide +kernel
theorem dX7_settle_61 : decode cX7_settle 61 = .ok (.getfield 84, 3) := by decide +kernel
theorem dX7_settle_64 : decode cX7_settle 64 = .ok (.iaload, 1) := by decide +kernel
theorem dX7_settle_65 : decode cX7_settle 65 = .ok (.ineg, 1) := by decide +kernel
theorem dX7_settle_66 : decode cX7_settle 66 = .ok (.invokevirtual 90, 3) := by decide +kernel
theorem dX7_settle_69 : decode cX7_settle 69 = .ok (.goto (-69), 3) := by decide +kernel
theorem dX7_settle_72 : decode cX7_settle 72 = .ok (.return_, 1) := by decide +kernel
theorem dX7_place_0 : decode cX7_place 0 = .ok (.iload_n 1, 1) := by decide +kernel
theorem dX7_place_1 : decode cX7_place 1 = .ok (.lookupswitch 61 #[(97, 57), (107, 59), (110, 51), (112, 53), (119, 55)], 51) := by decide +kernel
theorem dX7_place_52 : decode cX7_place 52 = .ok (.iconst 0, 1) := by decide +kernel
theorem dX7_place_53 : decode cX7_place 53 = .ok (.ireturn, 1) := by decide +kernel
theorem dX7_place_54 : decode cX7_place 54 = .ok (.iconst 1, 1) := by decide +kernel
theorem dX7_place_55 : decode cX7_place 55 = .ok (.ireturn, 1) := by decide +kernel
theorem dX7_place_56 : decode cX7_place 56 = .ok (.iconst 2, 1) := by decide +kernel
theorem dX7_place_57 : decode cX7_place 57 = .ok (.ireturn, 1) := by decide +kernel
theorem dX7_place_58 : decode cX7_place 58 = .ok (.iconst 3, 1) := by decide +kernel
theorem dX7_place_59 : decode cX7_place 59 = .ok (.ireturn, 1) := by decide +kernel
theorem dX7_place_60 : decode cX7_place 60 = .ok (.iconst 4, 1) := by decide +kernel
theorem dX7_place_61 : decode cX7_place 61 = .ok (.ireturn, 1) := by decide +kernel
theorem dX7_place_62 : decode cX7_place 62 = .ok (.iconst (-1), 1) := by decide +kernel
theorem dX7_place_63 : decode cX7_place 63 = .ok (.ireturn, 1) := by decide +kernel
theorem dX7_takesTest_0 : decode cX7_takesTest 0 = .ok (.aload_n 0, 1) := by decide +kernel
theorem dX7_takesTest_1 : decode cX7_takesTest 1 = .ok (.aload_n 0, 1) := by decide +kernel
theorem dX7_takesTest_2 : decode cX7_takesTest 2 = .ok (.invokevirtual 64, 3) := by decide +kernel
theorem dX7_takesTest_5 : decode cX7_takesTest 5 = .ok (.invokevirtual 96, 3) := by decide +kernel
theorem dX7_takesTest_8 : decode cX7_takesTest 8 = .ok (.istore_n 1, 1) := by decide +kernel
theorem dX7_takesTest_9 : decode cX7_takesTest 9 = .ok (.iload_n 1, 1) := by decide +kernel
theorem dX7_takesTest_10 : decode cX7_takesTest 10 = .ok (.ifCond .ge 5, 3) := by decide +kernel
theorem dX7_takesTest_13 : decode cX7_takesTest 13 = .ok (.iconst 0, 1) := by decide +kernel
theorem dX7_takesTest_14 : decode cX7_takesTest 14 = .ok (.ireturn, 1) := by decide +kernel
theorem dX7_takesTest_15 : decode cX7_takesTest 15 = .ok (.aload_n 0, 1) := by decide +kernel
theorem dX7_takesTest_16 : decode cX7_takesTest 16 = .ok (.dup, 1) := by decide +kernel
theorem dX7_takesTest_17 : decode cX7_takesTest 17 = .ok (.getfield 61, 3) := by decide +kernel
theorem dX7_takesTest_20 : decode cX7_takesTest 20 = .ok (.iconst 1, 1) := by decide +kernel
theorem dX7_takesTest_21 : decode cX7_takesTest 21 = .ok (.iadd, 1) := by decide +kernel
theorem dX7_takesTest_22 : decode cX7_takesTest 22 = .ok (.putfield 61, 3) := by decide +kernel
theorem dX7_takesTest_25 : decode cX7_takesTest 25 = .ok (.aload_n 0, 1) := by decide +kernel
theorem dX7_takesTest_26 : decode cX7_takesTest 26 = .ok (.invokevirtual 64, 3) := by decide +kernel
theorem dX7_takesTest_29 : decode cX7_takesTest 29 = .ok (.istore_n 2, 1) := by decide +kernel
theorem dX7_takesTest_30 : decode cX7_takesTest 30 = .ok (.aload_n 0, 1) := by decide +kernel
theorem dX7_takesTest_31 : decode cX7_takesTest 31 = .ok (.iload_n 2, 1) := by decide +kernel
theorem dX7_takesTest_32 : decode cX7_takesTest 32 = .ok (.bipush 60, 2) := by decide +kernel
theorem dX7_takesTest_34 : decode cX7_takesTest 34 = .ok (.bipush 62, 2) := by decide +kernel
theorem dX7_takesTest_36 : decode cX7_takesTest 36 = .ok (.invokevirtual 1, 3) := by decide +kernel
theorem dX7_takesTest_39 : decode cX7_takesTest 39 = .ok (.ifCond .ne 5, 3) := by decide +kernel
theorem dX7_takesTest_42 : decode cX7_takesTest 42 = .ok (.iconst 0, 1) := by decide +kernel
theorem dX7_takesTest_43 : decode cX7_takesTest 43 = .ok (.ireturn, 1) := by decide +kernel
theorem dX7_takesTest_44 : decode cX7_takesTest 44 = .ok (.aload_n 0, 1) := by decide +kernel
theorem dX7_takesTest_45 : decode cX7_takesTest 45 = .ok (.dup, 1) := by decide +kernel
theorem dX7_takesTest_46 : decode cX7_takesTest 46 = .ok (.getfield 61, 3) := by decide +kernel
theorem dX7_takesTest_49 : decode cX7_takesTest 49 = .ok (.iconst 1, 1) := by decide +kernel
theorem dX7_takesTest_50 : decode cX7_takesTest 50 = .ok (.iadd, 1) := by decide +kernel
theorem dX7_takesTest_51 : decode cX7_takesTest 51 = .ok (.putfield 61, 3) := by decide +kernel
theorem dX7_takesTest_54 : decode cX7_takesTest 54 = .ok (.aload_n 0, 1) := by decide +kernel
theorem dX7_takesTest_55 : decode cX7_takesTest 55 = .ok (.iconst 2, 1) := by decide +kernel
theorem dX7_takesTest_56 : decode cX7_takesTest 56 = .ok (.invokevirtual 100, 3) := by decide +kernel
theorem dX7_takesTest_59 : decode cX7_takesTest 59 = .ok (.ifCond .ne 5, 3) := by decide +kernel
theorem dX7_takesTest_62 : decode cX7_takesTest 62 = .ok (.iconst 0, 1) := by decide +kernel
theorem dX7_takesTest_63 : decode cX7_takesTest 63 = .ok (.ireturn, 1) := by decide +kernel
theorem dX7_takesTest_64 : decode cX7_takesTest 64 = .ok (.aload_n 0, 1) := by decide +kernel
theorem dX7_takesTest_65 : decode cX7_takesTest 65 = .ok (.sipush 1000, 3) := by decide +kernel
theorem dX7_takesTest_68 : decode cX7_takesTest 68 = .ok (.iload_n 1, 1) := by decide +kernel
theorem dX7_takesTest_69 : decode cX7_takesTest 69 = .ok (.imul, 1) := by decide +kernel
theorem dX7_takesTest_70 : decode cX7_takesTest 70 = .ok (.bipush 100, 2) := by decide +kernel
theorem dX7_takesTest_72 : decode cX7_takesTest 72 = .ok (.iload_n 2, 1) := by decide +kernel
theorem dX7_takesTest_73 : decode cX7_takesTest 73 = .ok (.bipush 60, 2) := by decide +kernel
theorem dX7_takesTest_75 : decode cX7_takesTest 75 = .ok (.isub, 1) := by decide +kernel
theorem dX7_takesTest_76 : decode cX7_takesTest 76 = .ok (.imul, 1) := by decide +kernel
theorem dX7_takesTest_77 : decode cX7_takesTest 77 = .ok (.iadd, 1) := by decide +kernel
theorem dX7_takesTest_78 : decode cX7_takesTest 78 = .ok (.aload_n 0, 1) := by decide +kernel
theorem dX7_takesTest_79 : decode cX7_takesTest 79 = .ok (.getfield 75, 3) := by decide +kernel
theorem dX7_takesTest_82 : decode cX7_takesTest 82 = .ok (.iadd, 1) := by decide +kernel
theorem dX7_takesTest_83 : decode cX7_takesTest 83 = .ok (.invokevirtual 90, 3) := by decide +kernel
theorem dX7_takesTest_86 : decode cX7_takesTest 86 = .ok (.aload_n 0, 1) := by decide +kernel
theorem dX7_takesTest_87 : decode cX7_takesTest 87 = .ok (.invokevirtual 103, 3) := by decide +kernel
theorem dX7_takesTest_90 : decode cX7_takesTest 90 = .ok (.iconst 1, 1) := by decide +kernel
theorem dX7_takesTest_91 : decode cX7_takesTest 91 = .ok (.ireturn, 1) := by decide +kernel
theorem dX7_takesE_0 : decode cX7_takesE 0 = .ok (.aload_n 0, 1) := by decide +kernel
theorem dX7_takesE_1 : decode cX7_takesE 1 = .ok (.iconst 0, 1) := by decide +kernel
theorem dX7_takesE_2 : decode cX7_takesE 2 = .ok (.putfield 84, 3) := by decide +kernel
theorem dX7_takesE_5 : decode cX7_takesE 5 = .ok (.aload_n 0, 1) := by decide +kernel
theorem dX7_takesE_6 : decode cX7_takesE 6 = .ok (.iconst 0, 1) := by decide +kernel
theorem dX7_takesE_7 : decode cX7_takesE 7 = .ok (.putfield 93, 3) := by decide +kernel
theorem dX7_takesE_10 : decode cX7_takesE 10 = .ok (.aload_n 0, 1) := by decide +kernel
theorem dX7_takesE_11 : decode cX7_takesE 11 = .ok (.getfield 107, 3) := by decide +kernel
theorem dX7_takesE_14 : decode cX7_takesE 14 = .ok (.iload_n 1, 1) := by decide +kernel
theorem dX7_takesE_15 : decode cX7_takesE 15 = .ok (.aload_n 0, 1) := by decide +kernel
theorem dX7_takesE_16 : decode cX7_takesE 16 = .ok (.getfield 81, 3) := by decide +kernel
theorem dX7_takesE_19 : decode cX7_takesE 19 = .ok (.iastore, 1) := by decide +kernel
theorem dX7_takesE_20 : decode cX7_takesE 20 = .ok (.iconst 1, 1) := by decide +kernel
theorem dX7_takesE_21 : decode cX7_takesE 21 = .ok (.istore_n 2, 1) := by decide +kernel
theorem dX7_takesE_22 : decode cX7_takesE 22 = .ok (.aload_n 0, 1) := by decide +kernel
theorem dX7_takesE_23 : decode cX7_takesE 23 = .ok (.invokevirtual 64, 3) := by decide +kernel
theorem dX7_takesE_26 : decode cX7_takesE 26 = .ok (.istore_n 3, 1) := by decide +kernel
theorem dX7_takesE_27 : decode cX7_takesE 27 = .ok (.iload_n 2, 1) := by decide +kernel
theorem dX7_takesE_28 : decode cX7_takesE 28 = .ok (.ifCond .eq 82, 3) := by decide +kernel
theorem dX7_takesE_31 : decode cX7_takesE 31 = .ok (.iload_n 3, 1) := by decide +kernel
theorem dX7_takesE_32 : decode cX7_takesE 32 = .ok (.bipush 33, 2) := by decide +kernel
theorem dX7_takesE_34 : decode cX7_takesE 34 = .ok (.if_icmp .eq 9, 3) := by decide +kernel
theorem dX7_takesE_37 : decode cX7_takesE 37 = .ok (.iload_n 3, 1) := by decide +kernel
theorem dX7_takesE_38 : decode cX7_takesE 38 = .ok (.bipush 40, 2) := by decide +kernel
theorem dX7_takesE_40 : decode cX7_takesE 40 = .ok (.if_icmp .ne 56, 3) := by decide +kernel
theorem dX7_takesE_43 : decode cX7_takesE 43 = .ok (.aload_n 0, 1) := by decide +kernel
theorem dX7_takesE_44 : decode cX7_takesE 44 = .ok (.getfield 93, 3) := by decide +kernel
theorem dX7_takesE_47 : decode cX7_takesE 47 = .ok (.iconst 4, 1) := by decide +kernel
theorem dX7_takesE_48 : decode cX7_takesE 48 = .ok (.if_icmp .ne 5, 3) := by decide +kernel
theorem dX7_takesE_51 : decode cX7_takesE 51 = .ok (.iconst 0, 1) := by decide +kernel
theorem dX7_takesE_52 : decode cX7_takesE 52 = .ok (.ireturn, 1) := by decide +kernel
theorem dX7_takesE_53 : decode cX7_takesE 53 = .ok (.aload_n 0, 1) := by decide +kernel
theorem dX7_takesE_54 : decode cX7_takesE 54 = .ok (.dup, 1) := by decide +kernel
theorem dX7_takesE_55 : decode cX7_takesE 55 = .ok (.getfield 93, 3) := by decide +kernel
theorem dX7_takesE_58 : decode cX7_takesE 58 = .ok (.iconst 1, 1) := by decide +kernel
theorem dX7_takesE_59 : decode cX7_takesE 59 = .ok (.iadd, 1) := by decide +kernel
theorem dX7_takesE_60 : decode cX7_takesE 60 = .ok (.putfield 93, 3) := by decide +kernel
theorem dX7_takesE_63 : decode cX7_takesE 63 = .ok (.aload_n 0, 1) := by decide +kernel
theorem dX7_takesE_64 : decode cX7_takesE 64 = .ok (.getfield 87, 3) := by decide +kernel
theorem dX7_takesE_67 : decode cX7_takesE 67 = .ok (.aload_n 0, 1) := by decide +kernel
theorem dX7_takesE_68 : decode cX7_takesE 68 = .ok (.getfield 84, 3) := by decide +kernel
theorem dX7_takesE_71 : decode cX7_takesE 71 = .ok (.iload_n 3, 1) := by decide +kernel
theorem dX7_takesE_72 : decode cX7_takesE 72 = .ok (.iastore, 1) := by decide +kernel
theorem dX7_takesE_73 : decode cX7_takesE 73 = .ok (.aload_n 0, 1) := by decide +kernel
theorem dX7_takesE_74 : decode cX7_takesE 74 = .ok (.dup, 1) := by decide +kernel
theorem dX7_takesE_75 : decode cX7_takesE 75 = .ok (.getfield 84, 3) := by decide +kernel
theorem dX7_takesE_78 : decode cX7_takesE 78 = .ok (.iconst 1, 1) := by decide +kernel
theorem dX7_takesE_79 : decode cX7_takesE 79 = .ok (.iadd, 1) := by decide +kernel
theorem dX7_takesE_80 : decode cX7_takesE 80 = .ok (.putfield 84, 3) := by decide +kernel
theorem dX7_takesE_83 : decode cX7_takesE 83 = .ok (.aload_n 0, 1) := by decide +kernel
theorem dX7_takesE_84 : decode cX7_takesE 84 = .ok (.dup, 1) := by decide +kernel
theorem dX7_takesE_85 : decode cX7_takesE 85 = .ok (.getfield 61, 3) := by decide +kernel
theorem dX7_takesE_88 : decode cX7_takesE 88 = .ok (.iconst 1, 1) := by decide +kernel
theorem dX7_takesE_89 : decode cX7_takesE 89 = .ok (.iadd, 1) := by decide +kernel
theorem dX7_takesE_90 : decode cX7_takesE 90 = .ok (.putfield 61, 3) := by decide +kernel
theorem dX7_takesE_93 : decode cX7_takesE 93 = .ok (.goto (-71), 3) := by decide +kernel
theorem dX7_takesE_96 : decode cX7_takesE 96 = .ok (.aload_n 0, 1) := by decide +kernel
theorem dX7_takesE_97 : decode cX7_takesE 97 = .ok (.invokevirtual 110, 3) := by decide +kernel
theorem dX7_takesE_100 : decode cX7_takesE 100 = .ok (.ifCond .eq 8, 3) := by decide +kernel
theorem dX7_takesE_103 : decode cX7_takesE 103 = .ok (.iconst 0, 1) := by decide +kernel
theorem dX7_takesE_104 : decode cX7_takesE 104 = .ok (.istore_n 2, 1) := by decide +kernel
theorem dX7_takesE_105 : decode cX7_takesE 105 = .ok (.goto (-83), 3) := by decide +kernel
theorem dX7_takesE_108 : decode cX7_takesE 108 = .ok (.iconst 0, 1) := by decide +kernel
theorem dX7_takesE_109 : decode cX7_takesE 109 = .ok (.ireturn, 1) := by decide +kernel
theorem dX7_takesE_110 : decode cX7_takesE 110 = .ok (.iload_n 3, 1) := by decide +kernel
theorem dX7_takesE_111 : decode cX7_takesE 111 = .ok (.bipush 38, 2) := by decide +kernel
theorem dX7_takesE_113 : decode cX7_takesE 113 = .ok (.if_icmp .eq 9, 3) := by decide +kernel
theorem dX7_takesE_116 : decode cX7_takesE 116 = .ok (.iload_n 3, 1) := by decide +kernel
theorem dX7_takesE_117 : decode cX7_takesE 117 = .ok (.bipush 124, 2) := by decide +kernel
theorem dX7_takesE_119 : decode cX7_takesE 119 = .ok (.if_icmp .ne 43, 3) := by decide +kernel
theorem dX7_takesE_122 : decode cX7_takesE 122 = .ok (.aload_n 0, 1) := by decide +kernel
theorem dX7_takesE_123 : decode cX7_takesE 123 = .ok (.iload_n 3, 1) := by decide +kernel
theorem dX7_takesE_124 : decode cX7_takesE 124 = .ok (.invokevirtual 113, 3) := by decide +kernel
theorem dX7_takesE_127 : decode cX7_takesE 127 = .ok (.aload_n 0, 1) := by decide +kernel
theorem dX7_takesE_128 : decode cX7_takesE 128 = .ok (.getfield 87, 3) := by decide +kernel
theorem dX7_takesE_131 : decode cX7_takesE 131 = .ok (.aload_n 0, 1) := by decide +kernel
theorem dX7_takesE_132 : decode cX7_takesE 132 = .ok (.getfield 84, 3) := by decide +kernel
theorem dX7_takesE_135 : decode cX7_takesE 135 = .ok (.iload_n 3, 1) := by decide +kernel
theorem dX7_takesE_136 : decode cX7_takesE 136 = .ok (.iastore, 1) := by decide +kernel
theorem dX7_takesE_137 : decode cX7_takesE 137 = .ok (.aload_n 0, 1) := by decide +kernel
theorem dX7_takesE_138 : decode cX7_takesE 138 = .ok (.dup, 1) := by decide +kernel
theorem dX7_takesE_139 : decode cX7_takesE 139 = .ok (.getfield 84, 3) := by decide +kernel
theorem dX7_takesE_142 : decode cX7_takesE 142 = .ok (.iconst 1, 1) := by decide +kernel
theorem dX7_takesE_143 : decode cX7_takesE 143 = .ok (.iadd, 1) := by decide +kernel
theorem dX7_takesE_144 : decode cX7_takesE 144 = .ok (.putfield 84, 3) := by decide +kernel
theorem dX7_takesE_147 : decode cX7_takesE 147 = .ok (.iconst 1, 1) := by decide +kernel
theorem dX7_takesE_148 : decode cX7_takesE 148 = .ok (.istore_n 2, 1) := by decide +kernel
theorem dX7_takesE_149 : decode cX7_takesE 149 = .ok (.aload_n 0, 1) := by decide +kernel
theorem dX7_takesE_150 : decode cX7_takesE 150 = .ok (.dup, 1) := by decide +kernel
theorem dX7_takesE_151 : decode cX7_takesE 151 = .ok (.getfield 61, 3) := by decide +kernel
theorem dX7_takesE_154 : decode cX7_takesE 154 = .ok (.iconst 1, 1) := by decide +kernel
theorem dX7_takesE_155 : decode cX7_takesE 155 = .ok (.iadd, 1) := by decide +kernel
theorem dX7_takesE_156 : decode cX7_takesE 156 = .ok (.putfield 61, 3) := by decide +kernel
theorem dX7_takesE_159 : decode cX7_takesE 159 = .ok (.goto (-137), 3) := by decide +kernel
theorem dX7_takesE_162 : decode cX7_takesE 162 = .ok (.aload_n 0, 1) := by decide +kernel
theorem dX7_takesE_163 : decode cX7_takesE 163 = .ok (.bipush 124, 2) := by decide +kernel
theorem dX7_takesE_165 : decode cX7_takesE 165 = .ok (.invokevirtual 113, 3) := by decide +kernel
theorem dX7_takesE_168 : decode cX7_takesE 168 = .ok (.aload_n 0, 1) := by decide +kernel
theorem dX7_takesE_169 : decode cX7_takesE 169 = .ok (.getfield 116, 3) := by decide +kernel
theorem dX7_takesE_172 : decode cX7_takesE 172 = .ok (.iload_n 1, 1) := by decide +kernel
theorem dX7_takesE_173 : decode cX7_takesE 173 = .ok (.aload_n 0, 1) := by decide +kernel
theorem dX7_takesE_174 : decode cX7_takesE 174 = .ok (.getfield 81, 3) := by decide +kernel
theorem dX7_takesE_177 : decode cX7_takesE 177 = .ok (.iastore, 1) := by decide +kernel
theorem dX7_takesE_178 : decode cX7_takesE 178 = .ok (.aload_n 0, 1) := by decide +kernel
theorem dX7_takesE_179 : decode cX7_takesE 179 = .ok (.getfield 84, 3) := by decide +kernel
theorem dX7_takesE_182 : decode cX7_takesE 182 = .ok (.ifCond .ne 5, 3) := by decide +kernel
theorem dX7_takesE_185 : decode cX7_takesE 185 = .ok (.iconst 1, 1) := by decide +kernel
theorem dX7_takesE_186 : decode cX7_takesE 186 = .ok (.ireturn, 1) := by decide +kernel
theorem dX7_takesE_187 : decode cX7_takesE 187 = .ok (.iload_n 3, 1) := by decide +kernel
theorem dX7_takesE_188 : decode cX7_takesE 188 = .ok (.bipush 41, 2) := by decide +kernel
theorem dX7_takesE_190 : decode cX7_takesE 190 = .ok (.if_icmp .eq 5, 3) := by decide +kernel
theorem dX7_takesE_193 : decode cX7_takesE 193 = .ok (.iconst 0, 1) := by decide +kernel
theorem dX7_takesE_194 : decode cX7_takesE 194 = .ok (.ireturn, 1) := by decide +kernel
theorem dX7_takesE_195 : decode cX7_takesE 195 = .ok (.aload_n 0, 1) := by decide +kernel
theorem dX7_takesE_196 : decode cX7_takesE 196 = .ok (.dup, 1) := by decide +kernel
theorem dX7_takesE_197 : decode cX7_takesE 197 = .ok (.getfield 84, 3) := by decide +kernel
theorem dX7_takesE_200 : decode cX7_takesE 200 = .ok (.iconst 1, 1) := by decide +kernel
theorem dX7_takesE_201 : decode cX7_takesE 201 = .ok (.isub, 1) := by decide +kernel
theorem dX7_takesE_202 : decode cX7_takesE 202 = .ok (.putfield 84, 3) := by decide +kernel
theorem dX7_takesE_205 : decode cX7_takesE 205 = .ok (.aload_n 0, 1) := by decide +kernel
theorem dX7_takesE_206 : decode cX7_takesE 206 = .ok (.dup, 1) := by decide +kernel
theorem dX7_takesE_207 : decode cX7_takesE 207 = .ok (.getfield 93, 3) := by decide +kernel
theorem dX7_takesE_210 : decode cX7_takesE 210 = .ok (.iconst 1, 1) := by decide +kernel
theorem dX7_takesE_211 : decode cX7_takesE 211 = .ok (.isub, 1) := by decide +kernel
theorem dX7_takesE_212 : decode cX7_takesE 212 = .ok (.putfield 93, 3) := by decide +kernel
theorem dX7_takesE_215 : decode cX7_takesE 215 = .ok (.aload_n 0, 1) := by decide +kernel
theorem dX7_takesE_216 : decode cX7_takesE 216 = .ok (.dup, 1) := by decide +kernel
theorem dX7_takesE_217 : decode cX7_takesE 217 = .ok (.getfield 61, 3) := by decide +kernel
theorem dX7_takesE_220 : decode cX7_takesE 220 = .ok (.iconst 1, 1) := by decide +kernel
theorem dX7_takesE_221 : decode cX7_takesE 221 = .ok (.iadd, 1) := by decide +kernel
theorem dX7_takesE_222 : decode cX7_takesE 222 = .ok (.putfield 61, 3) := by decide +kernel
theorem dX7_takesE_225 : decode cX7_takesE 225 = .ok (.aload_n 0, 1) := by decide +kernel
theorem dX7_takesE_226 : decode cX7_takesE 226 = .ok (.invokevirtual 103, 3) := by decide +kernel
theorem dX7_takesE_229 : decode cX7_takesE 229 = .ok (.goto (-207), 3) := by decide +kernel
theorem dX7_takesKind_0 : decode cX7_takesKind 0 = .ok (.aload_n 0, 1) := by decide +kernel
theorem dX7_takesKind_1 : decode cX7_takesKind 1 = .ok (.invokevirtual 64, 3) := by decide +kernel
theorem dX7_takesKind_4 : decode cX7_takesKind 4 = .ok (.istore_n 2, 1) := by decide +kernel
theorem dX7_takesKind_5 : decode cX7_takesKind 5 = .ok (.aload_n 0, 1) := by decide +kernel
theorem dX7_takesKind_6 : decode cX7_takesKind 6 = .ok (.getfield 119, 3) := by decide +kernel
theorem dX7_takesKind_9 : decode cX7_takesKind 9 = .ok (.iload_n 1, 1) := by decide +kernel
theorem dX7_takesKind_10 : decode cX7_takesKind 10 = .ok (.iload_n 2, 1) := by decide +kernel
theorem dX7_takesKind_11 : decode cX7_takesKind 11 = .ok (.bipush 100, 2) := by decide +kernel
theorem dX7_takesKind_13 : decode cX7_takesKind 13 = .ok (.if_icmp .ne 7, 3) := by decide +kernel
theorem dX7_takesKind_16 : decode cX7_takesKind 16 = .ok (.iconst 1, 1) := by decide +kernel
theorem dX7_takesKind_17 : decode cX7_takesKind 17 = .ok (.goto 55, 3) := by decide +kernel
theorem dX7_takesKind_20 : decode cX7_takesKind 20 = .ok (.iload_n 2, 1) := by decide +kernel
theorem dX7_takesKind_21 : decode cX7_takesKind 21 = .ok (.bipush 120, 2) := by decide +kernel
theorem dX7_takesKind_23 : decode cX7_takesKind 23 = .ok (.if_icmp .ne 7, 3) := by decide +kernel
theorem dX7_takesKind_26 : decode cX7_takesKind 26 = .ok (.iconst 2, 1) := by decide +kernel
theorem dX7_takesKind_27 : decode cX7_takesKind 27 = .ok (.goto 45, 3) := by decide +kernel
theorem dX7_takesKind_30 : decode cX7_takesKind 30 = .ok (.iload_n 2, 1) := by decide +kernel
theorem dX7_takesKind_31 : decode cX7_takesKind 31 = .ok (.bipush 108, 2) := by decide +kernel
theorem dX7_takesKind_33 : decode cX7_takesKind 33 = .ok (.if_icmp .ne 7, 3) := by decide +kernel
theorem dX7_takesKind_36 : decode cX7_takesKind 36 = .ok (.iconst 3, 1) := by decide +kernel
theorem dX7_takesKind_37 : decode cX7_takesKind 37 = .ok (.goto 35, 3) := by decide +kernel
theorem dX7_takesKind_40 : decode cX7_takesKind 40 = .ok (.iload_n 2, 1) := by decide +kernel
theorem dX7_takesKind_41 : decode cX7_takesKind 41 = .ok (.bipush 102, 2) := by decide +kernel
theorem dX7_takesKind_43 : decode cX7_takesKind 43 = .ok (.if_icmp .ne 7, 3) := by decide +kernel
theorem dX7_takesKind_46 : decode cX7_takesKind 46 = .ok (.iconst 4, 1) := by decide +kernel
theorem dX7_takesKind_47 : decode cX7_takesKind 47 = .ok (.goto 25, 3) := by decide +kernel
theorem dX7_takesKind_50 : decode cX7_takesKind 50 = .ok (.iload_n 2, 1) := by decide +kernel
theorem dX7_takesKind_51 : decode cX7_takesKind 51 = .ok (.bipush 110, 2) := by decide +kernel
theorem dX7_takesKind_53 : decode cX7_takesKind 53 = .ok (.if_icmp .ne 7, 3) := by decide +kernel
theorem dX7_takesKind_56 : decode cX7_takesKind 56 = .ok (.iconst 5, 1) := by decide +kernel
theorem dX7_takesKind_57 : decode cX7_takesKind 57 = .ok (.goto 15, 3) := by decide +kernel
theorem dX7_takesKind_60 : decode cX7_takesKind 60 = .ok (.iload_n 2, 1) := by decide +kernel
theorem dX7_takesKind_61 : decode cX7_takesKind 61 = .ok (.bipush 116, 2) := by decide +kernel
theorem dX7_takesKind_63 : decode cX7_takesKind 63 = .ok (.if_icmp .ne 8, 3) := by decide +kernel
theorem dX7_takesKind_66 : decode cX7_takesKind 66 = .ok (.bipush 6, 2) := by decide +kernel
theorem dX7_takesKind_68 : decode cX7_takesKind 68 = .ok (.goto 4, 3) := by decide +kernel
theorem dX7_takesKind_71 : decode cX7_takesKind 71 = .ok (.iconst 0, 1) := by decide +kernel
theorem dX7_takesKind_72 : decode cX7_takesKind 72 = .ok (.iastore, 1) := by decide +kernel
theorem dX7_takesKind_73 : decode cX7_takesKind 73 = .ok (.aload_n 0, 1) := by decide +kernel
theorem dX7_takesKind_74 : decode cX7_takesKind 74 = .ok (.getfield 119, 3) := by decide +kernel
theorem dX7_takesKind_77 : decode cX7_takesKind 77 = .ok (.iload_n 1, 1) := by decide +kernel
theorem dX7_takesKind_78 : decode cX7_takesKind 78 = .ok (.iaload, 1) := by decide +kernel
theorem dX7_takesKind_79 : decode cX7_takesKind 79 = .ok (.ifCond .ne 5, 3) := by decide +kernel
theorem dX7_takesKind_82 : decode cX7_takesKind 82 = .ok (.iconst 0, 1) := by decide +kernel
theorem dX7_takesKind_83 : decode cX7_takesKind 83 = .ok (.ireturn, 1) := by decide +kernel
theorem dX7_takesKind_84 : decode cX7_takesKind 84 = .ok (.aload_n 0, 1) := by decide +kernel
theorem dX7_takesKind_85 : decode cX7_takesKind 85 = .ok (.dup, 1) := by decide +kernel
theorem dX7_takesKind_86 : decode cX7_takesKind 86 = .ok (.getfield 61, 3) := by decide +kernel
theorem dX7_takesKind_89 : decode cX7_takesKind 89 = .ok (.iconst 1, 1) := by decide +kernel
theorem dX7_takesKind_90 : decode cX7_takesKind 90 = .ok (.iadd, 1) := by decide +kernel
theorem dX7_takesKind_91 : decode cX7_takesKind 91 = .ok (.putfield 61, 3) := by decide +kernel
theorem dX7_takesKind_94 : decode cX7_takesKind 94 = .ok (.aload_n 0, 1) := by decide +kernel
theorem dX7_takesKind_95 : decode cX7_takesKind 95 = .ok (.bipush 32, 2) := by decide +kernel
theorem dX7_takesKind_97 : decode cX7_takesKind 97 = .ok (.invokevirtual 68, 3) := by decide +kernel
theorem dX7_takesKind_100 : decode cX7_takesKind 100 = .ok (.ifCond .eq 15, 3) := by decide +kernel
theorem dX7_takesKind_103 : decode cX7_takesKind 103 = .ok (.aload_n 0, 1) := by decide +kernel
theorem dX7_takesKind_104 : decode cX7_takesKind 104 = .ok (.iload_n 1, 1) := by decide +kernel
theorem dX7_takesKind_105 : decode cX7_takesKind 105 = .ok (.invokevirtual 122, 3) := by decide +kernel
theorem dX7_takesKind_108 : decode cX7_takesKind 108 = .ok (.ifCond .eq 7, 3) := by decide +kernel
theorem dX7_takesKind_111 : decode cX7_takesKind 111 = .ok (.iconst 1, 1) := by decide +kernel
theorem dX7_takesKind_112 : decode cX7_takesKind 112 = .ok (.goto 4, 3) := by decide +kernel
theorem dX7_takesKind_115 : decode cX7_takesKind 115 = .ok (.iconst 0, 1) := by decide +kernel
theorem dX7_takesKind_116 : decode cX7_takesKind 116 = .ok (.ireturn, 1) := by decide +kernel
theorem dX7_takesClause_0 : decode cX7_takesClause 0 = .ok (.aload_n 0, 1) := by decide +kernel
theorem dX7_takesClause_1 : decode cX7_takesClause 1 = .ok (.invokevirtual 64, 3) := by decide +kernel
theorem dX7_takesClause_4 : decode cX7_takesClause 4 = .ok (.lookupswitch 126 #[(98, 36), (108, 99), (115, 68)], 36) := by decide +kernel
theorem dX7_takesClause_40 : decode cX7_takesClause 40 = .ok (.aload_n 0, 1) := by decide +kernel
theorem dX7_takesClause_41 : decode cX7_takesClause 41 = .ok (.getfield 125, 3) := by decide +kernel
theorem dX7_takesClause_44 : decode cX7_takesClause 44 = .ok (.iload_n 1, 1) := by decide +kernel
theorem dX7_takesClause_45 : decode cX7_takesClause 45 = .ok (.iconst 0, 1) := by decide +kernel
theorem dX7_takesClause_46 : decode cX7_takesClause 46 = .ok (.iastore, 1) := by decide +kernel
theorem dX7_takesClause_47 : decode cX7_takesClause 47 = .ok (.aload_n 0, 1) := by decide +kernel
theorem dX7_takesClause_48 : decode cX7_takesClause 48 = .ok (.sipush 2098, 3) := by decide +kernel
theorem dX7_takesClause_51 : decode cX7_takesClause 51 = .ok (.iconst 3, 1) := by decide +kernel
theorem dX7_takesClause_52 : decode cX7_takesClause 52 = .ok (.invokevirtual 128, 3) := by decide +kernel
theorem dX7_takesClause_55 : decode cX7_takesClause 55 = .ok (.ifCond .eq 15, 3) := by decide +kernel
theorem dX7_takesClause_58 : decode cX7_takesClause 58 = .ok (.aload_n 0, 1) := by decide +kernel
theorem dX7_takesClause_59 : decode cX7_takesClause 59 = .ok (.iload_n 1, 1) := by decide +kernel
theorem dX7_takesClause_60 : decode cX7_takesClause 60 = .ok (.invokevirtual 131, 3) := by decide +kernel
theorem dX7_takesClause_63 : decode cX7_takesClause 63 = .ok (.ifCond .eq 7, 3) := by decide +kernel
theorem dX7_takesClause_66 : decode cX7_takesClause 66 = .ok (.iconst 1, 1) := by decide +kernel
theorem dX7_takesClause_67 : decode cX7_takesClause 67 = .ok (.goto 4, 3) := by decide +kernel
theorem dX7_takesClause_70 : decode cX7_takesClause 70 = .ok (.iconst 0, 1) := by decide +kernel
theorem dX7_takesClause_71 : decode cX7_takesClause 71 = .ok (.ireturn, 1) := by decide +kernel
theorem dX7_takesClause_72 : decode cX7_takesClause 72 = .ok (.aload_n 0, 1) := by decide +kernel
theorem dX7_takesClause_73 : decode cX7_takesClause 73 = .ok (.getfield 125, 3) := by decide +kernel
theorem dX7_takesClause_76 : decode cX7_takesClause 76 = .ok (.iload_n 1, 1) := by decide +kernel
theorem dX7_takesClause_77 : decode cX7_takesClause 77 = .ok (.iconst 1, 1) := by decide +kernel
theorem dX7_takesClause_78 : decode cX7_takesClause 78 = .ok (.iastore, 1) := by decide +kernel
theorem dX7_takesClause_79 : decode cX7_takesClause 79 = .ok (.aload_n 0, 1) := by decide +kernel
theorem dX7_takesClause_80 : decode cX7_takesClause 80 = .ok (.ldc 134, 2) := by decide +kernel
theorem dX7_takesClause_82 : decode cX7_takesClause 82 = .ok (.iconst 4, 1) := by decide +kernel
theorem dX7_takesClause_83 : decode cX7_takesClause 83 = .ok (.invokevirtual 128, 3) := by decide +kernel
theorem dX7_takesClause_86 : decode cX7_takesClause 86 = .ok (.ifCond .eq 15, 3) := by decide +kernel
theorem dX7_takesClause_89 : decode cX7_takesClause 89 = .ok (.aload_n 0, 1) := by decide +kernel
theorem dX7_takesClause_90 : decode cX7_takesClause 90 = .ok (.iload_n 1, 1) := by decide +kernel
theorem dX7_takesClause_91 : decode cX7_takesClause 91 = .ok (.invokevirtual 131, 3) := by decide +kernel
theorem dX7_takesClause_94 : decode cX7_takesClause 94 = .ok (.ifCond .eq 7, 3) := by decide +kernel
theorem dX7_takesClause_97 : decode cX7_takesClause 97 = .ok (.iconst 1, 1) := by decide +kernel
theorem dX7_takesClause_98 : decode cX7_takesClause 98 = .ok (.goto 4, 3) := by decide +kernel
theorem dX7_takesClause_101 : decode cX7_takesClause 101 = .ok (.iconst 0, 1) := by decide +kernel
theorem dX7_takesClause_102 : decode cX7_takesClause 102 = .ok (.ireturn, 1) := by decide +kernel
theorem dX7_takesClause_103 : decode cX7_takesClause 103 = .ok (.aload_n 0, 1) := by decide +kernel
theorem dX7_takesClause_104 : decode cX7_takesClause 104 = .ok (.getfield 125, 3) := by decide +kernel
theorem dX7_takesClause_107 : decode cX7_takesClause 107 = .ok (.iload_n 1, 1) := by decide +kernel
theorem dX7_takesClause_108 : decode cX7_takesClause 108 = .ok (.iconst 2, 1) := by decide +kernel
theorem dX7_takesClause_109 : decode cX7_takesClause 109 = .ok (.iastore, 1) := by decide +kernel
theorem dX7_takesClause_110 : decode cX7_takesClause 110 = .ok (.aload_n 0, 1) := by decide +kernel
theorem dX7_takesClause_111 : decode cX7_takesClause 111 = .ok (.ldc 135, 2) := by decide +kernel
theorem dX7_takesClause_113 : decode cX7_takesClause 113 = .ok (.iconst 4, 1) := by decide +kernel
theorem dX7_takesClause_114 : decode cX7_takesClause 114 = .ok (.invokevirtual 128, 3) := by decide +kernel
theorem dX7_takesClause_117 : decode cX7_takesClause 117 = .ok (.ifCond .eq 11, 3) := by decide +kernel
theorem dX7_takesClause_120 : decode cX7_takesClause 120 = .ok (.aload_n 0, 1) := by decide +kernel
theorem dX7_takesClause_121 : decode cX7_takesClause 121 = .ok (.iconst 1, 1) := by decide +kernel
theorem dX7_takesClause_122 : decode cX7_takesClause 122 = .ok (.invokevirtual 100, 3) := by decide +kernel
theorem dX7_takesClause_125 : decode cX7_takesClause 125 = .ok (.ifCond .ne 32, 3) := by decide +kernel
theorem dX7_takesClause_128 : decode cX7_takesClause 128 = .ok (.iconst 0, 1) := by decide +kernel
theorem dX7_takesClause_129 : decode cX7_takesClause 129 = .ok (.ireturn, 1) := by decide +kernel
theorem dX7_takesClause_130 : decode cX7_takesClause 130 = .ok (.aload_n 0, 1) := by decide +kernel
theorem dX7_takesClause_131 : decode cX7_takesClause 131 = .ok (.getfield 125, 3) := by decide +kernel
theorem dX7_takesClause_134 : decode cX7_takesClause 134 = .ok (.iload_n 1, 1) := by decide +kernel
theorem dX7_takesClause_135 : decode cX7_takesClause 135 = .ok (.iconst 3, 1) := by decide +kernel
theorem dX7_takesClause_136 : decode cX7_takesClause 136 = .ok (.iastore, 1) := by decide +kernel
theorem dX7_takesClause_137 : decode cX7_takesClause 137 = .ok (.aload_n 0, 1) := by decide +kernel
theorem dX7_takesClause_138 : decode cX7_takesClause 138 = .ok (.ldc 136, 2) := by decide +kernel
theorem dX7_takesClause_140 : decode cX7_takesClause 140 = .ok (.iconst 4, 1) := by decide +kernel
theorem dX7_takesClause_141 : decode cX7_takesClause 141 = .ok (.invokevirtual 128, 3) := by decide +kernel
theorem dX7_takesClause_144 : decode cX7_takesClause 144 = .ok (.ifCond .eq 11, 3) := by decide +kernel
theorem dX7_takesClause_147 : decode cX7_takesClause 147 = .ok (.aload_n 0, 1) := by decide +kernel
theorem dX7_takesClause_148 : decode cX7_takesClause 148 = .ok (.iconst 1, 1) := by decide +kernel
theorem dX7_takesClause_149 : decode cX7_takesClause 149 = .ok (.invokevirtual 100, 3) := by decide +kernel
theorem dX7_takesClause_152 : decode cX7_takesClause 152 = .ok (.ifCond .ne 5, 3) := by decide +kernel
theorem dX7_takesClause_155 : decode cX7_takesClause 155 = .ok (.iconst 0, 1) := by decide +kernel
theorem dX7_takesClause_156 : decode cX7_takesClause 156 = .ok (.ireturn, 1) := by decide +kernel
theorem dX7_takesClause_157 : decode cX7_takesClause 157 = .ok (.aload_n 0, 1) := by decide +kernel
theorem dX7_takesClause_158 : decode cX7_takesClause 158 = .ok (.getfield 137, 3) := by decide +kernel
theorem dX7_takesClause_161 : decode cX7_takesClause 161 = .ok (.iload_n 1, 1) := by decide +kernel
theorem dX7_takesClause_162 : decode cX7_takesClause 162 = .ok (.aload_n 0, 1) := by decide +kernel
theorem dX7_takesClause_163 : decode cX7_takesClause 163 = .ok (.getfield 75, 3) := by decide +kernel
theorem dX7_takesClause_166 : decode cX7_takesClause 166 = .ok (.iastore, 1) := by decide +kernel
theorem dX7_takesClause_167 : decode cX7_takesClause 167 = .ok (.iconst 1, 1) := by decide +kernel
theorem dX7_takesClause_168 : decode cX7_takesClause 168 = .ok (.ireturn, 1) := by decide +kernel
theorem dX7_goes_0 : decode cX7_goes 0 = .ok (.aload_n 0, 1) := by decide +kernel
theorem dX7_goes_1 : decode cX7_goes 1 = .ok (.iconst 0, 1) := by decide +kernel
theorem dX7_goes_2 : decode cX7_goes 2 = .ok (.putfield 61, 3) := by decide +kernel
theorem dX7_goes_5 : decode cX7_goes 5 = .ok (.aload_n 0, 1) := by decide +kernel
theorem dX7_goes_6 : decode cX7_goes 6 = .ok (.bipush 100, 2) := by decide +kernel
theorem dX7_goes_8 : decode cX7_goes 8 = .ok (.iload_n 1, 1) := by decide +kernel
theorem dX7_goes_9 : decode cX7_goes 9 = .ok (.imul, 1) := by decide +kernel
theorem dX7_goes_10 : decode cX7_goes 10 = .ok (.putfield 81, 3) := by decide +kernel
theorem dX7_goes_13 : decode cX7_goes 13 = .ok (.iconst 0, 1) := by decide +kernel
theorem dX7_goes_14 : decode cX7_goes 14 = .ok (.istore_n 2, 1) := by decide +kernel
theorem dX7_goes_15 : decode cX7_goes 15 = .ok (.aload_n 0, 1) := by decide +kernel
theorem dX7_goes_16 : decode cX7_goes 16 = .ok (.bipush 6, 2) := by decide +kernel
theorem dX7_goes_18 : decode cX7_goes 18 = .ok (.iload_n 1, 1) := by decide +kernel
theorem dX7_goes_19 : decode cX7_goes 19 = .ok (.imul, 1) := by decide +kernel
theorem dX7_goes_20 : decode cX7_goes 20 = .ok (.iload_n 2, 1) := by decide +kernel
theorem dX7_goes_21 : decode cX7_goes 21 = .ok (.iadd, 1) := by decide +kernel
theorem dX7_goes_22 : decode cX7_goes 22 = .ok (.invokevirtual 140, 3) := by decide +kernel
theorem dX7_goes_25 : decode cX7_goes 25 = .ok (.ifCond .ne 5, 3) := by decide +kernel
theorem dX7_goes_28 : decode cX7_goes 28 = .ok (.iconst 0, 1) := by decide +kernel
theorem dX7_goes_29 : decode cX7_goes 29 = .ok (.ireturn, 1) := by decide +kernel
theorem dX7_goes_30 : decode cX7_goes 30 = .ok (.iinc 2 1, 3) := by decide +kernel
theorem dX7_goes_33 : decode cX7_goes 33 = .ok (.aload_n 0, 1) := by decide +kernel
theorem dX7_goes_34 : decode cX7_goes 34 = .ok (.getfield 143, 3) := by decide +kernel
theorem dX7_goes_37 : decode cX7_goes 37 = .ok (.iload_n 1, 1) := by decide +kernel
theorem dX7_goes_38 : decode cX7_goes 38 = .ok (.iload_n 2, 1) := by decide +kernel
theorem dX7_goes_39 : decode cX7_goes 39 = .ok (.iastore, 1) := by decide +kernel
theorem dX7_goes_40 : decode cX7_goes 40 = .ok (.aload_n 0, 1) := by decide +kernel
theorem dX7_goes_41 : decode cX7_goes 41 = .ok (.getfield 61, 3) := by decide +kernel
theorem dX7_goes_44 : decode cX7_goes 44 = .ok (.aload_n 0, 1) := by decide +kernel
theorem dX7_goes_45 : decode cX7_goes 45 = .ok (.getfield 55, 3) := by decide +kernel
theorem dX7_goes_48 : decode cX7_goes 48 = .ok (.if_icmp .ne 5, 3) := by decide +kernel
theorem dX7_goes_51 : decode cX7_goes 51 = .ok (.iconst 1, 1) := by decide +kernel
theorem dX7_goes_52 : decode cX7_goes 52 = .ok (.ireturn, 1) := by decide +kernel
theorem dX7_goes_53 : decode cX7_goes 53 = .ok (.iload_n 2, 1) := by decide +kernel
theorem dX7_goes_54 : decode cX7_goes 54 = .ok (.bipush 6, 2) := by decide +kernel
theorem dX7_goes_56 : decode cX7_goes 56 = .ok (.if_icmp .eq 12, 3) := by decide +kernel
theorem dX7_goes_59 : decode cX7_goes 59 = .ok (.aload_n 0, 1) := by decide +kernel
theorem dX7_goes_60 : decode cX7_goes 60 = .ok (.bipush 59, 2) := by decide +kernel
theorem dX7_goes_62 : decode cX7_goes 62 = .ok (.invokevirtual 68, 3) := by decide +kernel
theorem dX7_goes_65 : decode cX7_goes 65 = .ok (.ifCond .ne (-50), 3) := by decide +kernel
theorem dX7_goes_68 : decode cX7_goes 68 = .ok (.iconst 0, 1) := by decide +kernel
theorem dX7_goes_69 : decode cX7_goes 69 = .ok (.ireturn, 1) := by decide +kernel
theorem dX7_rules_0 : decode cX7_rules 0 = .ok (.aload_n 0, 1) := by decide +kernel
theorem dX7_rules_1 : decode cX7_rules 1 = .ok (.getfield 52, 3) := by decide +kernel
theorem dX7_rules_4 : decode cX7_rules 4 = .ok (.iconst 5, 1) := by decide +kernel
theorem dX7_rules_5 : decode cX7_rules 5 = .ok (.if_icmp .ne 6, 3) := by decide +kernel
theorem dX7_rules_8 : decode cX7_rules 8 = .ok (.bipush (-4), 2) := by decide +kernel
theorem dX7_rules_10 : decode cX7_rules 10 = .ok (.ireturn, 1) := by decide +kernel
theorem dX7_rules_11 : decode cX7_rules 11 = .ok (.aload_n 0, 1) := by decide +kernel
theorem dX7_rules_12 : decode cX7_rules 12 = .ok (.aload_n 0, 1) := by decide +kernel
theorem dX7_rules_13 : decode cX7_rules 13 = .ok (.getfield 52, 3) := by decide +kernel
theorem dX7_rules_16 : decode cX7_rules 16 = .ok (.invokevirtual 146, 3) := by decide +kernel
theorem dX7_rules_19 : decode cX7_rules 19 = .ok (.istore_n 1, 1) := by decide +kernel
theorem dX7_rules_20 : decode cX7_rules 20 = .ok (.aload_n 0, 1) := by decide +kernel
theorem dX7_rules_21 : decode cX7_rules 21 = .ok (.iconst 0, 1) := by decide +kernel
theorem dX7_rules_22 : decode cX7_rules 22 = .ok (.putfield 55, 3) := by decide +kernel
theorem dX7_rules_25 : decode cX7_rules 25 = .ok (.iload_n 1, 1) := by decide +kernel
theorem dX7_rules_26 : decode cX7_rules 26 = .ok (.ifCond .ne 11, 3) := by decide +kernel
theorem dX7_rules_29 : decode cX7_rules 29 = .ok (.bipush (-10), 2) := by decide +kernel
theorem dX7_rules_31 : decode cX7_rules 31 = .ok (.aload_n 0, 1) := by decide +kernel
theorem dX7_rules_32 : decode cX7_rules 32 = .ok (.getfield 61, 3) := by decide +kernel
theorem dX7_rules_35 : decode cX7_rules 35 = .ok (.isub, 1) := by decide +kernel
theorem dX7_rules_36 : decode cX7_rules 36 = .ok (.ireturn, 1) := by decide +kernel
theorem dX7_rules_37 : decode cX7_rules 37 = .ok (.aload_n 0, 1) := by decide +kernel
theorem dX7_rules_38 : decode cX7_rules 38 = .ok (.dup, 1) := by decide +kernel
theorem dX7_rules_39 : decode cX7_rules 39 = .ok (.getfield 52, 3) := by decide +kernel
theorem dX7_rules_42 : decode cX7_rules 42 = .ok (.iconst 1, 1) := by decide +kernel
theorem dX7_rules_43 : decode cX7_rules 43 = .ok (.iadd, 1) := by decide +kernel
theorem dX7_rules_44 : decode cX7_rules 44 = .ok (.putfield 52, 3) := by decide +kernel
theorem dX7_rules_47 : decode cX7_rules 47 = .ok (.aload_n 0, 1) := by decide +kernel
theorem dX7_rules_48 : decode cX7_rules 48 = .ok (.getfield 52, 3) := by decide +kernel
theorem dX7_rules_51 : decode cX7_rules 51 = .ok (.iconst 1, 1) := by decide +kernel
theorem dX7_rules_52 : decode cX7_rules 52 = .ok (.isub, 1) := by decide +kernel
theorem dX7_rules_53 : decode cX7_rules 53 = .ok (.ireturn, 1) := by decide +kernel
theorem dX7_empty_0 : decode cX7_empty 0 = .ok (.aload_n 0, 1) := by decide +kernel
theorem dX7_empty_1 : decode cX7_empty 1 = .ok (.iconst 0, 1) := by decide +kernel
theorem dX7_empty_2 : decode cX7_empty 2 = .ok (.putfield 160, 3) := by decide +kernel
theorem dX7_empty_5 : decode cX7_empty 5 = .ok (.aload_n 0, 1) := by decide +kernel
theorem dX7_empty_6 : decode cX7_empty 6 = .ok (.getfield 166, 3) := by decide +kernel
theorem dX7_empty_9 : decode cX7_empty 9 = .ok (.iconst 0, 1) := by decide +kernel
theorem dX7_empty_10 : decode cX7_empty 10 = .ok (.iconst 1, 1) := by decide +kernel
theorem dX7_empty_11 : decode cX7_empty 11 = .ok (.iastore, 1) := by decide +kernel
theorem dX7_empty_12 : decode cX7_empty 12 = .ok (.aload_n 0, 1) := by decide +kernel
theorem dX7_empty_13 : decode cX7_empty 13 = .ok (.getfield 169, 3) := by decide +kernel
theorem dX7_empty_16 : decode cX7_empty 16 = .ok (.iconst 0, 1) := by decide +kernel
theorem dX7_empty_17 : decode cX7_empty 17 = .ok (.iconst 0, 1) := by decide +kernel
theorem dX7_empty_18 : decode cX7_empty 18 = .ok (.iastore, 1) := by decide +kernel
theorem dX7_empty_19 : decode cX7_empty 19 = .ok (.aload_n 0, 1) := by decide +kernel
theorem dX7_empty_20 : decode cX7_empty 20 = .ok (.getfield 172, 3) := by decide +kernel
theorem dX7_empty_23 : decode cX7_empty 23 = .ok (.iconst 0, 1) := by decide +kernel
theorem dX7_empty_24 : decode cX7_empty 24 = .ok (.iconst 1, 1) := by decide +kernel
theorem dX7_empty_25 : decode cX7_empty 25 = .ok (.iastore, 1) := by decide +kernel
theorem dX7_empty_26 : decode cX7_empty 26 = .ok (.aload_n 0, 1) := by decide +kernel
theorem dX7_empty_27 : decode cX7_empty 27 = .ok (.getfield 175, 3) := by decide +kernel
theorem dX7_empty_30 : decode cX7_empty 30 = .ok (.iconst 0, 1) := by decide +kernel
theorem dX7_empty_31 : decode cX7_empty 31 = .ok (.iconst 0, 1) := by decide +kernel
theorem dX7_empty_32 : decode cX7_empty 32 = .ok (.iastore, 1) := by decide +kernel
theorem dX7_empty_33 : decode cX7_empty 33 = .ok (.aload_n 0, 1) := by decide +kernel
theorem dX7_empty_34 : decode cX7_empty 34 = .ok (.getfield 178, 3) := by decide +kernel
theorem dX7_empty_37 : decode cX7_empty 37 = .ok (.iconst 0, 1) := by decide +kernel
theorem dX7_empty_38 : decode cX7_empty 38 = .ok (.iconst 0, 1) := by decide +kernel
theorem dX7_empty_39 : decode cX7_empty 39 = .ok (.iastore, 1) := by decide +kernel
theorem dX7_empty_40 : decode cX7_empty 40 = .ok (.aload_n 0, 1) := by decide +kernel
theorem dX7_empty_41 : decode cX7_empty 41 = .ok (.getfield 181, 3) := by decide +kernel
theorem dX7_empty_44 : decode cX7_empty 44 = .ok (.iconst 0, 1) := by decide +kernel
theorem dX7_empty_45 : decode cX7_empty 45 = .ok (.iconst 0, 1) := by decide +kernel
theorem dX7_empty_46 : decode cX7_empty 46 = .ok (.iastore, 1) := by decide +kernel
theorem dX7_empty_47 : decode cX7_empty 47 = .ok (.aload_n 0, 1) := by decide +kernel
theorem dX7_empty_48 : decode cX7_empty 48 = .ok (.getfield 184, 3) := by decide +kernel
theorem dX7_empty_51 : decode cX7_empty 51 = .ok (.iconst 0, 1) := by decide +kernel
theorem dX7_empty_52 : decode cX7_empty 52 = .ok (.iconst 0, 1) := by decide +kernel
theorem dX7_empty_53 : decode cX7_empty 53 = .ok (.iastore, 1) := by decide +kernel
theorem dX7_empty_54 : decode cX7_empty 54 = .ok (.aload_n 0, 1) := by decide +kernel
theorem dX7_empty_55 : decode cX7_empty 55 = .ok (.getfield 187, 3) := by decide +kernel
theorem dX7_empty_58 : decode cX7_empty 58 = .ok (.iconst 0, 1) := by decide +kernel
theorem dX7_empty_59 : decode cX7_empty 59 = .ok (.iconst 0, 1) := by decide +kernel
theorem dX7_empty_60 : decode cX7_empty 60 = .ok (.iastore, 1) := by decide +kernel
theorem dX7_empty_61 : decode cX7_empty 61 = .ok (.aload_n 0, 1) := by decide +kernel
theorem dX7_empty_62 : decode cX7_empty 62 = .ok (.getfield 190, 3) := by decide +kernel
theorem dX7_empty_65 : decode cX7_empty 65 = .ok (.iconst 0, 1) := by decide +kernel
theorem dX7_empty_66 : decode cX7_empty 66 = .ok (.iconst 0, 1) := by decide +kernel
theorem dX7_empty_67 : decode cX7_empty 67 = .ok (.bastore, 1) := by decide +kernel
theorem dX7_empty_68 : decode cX7_empty 68 = .ok (.return_, 1) := by decide +kernel
theorem dX7_factOf_0 : decode cX7_factOf 0 = .ok (.iload_n 1, 1) := by decide +kernel
theorem dX7_factOf_1 : decode cX7_factOf 1 = .ok (.tableswitch 70 0 3 #[31, 36, 46, 56], 31) := by decide +kernel
theorem dX7_factOf_32 : decode cX7_factOf 32 = .ok (.aload_n 0, 1) := by decide +kernel
theorem dX7_factOf_33 : decode cX7_factOf 33 = .ok (.getfield 160, 3) := by decide +kernel
theorem dX7_factOf_36 : decode cX7_factOf 36 = .ok (.ireturn, 1) := by decide +kernel
theorem dX7_factOf_37 : decode cX7_factOf 37 = .ok (.aload_n 0, 1) := by decide +kernel
theorem dX7_factOf_38 : decode cX7_factOf 38 = .ok (.getfield 169, 3) := by decide +kernel
theorem dX7_factOf_41 : decode cX7_factOf 41 = .ok (.aload_n 0, 1) := by decide +kernel
theorem dX7_factOf_42 : decode cX7_factOf 42 = .ok (.getfield 160, 3) := by decide +kernel
theorem dX7_factOf_45 : decode cX7_factOf 45 = .ok (.iaload, 1) := by decide +kernel
theorem dX7_factOf_46 : decode cX7_factOf 46 = .ok (.ireturn, 1) := by decide +kernel
theorem dX7_factOf_47 : decode cX7_factOf 47 = .ok (.aload_n 0, 1) := by decide +kernel
theorem dX7_factOf_48 : decode cX7_factOf 48 = .ok (.getfield 172, 3) := by decide +kernel
theorem dX7_factOf_51 : decode cX7_factOf 51 = .ok (.aload_n 0, 1) := by decide +kernel
theorem dX7_factOf_52 : decode cX7_factOf 52 = .ok (.getfield 160, 3) := by decide +kernel
theorem dX7_factOf_55 : decode cX7_factOf 55 = .ok (.iaload, 1) := by decide +kernel
theorem dX7_factOf_56 : decode cX7_factOf 56 = .ok (.ireturn, 1) := by decide +kernel
theorem dX7_factOf_57 : decode cX7_factOf 57 = .ok (.aload_n 0, 1) := by decide +kernel
theorem dX7_factOf_58 : decode cX7_factOf 58 = .ok (.aload_n 0, 1) := by decide +kernel
theorem dX7_factOf_59 : decode cX7_factOf 59 = .ok (.getfield 175, 3) := by decide +kernel
theorem dX7_factOf_62 : decode cX7_factOf 62 = .ok (.aload_n 0, 1) := by decide +kernel
theorem dX7_factOf_63 : decode cX7_factOf 63 = .ok (.getfield 160, 3) := by decide +kernel
theorem dX7_factOf_66 : decode cX7_factOf 66 = .ok (.iaload, 1) := by decide +kernel
theorem dX7_factOf_67 : decode cX7_factOf 67 = .ok (.invokevirtual 239, 3) := by decide +kernel
theorem dX7_factOf_70 : decode cX7_factOf 70 = .ok (.ireturn, 1) := by decide +kernel
theorem dX7_factOf_71 : decode cX7_factOf 71 = .ok (.aload_n 0, 1) := by decide +kernel
theorem dX7_factOf_72 : decode cX7_factOf 72 = .ok (.getfield 178, 3) := by decide +kernel
theorem dX7_factOf_75 : decode cX7_factOf 75 = .ok (.aload_n 0, 1) := by decide +kernel
theorem dX7_factOf_76 : decode cX7_factOf 76 = .ok (.getfield 160, 3) := by decide +kernel
theorem dX7_factOf_79 : decode cX7_factOf 79 = .ok (.iaload, 1) := by decide +kernel
theorem dX7_factOf_80 : decode cX7_factOf 80 = .ok (.ireturn, 1) := by decide +kernel
theorem dX7_holds_0 : decode cX7_holds 0 = .ok (.iconst 0, 1) := by decide +kernel
theorem dX7_holds_1 : decode cX7_holds 1 = .ok (.istore_n 2, 1) := by decide +kernel
theorem dX7_holds_2 : decode cX7_holds 2 = .ok (.aload_n 0, 1) := by decide +kernel
theorem dX7_holds_3 : decode cX7_holds 3 = .ok (.getfield 107, 3) := by decide +kernel
theorem dX7_holds_6 : decode cX7_holds 6 = .ok (.iload_n 1, 1) := by decide +kernel
theorem dX7_holds_7 : decode cX7_holds 7 = .ok (.iaload, 1) := by decide +kernel
theorem dX7_holds_8 : decode cX7_holds 8 = .ok (.istore_n 3, 1) := by decide +kernel
theorem dX7_holds_9 : decode cX7_holds 9 = .ok (.iload_n 3, 1) := by decide +kernel
theorem dX7_holds_10 : decode cX7_holds 10 = .ok (.aload_n 0, 1) := by decide +kernel
theorem dX7_holds_11 : decode cX7_holds 11 = .ok (.getfield 116, 3) := by decide +kernel
theorem dX7_holds_14 : decode cX7_holds 14 = .ok (.iload_n 1, 1) := by decide +kernel
theorem dX7_holds_15 : decode cX7_holds 15 = .ok (.iaload, 1) := by decide +kernel
theorem dX7_holds_16 : decode cX7_holds 16 = .ok (.if_icmp .ge 223, 3) := by decide +kernel
theorem dX7_holds_19 : decode cX7_holds 19 = .ok (.aload_n 0, 1) := by decide +kernel
theorem dX7_holds_20 : decode cX7_holds 20 = .ok (.getfield 78, 3) := by decide +kernel
theorem dX7_holds_23 : decode cX7_holds 23 = .ok (.iload_n 3, 1) := by decide +kernel
theorem dX7_holds_24 : decode cX7_holds 24 = .ok (.iaload, 1) := by decide +kernel
theorem dX7_holds_25 : decode cX7_holds 25 = .ok (.istore 4, 2) := by decide +kernel
theorem dX7_holds_27 : decode cX7_holds 27 = .ok (.iload 4, 2) := by decide +kernel
theorem dX7_holds_29 : decode cX7_holds 29 = .ok (.bipush (-33), 2) := by decide +kernel
theorem dX7_holds_31 : decode cX7_holds 31 = .ok (.if_icmp .ne 30, 3) := by decide +kernel
theorem dX7_holds_34 : decode cX7_holds 34 = .ok (.aload_n 0, 1) := by decide +kernel
theorem dX7_holds_35 : decode cX7_holds 35 = .ok (.getfield 193, 3) := by decide +kernel
theorem dX7_holds_38 : decode cX7_holds 38 = .ok (.iload_n 2, 1) := by decide +kernel
theorem dX7_holds_39 : decode cX7_holds 39 = .ok (.iconst 1, 1) := by decide +kernel
theorem dX7_holds_40 : decode cX7_holds 40 = .ok (.isub, 1) := by decide +kernel
theorem dX7_holds_41 : decode cX7_holds 41 = .ok (.aload_n 0, 1) := by decide +kernel
theorem dX7_holds_42 : decode cX7_holds 42 = .ok (.getfield 193, 3) := by decide +kernel
theorem dX7_holds_45 : decode cX7_holds 45 = .ok (.iload_n 2, 1) := by decide +kernel
theorem dX7_holds_46 : decode cX7_holds 46 = .ok (.iconst 1, 1) := by decide +kernel
theorem dX7_holds_47 : decode cX7_holds 47 = .ok (.isub, 1) := by decide +kernel
theorem dX7_holds_48 : decode cX7_holds 48 = .ok (.baload, 1) := by decide +kernel
theorem dX7_holds_49 : decode cX7_holds 49 = .ok (.ifCond .ne 7, 3) := by decide +kernel
theorem dX7_holds_52 : decode cX7_holds 52 = .ok (.iconst 1, 1) := by decide +kernel
theorem dX7_holds_53 : decode cX7_holds 53 = .ok (.goto 4, 3) := by decide +kernel
theorem dX7_holds_56 : decode cX7_holds 56 = .ok (.iconst 0, 1) := by decide +kernel
theorem dX7_holds_57 : decode cX7_holds 57 = .ok (.bastore, 1) := by decide +kernel
theorem dX7_holds_58 : decode cX7_holds 58 = .ok (.goto 175, 3) := by decide +kernel
theorem dX7_holds_61 : decode cX7_holds 61 = .ok (.iload 4, 2) := by decide +kernel
theorem dX7_holds_63 : decode cX7_holds 63 = .ok (.ifCond .ge 77, 3) := by decide +kernel
theorem dX7_holds_66 : decode cX7_holds 66 = .ok (.iinc 2 (-1), 3) := by decide +kernel
theorem dX7_holds_69 : decode cX7_holds 69 = .ok (.aload_n 0, 1) := by decide +kernel
theorem dX7_holds_70 : decode cX7_holds 70 = .ok (.getfield 193, 3) := by decide +kernel
theorem dX7_holds_73 : decode cX7_holds 73 = .ok (.iload_n 2, 1) := by decide +kernel
theorem dX7_holds_74 : decode cX7_holds 74 = .ok (.iconst 1, 1) := by decide +kernel
theorem dX7_holds_75 : decode cX7_holds 75 = .ok (.isub, 1) := by decide +kernel
theorem dX7_holds_76 : decode cX7_holds 76 = .ok (.iload 4, 2) := by decide +kernel
theorem dX7_holds_78 : decode cX7_holds 78 = .ok (.bipush (-38), 2) := by decide +kernel
theorem dX7_holds_80 : decode cX7_holds 80 = .ok (.if_icmp .ne 31, 3) := by decide +kernel
theorem dX7_holds_83 : decode cX7_holds 83 = .ok (.aload_n 0, 1) := by decide +kernel
theorem dX7_holds_84 : decode cX7_holds 84 = .ok (.getfield 193, 3) := by decide +kernel
theorem dX7_holds_87 : decode cX7_holds 87 = .ok (.iload_n 2, 1) := by decide +kernel
theorem dX7_holds_88 : decode cX7_holds 88 = .ok (.iconst 1, 1) := by decide +kernel
theorem dX7_holds_89 : decode cX7_holds 89 = .ok (.isub, 1) := by decide +kernel
theorem dX7_holds_90 : decode cX7_holds 90 = .ok (.baload, 1) := by decide +kernel
theorem dX7_holds_91 : decode cX7_holds 91 = .ok (.ifCond .eq 16, 3) := by decide +kernel
theorem dX7_holds_94 : decode cX7_holds 94 = .ok (.aload_n 0, 1) := by decide +kernel
theorem dX7_holds_95 : decode cX7_holds 95 = .ok (.getfield 193, 3) := by decide +kernel
theorem dX7_holds_98 : decode cX7_holds 98 = .ok (.iload_n 2, 1) := by decide +kernel
theorem dX7_holds_99 : decode cX7_holds 99 = .ok (.baload, 1) := by decide +kernel
theorem dX7_holds_100 : decode cX7_holds 100 = .ok (.ifCond .eq 7, 3) := by decide +kernel
theorem dX7_holds_103 : decode cX7_holds 103 = .ok (.iconst 1, 1) := by decide +kernel
theorem dX7_holds_104 : decode cX7_holds 104 = .ok (.goto 32, 3) := by decide +kernel
theorem dX7_holds_107 : decode cX7_holds 107 = .ok (.iconst 0, 1) := by decide +kernel
theorem dX7_holds_108 : decode cX7_holds 108 = .ok (.goto 28, 3) := by decide +kernel
theorem dX7_holds_111 : decode cX7_holds 111 = .ok (.aload_n 0, 1) := by decide +kernel
theorem dX7_holds_112 : decode cX7_holds 112 = .ok (.getfield 193, 3) := by decide +kernel
theorem dX7_holds_115 : decode cX7_holds 115 = .ok (.iload_n 2, 1) := by decide +kernel
theorem dX7_holds_116 : decode cX7_holds 116 = .ok (.iconst 1, 1) := by decide +kernel
theorem dX7_holds_117 : decode cX7_holds 117 = .ok (.isub, 1) := by decide +kernel
theorem dX7_holds_118 : decode cX7_holds 118 = .ok (.baload, 1) := by decide +kernel
theorem dX7_holds_119 : decode cX7_holds 119 = .ok (.ifCond .ne 12, 3) := by decide +kernel
theorem dX7_holds_122 : decode cX7_holds 122 = .ok (.aload_n 0, 1) := by decide +kernel
theorem dX7_holds_123 : decode cX7_holds 123 = .ok (.getfield 193, 3) := by decide +kernel
theorem dX7_holds_126 : decode cX7_holds 126 = .ok (.iload_n 2, 1) := by decide +kernel
theorem dX7_holds_127 : decode cX7_holds 127 = .ok (.baload, 1) := by decide +kernel
theorem dX7_holds_128 : decode cX7_holds 128 = .ok (.ifCond .eq 7, 3) := by decide +kernel
theorem dX7_holds_131 : decode cX7_holds 131 = .ok (.iconst 1, 1) := by decide +kernel
theorem dX7_holds_132 : decode cX7_holds 132 = .ok (.goto 4, 3) := by decide +kernel
theorem dX7_holds_135 : decode cX7_holds 135 = .ok (.iconst 0, 1) := by decide +kernel
theorem dX7_holds_136 : decode cX7_holds 136 = .ok (.bastore, 1) := by decide +kernel
theorem dX7_holds_137 : decode cX7_holds 137 = .ok (.goto 96, 3) := by decide +kernel
theorem dX7_holds_140 : decode cX7_holds 140 = .ok (.aload_n 0, 1) := by decide +kernel
theorem dX7_holds_141 : decode cX7_holds 141 = .ok (.iload 4, 2) := by decide +kernel
theorem dX7_holds_143 : decode cX7_holds 143 = .ok (.sipush 1000, 3) := by decide +kernel
theorem dX7_holds_146 : decode cX7_holds 146 = .ok (.idiv, 1) := by decide +kernel
theorem dX7_holds_147 : decode cX7_holds 147 = .ok (.invokevirtual 242, 3) := by decide +kernel
theorem dX7_holds_150 : decode cX7_holds 150 = .ok (.istore 5, 2) := by decide +kernel
theorem dX7_holds_152 : decode cX7_holds 152 = .ok (.iload 4, 2) := by decide +kernel
theorem dX7_holds_154 : decode cX7_holds 154 = .ok (.bipush 100, 2) := by decide +kernel
theorem dX7_holds_156 : decode cX7_holds 156 = .ok (.idiv, 1) := by decide +kernel
theorem dX7_holds_157 : decode cX7_holds 157 = .ok (.bipush 10, 2) := by decide +kernel
theorem dX7_holds_159 : decode cX7_holds 159 = .ok (.irem, 1) := by decide +kernel
theorem dX7_holds_160 : decode cX7_holds 160 = .ok (.istore 6, 2) := by decide +kernel
theorem dX7_holds_162 : decode cX7_holds 162 = .ok (.aload_n 0, 1) := by decide +kernel
theorem dX7_holds_163 : decode cX7_holds 163 = .ok (.getfield 193, 3) := by decide +kernel
theorem dX7_holds_166 : decode cX7_holds 166 = .ok (.iload_n 2, 1) := by decide +kernel
theorem dX7_holds_167 : decode cX7_holds 167 = .ok (.iload 6, 2) := by decide +kernel
theorem dX7_holds_169 : decode cX7_holds 169 = .ok (.ifCond .ne 21, 3) := by decide +kernel
theorem dX7_holds_172 : decode cX7_holds 172 = .ok (.iload 5, 2) := by decide +kernel
theorem dX7_holds_174 : decode cX7_holds 174 = .ok (.iload 4, 2) := by decide +kernel
theorem dX7_holds_176 : decode cX7_holds 176 = .ok (.bipush 100, 2) := by decide +kernel
theorem dX7_holds_178 : decode cX7_holds 178 = .ok (.irem, 1) := by decide +kernel
theorem dX7_holds_179 : decode cX7_holds 179 = .ok (.if_icmp .ge 7, 3) := by decide +kernel
theorem dX7_holds_182 : decode cX7_holds 182 = .ok (.iconst 1, 1) := by decide +kernel
theorem dX7_holds_183 : decode cX7_holds 183 = .ok (.goto 46, 3) := by decide +kernel
theorem dX7_holds_186 : decode cX7_holds 186 = .ok (.iconst 0, 1) := by decide +kernel
theorem dX7_holds_187 : decode cX7_holds 187 = .ok (.goto 42, 3) := by decide +kernel
theorem dX7_holds_190 : decode cX7_holds 190 = .ok (.iload 6, 2) := by decide +kernel
theorem dX7_holds_192 : decode cX7_holds 192 = .ok (.iconst 1, 1) := by decide +kernel
theorem dX7_holds_193 : decode cX7_holds 193 = .ok (.if_icmp .ne 21, 3) := by decide +kernel
theorem dX7_holds_196 : decode cX7_holds 196 = .ok (.iload 5, 2) := by decide +kernel
theorem dX7_holds_198 : decode cX7_holds 198 = .ok (.iload 4, 2) := by decide +kernel
theorem dX7_holds_200 : decode cX7_holds 200 = .ok (.bipush 100, 2) := by decide +kernel
theorem dX7_holds_202 : decode cX7_holds 202 = .ok (.irem, 1) := by decide +kernel
theorem dX7_holds_203 : decode cX7_holds 203 = .ok (.if_icmp .ne 7, 3) := by decide +kernel
theorem dX7_holds_206 : decode cX7_holds 206 = .ok (.iconst 1, 1) := by decide +kernel
theorem dX7_holds_207 : decode cX7_holds 207 = .ok (.goto 22, 3) := by decide +kernel
theorem dX7_holds_210 : decode cX7_holds 210 = .ok (.iconst 0, 1) := by decide +kernel
theorem dX7_holds_211 : decode cX7_holds 211 = .ok (.goto 18, 3) := by decide +kernel
theorem dX7_holds_214 : decode cX7_holds 214 = .ok (.iload 5, 2) := by decide +kernel
theorem dX7_holds_216 : decode cX7_holds 216 = .ok (.iload 4, 2) := by decide +kernel
theorem dX7_holds_218 : decode cX7_holds 218 = .ok (.bipush 100, 2) := by decide +kernel
theorem dX7_holds_220 : decode cX7_holds 220 = .ok (.irem, 1) := by decide +kernel
theorem dX7_holds_221 : decode cX7_holds 221 = .ok (.if_icmp .le 7, 3) := by decide +kernel
theorem dX7_holds_224 : decode cX7_holds 224 = .ok (.iconst 1, 1) := by decide +kernel
theorem dX7_holds_225 : decode cX7_holds 225 = .ok (.goto 4, 3) := by decide +kernel
theorem dX7_holds_228 : decode cX7_holds 228 = .ok (.iconst 0, 1) := by decide +kernel
theorem dX7_holds_229 : decode cX7_holds 229 = .ok (.bastore, 1) := by decide +kernel
theorem dX7_holds_230 : decode cX7_holds 230 = .ok (.iinc 2 1, 3) := by decide +kernel
theorem dX7_holds_233 : decode cX7_holds 233 = .ok (.iinc 3 1, 3) := by decide +kernel
theorem dX7_holds_236 : decode cX7_holds 236 = .ok (.goto (-227), 3) := by decide +kernel
theorem dX7_holds_239 : decode cX7_holds 239 = .ok (.aload_n 0, 1) := by decide +kernel
theorem dX7_holds_240 : decode cX7_holds 240 = .ok (.getfield 193, 3) := by decide +kernel
theorem dX7_holds_243 : decode cX7_holds 243 = .ok (.iconst 0, 1) := by decide +kernel
theorem dX7_holds_244 : decode cX7_holds 244 = .ok (.baload, 1) := by decide +kernel
theorem dX7_holds_245 : decode cX7_holds 245 = .ok (.ireturn, 1) := by decide +kernel
theorem dX7_some_0 : decode cX7_some 0 = .ok (.bipush 6, 2) := by decide +kernel
theorem dX7_some_2 : decode cX7_some 2 = .ok (.aload_n 0, 1) := by decide +kernel
theorem dX7_some_3 : decode cX7_some 3 = .ok (.getfield 154, 3) := by decide +kernel
theorem dX7_some_6 : decode cX7_some 6 = .ok (.imul, 1) := by decide +kernel
theorem dX7_some_7 : decode cX7_some 7 = .ok (.istore_n 3, 1) := by decide +kernel
theorem dX7_some_8 : decode cX7_some 8 = .ok (.iload_n 3, 1) := by decide +kernel
theorem dX7_some_9 : decode cX7_some 9 = .ok (.bipush 6, 2) := by decide +kernel
theorem dX7_some_11 : decode cX7_some 11 = .ok (.aload_n 0, 1) := by decide +kernel
theorem dX7_some_12 : decode cX7_some 12 = .ok (.getfield 154, 3) := by decide +kernel
theorem dX7_some_15 : decode cX7_some 15 = .ok (.imul, 1) := by decide +kernel
theorem dX7_some_16 : decode cX7_some 16 = .ok (.aload_n 0, 1) := by decide +kernel
theorem dX7_some_17 : decode cX7_some 17 = .ok (.getfield 143, 3) := by decide +kernel
theorem dX7_some_20 : decode cX7_some 20 = .ok (.aload_n 0, 1) := by decide +kernel
theorem dX7_some_21 : decode cX7_some 21 = .ok (.getfield 154, 3) := by decide +kernel
theorem dX7_some_24 : decode cX7_some 24 = .ok (.iaload, 1) := by decide +kernel
theorem dX7_some_25 : decode cX7_some 25 = .ok (.iadd, 1) := by decide +kernel
theorem dX7_some_26 : decode cX7_some 26 = .ok (.if_icmp .ge 47, 3) := by decide +kernel
theorem dX7_some_29 : decode cX7_some 29 = .ok (.iload_n 3, 1) := by decide +kernel
theorem dX7_some_30 : decode cX7_some 30 = .ok (.aload_n 0, 1) := by decide +kernel
theorem dX7_some_31 : decode cX7_some 31 = .ok (.getfield 157, 3) := by decide +kernel
theorem dX7_some_34 : decode cX7_some 34 = .ok (.if_icmp .eq 33, 3) := by decide +kernel
theorem dX7_some_37 : decode cX7_some 37 = .ok (.aload_n 0, 1) := by decide +kernel
theorem dX7_some_38 : decode cX7_some 38 = .ok (.getfield 125, 3) := by decide +kernel
theorem dX7_some_41 : decode cX7_some 41 = .ok (.iload_n 3, 1) := by decide +kernel
theorem dX7_some_42 : decode cX7_some 42 = .ok (.iaload, 1) := by decide +kernel
theorem dX7_some_43 : decode cX7_some 43 = .ok (.iload_n 1, 1) := by decide +kernel
theorem dX7_some_44 : decode cX7_some 44 = .ok (.if_icmp .ne 23, 3) := by decide +kernel
theorem dX7_some_47 : decode cX7_some 47 = .ok (.aload_n 0, 1) := by decide +kernel
theorem dX7_some_48 : decode cX7_some 48 = .ok (.getfield 119, 3) := by decide +kernel
theorem dX7_some_51 : decode cX7_some 51 = .ok (.iload_n 3, 1) := by decide +kernel
theorem dX7_some_52 : decode cX7_some 52 = .ok (.iaload, 1) := by decide +kernel
theorem dX7_some_53 : decode cX7_some 53 = .ok (.iload_n 2, 1) := by decide +kernel
theorem dX7_some_54 : decode cX7_some 54 = .ok (.if_icmp .ne 13, 3) := by decide +kernel
theorem dX7_some_57 : decode cX7_some 57 = .ok (.aload_n 0, 1) := by decide +kernel
theorem dX7_some_58 : decode cX7_some 58 = .ok (.iload_n 3, 1) := by decide +kernel
theorem dX7_some_59 : decode cX7_some 59 = .ok (.invokevirtual 245, 3) := by decide +kernel
theorem dX7_some_62 : decode cX7_some 62 = .ok (.ifCond .eq 5, 3) := by decide +kernel
theorem dX7_some_65 : decode cX7_some 65 = .ok (.iconst 1, 1) := by decide +kernel
theorem dX7_some_66 : decode cX7_some 66 = .ok (.ireturn, 1) := by decide +kernel
theorem dX7_some_67 : decode cX7_some 67 = .ok (.iinc 3 1, 3) := by decide +kernel
theorem dX7_some_70 : decode cX7_some 70 = .ok (.goto (-62), 3) := by decide +kernel
theorem dX7_some_73 : decode cX7_some 73 = .ok (.iconst 0, 1) := by decide +kernel
theorem dX7_some_74 : decode cX7_some 74 = .ok (.ireturn, 1) := by decide +kernel
theorem dX7_figureOf_0 : decode cX7_figureOf 0 = .ok (.iload_n 3, 1) := by decide +kernel
theorem dX7_figureOf_1 : decode cX7_figureOf 1 = .ok (.istore 4, 2) := by decide +kernel
theorem dX7_figureOf_3 : decode cX7_figureOf 3 = .ok (.bipush 6, 2) := by decide +kernel
theorem dX7_figureOf_5 : decode cX7_figureOf 5 = .ok (.aload_n 0, 1) := by decide +kernel
theorem dX7_figureOf_6 : decode cX7_figureOf 6 = .ok (.getfield 154, 3) := by decide +kernel
theorem dX7_figureOf_9 : decode cX7_figureOf 9 = .ok (.imul, 1) := by decide +kernel
theorem dX7_figureOf_10 : decode cX7_figureOf 10 = .ok (.istore 5, 2) := by decide +kernel
theorem dX7_figureOf_12 : decode cX7_figureOf 12 = .ok (.iload 5, 2) := by decide +kernel
theorem dX7_figureOf_14 : decode cX7_figureOf 14 = .ok (.bipush 6, 2) := by decide +kernel
theorem dX7_figureOf_16 : decode cX7_figureOf 16 = .ok (.aload_n 0, 1) := by decide +kernel
theorem dX7_figureOf_17 : decode cX7_figureOf 17 = .ok (.getfield 154, 3) := by decide +kernel
theorem dX7_figureOf_20 : decode cX7_figureOf 20 = .ok (.imul, 1) := by decide +kernel
theorem dX7_figureOf_21 : decode cX7_figureOf 21 = .ok (.aload_n 0, 1) := by decide +kernel
theorem dX7_figureOf_22 : decode cX7_figureOf 22 = .ok (.getfield 143, 3) := by decide +kernel
theorem dX7_figureOf_25 : decode cX7_figureOf 25 = .ok (.aload_n 0, 1) := by decide +kernel
theorem dX7_figureOf_26 : decode cX7_figureOf 26 = .ok (.getfield 154, 3) := by decide +kernel
theorem dX7_figureOf_29 : decode cX7_figureOf 29 = .ok (.iaload, 1) := by decide +kernel
theorem dX7_figureOf_30 : decode cX7_figureOf 30 = .ok (.iadd, 1) := by decide +kernel
theorem dX7_figureOf_31 : decode cX7_figureOf 31 = .ok (.if_icmp .ge 53, 3) := by decide +kernel
theorem dX7_figureOf_34 : decode cX7_figureOf 34 = .ok (.iload 5, 2) := by decide +kernel
theorem dX7_figureOf_36 : decode cX7_figureOf 36 = .ok (.aload_n 0, 1) := by decide +kernel
theorem dX7_figureOf_37 : decode cX7_figureOf 37 = .ok (.getfield 157, 3) := by decide +kernel
theorem dX7_figureOf_40 : decode cX7_figureOf 40 = .ok (.if_icmp .eq 38, 3) := by decide +kernel
theorem dX7_figureOf_43 : decode cX7_figureOf 43 = .ok (.aload_n 0, 1) := by decide +kernel
theorem dX7_figureOf_44 : decode cX7_figureOf 44 = .ok (.getfield 125, 3) := by decide +kernel
theorem dX7_figureOf_47 : decode cX7_figureOf 47 = .ok (.iload 5, 2) := by decide +kernel
theorem dX7_figureOf_49 : decode cX7_figureOf 49 = .ok (.iaload, 1) := by decide +kernel
theorem dX7_figureOf_50 : decode cX7_figureOf 50 = .ok (.iload_n 1, 1) := by decide +kernel
theorem dX7_figureOf_51 : decode cX7_figureOf 51 = .ok (.if_icmp .ne 27, 3) := by decide +kernel
theorem dX7_figureOf_54 : decode cX7_figureOf 54 = .ok (.aload_n 0, 1) := by decide +kernel
theorem dX7_figureOf_55 : decode cX7_figureOf 55 = .ok (.getfield 137, 3) := by decide +kernel
theorem dX7_figureOf_58 : decode cX7_figureOf 58 = .ok (.iload 5, 2) := by decide +kernel
theorem dX7_figureOf_60 : decode cX7_figureOf 60 = .ok (.iaload, 1) := by decide +kernel
theorem dX7_figureOf_61 : decode cX7_figureOf 61 = .ok (.iload_n 2, 1) := by decide +kernel
theorem dX7_figureOf_62 : decode cX7_figureOf 62 = .ok (.if_icmp .ge 13, 3) := by decide +kernel
theorem dX7_figureOf_65 : decode cX7_figureOf 65 = .ok (.aload_n 0, 1) := by decide +kernel
theorem dX7_figureOf_66 : decode cX7_figureOf 66 = .ok (.getfield 137, 3) := by decide +kernel
theorem dX7_figureOf_69 : decode cX7_figureOf 69 = .ok (.iload 5, 2) := by decide +kernel
theorem dX7_figureOf_71 : decode cX7_figureOf 71 = .ok (.iaload, 1) := by decide +kernel
theorem dX7_figureOf_72 : decode cX7_figureOf 72 = .ok (.goto 4, 3) := by decide +kernel
theorem dX7_figureOf_75 : decode cX7_figureOf 75 = .ok (.iload_n 2, 1) := by decide +kernel
theorem dX7_figureOf_76 : decode cX7_figureOf 76 = .ok (.istore 4, 2) := by decide +kernel
theorem dX7_figureOf_78 : decode cX7_figureOf 78 = .ok (.iinc 5 1, 3) := by decide +kernel
theorem dX7_figureOf_81 : decode cX7_figureOf 81 = .ok (.goto (-69), 3) := by decide +kernel
theorem dX7_figureOf_84 : decode cX7_figureOf 84 = .ok (.iload 4, 2) := by decide +kernel
theorem dX7_figureOf_86 : decode cX7_figureOf 86 = .ok (.ireturn, 1) := by decide +kernel
theorem dX7_isPlea_0 : decode cX7_isPlea 0 = .ok (.iload_n 1, 1) := by decide +kernel
theorem dX7_isPlea_1 : decode cX7_isPlea 1 = .ok (.bipush 10, 2) := by decide +kernel
theorem dX7_isPlea_3 : decode cX7_isPlea 3 = .ok (.if_icmp .eq 45, 3) := by decide +kernel
theorem dX7_isPlea_6 : decode cX7_isPlea 6 = .ok (.aload_n 0, 1) := by decide +kernel
theorem dX7_isPlea_7 : decode cX7_isPlea 7 = .ok (.iload_n 1, 1) := by decide +kernel
theorem dX7_isPlea_8 : decode cX7_isPlea 8 = .ok (.bipush 20, 2) := by decide +kernel
theorem dX7_isPlea_10 : decode cX7_isPlea 10 = .ok (.bipush 24, 2) := by decide +kernel
theorem dX7_isPlea_12 : decode cX7_isPlea 12 = .ok (.invokevirtual 1, 3) := by decide +kernel
theorem dX7_isPlea_15 : decode cX7_isPlea 15 = .ok (.ifCond .ne 33, 3) := by decide +kernel
theorem dX7_isPlea_18 : decode cX7_isPlea 18 = .ok (.iload_n 1, 1) := by decide +kernel
theorem dX7_isPlea_19 : decode cX7_isPlea 19 = .ok (.bipush 30, 2) := by decide +kernel
theorem dX7_isPlea_21 : decode cX7_isPlea 21 = .ok (.if_icmp .eq 27, 3) := by decide +kernel
theorem dX7_isPlea_24 : decode cX7_isPlea 24 = .ok (.iload_n 1, 1) := by decide +kernel
theorem dX7_isPlea_25 : decode cX7_isPlea 25 = .ok (.bipush 40, 2) := by decide +kernel
theorem dX7_isPlea_27 : decode cX7_isPlea 27 = .ok (.if_icmp .eq 21, 3) := by decide +kernel
theorem dX7_isPlea_30 : decode cX7_isPlea 30 = .ok (.aload_n 0, 1) := by decide +kernel
theorem dX7_isPlea_31 : decode cX7_isPlea 31 = .ok (.iload_n 1, 1) := by decide +kernel
theorem dX7_isPlea_32 : decode cX7_isPlea 32 = .ok (.bipush 50, 2) := by decide +kernel
theorem dX7_isPlea_34 : decode cX7_isPlea 34 = .ok (.bipush 54, 2) := by decide +kernel
theorem dX7_isPlea_36 : decode cX7_isPlea 36 = .ok (.invokevirtual 1, 3) := by decide +kernel
theorem dX7_isPlea_39 : decode cX7_isPlea 39 = .ok (.ifCond .ne 9, 3) := by decide +kernel
theorem dX7_isPlea_42 : decode cX7_isPlea 42 = .ok (.iload_n 1, 1) := by decide +kernel
theorem dX7_isPlea_43 : decode cX7_isPlea 43 = .ok (.bipush 60, 2) := by decide +kernel
theorem dX7_isPlea_45 : decode cX7_isPlea 45 = .ok (.if_icmp .ne 7, 3) := by decide +kernel
theorem dX7_isPlea_48 : decode cX7_isPlea 48 = .ok (.iconst 1, 1) := by decide +kernel
theorem dX7_isPlea_49 : decode cX7_isPlea 49 = .ok (.goto 4, 3) := by decide +kernel
theorem dX7_isPlea_52 : decode cX7_isPlea 52 = .ok (.iconst 0, 1) := by decide +kernel
theorem dX7_isPlea_53 : decode cX7_isPlea 53 = .ok (.ireturn, 1) := by decide +kernel
theorem dX7_can_0 : decode cX7_can 0 = .ok (.aload_n 0, 1) := by decide +kernel
theorem dX7_can_1 : decode cX7_can 1 = .ok (.getfield 160, 3) := by decide +kernel
theorem dX7_can_4 : decode cX7_can 4 = .ok (.istore_n 2, 1) := by decide +kernel
theorem dX7_can_5 : decode cX7_can 5 = .ok (.aload_n 0, 1) := by decide +kernel
theorem dX7_can_6 : decode cX7_can 6 = .ok (.getfield 52, 3) := by decide +kernel
theorem dX7_can_9 : decode cX7_can 9 = .ok (.ifCond .eq 35, 3) := by decide +kernel
theorem dX7_can_12 : decode cX7_can 12 = .ok (.aload_n 0, 1) := by decide +kernel
theorem dX7_can_13 : decode cX7_can 13 = .ok (.getfield 181, 3) := by decide +kernel
theorem dX7_can_16 : decode cX7_can 16 = .ok (.iload_n 2, 1) := by decide +kernel
theorem dX7_can_17 : decode cX7_can 17 = .ok (.iaload, 1) := by decide +kernel
theorem dX7_can_18 : decode cX7_can 18 = .ok (.ifCond .ne 26, 3) := by decide +kernel
theorem dX7_can_21 : decode cX7_can 21 = .ok (.iload_n 2, 1) := by decide +kernel
theorem dX7_can_22 : decode cX7_can 22 = .ok (.aload_n 0, 1) := by decide +kernel
theorem dX7_can_23 : decode cX7_can 23 = .ok (.iconst 2, 1) := by decide +kernel
theorem dX7_can_24 : decode cX7_can 24 = .ok (.iconst 5, 1) := by decide +kernel
theorem dX7_can_25 : decode cX7_can 25 = .ok (.iconst 5, 1) := by decide +kernel
theorem dX7_can_26 : decode cX7_can 26 = .ok (.invokevirtual 248, 3) := by decide +kernel
theorem dX7_can_29 : decode cX7_can 29 = .ok (.if_icmp .ge 15, 3) := by decide +kernel
theorem dX7_can_32 : decode cX7_can 32 = .ok (.aload_n 0, 1) := by decide +kernel
theorem dX7_can_33 : decode cX7_can 33 = .ok (.iconst 0, 1) := by decide +kernel
theorem dX7_can_34 : decode cX7_can 34 = .ok (.iload_n 1, 1) := by decide +kernel
theorem dX7_can_35 : decode cX7_can 35 = .ok (.bipush 10, 2) := by decide +kernel
theorem dX7_can_37 : decode cX7_can 37 = .ok (.idiv, 1) := by decide +kernel
theorem dX7_can_38 : decode cX7_can 38 = .ok (.invokevirtual 252, 3) := by decide +kernel
theorem dX7_can_41 : decode cX7_can 41 = .ok (.ifCond .eq 5, 3) := by decide +kernel
theorem dX7_can_44 : decode cX7_can 44 = .ok (.iconst 0, 1) := by decide +kernel
theorem dX7_can_45 : decode cX7_can 45 = .ok (.ireturn, 1) := by decide +kernel
theorem dX7_can_46 : decode cX7_can 46 = .ok (.iload_n 1, 1) := by decide +kernel
theorem dX7_can_47 : decode cX7_can 47 = .ok (.bipush 10, 2) := by decide +kernel
theorem dX7_can_49 : decode cX7_can 49 = .ok (.irem, 1) := by decide +kernel
theorem dX7_can_50 : decode cX7_can 50 = .ok (.istore_n 3, 1) := by decide +kernel
theorem dX7_can_51 : decode cX7_can 51 = .ok (.iload_n 1, 1) := by decide +kernel
theorem dX7_can_52 : decode cX7_can 52 = .ok (.bipush 10, 2) := by decide +kernel
theorem dX7_can_54 : decode cX7_can 54 = .ok (.idiv, 1) := by decide +kernel
theorem dX7_can_55 : decode cX7_can 55 = .ok (.tableswitch 172 2 6 #[33, 172, 111, 72, 132], 33) := by decide +kernel
theorem dX7_can_88 : decode cX7_can 88 = .ok (.aload_n 0, 1) := by decide +kernel
theorem dX7_can_89 : decode cX7_can 89 = .ok (.aload_n 0, 1) := by decide +kernel
theorem dX7_can_90 : decode cX7_can 90 = .ok (.getfield 15, 3) := by decide +kernel
theorem dX7_can_93 : decode cX7_can 93 = .ok (.aload_n 0, 1) := by decide +kernel
theorem dX7_can_94 : decode cX7_can 94 = .ok (.getfield 169, 3) := by decide +kernel
theorem dX7_can_97 : decode cX7_can 97 = .ok (.iload_n 2, 1) := by decide +kernel
theorem dX7_can_98 : decode cX7_can 98 = .ok (.iaload, 1) := by decide +kernel
theorem dX7_can_99 : decode cX7_can 99 = .ok (.iaload, 1) := by decide +kernel
theorem dX7_can_100 : decode cX7_can 100 = .ok (.iload_n 3, 1) := by decide +kernel
theorem dX7_can_101 : decode cX7_can 101 = .ok (.invokevirtual 37, 3) := by decide +kernel
theorem dX7_can_104 : decode cX7_can 104 = .ok (.ifCond .eq 21, 3) := by decide +kernel
theorem dX7_can_107 : decode cX7_can 107 = .ok (.aload_n 0, 1) := by decide +kernel
theorem dX7_can_108 : decode cX7_can 108 = .ok (.aload_n 0, 1) := by decide +kernel
theorem dX7_can_109 : decode cX7_can 109 = .ok (.getfield 166, 3) := by decide +kernel
theorem dX7_can_112 : decode cX7_can 112 = .ok (.iload_n 2, 1) := by decide +kernel
theorem dX7_can_113 : decode cX7_can 113 = .ok (.iaload, 1) := by decide +kernel
theorem dX7_can_114 : decode cX7_can 114 = .ok (.iload_n 3, 1) := by decide +kernel
theorem dX7_can_115 : decode cX7_can 115 = .ok (.invokevirtual 37, 3) := by decide +kernel
theorem dX7_can_118 : decode cX7_can 118 = .ok (.ifCond .ne 7, 3) := by decide +kernel
theorem dX7_can_121 : decode cX7_can 121 = .ok (.iconst 1, 1) := by decide +kernel
theorem dX7_can_122 : decode cX7_can 122 = .ok (.goto 4, 3) := by decide +kernel
theorem dX7_can_125 : decode cX7_can 125 = .ok (.iconst 0, 1) := by decide +kernel
theorem dX7_can_126 : decode cX7_can 126 = .ok (.ireturn, 1) := by decide +kernel
theorem dX7_can_127 : decode cX7_can 127 = .ok (.aload_n 0, 1) := by decide +kernel
theorem dX7_can_128 : decode cX7_can 128 = .ok (.aload_n 0, 1) := by decide +kernel
theorem dX7_can_129 : decode cX7_can 129 = .ok (.getfield 19, 3) := by decide +kernel
theorem dX7_can_132 : decode cX7_can 132 = .ok (.aload_n 0, 1) := by decide +kernel
theorem dX7_can_133 : decode cX7_can 133 = .ok (.getfield 169, 3) := by decide +kernel
theorem dX7_can_136 : decode cX7_can 136 = .ok (.iload_n 2, 1) := by decide +kernel
theorem dX7_can_137 : decode cX7_can 137 = .ok (.iaload, 1) := by decide +kernel
theorem dX7_can_138 : decode cX7_can 138 = .ok (.iaload, 1) := by decide +kernel
theorem dX7_can_139 : decode cX7_can 139 = .ok (.iload_n 3, 1) := by decide +kernel
theorem dX7_can_140 : decode cX7_can 140 = .ok (.invokevirtual 37, 3) := by decide +kernel
theorem dX7_can_143 : decode cX7_can 143 = .ok (.ifCond .eq 21, 3) := by decide +kernel
theorem dX7_can_146 : decode cX7_can 146 = .ok (.aload_n 0, 1) := by decide +kernel
theorem dX7_can_147 : decode cX7_can 147 = .ok (.aload_n 0, 1) := by decide +kernel
theorem dX7_can_148 : decode cX7_can 148 = .ok (.getfield 166, 3) := by decide +kernel
theorem dX7_can_151 : decode cX7_can 151 = .ok (.iload_n 2, 1) := by decide +kernel
theorem dX7_can_152 : decode cX7_can 152 = .ok (.iaload, 1) := by decide +kernel
theorem dX7_can_153 : decode cX7_can 153 = .ok (.iload_n 3, 1) := by decide +kernel
theorem dX7_can_154 : decode cX7_can 154 = .ok (.invokevirtual 37, 3) := by decide +kernel
theorem dX7_can_157 : decode cX7_can 157 = .ok (.ifCond .ne 7, 3) := by decide +kernel
theorem dX7_can_160 : decode cX7_can 160 = .ok (.iconst 1, 1) := by decide +kernel
theorem dX7_can_161 : decode cX7_can 161 = .ok (.goto 4, 3) := by decide +kernel
theorem dX7_can_164 : decode cX7_can 164 = .ok (.iconst 0, 1) := by decide +kernel
theorem dX7_can_165 : decode cX7_can 165 = .ok (.ireturn, 1) := by decide +kernel
theorem dX7_can_166 : decode cX7_can 166 = .ok (.iload_n 2, 1) := by decide +kernel
theorem dX7_can_167 : decode cX7_can 167 = .ok (.ifCond .le 18, 3) := by decide +kernel
theorem dX7_can_170 : decode cX7_can 170 = .ok (.aload_n 0, 1) := by decide +kernel
theorem dX7_can_171 : decode cX7_can 171 = .ok (.getfield 178, 3) := by decide +kernel
theorem dX7_can_174 : decode cX7_can 174 = .ok (.iload_n 2, 1) := by decide +kernel
theorem dX7_can_175 : decode cX7_can 175 = .ok (.iaload, 1) := by decide +kernel
theorem dX7_can_176 : decode cX7_can 176 = .ok (.bipush 6, 2) := by decide +kernel
theorem dX7_can_178 : decode cX7_can 178 = .ok (.if_icmp .eq 7, 3) := by decide +kernel
theorem dX7_can_181 : decode cX7_can 181 = .ok (.iconst 1, 1) := by decide +kernel
theorem dX7_can_182 : decode cX7_can 182 = .ok (.goto 4, 3) := by decide +kernel
theorem dX7_can_185 : decode cX7_can 185 = .ok (.iconst 0, 1) := by decide +kernel
theorem dX7_can_186 : decode cX7_can 186 = .ok (.ireturn, 1) := by decide +kernel
theorem dX7_can_187 : decode cX7_can 187 = .ok (.aload_n 0, 1) := by decide +kernel
theorem dX7_can_188 : decode cX7_can 188 = .ok (.getfield 172, 3) := by decide +kernel
theorem dX7_can_191 : decode cX7_can 191 = .ok (.iload_n 2, 1) := by decide +kernel
theorem dX7_can_192 : decode cX7_can 192 = .ok (.iaload, 1) := by decide +kernel
theorem dX7_can_193 : decode cX7_can 193 = .ok (.ifCond .ne 12, 3) := by decide +kernel
theorem dX7_can_196 : decode cX7_can 196 = .ok (.aload_n 0, 1) := by decide +kernel
theorem dX7_can_197 : decode cX7_can 197 = .ok (.getfield 184, 3) := by decide +kernel
theorem dX7_can_200 : decode cX7_can 200 = .ok (.iload_n 2, 1) := by decide +kernel
theorem dX7_can_201 : decode cX7_can 201 = .ok (.iaload, 1) := by decide +kernel
theorem dX7_can_202 : decode cX7_can 202 = .ok (.goto 9, 3) := by decide +kernel
theorem dX7_can_205 : decode cX7_can 205 = .ok (.aload_n 0, 1) := by decide +kernel
theorem dX7_can_206 : decode cX7_can 206 = .ok (.getfield 187, 3) := by decide +kernel
theorem dX7_can_209 : decode cX7_can 209 = .ok (.iload_n 2, 1) := by decide +kernel
theorem dX7_can_210 : decode cX7_can 210 = .ok (.iaload, 1) := by decide +kernel
theorem dX7_can_211 : decode cX7_can 211 = .ok (.aload_n 0, 1) := by decide +kernel
theorem dX7_can_212 : decode cX7_can 212 = .ok (.iconst 3, 1) := by decide +kernel
theorem dX7_can_213 : decode cX7_can 213 = .ok (.iconst 2, 1) := by decide +kernel
theorem dX7_can_214 : decode cX7_can 214 = .ok (.iconst 1, 1) := by decide +kernel
theorem dX7_can_215 : decode cX7_can 215 = .ok (.invokevirtual 248, 3) := by decide +kernel
theorem dX7_can_218 : decode cX7_can 218 = .ok (.if_icmp .ge 7, 3) := by decide +kernel
theorem dX7_can_221 : decode cX7_can 221 = .ok (.iconst 1, 1) := by decide +kernel
theorem dX7_can_222 : decode cX7_can 222 = .ok (.goto 4, 3) := by decide +kernel
theorem dX7_can_225 : decode cX7_can 225 = .ok (.iconst 0, 1) := by decide +kernel
theorem dX7_can_226 : decode cX7_can 226 = .ok (.ireturn, 1) := by decide +kernel
theorem dX7_can_227 : decode cX7_can 227 = .ok (.iconst 1, 1) := by decide +kernel
theorem dX7_can_228 : decode cX7_can 228 = .ok (.ireturn, 1) := by decide +kernel
theorem dX7_make_0 : decode cX7_make 0 = .ok (.aload_n 0, 1) := by decide +kernel
theorem dX7_make_1 : decode cX7_make 1 = .ok (.getfield 160, 3) := by decide +kernel
theorem dX7_make_4 : decode cX7_make 4 = .ok (.istore_n 2, 1) := by decide +kernel
theorem dX7_make_5 : decode cX7_make 5 = .ok (.iload_n 1, 1) := by decide +kernel
theorem dX7_make_6 : decode cX7_make 6 = .ok (.bipush 10, 2) := by decide +kernel
theorem dX7_make_8 : decode cX7_make 8 = .ok (.idiv, 1) := by decide +kernel
theorem dX7_make_9 : decode cX7_make 9 = .ok (.istore_n 3, 1) := by decide +kernel
theorem dX7_make_10 : decode cX7_make 10 = .ok (.aload_n 0, 1) := by decide +kernel
theorem dX7_make_11 : decode cX7_make 11 = .ok (.iconst 1, 1) := by decide +kernel
theorem dX7_make_12 : decode cX7_make 12 = .ok (.iload_n 3, 1) := by decide +kernel
theorem dX7_make_13 : decode cX7_make 13 = .ok (.invokevirtual 252, 3) := by decide +kernel
theorem dX7_make_16 : decode cX7_make 16 = .ok (.istore 4, 2) := by decide +kernel
theorem dX7_make_18 : decode cX7_make 18 = .ok (.iload_n 3, 1) := by decide +kernel
theorem dX7_make_19 : decode cX7_make 19 = .ok (.iconst 2, 1) := by decide +kernel
theorem dX7_make_20 : decode cX7_make 20 = .ok (.if_icmp .eq 8, 3) := by decide +kernel
theorem dX7_make_23 : decode cX7_make 23 = .ok (.iload_n 3, 1) := by decide +kernel
theorem dX7_make_24 : decode cX7_make 24 = .ok (.iconst 5, 1) := by decide +kernel
theorem dX7_make_25 : decode cX7_make 25 = .ok (.if_icmp .ne 7, 3) := by decide +kernel
theorem dX7_make_28 : decode cX7_make 28 = .ok (.iconst 1, 1) := by decide +kernel
theorem dX7_make_29 : decode cX7_make 29 = .ok (.goto 4, 3) := by decide +kernel
theorem dX7_make_32 : decode cX7_make 32 = .ok (.iconst 0, 1) := by decide +kernel
theorem dX7_make_33 : decode cX7_make 33 = .ok (.istore 5, 2) := by decide +kernel
theorem dX7_make_35 : decode cX7_make 35 = .ok (.aload_n 0, 1) := by decide +kernel
theorem dX7_make_36 : decode cX7_make 36 = .ok (.getfield 163, 3) := by decide +kernel
theorem dX7_make_39 : decode cX7_make 39 = .ok (.iload_n 2, 1) := by decide +kernel
theorem dX7_make_40 : decode cX7_make 40 = .ok (.iload_n 1, 1) := by decide +kernel
theorem dX7_make_41 : decode cX7_make 41 = .ok (.iastore, 1) := by decide +kernel
theorem dX7_make_42 : decode cX7_make 42 = .ok (.aload_n 0, 1) := by decide +kernel
theorem dX7_make_43 : decode cX7_make 43 = .ok (.getfield 166, 3) := by decide +kernel
theorem dX7_make_46 : decode cX7_make 46 = .ok (.iload_n 2, 1) := by decide +kernel
theorem dX7_make_47 : decode cX7_make 47 = .ok (.iconst 1, 1) := by decide +kernel
theorem dX7_make_48 : decode cX7_make 48 = .ok (.iadd, 1) := by decide +kernel
theorem dX7_make_49 : decode cX7_make 49 = .ok (.iload 5, 2) := by decide +kernel
theorem dX7_make_51 : decode cX7_make 51 = .ok (.ifCond .eq 19, 3) := by decide +kernel
theorem dX7_make_54 : decode cX7_make 54 = .ok (.aload_n 0, 1) := by decide +kernel
theorem dX7_make_55 : decode cX7_make 55 = .ok (.getfield 166, 3) := by decide +kernel
theorem dX7_make_58 : decode cX7_make 58 = .ok (.iload_n 2, 1) := by decide +kernel
theorem dX7_make_59 : decode cX7_make 59 = .ok (.iaload, 1) := by decide +kernel
theorem dX7_make_60 : decode cX7_make 60 = .ok (.iconst 1, 1) := by decide +kernel
theorem dX7_make_61 : decode cX7_make 61 = .ok (.iload_n 1, 1) := by decide +kernel
theorem dX7_make_62 : decode cX7_make 62 = .ok (.bipush 10, 2) := by decide +kernel
theorem dX7_make_64 : decode cX7_make 64 = .ok (.irem, 1) := by decide +kernel
theorem dX7_make_65 : decode cX7_make 65 = .ok (.ishl, 1) := by decide +kernel
theorem dX7_make_66 : decode cX7_make 66 = .ok (.ior, 1) := by decide +kernel
theorem dX7_make_67 : decode cX7_make 67 = .ok (.goto 9, 3) := by decide +kernel
theorem dX7_make_70 : decode cX7_make 70 = .ok (.aload_n 0, 1) := by decide +kernel
theorem dX7_make_71 : decode cX7_make 71 = .ok (.getfield 166, 3) := by decide +kernel
theorem dX7_make_74 : decode cX7_make 74 = .ok (.iload_n 2, 1) := by decide +kernel
theorem dX7_make_75 : decode cX7_make 75 = .ok (.iaload, 1) := by decide +kernel
theorem dX7_make_76 : decode cX7_make 76 = .ok (.iastore, 1) := by decide +kernel
theorem dX7_make_77 : decode cX7_make 77 = .ok (.aload_n 0, 1) := by decide +kernel
theorem dX7_make_78 : decode cX7_make 78 = .ok (.getfield 169, 3) := by decide +kernel
theorem dX7_make_81 : decode cX7_make 81 = .ok (.iload_n 2, 1) := by decide +kernel
theorem dX7_make_82 : decode cX7_make 82 = .ok (.iconst 1, 1) := by decide +kernel
theorem dX7_make_83 : decode cX7_make 83 = .ok (.iadd, 1) := by decide +kernel
theorem dX7_make_84 : decode cX7_make 84 = .ok (.iload 5, 2) := by decide +kernel
theorem dX7_make_86 : decode cX7_make 86 = .ok (.ifCond .eq 10, 3) := by decide +kernel
theorem dX7_make_89 : decode cX7_make 89 = .ok (.iload_n 1, 1) := by decide +kernel
theorem dX7_make_90 : decode cX7_make 90 = .ok (.bipush 10, 2) := by decide +kernel
theorem dX7_make_92 : decode cX7_make 92 = .ok (.irem, 1) := by decide +kernel
theorem dX7_make_93 : decode cX7_make 93 = .ok (.goto 9, 3) := by decide +kernel
theorem dX7_make_96 : decode cX7_make 96 = .ok (.aload_n 0, 1) := by decide +kernel
theorem dX7_make_97 : decode cX7_make 97 = .ok (.getfield 169, 3) := by decide +kernel
theorem dX7_make_100 : decode cX7_make 100 = .ok (.iload_n 2, 1) := by decide +kernel
theorem dX7_make_101 : decode cX7_make 101 = .ok (.iaload, 1) := by decide +kernel
theorem dX7_make_102 : decode cX7_make 102 = .ok (.iastore, 1) := by decide +kernel
theorem dX7_make_103 : decode cX7_make 103 = .ok (.aload_n 0, 1) := by decide +kernel
theorem dX7_make_104 : decode cX7_make 104 = .ok (.getfield 172, 3) := by decide +kernel
theorem dX7_make_107 : decode cX7_make 107 = .ok (.iload_n 2, 1) := by decide +kernel
theorem dX7_make_108 : decode cX7_make 108 = .ok (.iconst 1, 1) := by decide +kernel
theorem dX7_make_109 : decode cX7_make 109 = .ok (.iadd, 1) := by decide +kernel
theorem dX7_make_110 : decode cX7_make 110 = .ok (.iload 5, 2) := by decide +kernel
theorem dX7_make_112 : decode cX7_make 112 = .ok (.ifCond .eq 14, 3) := by decide +kernel
theorem dX7_make_115 : decode cX7_make 115 = .ok (.iconst 1, 1) := by decide +kernel
theorem dX7_make_116 : decode cX7_make 116 = .ok (.aload_n 0, 1) := by decide +kernel
theorem dX7_make_117 : decode cX7_make 117 = .ok (.getfield 172, 3) := by decide +kernel
theorem dX7_make_120 : decode cX7_make 120 = .ok (.iload_n 2, 1) := by decide +kernel
theorem dX7_make_121 : decode cX7_make 121 = .ok (.iaload, 1) := by decide +kernel
theorem dX7_make_122 : decode cX7_make 122 = .ok (.isub, 1) := by decide +kernel
theorem dX7_make_123 : decode cX7_make 123 = .ok (.goto 9, 3) := by decide +kernel
theorem dX7_make_126 : decode cX7_make 126 = .ok (.aload_n 0, 1) := by decide +kernel
theorem dX7_make_127 : decode cX7_make 127 = .ok (.getfield 172, 3) := by decide +kernel
theorem dX7_make_130 : decode cX7_make 130 = .ok (.iload_n 2, 1) := by decide +kernel
theorem dX7_make_131 : decode cX7_make 131 = .ok (.iaload, 1) := by decide +kernel
theorem dX7_make_132 : decode cX7_make 132 = .ok (.iastore, 1) := by decide +kernel
theorem dX7_make_133 : decode cX7_make 133 = .ok (.aload_n 0, 1) := by decide +kernel
theorem dX7_make_134 : decode cX7_make 134 = .ok (.getfield 175, 3) := by decide +kernel
theorem dX7_make_137 : decode cX7_make 137 = .ok (.iload_n 2, 1) := by decide +kernel
theorem dX7_make_138 : decode cX7_make 138 = .ok (.iconst 1, 1) := by decide +kernel
theorem dX7_make_139 : decode cX7_make 139 = .ok (.iadd, 1) := by decide +kernel
theorem dX7_make_140 : decode cX7_make 140 = .ok (.iload_n 3, 1) := by decide +kernel
theorem dX7_make_141 : decode cX7_make 141 = .ok (.iconst 2, 1) := by decide +kernel
theorem dX7_make_142 : decode cX7_make 142 = .ok (.if_icmp .eq 8, 3) := by decide +kernel
theorem dX7_make_145 : decode cX7_make 145 = .ok (.iload_n 3, 1) := by decide +kernel
theorem dX7_make_146 : decode cX7_make 146 = .ok (.iconst 3, 1) := by decide +kernel
theorem dX7_make_147 : decode cX7_make 147 = .ok (.if_icmp .ne 21, 3) := by decide +kernel
theorem dX7_make_150 : decode cX7_make 150 = .ok (.aload_n 0, 1) := by decide +kernel
theorem dX7_make_151 : decode cX7_make 151 = .ok (.getfield 175, 3) := by decide +kernel
theorem dX7_make_154 : decode cX7_make 154 = .ok (.iload_n 2, 1) := by decide +kernel
theorem dX7_make_155 : decode cX7_make 155 = .ok (.iaload, 1) := by decide +kernel
theorem dX7_make_156 : decode cX7_make 156 = .ok (.iconst 1, 1) := by decide +kernel
theorem dX7_make_157 : decode cX7_make 157 = .ok (.aload_n 0, 1) := by decide +kernel
theorem dX7_make_158 : decode cX7_make 158 = .ok (.getfield 169, 3) := by decide +kernel
theorem dX7_make_161 : decode cX7_make 161 = .ok (.iload_n 2, 1) := by decide +kernel
theorem dX7_make_162 : decode cX7_make 162 = .ok (.iaload, 1) := by decide +kernel
theorem dX7_make_163 : decode cX7_make 163 = .ok (.ishl, 1) := by decide +kernel
theorem dX7_make_164 : decode cX7_make 164 = .ok (.ior, 1) := by decide +kernel
theorem dX7_make_165 : decode cX7_make 165 = .ok (.goto 9, 3) := by decide +kernel
theorem dX7_make_168 : decode cX7_make 168 = .ok (.aload_n 0, 1) := by decide +kernel
theorem dX7_make_169 : decode cX7_make 169 = .ok (.getfield 175, 3) := by decide +kernel
theorem dX7_make_172 : decode cX7_make 172 = .ok (.iload_n 2, 1) := by decide +kernel
theorem dX7_make_173 : decode cX7_make 173 = .ok (.iaload, 1) := by decide +kernel
theorem dX7_make_174 : decode cX7_make 174 = .ok (.iastore, 1) := by decide +kernel
theorem dX7_make_175 : decode cX7_make 175 = .ok (.aload_n 0, 1) := by decide +kernel
theorem dX7_make_176 : decode cX7_make 176 = .ok (.getfield 178, 3) := by decide +kernel
theorem dX7_make_179 : decode cX7_make 179 = .ok (.iload_n 2, 1) := by decide +kernel
theorem dX7_make_180 : decode cX7_make 180 = .ok (.iconst 1, 1) := by decide +kernel
theorem dX7_make_181 : decode cX7_make 181 = .ok (.iadd, 1) := by decide +kernel
theorem dX7_make_182 : decode cX7_make 182 = .ok (.iload_n 3, 1) := by decide +kernel
theorem dX7_make_183 : decode cX7_make 183 = .ok (.iastore, 1) := by decide +kernel
theorem dX7_make_184 : decode cX7_make 184 = .ok (.aload_n 0, 1) := by decide +kernel
theorem dX7_make_185 : decode cX7_make 185 = .ok (.getfield 181, 3) := by decide +kernel
theorem dX7_make_188 : decode cX7_make 188 = .ok (.iload_n 2, 1) := by decide +kernel
theorem dX7_make_189 : decode cX7_make 189 = .ok (.iconst 1, 1) := by decide +kernel
theorem dX7_make_190 : decode cX7_make 190 = .ok (.iadd, 1) := by decide +kernel
theorem dX7_make_191 : decode cX7_make 191 = .ok (.iload 5, 2) := by decide +kernel
theorem dX7_make_193 : decode cX7_make 193 = .ok (.ifCond .ne 9, 3) := by decide +kernel
theorem dX7_make_196 : decode cX7_make 196 = .ok (.iload_n 3, 1) := by decide +kernel
theorem dX7_make_197 : decode cX7_make 197 = .ok (.bipush 6, 2) := by decide +kernel
theorem dX7_make_199 : decode cX7_make 199 = .ok (.if_icmp .ne 7, 3) := by decide +kernel
theorem dX7_make_202 : decode cX7_make 202 = .ok (.iconst 0, 1) := by decide +kernel
theorem dX7_make_203 : decode cX7_make 203 = .ok (.goto 4, 3) := by decide +kernel
theorem dX7_make_206 : decode cX7_make 206 = .ok (.iload_n 3, 1) := by decide +kernel
theorem dX7_make_207 : decode cX7_make 207 = .ok (.iastore, 1) := by decide +kernel
theorem dX7_make_208 : decode cX7_make 208 = .ok (.aload_n 0, 1) := by decide +kernel
theorem dX7_make_209 : decode cX7_make 209 = .ok (.getfield 184, 3) := by decide +kernel
theorem dX7_make_212 : decode cX7_make 212 = .ok (.iload_n 2, 1) := by decide +kernel
theorem dX7_make_213 : decode cX7_make 213 = .ok (.iconst 1, 1) := by decide +kernel
theorem dX7_make_214 : decode cX7_make 214 = .ok (.iadd, 1) := by decide +kernel
theorem dX7_make_215 : decode cX7_make 215 = .ok (.aload_n 0, 1) := by decide +kernel
theorem dX7_make_216 : decode cX7_make 216 = .ok (.getfield 184, 3) := by decide +kernel
theorem dX7_make_219 : decode cX7_make 219 = .ok (.iload_n 2, 1) := by decide +kernel
theorem dX7_make_220 : decode cX7_make 220 = .ok (.iaload, 1) := by decide +kernel
theorem dX7_make_221 : decode cX7_make 221 = .ok (.iload_n 3, 1) := by decide +kernel
theorem dX7_make_222 : decode cX7_make 222 = .ok (.bipush 6, 2) := by decide +kernel
theorem dX7_make_224 : decode cX7_make 224 = .ok (.if_icmp .ne 16, 3) := by decide +kernel
theorem dX7_make_227 : decode cX7_make 227 = .ok (.aload_n 0, 1) := by decide +kernel
theorem dX7_make_228 : decode cX7_make 228 = .ok (.getfield 172, 3) := by decide +kernel
theorem dX7_make_231 : decode cX7_make 231 = .ok (.iload_n 2, 1) := by decide +kernel
theorem dX7_make_232 : decode cX7_make 232 = .ok (.iaload, 1) := by decide +kernel
theorem dX7_make_233 : decode cX7_make 233 = .ok (.ifCond .ne 7, 3) := by decide +kernel
theorem dX7_make_236 : decode cX7_make 236 = .ok (.iconst 1, 1) := by decide +kernel
theorem dX7_make_237 : decode cX7_make 237 = .ok (.goto 4, 3) := by decide +kernel
theorem dX7_make_240 : decode cX7_make 240 = .ok (.iconst 0, 1) := by decide +kernel
theorem dX7_make_241 : decode cX7_make 241 = .ok (.iadd, 1) := by decide +kernel
theorem dX7_make_242 : decode cX7_make 242 = .ok (.iastore, 1) := by decide +kernel
theorem dX7_make_243 : decode cX7_make 243 = .ok (.aload_n 0, 1) := by decide +kernel
theorem dX7_make_244 : decode cX7_make 244 = .ok (.getfield 187, 3) := by decide +kernel
theorem dX7_make_247 : decode cX7_make 247 = .ok (.iload_n 2, 1) := by decide +kernel
theorem dX7_make_248 : decode cX7_make 248 = .ok (.iconst 1, 1) := by decide +kernel
theorem dX7_make_249 : decode cX7_make 249 = .ok (.iadd, 1) := by decide +kernel
theorem dX7_make_250 : decode cX7_make 250 = .ok (.aload_n 0, 1) := by decide +kernel
theorem dX7_make_251 : decode cX7_make 251 = .ok (.getfield 187, 3) := by decide +kernel
theorem dX7_make_254 : decode cX7_make 254 = .ok (.iload_n 2, 1) := by decide +kernel
theorem dX7_make_255 : decode cX7_make 255 = .ok (.iaload, 1) := by decide +kernel
theorem dX7_make_256 : decode cX7_make 256 = .ok (.iload_n 3, 1) := by decide +kernel
theorem dX7_make_257 : decode cX7_make 257 = .ok (.bipush 6, 2) := by decide +kernel
theorem dX7_make_259 : decode cX7_make 259 = .ok (.if_icmp .ne 17, 3) := by decide +kernel
theorem dX7_make_262 : decode cX7_make 262 = .ok (.aload_n 0, 1) := by decide +kernel
theorem dX7_make_263 : decode cX7_make 263 = .ok (.getfield 172, 3) := by decide +kernel
theorem dX7_make_266 : decode cX7_make 266 = .ok (.iload_n 2, 1) := by decide +kernel
theorem dX7_make_267 : decode cX7_make 267 = .ok (.iaload, 1) := by decide +kernel
theorem dX7_make_268 : decode cX7_make 268 = .ok (.iconst 1, 1) := by decide +kernel
theorem dX7_make_269 : decode cX7_make 269 = .ok (.if_icmp .ne 7, 3) := by decide +kernel
theorem dX7_make_272 : decode cX7_make 272 = .ok (.iconst 1, 1) := by decide +kernel
theorem dX7_make_273 : decode cX7_make 273 = .ok (.goto 4, 3) := by decide +kernel
theorem dX7_make_276 : decode cX7_make 276 = .ok (.iconst 0, 1) := by decide +kernel
theorem dX7_make_277 : decode cX7_make 277 = .ok (.iadd, 1) := by decide +kernel
theorem dX7_make_278 : decode cX7_make 278 = .ok (.iastore, 1) := by decide +kernel
theorem dX7_make_279 : decode cX7_make 279 = .ok (.aload_n 0, 1) := by decide +kernel
theorem dX7_make_280 : decode cX7_make 280 = .ok (.getfield 190, 3) := by decide +kernel
theorem dX7_make_283 : decode cX7_make 283 = .ok (.iload_n 2, 1) := by decide +kernel
theorem dX7_make_284 : decode cX7_make 284 = .ok (.iconst 1, 1) := by decide +kernel
theorem dX7_make_285 : decode cX7_make 285 = .ok (.iadd, 1) := by decide +kernel
theorem dX7_make_286 : decode cX7_make 286 = .ok (.iload 4, 2) := by decide +kernel
theorem dX7_make_288 : decode cX7_make 288 = .ok (.bastore, 1) := by decide +kernel
theorem dX7_make_289 : decode cX7_make 289 = .ok (.aload_n 0, 1) := by decide +kernel
theorem dX7_make_290 : decode cX7_make 290 = .ok (.dup, 1) := by decide +kernel
theorem dX7_make_291 : decode cX7_make 291 = .ok (.getfield 160, 3) := by decide +kernel
theorem dX7_make_294 : decode cX7_make 294 = .ok (.iconst 1, 1) := by decide +kernel
theorem dX7_make_295 : decode cX7_make 295 = .ok (.iadd, 1) := by decide +kernel
theorem dX7_make_296 : decode cX7_make 296 = .ok (.putfield 160, 3) := by decide +kernel
theorem dX7_make_299 : decode cX7_make 299 = .ok (.return_, 1) := by decide +kernel
theorem dX7_nextMay_0 : decode cX7_nextMay 0 = .ok (.iload_n 1, 1) := by decide +kernel
theorem dX7_nextMay_1 : decode cX7_nextMay 1 = .ok (.istore_n 2, 1) := by decide +kernel
theorem dX7_nextMay_2 : decode cX7_nextMay 2 = .ok (.iload_n 2, 1) := by decide +kernel
theorem dX7_nextMay_3 : decode cX7_nextMay 3 = .ok (.bipush 14, 2) := by decide +kernel
theorem dX7_nextMay_5 : decode cX7_nextMay 5 = .ok (.if_icmp .ge 22, 3) := by decide +kernel
theorem dX7_nextMay_8 : decode cX7_nextMay 8 = .ok (.aload_n 0, 1) := by decide +kernel
theorem dX7_nextMay_9 : decode cX7_nextMay 9 = .ok (.aload_n 0, 1) := by decide +kernel
theorem dX7_nextMay_10 : decode cX7_nextMay 10 = .ok (.getfield 196, 3) := by decide +kernel
theorem dX7_nextMay_13 : decode cX7_nextMay 13 = .ok (.iload_n 2, 1) := by decide +kernel
theorem dX7_nextMay_14 : decode cX7_nextMay 14 = .ok (.iaload, 1) := by decide +kernel
theorem dX7_nextMay_15 : decode cX7_nextMay 15 = .ok (.invokevirtual 255, 3) := by decide +kernel
theorem dX7_nextMay_18 : decode cX7_nextMay 18 = .ok (.ifCond .ne 9, 3) := by decide +kernel
theorem dX7_nextMay_21 : decode cX7_nextMay 21 = .ok (.iinc 2 1, 3) := by decide +kernel
theorem dX7_nextMay_24 : decode cX7_nextMay 24 = .ok (.goto (-22), 3) := by decide +kernel
theorem dX7_nextMay_27 : decode cX7_nextMay 27 = .ok (.iload_n 2, 1) := by decide +kernel
theorem dX7_nextMay_28 : decode cX7_nextMay 28 = .ok (.ireturn, 1) := by decide +kernel
theorem dX7_endSort_0 : decode cX7_endSort 0 = .ok (.aload_n 0, 1) := by decide +kernel
theorem dX7_endSort_1 : decode cX7_endSort 1 = .ok (.getfield 181, 3) := by decide +kernel
theorem dX7_endSort_4 : decode cX7_endSort 4 = .ok (.aload_n 0, 1) := by decide +kernel
theorem dX7_endSort_5 : decode cX7_endSort 5 = .ok (.getfield 160, 3) := by decide +kernel
theorem dX7_endSort_8 : decode cX7_endSort 8 = .ok (.iaload, 1) := by decide +kernel
theorem dX7_endSort_9 : decode cX7_endSort 9 = .ok (.ifCond .eq 15, 3) := by decide +kernel
theorem dX7_endSort_12 : decode cX7_endSort 12 = .ok (.aload_n 0, 1) := by decide +kernel
theorem dX7_endSort_13 : decode cX7_endSort 13 = .ok (.getfield 181, 3) := by decide +kernel
theorem dX7_endSort_16 : decode cX7_endSort 16 = .ok (.aload_n 0, 1) := by decide +kernel
theorem dX7_endSort_17 : decode cX7_endSort 17 = .ok (.getfield 160, 3) := by decide +kernel
theorem dX7_endSort_20 : decode cX7_endSort 20 = .ok (.iaload, 1) := by decide +kernel
theorem dX7_endSort_21 : decode cX7_endSort 21 = .ok (.goto 19, 3) := by decide +kernel
theorem dX7_endSort_24 : decode cX7_endSort 24 = .ok (.aload_n 0, 1) := by decide +kernel
theorem dX7_endSort_25 : decode cX7_endSort 25 = .ok (.iconst 0, 1) := by decide +kernel
theorem dX7_endSort_26 : decode cX7_endSort 26 = .ok (.invokevirtual 258, 3) := by decide +kernel
theorem dX7_endSort_29 : decode cX7_endSort 29 = .ok (.bipush 14, 2) := by decide +kernel
theorem dX7_endSort_31 : decode cX7_endSort 31 = .ok (.if_icmp .ne 8, 3) := by decide +kernel
theorem dX7_endSort_34 : decode cX7_endSort 34 = .ok (.bipush 7, 2) := by decide +kernel
theorem dX7_endSort_36 : decode cX7_endSort 36 = .ok (.goto 4, 3) := by decide +kernel
theorem dX7_endSort_39 : decode cX7_endSort 39 = .ok (.iconst 0, 1) := by decide +kernel
theorem dX7_endSort_40 : decode cX7_endSort 40 = .ok (.ireturn, 1) := by decide +kernel
theorem dX7_keepRoll_0 : decode cX7_keepRoll 0 = .ok (.aload_n 0, 1) := by decide +kernel
theorem dX7_keepRoll_1 : decode cX7_keepRoll 1 = .ok (.aload_n 0, 1) := by decide +kernel
theorem dX7_keepRoll_2 : decode cX7_keepRoll 2 = .ok (.getfield 160, 3) := by decide +kernel
theorem dX7_keepRoll_5 : decode cX7_keepRoll 5 = .ok (.putfield 202, 3) := by decide +kernel
theorem dX7_keepRoll_8 : decode cX7_keepRoll 8 = .ok (.aload_n 0, 1) := by decide +kernel
theorem dX7_keepRoll_9 : decode cX7_keepRoll 9 = .ok (.aload_n 0, 1) := by decide +kernel
theorem dX7_keepRoll_10 : decode cX7_keepRoll 10 = .ok (.getfield 154, 3) := by decide +kernel
theorem dX7_keepRoll_13 : decode cX7_keepRoll 13 = .ok (.putfield 205, 3) := by decide +kernel
theorem dX7_keepRoll_16 : decode cX7_keepRoll 16 = .ok (.iconst 0, 1) := by decide +kernel
theorem dX7_keepRoll_17 : decode cX7_keepRoll 17 = .ok (.istore_n 1, 1) := by decide +kernel
theorem dX7_keepRoll_18 : decode cX7_keepRoll 18 = .ok (.iload_n 1, 1) := by decide +kernel
theorem dX7_keepRoll_19 : decode cX7_keepRoll 19 = .ok (.aload_n 0, 1) := by decide +kernel
theorem dX7_keepRoll_20 : decode cX7_keepRoll 20 = .ok (.getfield 160, 3) := by decide +kernel
theorem dX7_keepRoll_23 : decode cX7_keepRoll 23 = .ok (.if_icmp .ge 21, 3) := by decide +kernel
theorem dX7_keepRoll_26 : decode cX7_keepRoll 26 = .ok (.aload_n 0, 1) := by decide +kernel
theorem dX7_keepRoll_27 : decode cX7_keepRoll 27 = .ok (.getfield 199, 3) := by decide +kernel
theorem dX7_keepRoll_30 : decode cX7_keepRoll 30 = .ok (.iload_n 1, 1) := by decide +kernel
theorem dX7_keepRoll_31 : decode cX7_keepRoll 31 = .ok (.aload_n 0, 1) := by decide +kernel
theorem dX7_keepRoll_32 : decode cX7_keepRoll 32 = .ok (.getfield 163, 3) := by decide +kernel
theorem dX7_keepRoll_35 : decode cX7_keepRoll 35 = .ok (.iload_n 1, 1) := by decide +kernel
theorem dX7_keepRoll_36 : decode cX7_keepRoll 36 = .ok (.iaload, 1) := by decide +kernel
theorem dX7_keepRoll_37 : decode cX7_keepRoll 37 = .ok (.iastore, 1) := by decide +kernel
theorem dX7_keepRoll_38 : decode cX7_keepRoll 38 = .ok (.iinc 1 1, 3) := by decide +kernel
theorem dX7_keepRoll_41 : decode cX7_keepRoll 41 = .ok (.goto (-23), 3) := by decide +kernel
theorem dX7_keepRoll_44 : decode cX7_keepRoll 44 = .ok (.return_, 1) := by decide +kernel
theorem dX7_beginBy_0 : decode cX7_beginBy 0 = .ok (.aload_n 0, 1) := by decide +kernel
theorem dX7_beginBy_1 : decode cX7_beginBy 1 = .ok (.iload_n 1, 1) := by decide +kernel
theorem dX7_beginBy_2 : decode cX7_beginBy 2 = .ok (.putfield 154, 3) := by decide +kernel
theorem dX7_beginBy_5 : decode cX7_beginBy 5 = .ok (.aload_n 0, 1) := by decide +kernel
theorem dX7_beginBy_6 : decode cX7_beginBy 6 = .ok (.invokevirtual 236, 3) := by decide +kernel
theorem dX7_beginBy_9 : decode cX7_beginBy 9 = .ok (.return_, 1) := by decide +kernel
theorem dX7_putBack_0 : decode cX7_putBack 0 = .ok (.aload_n 0, 1) := by decide +kernel
theorem dX7_putBack_1 : decode cX7_putBack 1 = .ok (.iconst (-1), 1) := by decide +kernel
theorem dX7_putBack_2 : decode cX7_putBack 2 = .ok (.putfield 157, 3) := by decide +kernel
theorem dX7_putBack_5 : decode cX7_putBack 5 = .ok (.aload_n 0, 1) := by decide +kernel
theorem dX7_putBack_6 : decode cX7_putBack 6 = .ok (.aload_n 0, 1) := by decide +kernel
theorem dX7_putBack_7 : decode cX7_putBack 7 = .ok (.getfield 205, 3) := by decide +kernel
theorem dX7_putBack_10 : decode cX7_putBack 10 = .ok (.invokevirtual 261, 3) := by decide +kernel
theorem dX7_putBack_13 : decode cX7_putBack 13 = .ok (.iconst 0, 1) := by decide +kernel
theorem dX7_putBack_14 : decode cX7_putBack 14 = .ok (.istore_n 1, 1) := by decide +kernel
theorem dX7_putBack_15 : decode cX7_putBack 15 = .ok (.iload_n 1, 1) := by decide +kernel
theorem dX7_putBack_16 : decode cX7_putBack 16 = .ok (.aload_n 0, 1) := by decide +kernel
theorem dX7_putBack_17 : decode cX7_putBack 17 = .ok (.getfield 202, 3) := by decide +kernel
theorem dX7_putBack_20 : decode cX7_putBack 20 = .ok (.if_icmp .ge 19, 3) := by decide +kernel
theorem dX7_putBack_23 : decode cX7_putBack 23 = .ok (.aload_n 0, 1) := by decide +kernel
theorem dX7_putBack_24 : decode cX7_putBack 24 = .ok (.aload_n 0, 1) := by decide +kernel
theorem dX7_putBack_25 : decode cX7_putBack 25 = .ok (.getfield 199, 3) := by decide +kernel
theorem dX7_putBack_28 : decode cX7_putBack 28 = .ok (.iload_n 1, 1) := by decide +kernel
theorem dX7_putBack_29 : decode cX7_putBack 29 = .ok (.iaload, 1) := by decide +kernel
theorem dX7_putBack_30 : decode cX7_putBack 30 = .ok (.invokevirtual 264, 3) := by decide +kernel
theorem dX7_putBack_33 : decode cX7_putBack 33 = .ok (.iinc 1 1, 3) := by decide +kernel
theorem dX7_putBack_36 : decode cX7_putBack 36 = .ok (.goto (-21), 3) := by decide +kernel
theorem dX7_putBack_39 : decode cX7_putBack 39 = .ok (.return_, 1) := by decide +kernel
theorem dX7_begin_0 : decode cX7_begin 0 = .ok (.aload_n 0, 1) := by decide +kernel
theorem dX7_begin_1 : decode cX7_begin 1 = .ok (.iload_n 1, 1) := by decide +kernel
theorem dX7_begin_2 : decode cX7_begin 2 = .ok (.invokevirtual 267, 3) := by decide +kernel
theorem dX7_begin_5 : decode cX7_begin 5 = .ok (.ifCond .ne 5, 3) := by decide +kernel
theorem dX7_begin_8 : decode cX7_begin 8 = .ok (.iconst (-1), 1) := by decide +kernel
theorem dX7_begin_9 : decode cX7_begin 9 = .ok (.ireturn, 1) := by decide +kernel
theorem dX7_begin_10 : decode cX7_begin 10 = .ok (.aload_n 0, 1) := by decide +kernel
theorem dX7_begin_11 : decode cX7_begin 11 = .ok (.iload_n 1, 1) := by decide +kernel
theorem dX7_begin_12 : decode cX7_begin 12 = .ok (.invokevirtual 261, 3) := by decide +kernel
theorem dX7_begin_15 : decode cX7_begin 15 = .ok (.iconst 1, 1) := by decide +kernel
theorem dX7_begin_16 : decode cX7_begin 16 = .ok (.ireturn, 1) := by decide +kernel
theorem dX7_may_0 : decode cX7_may 0 = .ok (.aload_n 0, 1) := by decide +kernel
theorem dX7_may_1 : decode cX7_may 1 = .ok (.iload_n 1, 1) := by decide +kernel
theorem dX7_may_2 : decode cX7_may 2 = .ok (.invokevirtual 270, 3) := by decide +kernel
theorem dX7_may_5 : decode cX7_may 5 = .ok (.ifCond .ne 8, 3) := by decide +kernel
theorem dX7_may_8 : decode cX7_may 8 = .ok (.bipush (-2), 2) := by decide +kernel
theorem dX7_may_10 : decode cX7_may 10 = .ok (.goto 16, 3) := by decide +kernel
theorem dX7_may_13 : decode cX7_may 13 = .ok (.aload_n 0, 1) := by decide +kernel
theorem dX7_may_14 : decode cX7_may 14 = .ok (.iload_n 1, 1) := by decide +kernel
theorem dX7_may_15 : decode cX7_may 15 = .ok (.invokevirtual 255, 3) := by decide +kernel
theorem dX7_may_18 : decode cX7_may 18 = .ok (.ifCond .eq 7, 3) := by decide +kernel
theorem dX7_may_21 : decode cX7_may 21 = .ok (.iconst 1, 1) := by decide +kernel
theorem dX7_may_22 : decode cX7_may 22 = .ok (.goto 4, 3) := by decide +kernel
theorem dX7_may_25 : decode cX7_may 25 = .ok (.iconst 0, 1) := by decide +kernel
theorem dX7_may_26 : decode cX7_may 26 = .ok (.ireturn, 1) := by decide +kernel
theorem dX7_plead_0 : decode cX7_plead 0 = .ok (.aload_n 0, 1) := by decide +kernel
theorem dX7_plead_1 : decode cX7_plead 1 = .ok (.iload_n 1, 1) := by decide +kernel
theorem dX7_plead_2 : decode cX7_plead 2 = .ok (.invokevirtual 270, 3) := by decide +kernel
theorem dX7_plead_5 : decode cX7_plead 5 = .ok (.ifCond .ne 6, 3) := by decide +kernel
theorem dX7_plead_8 : decode cX7_plead 8 = .ok (.bipush (-2), 2) := by decide +kernel
theorem dX7_plead_10 : decode cX7_plead 10 = .ok (.ireturn, 1) := by decide +kernel
theorem dX7_plead_11 : decode cX7_plead 11 = .ok (.aload_n 0, 1) := by decide +kernel
theorem dX7_plead_12 : decode cX7_plead 12 = .ok (.iload_n 1, 1) := by decide +kernel
theorem dX7_plead_13 : decode cX7_plead 13 = .ok (.invokevirtual 255, 3) := by decide +kernel
theorem dX7_plead_16 : decode cX7_plead 16 = .ok (.ifCond .ne 6, 3) := by decide +kernel
theorem dX7_plead_19 : decode cX7_plead 19 = .ok (.bipush (-3), 2) := by decide +kernel
theorem dX7_plead_21 : decode cX7_plead 21 = .ok (.ireturn, 1) := by decide +kernel
theorem dX7_plead_22 : decode cX7_plead 22 = .ok (.aload_n 0, 1) := by decide +kernel
theorem dX7_plead_23 : decode cX7_plead 23 = .ok (.iload_n 1, 1) := by decide +kernel
theorem dX7_plead_24 : decode cX7_plead 24 = .ok (.invokevirtual 264, 3) := by decide +kernel
theorem dX7_plead_27 : decode cX7_plead 27 = .ok (.aload_n 0, 1) := by decide +kernel
theorem dX7_plead_28 : decode cX7_plead 28 = .ok (.getfield 160, 3) := by decide +kernel
theorem dX7_plead_31 : decode cX7_plead 31 = .ok (.ireturn, 1) := by decide +kernel
theorem dX7_back_0 : decode cX7_back 0 = .ok (.aload_n 0, 1) := by decide +kernel
theorem dX7_back_1 : decode cX7_back 1 = .ok (.getfield 160, 3) := by decide +kernel
theorem dX7_back_4 : decode cX7_back 4 = .ok (.ifCond .ne 6, 3) := by decide +kernel
theorem dX7_back_7 : decode cX7_back 7 = .ok (.bipush (-3), 2) := by decide +kernel
theorem dX7_back_9 : decode cX7_back 9 = .ok (.ireturn, 1) := by decide +kernel
theorem dX7_back_10 : decode cX7_back 10 = .ok (.aload_n 0, 1) := by decide +kernel
theorem dX7_back_11 : decode cX7_back 11 = .ok (.dup, 1) := by decide +kernel
theorem dX7_back_12 : decode cX7_back 12 = .ok (.getfield 160, 3) := by decide +kernel
theorem dX7_back_15 : decode cX7_back 15 = .ok (.iconst 1, 1) := by decide +kernel
theorem dX7_back_16 : decode cX7_back 16 = .ok (.isub, 1) := by decide +kernel
theorem dX7_back_17 : decode cX7_back 17 = .ok (.putfield 160, 3) := by decide +kernel
theorem dX7_back_20 : decode cX7_back 20 = .ok (.aload_n 0, 1) := by decide +kernel
theorem dX7_back_21 : decode cX7_back 21 = .ok (.getfield 160, 3) := by decide +kernel
theorem dX7_back_24 : decode cX7_back 24 = .ok (.ireturn, 1) := by decide +kernel
theorem dX7_stands_0 : decode cX7_stands 0 = .ok (.aload_n 0, 1) := by decide +kernel
theorem dX7_stands_1 : decode cX7_stands 1 = .ok (.iload_n 1, 1) := by decide +kernel
theorem dX7_stands_2 : decode cX7_stands 2 = .ok (.bipush 10, 2) := by decide +kernel
theorem dX7_stands_4 : decode cX7_stands 4 = .ok (.bipush 9, 2) := by decide +kernel
theorem dX7_stands_6 : decode cX7_stands 6 = .ok (.aload_n 0, 1) := by decide +kernel
theorem dX7_stands_7 : decode cX7_stands 7 = .ok (.getfield 160, 3) := by decide +kernel
theorem dX7_stands_10 : decode cX7_stands 10 = .ok (.iadd, 1) := by decide +kernel
theorem dX7_stands_11 : decode cX7_stands 11 = .ok (.invokevirtual 1, 3) := by decide +kernel
theorem dX7_stands_14 : decode cX7_stands 14 = .ok (.ifCond .eq 13, 3) := by decide +kernel
theorem dX7_stands_17 : decode cX7_stands 17 = .ok (.aload_n 0, 1) := by decide +kernel
theorem dX7_stands_18 : decode cX7_stands 18 = .ok (.getfield 163, 3) := by decide +kernel
theorem dX7_stands_21 : decode cX7_stands 21 = .ok (.iload_n 1, 1) := by decide +kernel
theorem dX7_stands_22 : decode cX7_stands 22 = .ok (.bipush 10, 2) := by decide +kernel
theorem dX7_stands_24 : decode cX7_stands 24 = .ok (.isub, 1) := by decide +kernel
theorem dX7_stands_25 : decode cX7_stands 25 = .ok (.iaload, 1) := by decide +kernel
theorem dX7_stands_26 : decode cX7_stands 26 = .ok (.ireturn, 1) := by decide +kernel
theorem dX7_stands_27 : decode cX7_stands 27 = .ok (.iload_n 1, 1) := by decide +kernel
theorem dX7_stands_28 : decode cX7_stands 28 = .ok (.tableswitch 89 0 4 #[36, 46, 56, 66, 84], 36) := by decide +kernel
theorem dX7_stands_64 : decode cX7_stands 64 = .ok (.aload_n 0, 1) := by decide +kernel
theorem dX7_stands_65 : decode cX7_stands 65 = .ok (.getfield 169, 3) := by decide +kernel
theorem dX7_stands_68 : decode cX7_stands 68 = .ok (.aload_n 0, 1) := by decide +kernel
theorem dX7_stands_69 : decode cX7_stands 69 = .ok (.getfield 160, 3) := by decide +kernel
theorem dX7_stands_72 : decode cX7_stands 72 = .ok (.iaload, 1) := by decide +kernel
theorem dX7_stands_73 : decode cX7_stands 73 = .ok (.ireturn, 1) := by decide +kernel
theorem dX7_stands_74 : decode cX7_stands 74 = .ok (.aload_n 0, 1) := by decide +kernel
theorem dX7_stands_75 : decode cX7_stands 75 = .ok (.getfield 172, 3) := by decide +kernel
theorem dX7_stands_78 : decode cX7_stands 78 = .ok (.aload_n 0, 1) := by decide +kernel
theorem dX7_stands_79 : decode cX7_stands 79 = .ok (.getfield 160, 3) := by decide +kernel
theorem dX7_stands_82 : decode cX7_stands 82 = .ok (.iaload, 1) := by decide +kernel
theorem dX7_stands_83 : decode cX7_stands 83 = .ok (.ireturn, 1) := by decide +kernel
theorem dX7_stands_84 : decode cX7_stands 84 = .ok (.aload_n 0, 1) := by decide +kernel
theorem dX7_stands_85 : decode cX7_stands 85 = .ok (.getfield 175, 3) := by decide +kernel
theorem dX7_stands_88 : decode cX7_stands 88 = .ok (.aload_n 0, 1) := by decide +kernel
theorem dX7_stands_89 : decode cX7_stands 89 = .ok (.getfield 160, 3) := by decide +kernel
theorem dX7_stands_92 : decode cX7_stands 92 = .ok (.iaload, 1) := by decide +kernel
theorem dX7_stands_93 : decode cX7_stands 93 = .ok (.ireturn, 1) := by decide +kernel
theorem dX7_stands_94 : decode cX7_stands 94 = .ok (.aload_n 0, 1) := by decide +kernel
theorem dX7_stands_95 : decode cX7_stands 95 = .ok (.getfield 190, 3) := by decide +kernel
theorem dX7_stands_98 : decode cX7_stands 98 = .ok (.aload_n 0, 1) := by decide +kernel
theorem dX7_stands_99 : decode cX7_stands 99 = .ok (.getfield 160, 3) := by decide +kernel
theorem dX7_stands_102 : decode cX7_stands 102 = .ok (.baload, 1) := by decide +kernel
theorem dX7_stands_103 : decode cX7_stands 103 = .ok (.ifCond .eq 7, 3) := by decide +kernel
theorem dX7_stands_106 : decode cX7_stands 106 = .ok (.iconst 1, 1) := by decide +kernel
theorem dX7_stands_107 : decode cX7_stands 107 = .ok (.goto 4, 3) := by decide +kernel
theorem dX7_stands_110 : decode cX7_stands 110 = .ok (.iconst 0, 1) := by decide +kernel
theorem dX7_stands_111 : decode cX7_stands 111 = .ok (.ireturn, 1) := by decide +kernel
theorem dX7_stands_112 : decode cX7_stands 112 = .ok (.aload_n 0, 1) := by decide +kernel
theorem dX7_stands_113 : decode cX7_stands 113 = .ok (.invokevirtual 273, 3) := by decide +kernel
theorem dX7_stands_116 : decode cX7_stands 116 = .ok (.ireturn, 1) := by decide +kernel
theorem dX7_stands_117 : decode cX7_stands 117 = .ok (.iconst (-1), 1) := by decide +kernel
theorem dX7_stands_118 : decode cX7_stands 118 = .ok (.ireturn, 1) := by decide +kernel
theorem dX7_nextEnd_0 : decode cX7_nextEnd 0 = .ok (.iload_n 2, 1) := by decide +kernel
theorem dX7_nextEnd_1 : decode cX7_nextEnd 1 = .ok (.istore_n 3, 1) := by decide +kernel
theorem dX7_nextEnd_2 : decode cX7_nextEnd 2 = .ok (.iload_n 2, 1) := by decide +kernel
theorem dX7_nextEnd_3 : decode cX7_nextEnd 3 = .ok (.ifCond .eq 10, 3) := by decide +kernel
theorem dX7_nextEnd_6 : decode cX7_nextEnd 6 = .ok (.aload_n 0, 1) := by decide +kernel
theorem dX7_nextEnd_7 : decode cX7_nextEnd 7 = .ok (.getfield 208, 3) := by decide +kernel
theorem dX7_nextEnd_10 : decode cX7_nextEnd 10 = .ok (.iload_n 1, 1) := by decide +kernel
theorem dX7_nextEnd_11 : decode cX7_nextEnd 11 = .ok (.iconst 0, 1) := by decide +kernel
theorem dX7_nextEnd_12 : decode cX7_nextEnd 12 = .ok (.iastore, 1) := by decide +kernel
theorem dX7_nextEnd_13 : decode cX7_nextEnd 13 = .ok (.iload_n 2, 1) := by decide +kernel
theorem dX7_nextEnd_14 : decode cX7_nextEnd 14 = .ok (.ifCond .ne 13, 3) := by decide +kernel
theorem dX7_nextEnd_17 : decode cX7_nextEnd 17 = .ok (.aload_n 0, 1) := by decide +kernel
theorem dX7_nextEnd_18 : decode cX7_nextEnd 18 = .ok (.getfield 160, 3) := by decide +kernel
theorem dX7_nextEnd_21 : decode cX7_nextEnd 21 = .ok (.iload_n 1, 1) := by decide +kernel
theorem dX7_nextEnd_22 : decode cX7_nextEnd 22 = .ok (.if_icmp .ne 5, 3) := by decide +kernel
theorem dX7_nextEnd_25 : decode cX7_nextEnd 25 = .ok (.iconst 0, 1) := by decide +kernel
theorem dX7_nextEnd_26 : decode cX7_nextEnd 26 = .ok (.ireturn, 1) := by decide +kernel
theorem dX7_nextEnd_27 : decode cX7_nextEnd 27 = .ok (.iload_n 2, 1) := by decide +kernel
theorem dX7_nextEnd_28 : decode cX7_nextEnd 28 = .ok (.ifCond .ne 13, 3) := by decide +kernel
theorem dX7_nextEnd_31 : decode cX7_nextEnd 31 = .ok (.aload_n 0, 1) := by decide +kernel
theorem dX7_nextEnd_32 : decode cX7_nextEnd 32 = .ok (.dup, 1) := by decide +kernel
theorem dX7_nextEnd_33 : decode cX7_nextEnd 33 = .ok (.getfield 160, 3) := by decide +kernel
theorem dX7_nextEnd_36 : decode cX7_nextEnd 36 = .ok (.iconst 1, 1) := by decide +kernel
theorem dX7_nextEnd_37 : decode cX7_nextEnd 37 = .ok (.isub, 1) := by decide +kernel
theorem dX7_nextEnd_38 : decode cX7_nextEnd 38 = .ok (.putfield 160, 3) := by decide +kernel
theorem dX7_nextEnd_41 : decode cX7_nextEnd 41 = .ok (.aload_n 0, 1) := by decide +kernel
theorem dX7_nextEnd_42 : decode cX7_nextEnd 42 = .ok (.aload_n 0, 1) := by decide +kernel
theorem dX7_nextEnd_43 : decode cX7_nextEnd 43 = .ok (.getfield 208, 3) := by decide +kernel
theorem dX7_nextEnd_46 : decode cX7_nextEnd 46 = .ok (.aload_n 0, 1) := by decide +kernel
theorem dX7_nextEnd_47 : decode cX7_nextEnd 47 = .ok (.getfield 160, 3) := by decide +kernel
theorem dX7_nextEnd_50 : decode cX7_nextEnd 50 = .ok (.iaload, 1) := by decide +kernel
theorem dX7_nextEnd_51 : decode cX7_nextEnd 51 = .ok (.invokevirtual 258, 3) := by decide +kernel
theorem dX7_nextEnd_54 : decode cX7_nextEnd 54 = .ok (.istore 4, 2) := by decide +kernel
theorem dX7_nextEnd_56 : decode cX7_nextEnd 56 = .ok (.iload 4, 2) := by decide +kernel
theorem dX7_nextEnd_58 : decode cX7_nextEnd 58 = .ok (.bipush 14, 2) := by decide +kernel
theorem dX7_nextEnd_60 : decode cX7_nextEnd 60 = .ok (.if_icmp .ge 42, 3) := by decide +kernel
theorem dX7_nextEnd_63 : decode cX7_nextEnd 63 = .ok (.aload_n 0, 1) := by decide +kernel
theorem dX7_nextEnd_64 : decode cX7_nextEnd 64 = .ok (.getfield 208, 3) := by decide +kernel
theorem dX7_nextEnd_67 : decode cX7_nextEnd 67 = .ok (.aload_n 0, 1) := by decide +kernel
theorem dX7_nextEnd_68 : decode cX7_nextEnd 68 = .ok (.getfield 160, 3) := by decide +kernel
theorem dX7_nextEnd_71 : decode cX7_nextEnd 71 = .ok (.iload 4, 2) := by decide +kernel
theorem dX7_nextEnd_73 : decode cX7_nextEnd 73 = .ok (.iconst 1, 1) := by decide +kernel
theorem dX7_nextEnd_74 : decode cX7_nextEnd 74 = .ok (.iadd, 1) := by decide +kernel
theorem dX7_nextEnd_75 : decode cX7_nextEnd 75 = .ok (.iastore, 1) := by decide +kernel
theorem dX7_nextEnd_76 : decode cX7_nextEnd 76 = .ok (.aload_n 0, 1) := by decide +kernel
theorem dX7_nextEnd_77 : decode cX7_nextEnd 77 = .ok (.aload_n 0, 1) := by decide +kernel
theorem dX7_nextEnd_78 : decode cX7_nextEnd 78 = .ok (.getfield 196, 3) := by decide +kernel
theorem dX7_nextEnd_81 : decode cX7_nextEnd 81 = .ok (.iload 4, 2) := by decide +kernel
theorem dX7_nextEnd_83 : decode cX7_nextEnd 83 = .ok (.iaload, 1) := by decide +kernel
theorem dX7_nextEnd_84 : decode cX7_nextEnd 84 = .ok (.invokevirtual 264, 3) := by decide +kernel
theorem dX7_nextEnd_87 : decode cX7_nextEnd 87 = .ok (.aload_n 0, 1) := by decide +kernel
theorem dX7_nextEnd_88 : decode cX7_nextEnd 88 = .ok (.getfield 208, 3) := by decide +kernel
theorem dX7_nextEnd_91 : decode cX7_nextEnd 91 = .ok (.aload_n 0, 1) := by decide +kernel
theorem dX7_nextEnd_92 : decode cX7_nextEnd 92 = .ok (.getfield 160, 3) := by decide +kernel
theorem dX7_nextEnd_95 : decode cX7_nextEnd 95 = .ok (.iconst 0, 1) := by decide +kernel
theorem dX7_nextEnd_96 : decode cX7_nextEnd 96 = .ok (.iastore, 1) := by decide +kernel
theorem dX7_nextEnd_97 : decode cX7_nextEnd 97 = .ok (.iconst 1, 1) := by decide +kernel
theorem dX7_nextEnd_98 : decode cX7_nextEnd 98 = .ok (.istore_n 3, 1) := by decide +kernel
theorem dX7_nextEnd_99 : decode cX7_nextEnd 99 = .ok (.goto (-58), 3) := by decide +kernel
theorem dX7_nextEnd_102 : decode cX7_nextEnd 102 = .ok (.iload_n 3, 1) := by decide +kernel
theorem dX7_nextEnd_103 : decode cX7_nextEnd 103 = .ok (.ifCond .eq 5, 3) := by decide +kernel
theorem dX7_nextEnd_106 : decode cX7_nextEnd 106 = .ok (.iconst 1, 1) := by decide +kernel
theorem dX7_nextEnd_107 : decode cX7_nextEnd 107 = .ok (.ireturn, 1) := by decide +kernel
theorem dX7_nextEnd_108 : decode cX7_nextEnd 108 = .ok (.aload_n 0, 1) := by decide +kernel
theorem dX7_nextEnd_109 : decode cX7_nextEnd 109 = .ok (.getfield 160, 3) := by decide +kernel
theorem dX7_nextEnd_112 : decode cX7_nextEnd 112 = .ok (.iload_n 1, 1) := by decide +kernel
theorem dX7_nextEnd_113 : decode cX7_nextEnd 113 = .ok (.if_icmp .ne 5, 3) := by decide +kernel
theorem dX7_nextEnd_116 : decode cX7_nextEnd 116 = .ok (.iconst 0, 1) := by decide +kernel
theorem dX7_nextEnd_117 : decode cX7_nextEnd 117 = .ok (.ireturn, 1) := by decide +kernel
theorem dX7_nextEnd_118 : decode cX7_nextEnd 118 = .ok (.aload_n 0, 1) := by decide +kernel
theorem dX7_nextEnd_119 : decode cX7_nextEnd 119 = .ok (.dup, 1) := by decide +kernel
theorem dX7_nextEnd_120 : decode cX7_nextEnd 120 = .ok (.getfield 160, 3) := by decide +kernel
theorem dX7_nextEnd_123 : decode cX7_nextEnd 123 = .ok (.iconst 1, 1) := by decide +kernel
theorem dX7_nextEnd_124 : decode cX7_nextEnd 124 = .ok (.isub, 1) := by decide +kernel
theorem dX7_nextEnd_125 : decode cX7_nextEnd 125 = .ok (.putfield 160, 3) := by decide +kernel
theorem dX7_nextEnd_128 : decode cX7_nextEnd 128 = .ok (.goto (-87), 3) := by decide +kernel
theorem dX7_ends_0 : decode cX7_ends 0 = .ok (.aload_n 0, 1) := by decide +kernel
theorem dX7_ends_1 : decode cX7_ends 1 = .ok (.iload_n 1, 1) := by decide +kernel
theorem dX7_ends_2 : decode cX7_ends 2 = .ok (.iconst 0, 1) := by decide +kernel
theorem dX7_ends_3 : decode cX7_ends 3 = .ok (.iconst 1, 1) := by decide +kernel
theorem dX7_ends_4 : decode cX7_ends 4 = .ok (.invokevirtual 1, 3) := by decide +kernel
theorem dX7_ends_7 : decode cX7_ends 7 = .ok (.ifCond .ne 21, 3) := by decide +kernel
theorem dX7_ends_10 : decode cX7_ends 10 = .ok (.iload_n 1, 1) := by decide +kernel
theorem dX7_ends_11 : decode cX7_ends 11 = .ok (.iconst 3, 1) := by decide +kernel
theorem dX7_ends_12 : decode cX7_ends 12 = .ok (.if_icmp .eq 16, 3) := by decide +kernel
theorem dX7_ends_15 : decode cX7_ends 15 = .ok (.iload_n 1, 1) := by decide +kernel
theorem dX7_ends_16 : decode cX7_ends 16 = .ok (.iconst 4, 1) := by decide +kernel
theorem dX7_ends_17 : decode cX7_ends 17 = .ok (.if_icmp .eq 11, 3) := by decide +kernel
theorem dX7_ends_20 : decode cX7_ends 20 = .ok (.iload_n 1, 1) := by decide +kernel
theorem dX7_ends_21 : decode cX7_ends 21 = .ok (.bipush 7, 2) := by decide +kernel
theorem dX7_ends_23 : decode cX7_ends 23 = .ok (.if_icmp .eq 5, 3) := by decide +kernel
theorem dX7_ends_26 : decode cX7_ends 26 = .ok (.iconst (-1), 1) := by decide +kernel
theorem dX7_ends_27 : decode cX7_ends 27 = .ok (.ireturn, 1) := by decide +kernel
theorem dX7_ends_28 : decode cX7_ends 28 = .ok (.aload_n 0, 1) := by decide +kernel
theorem dX7_ends_29 : decode cX7_ends 29 = .ok (.getfield 160, 3) := by decide +kernel
theorem dX7_ends_32 : decode cX7_ends 32 = .ok (.istore_n 2, 1) := by decide +kernel
theorem dX7_ends_33 : decode cX7_ends 33 = .ok (.iconst 0, 1) := by decide +kernel
theorem dX7_ends_34 : decode cX7_ends 34 = .ok (.istore_n 3, 1) := by decide +kernel
theorem dX7_ends_35 : decode cX7_ends 35 = .ok (.aload_n 0, 1) := by decide +kernel
theorem dX7_ends_36 : decode cX7_ends 36 = .ok (.iload_n 2, 1) := by decide +kernel
theorem dX7_ends_37 : decode cX7_ends 37 = .ok (.iconst 1, 1) := by decide +kernel
theorem dX7_ends_38 : decode cX7_ends 38 = .ok (.invokevirtual 276, 3) := by decide +kernel
theorem dX7_ends_41 : decode cX7_ends 41 = .ok (.istore 4, 2) := by decide +kernel
theorem dX7_ends_43 : decode cX7_ends 43 = .ok (.iload 4, 2) := by decide +kernel
theorem dX7_ends_45 : decode cX7_ends 45 = .ok (.ifCond .eq 34, 3) := by decide +kernel
theorem dX7_ends_48 : decode cX7_ends 48 = .ok (.iload_n 3, 1) := by decide +kernel
theorem dX7_ends_49 : decode cX7_ends 49 = .ok (.iload_n 1, 1) := by decide +kernel
theorem dX7_ends_50 : decode cX7_ends 50 = .ok (.ifCond .eq 11, 3) := by decide +kernel
theorem dX7_ends_53 : decode cX7_ends 53 = .ok (.aload_n 0, 1) := by decide +kernel
theorem dX7_ends_54 : decode cX7_ends 54 = .ok (.invokevirtual 273, 3) := by decide +kernel
theorem dX7_ends_57 : decode cX7_ends 57 = .ok (.iload_n 1, 1) := by decide +kernel
theorem dX7_ends_58 : decode cX7_ends 58 = .ok (.if_icmp .ne 7, 3) := by decide +kernel
theorem dX7_ends_61 : decode cX7_ends 61 = .ok (.iconst 1, 1) := by decide +kernel
theorem dX7_ends_62 : decode cX7_ends 62 = .ok (.goto 4, 3) := by decide +kernel
theorem dX7_ends_65 : decode cX7_ends 65 = .ok (.iconst 0, 1) := by decide +kernel
theorem dX7_ends_66 : decode cX7_ends 66 = .ok (.iadd, 1) := by decide +kernel
theorem dX7_ends_67 : decode cX7_ends 67 = .ok (.istore_n 3, 1) := by decide +kernel
theorem dX7_ends_68 : decode cX7_ends 68 = .ok (.aload_n 0, 1) := by decide +kernel
theorem dX7_ends_69 : decode cX7_ends 69 = .ok (.iload_n 2, 1) := by decide +kernel
theorem dX7_ends_70 : decode cX7_ends 70 = .ok (.iconst 0, 1) := by decide +kernel
theorem dX7_ends_71 : decode cX7_ends 71 = .ok (.invokevirtual 276, 3) := by decide +kernel
theorem dX7_ends_74 : decode cX7_ends 74 = .ok (.istore 4, 2) := by decide +kernel
theorem dX7_ends_76 : decode cX7_ends 76 = .ok (.goto (-33), 3) := by decide +kernel
theorem dX7_ends_79 : decode cX7_ends 79 = .ok (.iload_n 3, 1) := by decide +kernel
theorem dX7_ends_80 : decode cX7_ends 80 = .ok (.ireturn, 1) := by decide +kernel
theorem dX7_row_0 : decode cX7_row 0 = .ok (.aload_n 0, 1) := by decide +kernel
theorem dX7_row_1 : decode cX7_row 1 = .ok (.getfield 160, 3) := by decide +kernel
theorem dX7_row_4 : decode cX7_row 4 = .ok (.istore_n 3, 1) := by decide +kernel
theorem dX7_row_5 : decode cX7_row 5 = .ok (.iconst 0, 1) := by decide +kernel
theorem dX7_row_6 : decode cX7_row 6 = .ok (.istore 4, 2) := by decide +kernel
theorem dX7_row_8 : decode cX7_row 8 = .ok (.iconst (-1), 1) := by decide +kernel
theorem dX7_row_9 : decode cX7_row 9 = .ok (.istore 5, 2) := by decide +kernel
theorem dX7_row_11 : decode cX7_row 11 = .ok (.aload_n 0, 1) := by decide +kernel
theorem dX7_row_12 : decode cX7_row 12 = .ok (.iload_n 3, 1) := by decide +kernel
theorem dX7_row_13 : decode cX7_row 13 = .ok (.iconst 1, 1) := by decide +kernel
theorem dX7_row_14 : decode cX7_row 14 = .ok (.invokevirtual 276, 3) := by decide +kernel
theorem dX7_row_17 : decode cX7_row 17 = .ok (.istore 6, 2) := by decide +kernel
theorem dX7_row_19 : decode cX7_row 19 = .ok (.iload 6, 2) := by decide +kernel
theorem dX7_row_21 : decode cX7_row 21 = .ok (.ifCond .eq 65, 3) := by decide +kernel
theorem dX7_row_24 : decode cX7_row 24 = .ok (.iload 4, 2) := by decide +kernel
theorem dX7_row_26 : decode cX7_row 26 = .ok (.iload_n 1, 1) := by decide +kernel
theorem dX7_row_27 : decode cX7_row 27 = .ok (.if_icmp .ne 45, 3) := by decide +kernel
theorem dX7_row_30 : decode cX7_row 30 = .ok (.iload_n 2, 1) := by decide +kernel
theorem dX7_row_31 : decode cX7_row 31 = .ok (.iconst (-1), 1) := by decide +kernel
theorem dX7_row_32 : decode cX7_row 32 = .ok (.if_icmp .ne 12, 3) := by decide +kernel
theorem dX7_row_35 : decode cX7_row 35 = .ok (.aload_n 0, 1) := by decide +kernel
theorem dX7_row_36 : decode cX7_row 36 = .ok (.getfield 160, 3) := by decide +kernel
theorem dX7_row_39 : decode cX7_row 39 = .ok (.iload_n 3, 1) := by decide +kernel
theorem dX7_row_40 : decode cX7_row 40 = .ok (.isub, 1) := by decide +kernel
theorem dX7_row_41 : decode cX7_row 41 = .ok (.goto 29, 3) := by decide +kernel
theorem dX7_row_44 : decode cX7_row 44 = .ok (.iload_n 2, 1) := by decide +kernel
theorem dX7_row_45 : decode cX7_row 45 = .ok (.ifCond .lt 24, 3) := by decide +kernel
theorem dX7_row_48 : decode cX7_row 48 = .ok (.iload_n 2, 1) := by decide +kernel
theorem dX7_row_49 : decode cX7_row 49 = .ok (.aload_n 0, 1) := by decide +kernel
theorem dX7_row_50 : decode cX7_row 50 = .ok (.getfield 160, 3) := by decide +kernel
theorem dX7_row_53 : decode cX7_row 53 = .ok (.iload_n 3, 1) := by decide +kernel
theorem dX7_row_54 : decode cX7_row 54 = .ok (.isub, 1) := by decide +kernel
theorem dX7_row_55 : decode cX7_row 55 = .ok (.if_icmp .ge 14, 3) := by decide +kernel
theorem dX7_row_58 : decode cX7_row 58 = .ok (.aload_n 0, 1) := by decide +kernel
theorem dX7_row_59 : decode cX7_row 59 = .ok (.getfield 163, 3) := by decide +kernel
theorem dX7_row_62 : decode cX7_row 62 = .ok (.iload_n 3, 1) := by decide +kernel
theorem dX7_row_63 : decode cX7_row 63 = .ok (.iload_n 2, 1) := by decide +kernel
theorem dX7_row_64 : decode cX7_row 64 = .ok (.iadd, 1) := by decide +kernel
theorem dX7_row_65 : decode cX7_row 65 = .ok (.iaload, 1) := by decide +kernel
theorem dX7_row_66 : decode cX7_row 66 = .ok (.goto 4, 3) := by decide +kernel
theorem dX7_row_69 : decode cX7_row 69 = .ok (.iconst (-1), 1) := by decide +kernel
theorem dX7_row_70 : decode cX7_row 70 = .ok (.istore 5, 2) := by decide +kernel
theorem dX7_row_72 : decode cX7_row 72 = .ok (.iinc 4 1, 3) := by decide +kernel
theorem dX7_row_75 : decode cX7_row 75 = .ok (.aload_n 0, 1) := by decide +kernel
theorem dX7_row_76 : decode cX7_row 76 = .ok (.iload_n 3, 1) := by decide +kernel
theorem dX7_row_77 : decode cX7_row 77 = .ok (.iconst 0, 1) := by decide +kernel
theorem dX7_row_78 : decode cX7_row 78 = .ok (.invokevirtual 276, 3) := by decide +kernel
theorem dX7_row_81 : decode cX7_row 81 = .ok (.istore 6, 2) := by decide +kernel
theorem dX7_row_83 : decode cX7_row 83 = .ok (.goto (-64), 3) := by decide +kernel
theorem dX7_row_86 : decode cX7_row 86 = .ok (.iload 5, 2) := by decide +kernel
theorem dX7_row_88 : decode cX7_row 88 = .ok (.ireturn, 1) := by decide +kernel
theorem dX7_worthOf_0 : decode cX7_worthOf 0 = .ok (.aload_n 0, 1) := by decide +kernel
theorem dX7_worthOf_1 : decode cX7_worthOf 1 = .ok (.getfield 160, 3) := by decide +kernel
theorem dX7_worthOf_4 : decode cX7_worthOf 4 = .ok (.istore_n 2, 1) := by decide +kernel
theorem dX7_worthOf_5 : decode cX7_worthOf 5 = .ok (.bipush 6, 2) := by decide +kernel
theorem dX7_worthOf_7 : decode cX7_worthOf 7 = .ok (.iload_n 1, 1) := by decide +kernel
theorem dX7_worthOf_8 : decode cX7_worthOf 8 = .ok (.imul, 1) := by decide +kernel
theorem dX7_worthOf_9 : decode cX7_worthOf 9 = .ok (.aload_n 0, 1) := by decide +kernel
theorem dX7_worthOf_10 : decode cX7_worthOf 10 = .ok (.getfield 169, 3) := by decide +kernel
theorem dX7_worthOf_13 : decode cX7_worthOf 13 = .ok (.iload_n 2, 1) := by decide +kernel
theorem dX7_worthOf_14 : decode cX7_worthOf 14 = .ok (.iaload, 1) := by decide +kernel
theorem dX7_worthOf_15 : decode cX7_worthOf 15 = .ok (.iadd, 1) := by decide +kernel
theorem dX7_worthOf_16 : decode cX7_worthOf 16 = .ok (.istore_n 3, 1) := by decide +kernel
theorem dX7_worthOf_17 : decode cX7_worthOf 17 = .ok (.iconst 1, 1) := by decide +kernel
theorem dX7_worthOf_18 : decode cX7_worthOf 18 = .ok (.aload_n 0, 1) := by decide +kernel
theorem dX7_worthOf_19 : decode cX7_worthOf 19 = .ok (.getfield 172, 3) := by decide +kernel
theorem dX7_worthOf_22 : decode cX7_worthOf 22 = .ok (.iload_n 2, 1) := by decide +kernel
theorem dX7_worthOf_23 : decode cX7_worthOf 23 = .ok (.iaload, 1) := by decide +kernel
theorem dX7_worthOf_24 : decode cX7_worthOf 24 = .ok (.isub, 1) := by decide +kernel
theorem dX7_worthOf_25 : decode cX7_worthOf 25 = .ok (.istore 4, 2) := by decide +kernel
theorem dX7_worthOf_27 : decode cX7_worthOf 27 = .ok (.iload 4, 2) := by decide +kernel
theorem dX7_worthOf_29 : decode cX7_worthOf 29 = .ok (.ifCond .ne 22, 3) := by decide +kernel
theorem dX7_worthOf_32 : decode cX7_worthOf 32 = .ok (.aload_n 0, 1) := by decide +kernel
theorem dX7_worthOf_33 : decode cX7_worthOf 33 = .ok (.getfield 25, 3) := by decide +kernel
theorem dX7_worthOf_36 : decode cX7_worthOf 36 = .ok (.iload_n 3, 1) := by decide +kernel
theorem dX7_worthOf_37 : decode cX7_worthOf 37 = .ok (.iaload, 1) := by decide +kernel
theorem dX7_worthOf_38 : decode cX7_worthOf 38 = .ok (.bipush 10, 2) := by decide +kernel
theorem dX7_worthOf_40 : decode cX7_worthOf 40 = .ok (.iadd, 1) := by decide +kernel
theorem dX7_worthOf_41 : decode cX7_worthOf 41 = .ok (.aload_n 0, 1) := by decide +kernel
theorem dX7_worthOf_42 : decode cX7_worthOf 42 = .ok (.getfield 28, 3) := by decide +kernel
theorem dX7_worthOf_45 : decode cX7_worthOf 45 = .ok (.iload_n 3, 1) := by decide +kernel
theorem dX7_worthOf_46 : decode cX7_worthOf 46 = .ok (.iaload, 1) := by decide +kernel
theorem dX7_worthOf_47 : decode cX7_worthOf 47 = .ok (.isub, 1) := by decide +kernel
theorem dX7_worthOf_48 : decode cX7_worthOf 48 = .ok (.goto 19, 3) := by decide +kernel
theorem dX7_worthOf_51 : decode cX7_worthOf 51 = .ok (.aload_n 0, 1) := by decide +kernel
theorem dX7_worthOf_52 : decode cX7_worthOf 52 = .ok (.getfield 28, 3) := by decide +kernel
theorem dX7_worthOf_55 : decode cX7_worthOf 55 = .ok (.iload_n 3, 1) := by decide +kernel
theorem dX7_worthOf_56 : decode cX7_worthOf 56 = .ok (.iaload, 1) := by decide +kernel
theorem dX7_worthOf_57 : decode cX7_worthOf 57 = .ok (.bipush 10, 2) := by decide +kernel
theorem dX7_worthOf_59 : decode cX7_worthOf 59 = .ok (.iadd, 1) := by decide +kernel
theorem dX7_worthOf_60 : decode cX7_worthOf 60 = .ok (.aload_n 0, 1) := by decide +kernel
theorem dX7_worthOf_61 : decode cX7_worthOf 61 = .ok (.getfield 25, 3) := by decide +kernel
theorem dX7_worthOf_64 : decode cX7_worthOf 64 = .ok (.iload_n 3, 1) := by decide +kernel
theorem dX7_worthOf_65 : decode cX7_worthOf 65 = .ok (.iaload, 1) := by decide +kernel
theorem dX7_worthOf_66 : decode cX7_worthOf 66 = .ok (.isub, 1) := by decide +kernel
theorem dX7_worthOf_67 : decode cX7_worthOf 67 = .ok (.istore 5, 2) := by decide +kernel
theorem dX7_worthOf_69 : decode cX7_worthOf 69 = .ok (.aload_n 0, 1) := by decide +kernel
theorem dX7_worthOf_70 : decode cX7_worthOf 70 = .ok (.getfield 181, 3) := by decide +kernel
theorem dX7_worthOf_73 : decode cX7_worthOf 73 = .ok (.iload_n 2, 1) := by decide +kernel
theorem dX7_worthOf_74 : decode cX7_worthOf 74 = .ok (.iaload, 1) := by decide +kernel
theorem dX7_worthOf_75 : decode cX7_worthOf 75 = .ok (.tableswitch 105 1 4 #[29, 105, 45, 73], 29) := by decide +kernel
theorem dX7_worthOf_104 : decode cX7_worthOf 104 = .ok (.iload 4, 2) := by decide +kernel
theorem dX7_worthOf_106 : decode cX7_worthOf 106 = .ok (.ifCond .ne 8, 3) := by decide +kernel
theorem dX7_worthOf_109 : decode cX7_worthOf 109 = .ok (.iload 5, 2) := by decide +kernel
theorem dX7_worthOf_111 : decode cX7_worthOf 111 = .ok (.goto 8, 3) := by decide +kernel
theorem dX7_worthOf_114 : decode cX7_worthOf 114 = .ok (.bipush 20, 2) := by decide +kernel
theorem dX7_worthOf_116 : decode cX7_worthOf 116 = .ok (.iload 5, 2) := by decide +kernel
theorem dX7_worthOf_118 : decode cX7_worthOf 118 = .ok (.isub, 1) := by decide +kernel
theorem dX7_worthOf_119 : decode cX7_worthOf 119 = .ok (.ireturn, 1) := by decide +kernel
theorem dX7_worthOf_120 : decode cX7_worthOf 120 = .ok (.iload 4, 2) := by decide +kernel
theorem dX7_worthOf_122 : decode cX7_worthOf 122 = .ok (.ifCond .ne 14, 3) := by decide +kernel
theorem dX7_worthOf_125 : decode cX7_worthOf 125 = .ok (.iconst 2, 1) := by decide +kernel
theorem dX7_worthOf_126 : decode cX7_worthOf 126 = .ok (.aload_n 0, 1) := by decide +kernel
theorem dX7_worthOf_127 : decode cX7_worthOf 127 = .ok (.getfield 31, 3) := by decide +kernel
theorem dX7_worthOf_130 : decode cX7_worthOf 130 = .ok (.iload_n 3, 1) := by decide +kernel
theorem dX7_worthOf_131 : decode cX7_worthOf 131 = .ok (.iaload, 1) := by decide +kernel
theorem dX7_worthOf_132 : decode cX7_worthOf 132 = .ok (.imul, 1) := by decide +kernel
theorem dX7_worthOf_133 : decode cX7_worthOf 133 = .ok (.goto 14, 3) := by decide +kernel
theorem dX7_worthOf_136 : decode cX7_worthOf 136 = .ok (.bipush 20, 2) := by decide +kernel
theorem dX7_worthOf_138 : decode cX7_worthOf 138 = .ok (.iconst 2, 1) := by decide +kernel
theorem dX7_worthOf_139 : decode cX7_worthOf 139 = .ok (.aload_n 0, 1) := by decide +kernel
theorem dX7_worthOf_140 : decode cX7_worthOf 140 = .ok (.getfield 31, 3) := by decide +kernel
theorem dX7_worthOf_143 : decode cX7_worthOf 143 = .ok (.iload_n 3, 1) := by decide +kernel
theorem dX7_worthOf_144 : decode cX7_worthOf 144 = .ok (.iaload, 1) := by decide +kernel
theorem dX7_worthOf_145 : decode cX7_worthOf 145 = .ok (.imul, 1) := by decide +kernel
theorem dX7_worthOf_146 : decode cX7_worthOf 146 = .ok (.isub, 1) := by decide +kernel
theorem dX7_worthOf_147 : decode cX7_worthOf 147 = .ok (.ireturn, 1) := by decide +kernel
theorem dX7_worthOf_148 : decode cX7_worthOf 148 = .ok (.aload_n 0, 1) := by decide +kernel
theorem dX7_worthOf_149 : decode cX7_worthOf 149 = .ok (.getfield 172, 3) := by decide +kernel
theorem dX7_worthOf_152 : decode cX7_worthOf 152 = .ok (.iload_n 2, 1) := by decide +kernel
theorem dX7_worthOf_153 : decode cX7_worthOf 153 = .ok (.iaload, 1) := by decide +kernel
theorem dX7_worthOf_154 : decode cX7_worthOf 154 = .ok (.ifCond .ne 7, 3) := by decide +kernel
theorem dX7_worthOf_157 : decode cX7_worthOf 157 = .ok (.iconst 1, 1) := by decide +kernel
theorem dX7_worthOf_158 : decode cX7_worthOf 158 = .ok (.goto 4, 3) := by decide +kernel
theorem dX7_worthOf_161 : decode cX7_worthOf 161 = .ok (.iconst 0, 1) := by decide +kernel
theorem dX7_worthOf_162 : decode cX7_worthOf 162 = .ok (.aload_n 0, 1) := by decide +kernel
theorem dX7_worthOf_163 : decode cX7_worthOf 163 = .ok (.getfield 190, 3) := by decide +kernel
theorem dX7_worthOf_166 : decode cX7_worthOf 166 = .ok (.iload_n 2, 1) := by decide +kernel
theorem dX7_worthOf_167 : decode cX7_worthOf 167 = .ok (.iconst 1, 1) := by decide +kernel
theorem dX7_worthOf_168 : decode cX7_worthOf 168 = .ok (.isub, 1) := by decide +kernel
theorem dX7_worthOf_169 : decode cX7_worthOf 169 = .ok (.baload, 1) := by decide +kernel
theorem dX7_worthOf_170 : decode cX7_worthOf 170 = .ok (.if_icmp .ne 8, 3) := by decide +kernel
theorem dX7_worthOf_173 : decode cX7_worthOf 173 = .ok (.bipush 20, 2) := by decide +kernel
theorem dX7_worthOf_175 : decode cX7_worthOf 175 = .ok (.goto 4, 3) := by decide +kernel
theorem dX7_worthOf_178 : decode cX7_worthOf 178 = .ok (.iconst 0, 1) := by decide +kernel
theorem dX7_worthOf_179 : decode cX7_worthOf 179 = .ok (.ireturn, 1) := by decide +kernel
theorem dX7_worthOf_180 : decode cX7_worthOf 180 = .ok (.aload_n 0, 1) := by decide +kernel
theorem dX7_worthOf_181 : decode cX7_worthOf 181 = .ok (.getfield 172, 3) := by decide +kernel
theorem dX7_worthOf_184 : decode cX7_worthOf 184 = .ok (.iload_n 2, 1) := by decide +kernel
theorem dX7_worthOf_185 : decode cX7_worthOf 185 = .ok (.iaload, 1) := by decide +kernel
theorem dX7_worthOf_186 : decode cX7_worthOf 186 = .ok (.ifCond .ne 7, 3) := by decide +kernel
theorem dX7_worthOf_189 : decode cX7_worthOf 189 = .ok (.iconst 0, 1) := by decide +kernel
theorem dX7_worthOf_190 : decode cX7_worthOf 190 = .ok (.goto 5, 3) := by decide +kernel
theorem dX7_worthOf_193 : decode cX7_worthOf 193 = .ok (.bipush 20, 2) := by decide +kernel
theorem dX7_worthOf_195 : decode cX7_worthOf 195 = .ok (.ireturn, 1) := by decide +kernel
theorem dX7_worth_0 : decode cX7_worth 0 = .ok (.aload_n 0, 1) := by decide +kernel
theorem dX7_worth_1 : decode cX7_worth 1 = .ok (.iload_n 1, 1) := by decide +kernel
theorem dX7_worth_2 : decode cX7_worth 2 = .ok (.invokevirtual 34, 3) := by decide +kernel
theorem dX7_worth_5 : decode cX7_worth 5 = .ok (.ifCond .ne 5, 3) := by decide +kernel
theorem dX7_worth_8 : decode cX7_worth 8 = .ok (.iconst (-1), 1) := by decide +kernel
theorem dX7_worth_9 : decode cX7_worth 9 = .ok (.ireturn, 1) := by decide +kernel
theorem dX7_worth_10 : decode cX7_worth 10 = .ok (.aload_n 0, 1) := by decide +kernel
theorem dX7_worth_11 : decode cX7_worth 11 = .ok (.invokevirtual 273, 3) := by decide +kernel
theorem dX7_worth_14 : decode cX7_worth 14 = .ok (.ifCond .ne 8, 3) := by decide +kernel
theorem dX7_worth_17 : decode cX7_worth 17 = .ok (.bipush (-3), 2) := by decide +kernel
theorem dX7_worth_19 : decode cX7_worth 19 = .ok (.goto 8, 3) := by decide +kernel
theorem dX7_worth_22 : decode cX7_worth 22 = .ok (.aload_n 0, 1) := by decide +kernel
theorem dX7_worth_23 : decode cX7_worth 23 = .ok (.iload_n 1, 1) := by decide +kernel
theorem dX7_worth_24 : decode cX7_worth 24 = .ok (.invokevirtual 280, 3) := by decide +kernel
theorem dX7_worth_27 : decode cX7_worth 27 = .ok (.ireturn, 1) := by decide +kernel
theorem dX7_comesUp_0 : decode cX7_comesUp 0 = .ok (.aload_n 0, 1) := by decide +kernel
theorem dX7_comesUp_1 : decode cX7_comesUp 1 = .ok (.getfield 160, 3) := by decide +kernel
theorem dX7_comesUp_4 : decode cX7_comesUp 4 = .ok (.istore_n 3, 1) := by decide +kernel
theorem dX7_comesUp_5 : decode cX7_comesUp 5 = .ok (.aload_n 0, 1) := by decide +kernel
theorem dX7_comesUp_6 : decode cX7_comesUp 6 = .ok (.getfield 214, 3) := by decide +kernel
theorem dX7_comesUp_9 : decode cX7_comesUp 9 = .ok (.iload_n 3, 1) := by decide +kernel
theorem dX7_comesUp_10 : decode cX7_comesUp 10 = .ok (.iaload, 1) := by decide +kernel
theorem dX7_comesUp_11 : decode cX7_comesUp 11 = .ok (.ifCond .eq 35, 3) := by decide +kernel
theorem dX7_comesUp_14 : decode cX7_comesUp 14 = .ok (.aload_n 0, 1) := by decide +kernel
theorem dX7_comesUp_15 : decode cX7_comesUp 15 = .ok (.getfield 172, 3) := by decide +kernel
theorem dX7_comesUp_18 : decode cX7_comesUp 18 = .ok (.iload_n 3, 1) := by decide +kernel
theorem dX7_comesUp_19 : decode cX7_comesUp 19 = .ok (.iaload, 1) := by decide +kernel
theorem dX7_comesUp_20 : decode cX7_comesUp 20 = .ok (.ifCond .ne 16, 3) := by decide +kernel
theorem dX7_comesUp_23 : decode cX7_comesUp 23 = .ok (.iload_n 1, 1) := by decide +kernel
theorem dX7_comesUp_24 : decode cX7_comesUp 24 = .ok (.aload_n 0, 1) := by decide +kernel
theorem dX7_comesUp_25 : decode cX7_comesUp 25 = .ok (.getfield 211, 3) := by decide +kernel
theorem dX7_comesUp_28 : decode cX7_comesUp 28 = .ok (.iload_n 3, 1) := by decide +kernel
theorem dX7_comesUp_29 : decode cX7_comesUp 29 = .ok (.iaload, 1) := by decide +kernel
theorem dX7_comesUp_30 : decode cX7_comesUp 30 = .ok (.if_icmp .le 20, 3) := by decide +kernel
theorem dX7_comesUp_33 : decode cX7_comesUp 33 = .ok (.goto 13, 3) := by decide +kernel
theorem dX7_comesUp_36 : decode cX7_comesUp 36 = .ok (.iload_n 1, 1) := by decide +kernel
theorem dX7_comesUp_37 : decode cX7_comesUp 37 = .ok (.aload_n 0, 1) := by decide +kernel
theorem dX7_comesUp_38 : decode cX7_comesUp 38 = .ok (.getfield 211, 3) := by decide +kernel
theorem dX7_comesUp_41 : decode cX7_comesUp 41 = .ok (.iload_n 3, 1) := by decide +kernel
theorem dX7_comesUp_42 : decode cX7_comesUp 42 = .ok (.iaload, 1) := by decide +kernel
theorem dX7_comesUp_43 : decode cX7_comesUp 43 = .ok (.if_icmp .ge 7, 3) := by decide +kernel
theorem dX7_comesUp_46 : decode cX7_comesUp 46 = .ok (.iconst 1, 1) := by decide +kernel
theorem dX7_comesUp_47 : decode cX7_comesUp 47 = .ok (.goto 4, 3) := by decide +kernel
theorem dX7_comesUp_50 : decode cX7_comesUp 50 = .ok (.iconst 0, 1) := by decide +kernel
theorem dX7_comesUp_51 : decode cX7_comesUp 51 = .ok (.istore 4, 2) := by decide +kernel
theorem dX7_comesUp_53 : decode cX7_comesUp 53 = .ok (.iload 4, 2) := by decide +kernel
theorem dX7_comesUp_55 : decode cX7_comesUp 55 = .ok (.ifCond .ne 4, 3) := by decide +kernel
theorem dX7_comesUp_58 : decode cX7_comesUp 58 = .ok (.return_, 1) := by decide +kernel
theorem dX7_comesUp_59 : decode cX7_comesUp 59 = .ok (.aload_n 0, 1) := by decide +kernel
theorem dX7_comesUp_60 : decode cX7_comesUp 60 = .ok (.getfield 211, 3) := by decide +kernel
theorem dX7_comesUp_63 : decode cX7_comesUp 63 = .ok (.iload_n 3, 1) := by decide +kernel
theorem dX7_comesUp_64 : decode cX7_comesUp 64 = .ok (.iload_n 1, 1) := by decide +kernel
theorem dX7_comesUp_65 : decode cX7_comesUp 65 = .ok (.iastore, 1) := by decide +kernel
theorem dX7_comesUp_66 : decode cX7_comesUp 66 = .ok (.aload_n 0, 1) := by decide +kernel
theorem dX7_comesUp_67 : decode cX7_comesUp 67 = .ok (.getfield 214, 3) := by decide +kernel
theorem dX7_comesUp_70 : decode cX7_comesUp 70 = .ok (.iload_n 3, 1) := by decide +kernel
theorem dX7_comesUp_71 : decode cX7_comesUp 71 = .ok (.iload_n 2, 1) := by decide +kernel
theorem dX7_comesUp_72 : decode cX7_comesUp 72 = .ok (.iastore, 1) := by decide +kernel
theorem dX7_comesUp_73 : decode cX7_comesUp 73 = .ok (.return_, 1) := by decide +kernel
theorem dX7_valueOf_0 : decode cX7_valueOf 0 = .ok (.aload_n 0, 1) := by decide +kernel
theorem dX7_valueOf_1 : decode cX7_valueOf 1 = .ok (.getfield 160, 3) := by decide +kernel
theorem dX7_valueOf_4 : decode cX7_valueOf 4 = .ok (.istore_n 2, 1) := by decide +kernel
theorem dX7_valueOf_5 : decode cX7_valueOf 5 = .ok (.aload_n 0, 1) := by decide +kernel
theorem dX7_valueOf_6 : decode cX7_valueOf 6 = .ok (.getfield 208, 3) := by decide +kernel
theorem dX7_valueOf_9 : decode cX7_valueOf 9 = .ok (.iload_n 2, 1) := by decide +kernel
theorem dX7_valueOf_10 : decode cX7_valueOf 10 = .ok (.iconst 0, 1) := by decide +kernel
theorem dX7_valueOf_11 : decode cX7_valueOf 11 = .ok (.iastore, 1) := by decide +kernel
theorem dX7_valueOf_12 : decode cX7_valueOf 12 = .ok (.aload_n 0, 1) := by decide +kernel
theorem dX7_valueOf_13 : decode cX7_valueOf 13 = .ok (.getfield 214, 3) := by decide +kernel
theorem dX7_valueOf_16 : decode cX7_valueOf 16 = .ok (.iload_n 2, 1) := by decide +kernel
theorem dX7_valueOf_17 : decode cX7_valueOf 17 = .ok (.iconst 0, 1) := by decide +kernel
theorem dX7_valueOf_18 : decode cX7_valueOf 18 = .ok (.iastore, 1) := by decide +kernel
theorem dX7_valueOf_19 : decode cX7_valueOf 19 = .ok (.aload_n 0, 1) := by decide +kernel
theorem dX7_valueOf_20 : decode cX7_valueOf 20 = .ok (.aload_n 0, 1) := by decide +kernel
theorem dX7_valueOf_21 : decode cX7_valueOf 21 = .ok (.getfield 208, 3) := by decide +kernel
theorem dX7_valueOf_24 : decode cX7_valueOf 24 = .ok (.aload_n 0, 1) := by decide +kernel
theorem dX7_valueOf_25 : decode cX7_valueOf 25 = .ok (.getfield 160, 3) := by decide +kernel
theorem dX7_valueOf_28 : decode cX7_valueOf 28 = .ok (.iaload, 1) := by decide +kernel
theorem dX7_valueOf_29 : decode cX7_valueOf 29 = .ok (.invokevirtual 258, 3) := by decide +kernel
theorem dX7_valueOf_32 : decode cX7_valueOf 32 = .ok (.istore_n 3, 1) := by decide +kernel
theorem dX7_valueOf_33 : decode cX7_valueOf 33 = .ok (.iload_n 3, 1) := by decide +kernel
theorem dX7_valueOf_34 : decode cX7_valueOf 34 = .ok (.bipush 14, 2) := by decide +kernel
theorem dX7_valueOf_36 : decode cX7_valueOf 36 = .ok (.if_icmp .ge 48, 3) := by decide +kernel
theorem dX7_valueOf_39 : decode cX7_valueOf 39 = .ok (.aload_n 0, 1) := by decide +kernel
theorem dX7_valueOf_40 : decode cX7_valueOf 40 = .ok (.getfield 208, 3) := by decide +kernel
theorem dX7_valueOf_43 : decode cX7_valueOf 43 = .ok (.aload_n 0, 1) := by decide +kernel
theorem dX7_valueOf_44 : decode cX7_valueOf 44 = .ok (.getfield 160, 3) := by decide +kernel
theorem dX7_valueOf_47 : decode cX7_valueOf 47 = .ok (.iload_n 3, 1) := by decide +kernel
theorem dX7_valueOf_48 : decode cX7_valueOf 48 = .ok (.iconst 1, 1) := by decide +kernel
theorem dX7_valueOf_49 : decode cX7_valueOf 49 = .ok (.iadd, 1) := by decide +kernel
theorem dX7_valueOf_50 : decode cX7_valueOf 50 = .ok (.iastore, 1) := by decide +kernel
theorem dX7_valueOf_51 : decode cX7_valueOf 51 = .ok (.aload_n 0, 1) := by decide +kernel
theorem dX7_valueOf_52 : decode cX7_valueOf 52 = .ok (.aload_n 0, 1) := by decide +kernel
theorem dX7_valueOf_53 : decode cX7_valueOf 53 = .ok (.getfield 196, 3) := by decide +kernel
theorem dX7_valueOf_56 : decode cX7_valueOf 56 = .ok (.iload_n 3, 1) := by decide +kernel
theorem dX7_valueOf_57 : decode cX7_valueOf 57 = .ok (.iaload, 1) := by decide +kernel
theorem dX7_valueOf_58 : decode cX7_valueOf 58 = .ok (.invokevirtual 264, 3) := by decide +kernel
theorem dX7_valueOf_61 : decode cX7_valueOf 61 = .ok (.aload_n 0, 1) := by decide +kernel
theorem dX7_valueOf_62 : decode cX7_valueOf 62 = .ok (.getfield 208, 3) := by decide +kernel
theorem dX7_valueOf_65 : decode cX7_valueOf 65 = .ok (.aload_n 0, 1) := by decide +kernel
theorem dX7_valueOf_66 : decode cX7_valueOf 66 = .ok (.getfield 160, 3) := by decide +kernel
theorem dX7_valueOf_69 : decode cX7_valueOf 69 = .ok (.iconst 0, 1) := by decide +kernel
theorem dX7_valueOf_70 : decode cX7_valueOf 70 = .ok (.iastore, 1) := by decide +kernel
theorem dX7_valueOf_71 : decode cX7_valueOf 71 = .ok (.aload_n 0, 1) := by decide +kernel
theorem dX7_valueOf_72 : decode cX7_valueOf 72 = .ok (.getfield 214, 3) := by decide +kernel
theorem dX7_valueOf_75 : decode cX7_valueOf 75 = .ok (.aload_n 0, 1) := by decide +kernel
theorem dX7_valueOf_76 : decode cX7_valueOf 76 = .ok (.getfield 160, 3) := by decide +kernel
theorem dX7_valueOf_79 : decode cX7_valueOf 79 = .ok (.iconst 0, 1) := by decide +kernel
theorem dX7_valueOf_80 : decode cX7_valueOf 80 = .ok (.iastore, 1) := by decide +kernel
theorem dX7_valueOf_81 : decode cX7_valueOf 81 = .ok (.goto (-62), 3) := by decide +kernel
theorem dX7_valueOf_84 : decode cX7_valueOf 84 = .ok (.aload_n 0, 1) := by decide +kernel
theorem dX7_valueOf_85 : decode cX7_valueOf 85 = .ok (.getfield 214, 3) := by decide +kernel
theorem dX7_valueOf_88 : decode cX7_valueOf 88 = .ok (.aload_n 0, 1) := by decide +kernel
theorem dX7_valueOf_89 : decode cX7_valueOf 89 = .ok (.getfield 160, 3) := by decide +kernel
theorem dX7_valueOf_92 : decode cX7_valueOf 92 = .ok (.iaload, 1) := by decide +kernel
theorem dX7_valueOf_93 : decode cX7_valueOf 93 = .ok (.ifCond .ne 11, 3) := by decide +kernel
theorem dX7_valueOf_96 : decode cX7_valueOf 96 = .ok (.aload_n 0, 1) := by decide +kernel
theorem dX7_valueOf_97 : decode cX7_valueOf 97 = .ok (.iload_n 1, 1) := by decide +kernel
theorem dX7_valueOf_98 : decode cX7_valueOf 98 = .ok (.invokevirtual 280, 3) := by decide +kernel
theorem dX7_valueOf_101 : decode cX7_valueOf 101 = .ok (.goto 12, 3) := by decide +kernel
theorem dX7_valueOf_104 : decode cX7_valueOf 104 = .ok (.aload_n 0, 1) := by decide +kernel
theorem dX7_valueOf_105 : decode cX7_valueOf 105 = .ok (.getfield 211, 3) := by decide +kernel
theorem dX7_valueOf_108 : decode cX7_valueOf 108 = .ok (.aload_n 0, 1) := by decide +kernel
theorem dX7_valueOf_109 : decode cX7_valueOf 109 = .ok (.getfield 160, 3) := by decide +kernel
theorem dX7_valueOf_112 : decode cX7_valueOf 112 = .ok (.iaload, 1) := by decide +kernel
theorem dX7_valueOf_113 : decode cX7_valueOf 113 = .ok (.istore 4, 2) := by decide +kernel
theorem dX7_valueOf_115 : decode cX7_valueOf 115 = .ok (.aload_n 0, 1) := by decide +kernel
theorem dX7_valueOf_116 : decode cX7_valueOf 116 = .ok (.getfield 160, 3) := by decide +kernel
theorem dX7_valueOf_119 : decode cX7_valueOf 119 = .ok (.iload_n 2, 1) := by decide +kernel
theorem dX7_valueOf_120 : decode cX7_valueOf 120 = .ok (.if_icmp .ne 6, 3) := by decide +kernel
theorem dX7_valueOf_123 : decode cX7_valueOf 123 = .ok (.iload 4, 2) := by decide +kernel
theorem dX7_valueOf_125 : decode cX7_valueOf 125 = .ok (.ireturn, 1) := by decide +kernel
theorem dX7_valueOf_126 : decode cX7_valueOf 126 = .ok (.aload_n 0, 1) := by decide +kernel
theorem dX7_valueOf_127 : decode cX7_valueOf 127 = .ok (.dup, 1) := by decide +kernel
theorem dX7_valueOf_128 : decode cX7_valueOf 128 = .ok (.getfield 160, 3) := by decide +kernel
theorem dX7_valueOf_131 : decode cX7_valueOf 131 = .ok (.iconst 1, 1) := by decide +kernel
theorem dX7_valueOf_132 : decode cX7_valueOf 132 = .ok (.isub, 1) := by decide +kernel
theorem dX7_valueOf_133 : decode cX7_valueOf 133 = .ok (.putfield 160, 3) := by decide +kernel
theorem dX7_valueOf_136 : decode cX7_valueOf 136 = .ok (.aload_n 0, 1) := by decide +kernel
theorem dX7_valueOf_137 : decode cX7_valueOf 137 = .ok (.iload 4, 2) := by decide +kernel
theorem dX7_valueOf_139 : decode cX7_valueOf 139 = .ok (.aload_n 0, 1) := by decide +kernel
theorem dX7_valueOf_140 : decode cX7_valueOf 140 = .ok (.getfield 163, 3) := by decide +kernel
theorem dX7_valueOf_143 : decode cX7_valueOf 143 = .ok (.aload_n 0, 1) := by decide +kernel
theorem dX7_valueOf_144 : decode cX7_valueOf 144 = .ok (.getfield 160, 3) := by decide +kernel
theorem dX7_valueOf_147 : decode cX7_valueOf 147 = .ok (.iaload, 1) := by decide +kernel
theorem dX7_valueOf_148 : decode cX7_valueOf 148 = .ok (.invokevirtual 283, 3) := by decide +kernel
theorem dX7_valueOf_151 : decode cX7_valueOf 151 = .ok (.goto (-132), 3) := by decide +kernel
theorem dX7_best_0 : decode cX7_best 0 = .ok (.aload_n 0, 1) := by decide +kernel
theorem dX7_best_1 : decode cX7_best 1 = .ok (.iload_n 1, 1) := by decide +kernel
theorem dX7_best_2 : decode cX7_best 2 = .ok (.invokevirtual 34, 3) := by decide +kernel
theorem dX7_best_5 : decode cX7_best 5 = .ok (.ifCond .eq 8, 3) := by decide +kernel
theorem dX7_best_8 : decode cX7_best 8 = .ok (.iload_n 2, 1) := by decide +kernel
theorem dX7_best_9 : decode cX7_best 9 = .ok (.iconst (-1), 1) := by decide +kernel
theorem dX7_best_10 : decode cX7_best 10 = .ok (.if_icmp .ge 5, 3) := by decide +kernel
theorem dX7_best_13 : decode cX7_best 13 = .ok (.iconst (-1), 1) := by decide +kernel
theorem dX7_best_14 : decode cX7_best 14 = .ok (.ireturn, 1) := by decide +kernel
theorem dX7_best_15 : decode cX7_best 15 = .ok (.aload_n 0, 1) := by decide +kernel
theorem dX7_best_16 : decode cX7_best 16 = .ok (.iload_n 1, 1) := by decide +kernel
theorem dX7_best_17 : decode cX7_best 17 = .ok (.invokevirtual 287, 3) := by decide +kernel
theorem dX7_best_20 : decode cX7_best 20 = .ok (.istore_n 3, 1) := by decide +kernel
theorem dX7_best_21 : decode cX7_best 21 = .ok (.iload_n 2, 1) := by decide +kernel
theorem dX7_best_22 : decode cX7_best 22 = .ok (.iconst (-1), 1) := by decide +kernel
theorem dX7_best_23 : decode cX7_best 23 = .ok (.if_icmp .ne 5, 3) := by decide +kernel
theorem dX7_best_26 : decode cX7_best 26 = .ok (.iload_n 3, 1) := by decide +kernel
theorem dX7_best_27 : decode cX7_best 27 = .ok (.ireturn, 1) := by decide +kernel
theorem dX7_best_28 : decode cX7_best 28 = .ok (.aload_n 0, 1) := by decide +kernel
theorem dX7_best_29 : decode cX7_best 29 = .ok (.getfield 160, 3) := by decide +kernel
theorem dX7_best_32 : decode cX7_best 32 = .ok (.istore 4, 2) := by decide +kernel
theorem dX7_best_34 : decode cX7_best 34 = .ok (.bipush (-5), 2) := by decide +kernel
theorem dX7_best_36 : decode cX7_best 36 = .ok (.istore 5, 2) := by decide +kernel
theorem dX7_best_38 : decode cX7_best 38 = .ok (.iconst 0, 1) := by decide +kernel
theorem dX7_best_39 : decode cX7_best 39 = .ok (.istore 6, 2) := by decide +kernel
theorem dX7_best_41 : decode cX7_best 41 = .ok (.iload 6, 2) := by decide +kernel
theorem dX7_best_43 : decode cX7_best 43 = .ok (.iload_n 2, 1) := by decide +kernel
theorem dX7_best_44 : decode cX7_best 44 = .ok (.if_icmp .gt 57, 3) := by decide +kernel
theorem dX7_best_47 : decode cX7_best 47 = .ok (.aload_n 0, 1) := by decide +kernel
theorem dX7_best_48 : decode cX7_best 48 = .ok (.getfield 214, 3) := by decide +kernel
theorem dX7_best_51 : decode cX7_best 51 = .ok (.aload_n 0, 1) := by decide +kernel
theorem dX7_best_52 : decode cX7_best 52 = .ok (.getfield 160, 3) := by decide +kernel
theorem dX7_best_55 : decode cX7_best 55 = .ok (.iaload, 1) := by decide +kernel
theorem dX7_best_56 : decode cX7_best 56 = .ok (.ifCond .eq 45, 3) := by decide +kernel
theorem dX7_best_59 : decode cX7_best 59 = .ok (.iload 6, 2) := by decide +kernel
theorem dX7_best_61 : decode cX7_best 61 = .ok (.iload_n 2, 1) := by decide +kernel
theorem dX7_best_62 : decode cX7_best 62 = .ok (.if_icmp .ne 14, 3) := by decide +kernel
theorem dX7_best_65 : decode cX7_best 65 = .ok (.aload_n 0, 1) := by decide +kernel
theorem dX7_best_66 : decode cX7_best 66 = .ok (.getfield 214, 3) := by decide +kernel
theorem dX7_best_69 : decode cX7_best 69 = .ok (.aload_n 0, 1) := by decide +kernel
theorem dX7_best_70 : decode cX7_best 70 = .ok (.getfield 160, 3) := by decide +kernel
theorem dX7_best_73 : decode cX7_best 73 = .ok (.iaload, 1) := by decide +kernel
theorem dX7_best_74 : decode cX7_best 74 = .ok (.istore 5, 2) := by decide +kernel
theorem dX7_best_76 : decode cX7_best 76 = .ok (.aload_n 0, 1) := by decide +kernel
theorem dX7_best_77 : decode cX7_best 77 = .ok (.aload_n 0, 1) := by decide +kernel
theorem dX7_best_78 : decode cX7_best 78 = .ok (.getfield 214, 3) := by decide +kernel
theorem dX7_best_81 : decode cX7_best 81 = .ok (.aload_n 0, 1) := by decide +kernel
theorem dX7_best_82 : decode cX7_best 82 = .ok (.getfield 160, 3) := by decide +kernel
theorem dX7_best_85 : decode cX7_best 85 = .ok (.iaload, 1) := by decide +kernel
theorem dX7_best_86 : decode cX7_best 86 = .ok (.invokevirtual 264, 3) := by decide +kernel
theorem dX7_best_89 : decode cX7_best 89 = .ok (.aload_n 0, 1) := by decide +kernel
theorem dX7_best_90 : decode cX7_best 90 = .ok (.iload_n 1, 1) := by decide +kernel
theorem dX7_best_91 : decode cX7_best 91 = .ok (.invokevirtual 287, 3) := by decide +kernel
theorem dX7_best_94 : decode cX7_best 94 = .ok (.istore_n 3, 1) := by decide +kernel
theorem dX7_best_95 : decode cX7_best 95 = .ok (.iinc 6 1, 3) := by decide +kernel
theorem dX7_best_98 : decode cX7_best 98 = .ok (.goto (-57), 3) := by decide +kernel
theorem dX7_best_101 : decode cX7_best 101 = .ok (.aload_n 0, 1) := by decide +kernel
theorem dX7_best_102 : decode cX7_best 102 = .ok (.iload 4, 2) := by decide +kernel
theorem dX7_best_104 : decode cX7_best 104 = .ok (.putfield 160, 3) := by decide +kernel
theorem dX7_best_107 : decode cX7_best 107 = .ok (.iload_n 3, 1) := by decide +kernel
theorem dX7_best_108 : decode cX7_best 108 = .ok (.ifCond .ge 7, 3) := by decide +kernel
theorem dX7_best_111 : decode cX7_best 111 = .ok (.iconst (-1), 1) := by decide +kernel
theorem dX7_best_112 : decode cX7_best 112 = .ok (.goto 5, 3) := by decide +kernel
theorem dX7_best_115 : decode cX7_best 115 = .ok (.iload 5, 2) := by decide +kernel
theorem dX7_best_117 : decode cX7_best 117 = .ok (.ireturn, 1) := by decide +kernel
theorem dX7_traps_0 : decode cX7_traps 0 = .ok (.aload_n 0, 1) := by decide +kernel
theorem dX7_traps_1 : decode cX7_traps 1 = .ok (.iload_n 1, 1) := by decide +kernel
theorem dX7_traps_2 : decode cX7_traps 2 = .ok (.invokevirtual 34, 3) := by decide +kernel
theorem dX7_traps_5 : decode cX7_traps 5 = .ok (.ifCond .ne 5, 3) := by decide +kernel
theorem dX7_traps_8 : decode cX7_traps 8 = .ok (.iconst (-1), 1) := by decide +kernel
theorem dX7_traps_9 : decode cX7_traps 9 = .ok (.ireturn, 1) := by decide +kernel
theorem dX7_traps_10 : decode cX7_traps 10 = .ok (.aload_n 0, 1) := by decide +kernel
theorem dX7_traps_11 : decode cX7_traps 11 = .ok (.iload_n 2, 1) := by decide +kernel
theorem dX7_traps_12 : decode cX7_traps 12 = .ok (.iconst 1, 1) := by decide +kernel
theorem dX7_traps_13 : decode cX7_traps 13 = .ok (.bipush 20, 2) := by decide +kernel
theorem dX7_traps_15 : decode cX7_traps 15 = .ok (.invokevirtual 1, 3) := by decide +kernel
theorem dX7_traps_18 : decode cX7_traps 18 = .ok (.ifCond .ne 6, 3) := by decide +kernel
theorem dX7_traps_21 : decode cX7_traps 21 = .ok (.bipush (-2), 2) := by decide +kernel
theorem dX7_traps_23 : decode cX7_traps 23 = .ok (.ireturn, 1) := by decide +kernel
theorem dX7_traps_24 : decode cX7_traps 24 = .ok (.iload_n 3, 1) := by decide +kernel
theorem dX7_traps_25 : decode cX7_traps 25 = .ok (.iconst (-1), 1) := by decide +kernel
theorem dX7_traps_26 : decode cX7_traps 26 = .ok (.if_icmp .ge 5, 3) := by decide +kernel
theorem dX7_traps_29 : decode cX7_traps 29 = .ok (.iconst (-1), 1) := by decide +kernel
theorem dX7_traps_30 : decode cX7_traps 30 = .ok (.ireturn, 1) := by decide +kernel
theorem dX7_traps_31 : decode cX7_traps 31 = .ok (.aload_n 0, 1) := by decide +kernel
theorem dX7_traps_32 : decode cX7_traps 32 = .ok (.iload_n 1, 1) := by decide +kernel
theorem dX7_traps_33 : decode cX7_traps 33 = .ok (.invokevirtual 287, 3) := by decide +kernel
theorem dX7_traps_36 : decode cX7_traps 36 = .ok (.istore 4, 2) := by decide +kernel
theorem dX7_traps_38 : decode cX7_traps 38 = .ok (.iconst 0, 1) := by decide +kernel
theorem dX7_traps_39 : decode cX7_traps 39 = .ok (.istore 5, 2) := by decide +kernel
theorem dX7_traps_41 : decode cX7_traps 41 = .ok (.iconst (-1), 1) := by decide +kernel
theorem dX7_traps_42 : decode cX7_traps 42 = .ok (.istore 6, 2) := by decide +kernel
theorem dX7_traps_44 : decode cX7_traps 44 = .ok (.aload_n 0, 1) := by decide +kernel
theorem dX7_traps_45 : decode cX7_traps 45 = .ok (.iconst 0, 1) := by decide +kernel
theorem dX7_traps_46 : decode cX7_traps 46 = .ok (.invokevirtual 258, 3) := by decide +kernel
theorem dX7_traps_49 : decode cX7_traps 49 = .ok (.istore 7, 2) := by decide +kernel
theorem dX7_traps_51 : decode cX7_traps 51 = .ok (.iload 7, 2) := by decide +kernel
theorem dX7_traps_53 : decode cX7_traps 53 = .ok (.bipush 14, 2) := by decide +kernel
theorem dX7_traps_55 : decode cX7_traps 55 = .ok (.if_icmp .ge 94, 3) := by decide +kernel
theorem dX7_traps_58 : decode cX7_traps 58 = .ok (.aload_n 0, 1) := by decide +kernel
theorem dX7_traps_59 : decode cX7_traps 59 = .ok (.aload_n 0, 1) := by decide +kernel
theorem dX7_traps_60 : decode cX7_traps 60 = .ok (.getfield 196, 3) := by decide +kernel
theorem dX7_traps_63 : decode cX7_traps 63 = .ok (.iload 7, 2) := by decide +kernel
theorem dX7_traps_65 : decode cX7_traps 65 = .ok (.iaload, 1) := by decide +kernel
theorem dX7_traps_66 : decode cX7_traps 66 = .ok (.invokevirtual 264, 3) := by decide +kernel
theorem dX7_traps_69 : decode cX7_traps 69 = .ok (.aload_n 0, 1) := by decide +kernel
theorem dX7_traps_70 : decode cX7_traps 70 = .ok (.iload_n 1, 1) := by decide +kernel
theorem dX7_traps_71 : decode cX7_traps 71 = .ok (.invokevirtual 287, 3) := by decide +kernel
theorem dX7_traps_74 : decode cX7_traps 74 = .ok (.istore 8, 2) := by decide +kernel
theorem dX7_traps_76 : decode cX7_traps 76 = .ok (.aload_n 0, 1) := by decide +kernel
theorem dX7_traps_77 : decode cX7_traps 77 = .ok (.dup, 1) := by decide +kernel
theorem dX7_traps_78 : decode cX7_traps 78 = .ok (.getfield 160, 3) := by decide +kernel
theorem dX7_traps_81 : decode cX7_traps 81 = .ok (.iconst 1, 1) := by decide +kernel
theorem dX7_traps_82 : decode cX7_traps 82 = .ok (.isub, 1) := by decide +kernel
theorem dX7_traps_83 : decode cX7_traps 83 = .ok (.putfield 160, 3) := by decide +kernel
theorem dX7_traps_86 : decode cX7_traps 86 = .ok (.aload_n 0, 1) := by decide +kernel
theorem dX7_traps_87 : decode cX7_traps 87 = .ok (.getfield 172, 3) := by decide +kernel
theorem dX7_traps_90 : decode cX7_traps 90 = .ok (.aload_n 0, 1) := by decide +kernel
theorem dX7_traps_91 : decode cX7_traps 91 = .ok (.getfield 160, 3) := by decide +kernel
theorem dX7_traps_94 : decode cX7_traps 94 = .ok (.iaload, 1) := by decide +kernel
theorem dX7_traps_95 : decode cX7_traps 95 = .ok (.ifCond .ne 11, 3) := by decide +kernel
theorem dX7_traps_98 : decode cX7_traps 98 = .ok (.iload 4, 2) := by decide +kernel
theorem dX7_traps_100 : decode cX7_traps 100 = .ok (.iload 8, 2) := by decide +kernel
theorem dX7_traps_102 : decode cX7_traps 102 = .ok (.isub, 1) := by decide +kernel
theorem dX7_traps_103 : decode cX7_traps 103 = .ok (.goto 8, 3) := by decide +kernel
theorem dX7_traps_106 : decode cX7_traps 106 = .ok (.iload 8, 2) := by decide +kernel
theorem dX7_traps_108 : decode cX7_traps 108 = .ok (.iload 4, 2) := by decide +kernel
theorem dX7_traps_110 : decode cX7_traps 110 = .ok (.isub, 1) := by decide +kernel
theorem dX7_traps_111 : decode cX7_traps 111 = .ok (.iload_n 2, 1) := by decide +kernel
theorem dX7_traps_112 : decode cX7_traps 112 = .ok (.if_icmp .ge 6, 3) := by decide +kernel
theorem dX7_traps_115 : decode cX7_traps 115 = .ok (.goto 21, 3) := by decide +kernel
theorem dX7_traps_118 : decode cX7_traps 118 = .ok (.iload 5, 2) := by decide +kernel
theorem dX7_traps_120 : decode cX7_traps 120 = .ok (.iload_n 3, 1) := by decide +kernel
theorem dX7_traps_121 : decode cX7_traps 121 = .ok (.if_icmp .ne 12, 3) := by decide +kernel
theorem dX7_traps_124 : decode cX7_traps 124 = .ok (.aload_n 0, 1) := by decide +kernel
theorem dX7_traps_125 : decode cX7_traps 125 = .ok (.getfield 196, 3) := by decide +kernel
theorem dX7_traps_128 : decode cX7_traps 128 = .ok (.iload 7, 2) := by decide +kernel
theorem dX7_traps_130 : decode cX7_traps 130 = .ok (.iaload, 1) := by decide +kernel
theorem dX7_traps_131 : decode cX7_traps 131 = .ok (.istore 6, 2) := by decide +kernel
theorem dX7_traps_133 : decode cX7_traps 133 = .ok (.iinc 5 1, 3) := by decide +kernel
theorem dX7_traps_136 : decode cX7_traps 136 = .ok (.aload_n 0, 1) := by decide +kernel
theorem dX7_traps_137 : decode cX7_traps 137 = .ok (.iload 7, 2) := by decide +kernel
theorem dX7_traps_139 : decode cX7_traps 139 = .ok (.iconst 1, 1) := by decide +kernel
theorem dX7_traps_140 : decode cX7_traps 140 = .ok (.iadd, 1) := by decide +kernel
theorem dX7_traps_141 : decode cX7_traps 141 = .ok (.invokevirtual 258, 3) := by decide +kernel
theorem dX7_traps_144 : decode cX7_traps 144 = .ok (.istore 7, 2) := by decide +kernel
theorem dX7_traps_146 : decode cX7_traps 146 = .ok (.goto (-95), 3) := by decide +kernel
theorem dX7_traps_149 : decode cX7_traps 149 = .ok (.iload_n 3, 1) := by decide +kernel
theorem dX7_traps_150 : decode cX7_traps 150 = .ok (.iconst (-1), 1) := by decide +kernel
theorem dX7_traps_151 : decode cX7_traps 151 = .ok (.if_icmp .ne 8, 3) := by decide +kernel
theorem dX7_traps_154 : decode cX7_traps 154 = .ok (.iload 5, 2) := by decide +kernel
theorem dX7_traps_156 : decode cX7_traps 156 = .ok (.goto 5, 3) := by decide +kernel
theorem dX7_traps_159 : decode cX7_traps 159 = .ok (.iload 6, 2) := by decide +kernel
theorem dX7_traps_161 : decode cX7_traps 161 = .ok (.ireturn, 1) := by decide +kernel
theorem dX7_rightNow_0 : decode cX7_rightNow 0 = .ok (.iconst 0, 1) := by decide +kernel
theorem dX7_rightNow_1 : decode cX7_rightNow 1 = .ok (.istore_n 1, 1) := by decide +kernel
theorem dX7_rightNow_2 : decode cX7_rightNow 2 = .ok (.iconst 0, 1) := by decide +kernel
theorem dX7_rightNow_3 : decode cX7_rightNow 3 = .ok (.istore_n 2, 1) := by decide +kernel
theorem dX7_rightNow_4 : decode cX7_rightNow 4 = .ok (.iload_n 2, 1) := by decide +kernel
theorem dX7_rightNow_5 : decode cX7_rightNow 5 = .ok (.aload_n 0, 1) := by decide +kernel
theorem dX7_rightNow_6 : decode cX7_rightNow 6 = .ok (.getfield 7, 3) := by decide +kernel
theorem dX7_rightNow_9 : decode cX7_rightNow 9 = .ok (.if_icmp .ge 42, 3) := by decide +kernel
theorem dX7_rightNow_12 : decode cX7_rightNow 12 = .ok (.iload_n 1, 1) := by decide +kernel
theorem dX7_rightNow_13 : decode cX7_rightNow 13 = .ok (.aload_n 0, 1) := by decide +kernel
theorem dX7_rightNow_14 : decode cX7_rightNow 14 = .ok (.iload_n 2, 1) := by decide +kernel
theorem dX7_rightNow_15 : decode cX7_rightNow 15 = .ok (.invokevirtual 287, 3) := by decide +kernel
theorem dX7_rightNow_18 : decode cX7_rightNow 18 = .ok (.bipush 10, 2) := by decide +kernel
theorem dX7_rightNow_20 : decode cX7_rightNow 20 = .ok (.if_icmp .lt 7, 3) := by decide +kernel
theorem dX7_rightNow_23 : decode cX7_rightNow 23 = .ok (.iconst 1, 1) := by decide +kernel
theorem dX7_rightNow_24 : decode cX7_rightNow 24 = .ok (.goto 4, 3) := by decide +kernel
theorem dX7_rightNow_27 : decode cX7_rightNow 27 = .ok (.iconst 0, 1) := by decide +kernel
theorem dX7_rightNow_28 : decode cX7_rightNow 28 = .ok (.aload_n 0, 1) := by decide +kernel
theorem dX7_rightNow_29 : decode cX7_rightNow 29 = .ok (.iload_n 2, 1) := by decide +kernel
theorem dX7_rightNow_30 : decode cX7_rightNow 30 = .ok (.invokevirtual 49, 3) := by decide +kernel
theorem dX7_rightNow_33 : decode cX7_rightNow 33 = .ok (.if_icmp .ne 9, 3) := by decide +kernel
theorem dX7_rightNow_36 : decode cX7_rightNow 36 = .ok (.iconst 1, 1) := by decide +kernel
theorem dX7_rightNow_37 : decode cX7_rightNow 37 = .ok (.iload_n 2, 1) := by decide +kernel
theorem dX7_rightNow_38 : decode cX7_rightNow 38 = .ok (.ishl, 1) := by decide +kernel
theorem dX7_rightNow_39 : decode cX7_rightNow 39 = .ok (.goto 4, 3) := by decide +kernel
theorem dX7_rightNow_42 : decode cX7_rightNow 42 = .ok (.iconst 0, 1) := by decide +kernel
theorem dX7_rightNow_43 : decode cX7_rightNow 43 = .ok (.ior, 1) := by decide +kernel
theorem dX7_rightNow_44 : decode cX7_rightNow 44 = .ok (.istore_n 1, 1) := by decide +kernel
theorem dX7_rightNow_45 : decode cX7_rightNow 45 = .ok (.iinc 2 1, 3) := by decide +kernel
theorem dX7_rightNow_48 : decode cX7_rightNow 48 = .ok (.goto (-44), 3) := by decide +kernel
theorem dX7_rightNow_51 : decode cX7_rightNow 51 = .ok (.iload_n 1, 1) := by decide +kernel
theorem dX7_rightNow_52 : decode cX7_rightNow 52 = .ok (.ireturn, 1) := by decide +kernel
theorem dX7_right_0 : decode cX7_right 0 = .ok (.aload_n 0, 1) := by decide +kernel
theorem dX7_right_1 : decode cX7_right 1 = .ok (.iload_n 1, 1) := by decide +kernel
theorem dX7_right_2 : decode cX7_right 2 = .ok (.invokevirtual 267, 3) := by decide +kernel
theorem dX7_right_5 : decode cX7_right 5 = .ok (.ifCond .ne 5, 3) := by decide +kernel
theorem dX7_right_8 : decode cX7_right 8 = .ok (.iconst (-1), 1) := by decide +kernel
theorem dX7_right_9 : decode cX7_right 9 = .ok (.ireturn, 1) := by decide +kernel
theorem dX7_right_10 : decode cX7_right 10 = .ok (.aload_n 0, 1) := by decide +kernel
theorem dX7_right_11 : decode cX7_right 11 = .ok (.invokevirtual 290, 3) := by decide +kernel
theorem dX7_right_14 : decode cX7_right 14 = .ok (.aload_n 0, 1) := by decide +kernel
theorem dX7_right_15 : decode cX7_right 15 = .ok (.iload_n 1, 1) := by decide +kernel
theorem dX7_right_16 : decode cX7_right 16 = .ok (.invokevirtual 261, 3) := by decide +kernel
theorem dX7_right_19 : decode cX7_right 19 = .ok (.aload_n 0, 1) := by decide +kernel
theorem dX7_right_20 : decode cX7_right 20 = .ok (.invokevirtual 293, 3) := by decide +kernel
theorem dX7_right_23 : decode cX7_right 23 = .ok (.istore_n 2, 1) := by decide +kernel
theorem dX7_right_24 : decode cX7_right 24 = .ok (.aload_n 0, 1) := by decide +kernel
theorem dX7_right_25 : decode cX7_right 25 = .ok (.invokevirtual 296, 3) := by decide +kernel
theorem dX7_right_28 : decode cX7_right 28 = .ok (.iload_n 2, 1) := by decide +kernel
theorem dX7_right_29 : decode cX7_right 29 = .ok (.ireturn, 1) := by decide +kernel
theorem dX7_edge_0 : decode cX7_edge 0 = .ok (.aload_n 0, 1) := by decide +kernel
theorem dX7_edge_1 : decode cX7_edge 1 = .ok (.iload_n 1, 1) := by decide +kernel
theorem dX7_edge_2 : decode cX7_edge 2 = .ok (.invokevirtual 34, 3) := by decide +kernel
theorem dX7_edge_5 : decode cX7_edge 5 = .ok (.ifCond .ne 5, 3) := by decide +kernel
theorem dX7_edge_8 : decode cX7_edge 8 = .ok (.iconst (-1), 1) := by decide +kernel
theorem dX7_edge_9 : decode cX7_edge 9 = .ok (.ireturn, 1) := by decide +kernel
theorem dX7_edge_10 : decode cX7_edge 10 = .ok (.aload_n 0, 1) := by decide +kernel
theorem dX7_edge_11 : decode cX7_edge 11 = .ok (.bipush 30, 2) := by decide +kernel
theorem dX7_edge_13 : decode cX7_edge 13 = .ok (.invokevirtual 255, 3) := by decide +kernel
theorem dX7_edge_16 : decode cX7_edge 16 = .ok (.ifCond .ne 6, 3) := by decide +kernel
theorem dX7_edge_19 : decode cX7_edge 19 = .ok (.bipush (-3), 2) := by decide +kernel
theorem dX7_edge_21 : decode cX7_edge 21 = .ok (.ireturn, 1) := by decide +kernel
theorem dX7_edge_22 : decode cX7_edge 22 = .ok (.bipush 6, 2) := by decide +kernel
theorem dX7_edge_24 : decode cX7_edge 24 = .ok (.iload_n 1, 1) := by decide +kernel
theorem dX7_edge_25 : decode cX7_edge 25 = .ok (.imul, 1) := by decide +kernel
theorem dX7_edge_26 : decode cX7_edge 26 = .ok (.aload_n 0, 1) := by decide +kernel
theorem dX7_edge_27 : decode cX7_edge 27 = .ok (.getfield 169, 3) := by decide +kernel
theorem dX7_edge_30 : decode cX7_edge 30 = .ok (.aload_n 0, 1) := by decide +kernel
theorem dX7_edge_31 : decode cX7_edge 31 = .ok (.getfield 160, 3) := by decide +kernel
theorem dX7_edge_34 : decode cX7_edge 34 = .ok (.iaload, 1) := by decide +kernel
theorem dX7_edge_35 : decode cX7_edge 35 = .ok (.iadd, 1) := by decide +kernel
theorem dX7_edge_36 : decode cX7_edge 36 = .ok (.istore_n 2, 1) := by decide +kernel
theorem dX7_edge_37 : decode cX7_edge 37 = .ok (.aload_n 0, 1) := by decide +kernel
theorem dX7_edge_38 : decode cX7_edge 38 = .ok (.getfield 31, 3) := by decide +kernel
theorem dX7_edge_41 : decode cX7_edge 41 = .ok (.iload_n 2, 1) := by decide +kernel
theorem dX7_edge_42 : decode cX7_edge 42 = .ok (.iaload, 1) := by decide +kernel
theorem dX7_edge_43 : decode cX7_edge 43 = .ok (.istore_n 3, 1) := by decide +kernel
theorem dX7_edge_44 : decode cX7_edge 44 = .ok (.bipush 11, 2) := by decide +kernel
theorem dX7_edge_46 : decode cX7_edge 46 = .ok (.istore 4, 2) := by decide +kernel
theorem dX7_edge_48 : decode cX7_edge 48 = .ok (.bipush 10, 2) := by decide +kernel
theorem dX7_edge_50 : decode cX7_edge 50 = .ok (.istore 5, 2) := by decide +kernel
theorem dX7_edge_52 : decode cX7_edge 52 = .ok (.iload 5, 2) := by decide +kernel
theorem dX7_edge_54 : decode cX7_edge 54 = .ok (.ifCond .lt 43, 3) := by decide +kernel
theorem dX7_edge_57 : decode cX7_edge 57 = .ok (.aload_n 0, 1) := by decide +kernel
theorem dX7_edge_58 : decode cX7_edge 58 = .ok (.getfield 31, 3) := by decide +kernel
theorem dX7_edge_61 : decode cX7_edge 61 = .ok (.iload_n 2, 1) := by decide +kernel
theorem dX7_edge_62 : decode cX7_edge 62 = .ok (.iload 5, 2) := by decide +kernel
theorem dX7_edge_64 : decode cX7_edge 64 = .ok (.iastore, 1) := by decide +kernel
theorem dX7_edge_65 : decode cX7_edge 65 = .ok (.aload_n 0, 1) := by decide +kernel
theorem dX7_edge_66 : decode cX7_edge 66 = .ok (.iload_n 1, 1) := by decide +kernel
theorem dX7_edge_67 : decode cX7_edge 67 = .ok (.invokevirtual 287, 3) := by decide +kernel
theorem dX7_edge_70 : decode cX7_edge 70 = .ok (.ifCond .lt 21, 3) := by decide +kernel
theorem dX7_edge_73 : decode cX7_edge 73 = .ok (.aload_n 0, 1) := by decide +kernel
theorem dX7_edge_74 : decode cX7_edge 74 = .ok (.getfield 214, 3) := by decide +kernel
theorem dX7_edge_77 : decode cX7_edge 77 = .ok (.aload_n 0, 1) := by decide +kernel
theorem dX7_edge_78 : decode cX7_edge 78 = .ok (.getfield 160, 3) := by decide +kernel
theorem dX7_edge_81 : decode cX7_edge 81 = .ok (.iaload, 1) := by decide +kernel
theorem dX7_edge_82 : decode cX7_edge 82 = .ok (.bipush 30, 2) := by decide +kernel
theorem dX7_edge_84 : decode cX7_edge 84 = .ok (.if_icmp .eq 7, 3) := by decide +kernel
theorem dX7_edge_87 : decode cX7_edge 87 = .ok (.iload 5, 2) := by decide +kernel
theorem dX7_edge_89 : decode cX7_edge 89 = .ok (.istore 4, 2) := by decide +kernel
theorem dX7_edge_91 : decode cX7_edge 91 = .ok (.iinc 5 (-1), 3) := by decide +kernel
theorem dX7_edge_94 : decode cX7_edge 94 = .ok (.goto (-42), 3) := by decide +kernel
theorem dX7_edge_97 : decode cX7_edge 97 = .ok (.aload_n 0, 1) := by decide +kernel
theorem dX7_edge_98 : decode cX7_edge 98 = .ok (.getfield 31, 3) := by decide +kernel
theorem dX7_edge_101 : decode cX7_edge 101 = .ok (.iload_n 2, 1) := by decide +kernel
theorem dX7_edge_102 : decode cX7_edge 102 = .ok (.iload_n 3, 1) := by decide +kernel
theorem dX7_edge_103 : decode cX7_edge 103 = .ok (.iastore, 1) := by decide +kernel
theorem dX7_edge_104 : decode cX7_edge 104 = .ok (.iload 4, 2) := by decide +kernel
theorem dX7_edge_106 : decode cX7_edge 106 = .ok (.ireturn, 1) := by decide +kernel
theorem dX7_reform_0 : decode cX7_reform 0 = .ok (.aload_n 0, 1) := by decide +kernel
theorem dX7_reform_1 : decode cX7_reform 1 = .ok (.iload_n 1, 1) := by decide +kernel
theorem dX7_reform_2 : decode cX7_reform 2 = .ok (.invokevirtual 267, 3) := by decide +kernel
theorem dX7_reform_5 : decode cX7_reform 5 = .ok (.ifCond .ne 5, 3) := by decide +kernel
theorem dX7_reform_8 : decode cX7_reform 8 = .ok (.iconst (-1), 1) := by decide +kernel
theorem dX7_reform_9 : decode cX7_reform 9 = .ok (.ireturn, 1) := by decide +kernel
theorem dX7_reform_10 : decode cX7_reform 10 = .ok (.aload_n 0, 1) := by decide +kernel
theorem dX7_reform_11 : decode cX7_reform 11 = .ok (.invokevirtual 290, 3) := by decide +kernel
theorem dX7_reform_14 : decode cX7_reform 14 = .ok (.aload_n 0, 1) := by decide +kernel
theorem dX7_reform_15 : decode cX7_reform 15 = .ok (.iload_n 1, 1) := by decide +kernel
theorem dX7_reform_16 : decode cX7_reform 16 = .ok (.invokevirtual 261, 3) := by decide +kernel
theorem dX7_reform_19 : decode cX7_reform 19 = .ok (.aload_n 0, 1) := by decide +kernel
theorem dX7_reform_20 : decode cX7_reform 20 = .ok (.aload_n 0, 1) := by decide +kernel
theorem dX7_reform_21 : decode cX7_reform 21 = .ok (.invokevirtual 293, 3) := by decide +kernel
theorem dX7_reform_24 : decode cX7_reform 24 = .ok (.invokevirtual 239, 3) := by decide +kernel
theorem dX7_reform_27 : decode cX7_reform 27 = .ok (.istore_n 2, 1) := by decide +kernel
theorem dX7_reform_28 : decode cX7_reform 28 = .ok (.bipush (-5), 2) := by decide +kernel
theorem dX7_reform_30 : decode cX7_reform 30 = .ok (.istore_n 3, 1) := by decide +kernel
theorem dX7_reform_31 : decode cX7_reform 31 = .ok (.iconst 0, 1) := by decide +kernel
theorem dX7_reform_32 : decode cX7_reform 32 = .ok (.istore 4, 2) := by decide +kernel
theorem dX7_reform_34 : decode cX7_reform 34 = .ok (.iload 4, 2) := by decide +kernel
theorem dX7_reform_36 : decode cX7_reform 36 = .ok (.aload_n 0, 1) := by decide +kernel
theorem dX7_reform_37 : decode cX7_reform 37 = .ok (.getfield 143, 3) := by decide +kernel
theorem dX7_reform_40 : decode cX7_reform 40 = .ok (.iload_n 1, 1) := by decide +kernel
theorem dX7_reform_41 : decode cX7_reform 41 = .ok (.iaload, 1) := by decide +kernel
theorem dX7_reform_42 : decode cX7_reform 42 = .ok (.if_icmp .ge 45, 3) := by decide +kernel
theorem dX7_reform_45 : decode cX7_reform 45 = .ok (.aload_n 0, 1) := by decide +kernel
theorem dX7_reform_46 : decode cX7_reform 46 = .ok (.bipush 6, 2) := by decide +kernel
theorem dX7_reform_48 : decode cX7_reform 48 = .ok (.iload_n 1, 1) := by decide +kernel
theorem dX7_reform_49 : decode cX7_reform 49 = .ok (.imul, 1) := by decide +kernel
theorem dX7_reform_50 : decode cX7_reform 50 = .ok (.iload 4, 2) := by decide +kernel
theorem dX7_reform_52 : decode cX7_reform 52 = .ok (.iadd, 1) := by decide +kernel
theorem dX7_reform_53 : decode cX7_reform 53 = .ok (.putfield 157, 3) := by decide +kernel
theorem dX7_reform_56 : decode cX7_reform 56 = .ok (.aload_n 0, 1) := by decide +kernel
theorem dX7_reform_57 : decode cX7_reform 57 = .ok (.aload_n 0, 1) := by decide +kernel
theorem dX7_reform_58 : decode cX7_reform 58 = .ok (.invokevirtual 293, 3) := by decide +kernel
theorem dX7_reform_61 : decode cX7_reform 61 = .ok (.invokevirtual 239, 3) := by decide +kernel
theorem dX7_reform_64 : decode cX7_reform 64 = .ok (.istore 5, 2) := by decide +kernel
theorem dX7_reform_66 : decode cX7_reform 66 = .ok (.iload 5, 2) := by decide +kernel
theorem dX7_reform_68 : decode cX7_reform 68 = .ok (.iload_n 2, 1) := by decide +kernel
theorem dX7_reform_69 : decode cX7_reform 69 = .ok (.if_icmp .gt 6, 3) := by decide +kernel
theorem dX7_reform_72 : decode cX7_reform 72 = .ok (.goto 9, 3) := by decide +kernel
theorem dX7_reform_75 : decode cX7_reform 75 = .ok (.iload 5, 2) := by decide +kernel
theorem dX7_reform_77 : decode cX7_reform 77 = .ok (.istore_n 2, 1) := by decide +kernel
theorem dX7_reform_78 : decode cX7_reform 78 = .ok (.iload 4, 2) := by decide +kernel
theorem dX7_reform_80 : decode cX7_reform 80 = .ok (.istore_n 3, 1) := by decide +kernel
theorem dX7_reform_81 : decode cX7_reform 81 = .ok (.iinc 4 1, 3) := by decide +kernel
theorem dX7_reform_84 : decode cX7_reform 84 = .ok (.goto (-50), 3) := by decide +kernel
theorem dX7_reform_87 : decode cX7_reform 87 = .ok (.aload_n 0, 1) := by decide +kernel
theorem dX7_reform_88 : decode cX7_reform 88 = .ok (.invokevirtual 296, 3) := by decide +kernel
theorem dX7_reform_91 : decode cX7_reform 91 = .ok (.iload_n 3, 1) := by decide +kernel
theorem dX7_reform_92 : decode cX7_reform 92 = .ok (.ireturn, 1) := by decide +kernel
theorem dX7_told_0 : decode cX7_told 0 = .ok (.aload_n 0, 1) := by decide +kernel
theorem dX7_told_1 : decode cX7_told 1 = .ok (.iload_n 1, 1) := by decide +kernel
theorem dX7_told_2 : decode cX7_told 2 = .ok (.invokevirtual 299, 3) := by decide +kernel
theorem dX7_told_5 : decode cX7_told 5 = .ok (.ifCond .eq 12, 3) := by decide +kernel
theorem dX7_told_8 : decode cX7_told 8 = .ok (.aload_n 0, 1) := by decide +kernel
theorem dX7_told_9 : decode cX7_told 9 = .ok (.iload 4, 2) := by decide +kernel
theorem dX7_told_11 : decode cX7_told 11 = .ok (.invokevirtual 267, 3) := by decide +kernel
theorem dX7_told_14 : decode cX7_told 14 = .ok (.ifCond .ne 5, 3) := by decide +kernel
theorem dX7_told_17 : decode cX7_told 17 = .ok (.iconst (-1), 1) := by decide +kernel
theorem dX7_told_18 : decode cX7_told 18 = .ok (.ireturn, 1) := by decide +kernel
theorem dX7_told_19 : decode cX7_told 19 = .ok (.aload_n 0, 1) := by decide +kernel
theorem dX7_told_20 : decode cX7_told 20 = .ok (.iload_n 3, 1) := by decide +kernel
theorem dX7_told_21 : decode cX7_told 21 = .ok (.iconst 0, 1) := by decide +kernel
theorem dX7_told_22 : decode cX7_told 22 = .ok (.bipush 20, 2) := by decide +kernel
theorem dX7_told_24 : decode cX7_told 24 = .ok (.invokevirtual 1, 3) := by decide +kernel
theorem dX7_told_27 : decode cX7_told 27 = .ok (.ifCond .ne 6, 3) := by decide +kernel
theorem dX7_told_30 : decode cX7_told 30 = .ok (.bipush (-2), 2) := by decide +kernel
theorem dX7_told_32 : decode cX7_told 32 = .ok (.ireturn, 1) := by decide +kernel
theorem dX7_told_33 : decode cX7_told 33 = .ok (.aload_n 0, 1) := by decide +kernel
theorem dX7_told_34 : decode cX7_told 34 = .ok (.getfield 223, 3) := by decide +kernel
theorem dX7_told_37 : decode cX7_told 37 = .ok (.iload_n 1, 1) := by decide +kernel
theorem dX7_told_38 : decode cX7_told 38 = .ok (.iaload, 1) := by decide +kernel
theorem dX7_told_39 : decode cX7_told 39 = .ok (.ifCond .le 6, 3) := by decide +kernel
theorem dX7_told_42 : decode cX7_told 42 = .ok (.bipush (-12), 2) := by decide +kernel
theorem dX7_told_44 : decode cX7_told 44 = .ok (.ireturn, 1) := by decide +kernel
theorem dX7_told_45 : decode cX7_told 45 = .ok (.aload_n 0, 1) := by decide +kernel
theorem dX7_told_46 : decode cX7_told 46 = .ok (.invokevirtual 290, 3) := by decide +kernel
theorem dX7_told_49 : decode cX7_told 49 = .ok (.aload_n 0, 1) := by decide +kernel
theorem dX7_told_50 : decode cX7_told 50 = .ok (.iload 4, 2) := by decide +kernel
theorem dX7_told_52 : decode cX7_told 52 = .ok (.invokevirtual 261, 3) := by decide +kernel
theorem dX7_told_55 : decode cX7_told 55 = .ok (.bipush (-5), 2) := by decide +kernel
theorem dX7_told_57 : decode cX7_told 57 = .ok (.istore 5, 2) := by decide +kernel
theorem dX7_told_59 : decode cX7_told 59 = .ok (.iconst 0, 1) := by decide +kernel
theorem dX7_told_60 : decode cX7_told 60 = .ok (.istore 6, 2) := by decide +kernel
theorem dX7_told_62 : decode cX7_told 62 = .ok (.iload 6, 2) := by decide +kernel
theorem dX7_told_64 : decode cX7_told 64 = .ok (.iload_n 3, 1) := by decide +kernel
theorem dX7_told_65 : decode cX7_told 65 = .ok (.if_icmp .ge 102, 3) := by decide +kernel
theorem dX7_told_68 : decode cX7_told 68 = .ok (.iload 5, 2) := by decide +kernel
theorem dX7_told_70 : decode cX7_told 70 = .ok (.bipush (-5), 2) := by decide +kernel
theorem dX7_told_72 : decode cX7_told 72 = .ok (.if_icmp .ne 95, 3) := by decide +kernel
theorem dX7_told_75 : decode cX7_told 75 = .ok (.aload_n 0, 1) := by decide +kernel
theorem dX7_told_76 : decode cX7_told 76 = .ok (.getfield 223, 3) := by decide +kernel
theorem dX7_told_79 : decode cX7_told 79 = .ok (.iload_n 1, 1) := by decide +kernel
theorem dX7_told_80 : decode cX7_told 80 = .ok (.iaload, 1) := by decide +kernel
theorem dX7_told_81 : decode cX7_told 81 = .ok (.ifCond .lt 22, 3) := by decide +kernel
theorem dX7_told_84 : decode cX7_told 84 = .ok (.iload_n 2, 1) := by decide +kernel
theorem dX7_told_85 : decode cX7_told 85 = .ok (.ifCond .lt 18, 3) := by decide +kernel
theorem dX7_told_88 : decode cX7_told 88 = .ok (.iload_n 2, 1) := by decide +kernel
theorem dX7_told_89 : decode cX7_told 89 = .ok (.aload_n 0, 1) := by decide +kernel
theorem dX7_told_90 : decode cX7_told 90 = .ok (.getfield 226, 3) := by decide +kernel
theorem dX7_told_93 : decode cX7_told 93 = .ok (.iload_n 1, 1) := by decide +kernel
theorem dX7_told_94 : decode cX7_told 94 = .ok (.iaload, 1) := by decide +kernel
theorem dX7_told_95 : decode cX7_told 95 = .ok (.iload 6, 2) := by decide +kernel
theorem dX7_told_97 : decode cX7_told 97 = .ok (.isub, 1) := by decide +kernel
theorem dX7_told_98 : decode cX7_told 98 = .ok (.iconst 1, 1) := by decide +kernel
theorem dX7_told_99 : decode cX7_told 99 = .ok (.isub, 1) := by decide +kernel
theorem dX7_told_100 : decode cX7_told 100 = .ok (.if_icmp .le 13, 3) := by decide +kernel
theorem dX7_told_103 : decode cX7_told 103 = .ok (.bipush 100, 2) := by decide +kernel
theorem dX7_told_105 : decode cX7_told 105 = .ok (.iload 6, 2) := by decide +kernel
theorem dX7_told_107 : decode cX7_told 107 = .ok (.iadd, 1) := by decide +kernel
theorem dX7_told_108 : decode cX7_told 108 = .ok (.istore 5, 2) := by decide +kernel
theorem dX7_told_110 : decode cX7_told 110 = .ok (.goto 51, 3) := by decide +kernel
theorem dX7_told_113 : decode cX7_told 113 = .ok (.aload_n 0, 1) := by decide +kernel
theorem dX7_told_114 : decode cX7_told 114 = .ok (.getfield 229, 3) := by decide +kernel
theorem dX7_told_117 : decode cX7_told 117 = .ok (.bipush 60, 2) := by decide +kernel
theorem dX7_told_119 : decode cX7_told 119 = .ok (.iload_n 1, 1) := by decide +kernel
theorem dX7_told_120 : decode cX7_told 120 = .ok (.imul, 1) := by decide +kernel
theorem dX7_told_121 : decode cX7_told 121 = .ok (.iload_n 2, 1) := by decide +kernel
theorem dX7_told_122 : decode cX7_told 122 = .ok (.iadd, 1) := by decide +kernel
theorem dX7_told_123 : decode cX7_told 123 = .ok (.iload 6, 2) := by decide +kernel
theorem dX7_told_125 : decode cX7_told 125 = .ok (.iadd, 1) := by decide +kernel
theorem dX7_told_126 : decode cX7_told 126 = .ok (.laload, 1) := by decide +kernel
theorem dX7_told_127 : decode cX7_told 127 = .ok (.l2i, 1) := by decide +kernel
theorem dX7_told_128 : decode cX7_told 128 = .ok (.istore 7, 2) := by decide +kernel
theorem dX7_told_130 : decode cX7_told 130 = .ok (.aload_n 0, 1) := by decide +kernel
theorem dX7_told_131 : decode cX7_told 131 = .ok (.iload 7, 2) := by decide +kernel
theorem dX7_told_133 : decode cX7_told 133 = .ok (.invokevirtual 270, 3) := by decide +kernel
theorem dX7_told_136 : decode cX7_told 136 = .ok (.ifCond .eq 21, 3) := by decide +kernel
theorem dX7_told_139 : decode cX7_told 139 = .ok (.aload_n 0, 1) := by decide +kernel
theorem dX7_told_140 : decode cX7_told 140 = .ok (.iload 7, 2) := by decide +kernel
theorem dX7_told_142 : decode cX7_told 142 = .ok (.invokevirtual 255, 3) := by decide +kernel
theorem dX7_told_145 : decode cX7_told 145 = .ok (.ifCond .eq 12, 3) := by decide +kernel
theorem dX7_told_148 : decode cX7_told 148 = .ok (.aload_n 0, 1) := by decide +kernel
theorem dX7_told_149 : decode cX7_told 149 = .ok (.iload 7, 2) := by decide +kernel
theorem dX7_told_151 : decode cX7_told 151 = .ok (.invokevirtual 264, 3) := by decide +kernel
theorem dX7_told_154 : decode cX7_told 154 = .ok (.goto 7, 3) := by decide +kernel
theorem dX7_told_157 : decode cX7_told 157 = .ok (.iload 6, 2) := by decide +kernel
theorem dX7_told_159 : decode cX7_told 159 = .ok (.istore 5, 2) := by decide +kernel
theorem dX7_told_161 : decode cX7_told 161 = .ok (.iinc 6 1, 3) := by decide +kernel
theorem dX7_told_164 : decode cX7_told 164 = .ok (.goto (-102), 3) := by decide +kernel
theorem dX7_told_167 : decode cX7_told 167 = .ok (.aload_n 0, 1) := by decide +kernel
theorem dX7_told_168 : decode cX7_told 168 = .ok (.invokevirtual 296, 3) := by decide +kernel
theorem dX7_told_171 : decode cX7_told 171 = .ok (.iload 5, 2) := by decide +kernel
theorem dX7_told_173 : decode cX7_told 173 = .ok (.ireturn, 1) := by decide +kernel
theorem dX7_body_0 : decode cX7_body 0 = .ok (.aload_n 0, 1) := by decide +kernel
theorem dX7_body_1 : decode cX7_body 1 = .ok (.getfield 217, 3) := by decide +kernel
theorem dX7_body_4 : decode cX7_body 4 = .ok (.bipush 20, 2) := by decide +kernel
theorem dX7_body_6 : decode cX7_body 6 = .ok (.if_icmp .ge 13, 3) := by decide +kernel
theorem dX7_body_9 : decode cX7_body 9 = .ok (.aload_n 0, 1) := by decide +kernel
theorem dX7_body_10 : decode cX7_body 10 = .ok (.getfield 220, 3) := by decide +kernel
theorem dX7_body_13 : decode cX7_body 13 = .ok (.aload_n 0, 1) := by decide +kernel
theorem dX7_body_14 : decode cX7_body 14 = .ok (.getfield 217, 3) := by decide +kernel
theorem dX7_body_17 : decode cX7_body 17 = .ok (.iload_n 1, 1) := by decide +kernel
theorem dX7_body_18 : decode cX7_body 18 = .ok (.iastore, 1) := by decide +kernel
theorem dX7_body_19 : decode cX7_body 19 = .ok (.aload_n 0, 1) := by decide +kernel
theorem dX7_body_20 : decode cX7_body 20 = .ok (.dup, 1) := by decide +kernel
theorem dX7_body_21 : decode cX7_body 21 = .ok (.getfield 217, 3) := by decide +kernel
theorem dX7_body_24 : decode cX7_body 24 = .ok (.iconst 1, 1) := by decide +kernel
theorem dX7_body_25 : decode cX7_body 25 = .ok (.iadd, 1) := by decide +kernel
theorem dX7_body_26 : decode cX7_body 26 = .ok (.putfield 217, 3) := by decide +kernel
theorem dX7_body_29 : decode cX7_body 29 = .ok (.return_, 1) := by decide +kernel
theorem dX7_plainPleads_0 : decode cX7_plainPleads 0 = .ok (.aload_n 0, 1) := by decide +kernel
theorem dX7_plainPleads_1 : decode cX7_plainPleads 1 = .ok (.bipush 10, 2) := by decide +kernel
theorem dX7_plainPleads_3 : decode cX7_plainPleads 3 = .ok (.invokevirtual 302, 3) := by decide +kernel
theorem dX7_plainPleads_6 : decode cX7_plainPleads 6 = .ok (.iload_n 1, 1) := by decide +kernel
theorem dX7_plainPleads_7 : decode cX7_plainPleads 7 = .ok (.aload_n 0, 1) := by decide +kernel
theorem dX7_plainPleads_8 : decode cX7_plainPleads 8 = .ok (.getfield 7, 3) := by decide +kernel
theorem dX7_plainPleads_11 : decode cX7_plainPleads 11 = .ok (.iadd, 1) := by decide +kernel
theorem dX7_plainPleads_12 : decode cX7_plainPleads 12 = .ok (.ireturn, 1) := by decide +kernel
theorem dX7_excusePleads_0 : decode cX7_excusePleads 0 = .ok (.aload_n 0, 1) := by decide +kernel
theorem dX7_excusePleads_1 : decode cX7_excusePleads 1 = .ok (.bipush 30, 2) := by decide +kernel
theorem dX7_excusePleads_3 : decode cX7_excusePleads 3 = .ok (.invokevirtual 302, 3) := by decide +kernel
theorem dX7_excusePleads_6 : decode cX7_excusePleads 6 = .ok (.aload_n 0, 1) := by decide +kernel
theorem dX7_excusePleads_7 : decode cX7_excusePleads 7 = .ok (.iload_n 1, 1) := by decide +kernel
theorem dX7_excusePleads_8 : decode cX7_excusePleads 8 = .ok (.iconst 3, 1) := by decide +kernel
theorem dX7_excusePleads_9 : decode cX7_excusePleads 9 = .ok (.imul, 1) := by decide +kernel
theorem dX7_excusePleads_10 : decode cX7_excusePleads 10 = .ok (.invokevirtual 305, 3) := by decide +kernel
theorem dX7_excusePleads_13 : decode cX7_excusePleads 13 = .ok (.ireturn, 1) := by decide +kernel
theorem dX7_pleads_0 : decode cX7_pleads 0 = .ok (.iload_n 1, 1) := by decide +kernel
theorem dX7_pleads_1 : decode cX7_pleads 1 = .ok (.tableswitch 67 2 5 #[31, 37, 67, 50], 31) := by decide +kernel
theorem dX7_pleads_32 : decode cX7_pleads 32 = .ok (.aload_n 0, 1) := by decide +kernel
theorem dX7_pleads_33 : decode cX7_pleads 33 = .ok (.iload_n 2, 1) := by decide +kernel
theorem dX7_pleads_34 : decode cX7_pleads 34 = .ok (.invokevirtual 308, 3) := by decide +kernel
theorem dX7_pleads_37 : decode cX7_pleads 37 = .ok (.ireturn, 1) := by decide +kernel
theorem dX7_pleads_38 : decode cX7_pleads 38 = .ok (.aload_n 0, 1) := by decide +kernel
theorem dX7_pleads_39 : decode cX7_pleads 39 = .ok (.bipush 40, 2) := by decide +kernel
theorem dX7_pleads_41 : decode cX7_pleads 41 = .ok (.invokevirtual 302, 3) := by decide +kernel
theorem dX7_pleads_44 : decode cX7_pleads 44 = .ok (.aload_n 0, 1) := by decide +kernel
theorem dX7_pleads_45 : decode cX7_pleads 45 = .ok (.iload_n 2, 1) := by decide +kernel
theorem dX7_pleads_46 : decode cX7_pleads 46 = .ok (.invokevirtual 305, 3) := by decide +kernel
theorem dX7_pleads_49 : decode cX7_pleads 49 = .ok (.ineg, 1) := by decide +kernel
theorem dX7_pleads_50 : decode cX7_pleads 50 = .ok (.ireturn, 1) := by decide +kernel
theorem dX7_pleads_51 : decode cX7_pleads 51 = .ok (.aload_n 0, 1) := by decide +kernel
theorem dX7_pleads_52 : decode cX7_pleads 52 = .ok (.bipush 60, 2) := by decide +kernel
theorem dX7_pleads_54 : decode cX7_pleads 54 = .ok (.invokevirtual 302, 3) := by decide +kernel
theorem dX7_pleads_57 : decode cX7_pleads 57 = .ok (.aload_n 0, 1) := by decide +kernel
theorem dX7_pleads_58 : decode cX7_pleads 58 = .ok (.iload_n 2, 1) := by decide +kernel
theorem dX7_pleads_59 : decode cX7_pleads 59 = .ok (.invokevirtual 308, 3) := by decide +kernel
theorem dX7_pleads_62 : decode cX7_pleads 62 = .ok (.aload_n 0, 1) := by decide +kernel
theorem dX7_pleads_63 : decode cX7_pleads 63 = .ok (.getfield 52, 3) := by decide +kernel
theorem dX7_pleads_66 : decode cX7_pleads 66 = .ok (.ixor, 1) := by decide +kernel
theorem dX7_pleads_67 : decode cX7_pleads 67 = .ok (.ireturn, 1) := by decide +kernel
theorem dX7_pleads_68 : decode cX7_pleads 68 = .ok (.aload_n 0, 1) := by decide +kernel
theorem dX7_pleads_69 : decode cX7_pleads 69 = .ok (.iload_n 2, 1) := by decide +kernel
theorem dX7_pleads_70 : decode cX7_pleads 70 = .ok (.invokevirtual 305, 3) := by decide +kernel
theorem dX7_pleads_73 : decode cX7_pleads 73 = .ok (.ireturn, 1) := by decide +kernel
theorem dX7_plainAdmits_0 : decode cX7_plainAdmits 0 = .ok (.aload_n 0, 1) := by decide +kernel
theorem dX7_plainAdmits_1 : decode cX7_plainAdmits 1 = .ok (.bipush 11, 2) := by decide +kernel
theorem dX7_plainAdmits_3 : decode cX7_plainAdmits 3 = .ok (.invokevirtual 302, 3) := by decide +kernel
theorem dX7_plainAdmits_6 : decode cX7_plainAdmits 6 = .ok (.aload_n 0, 1) := by decide +kernel
theorem dX7_plainAdmits_7 : decode cX7_plainAdmits 7 = .ok (.iload_n 1, 1) := by decide +kernel
theorem dX7_plainAdmits_8 : decode cX7_plainAdmits 8 = .ok (.iload_n 2, 1) := by decide +kernel
theorem dX7_plainAdmits_9 : decode cX7_plainAdmits 9 = .ok (.invokevirtual 311, 3) := by decide +kernel
theorem dX7_plainAdmits_12 : decode cX7_plainAdmits 12 = .ok (.aload_n 0, 1) := by decide +kernel
theorem dX7_plainAdmits_13 : decode cX7_plainAdmits 13 = .ok (.getfield 52, 3) := by decide +kernel
theorem dX7_plainAdmits_16 : decode cX7_plainAdmits 16 = .ok (.isub, 1) := by decide +kernel
theorem dX7_plainAdmits_17 : decode cX7_plainAdmits 17 = .ok (.ireturn, 1) := by decide +kernel
theorem dX7_admits_0 : decode cX7_admits 0 = .ok (.iload_n 1, 1) := by decide +kernel
theorem dX7_admits_1 : decode cX7_admits 1 = .ok (.lookupswitch 63 #[(1, 27), (5, 42)], 27) := by decide +kernel
theorem dX7_admits_28 : decode cX7_admits 28 = .ok (.aload_n 0, 1) := by decide +kernel
theorem dX7_admits_29 : decode cX7_admits 29 = .ok (.bipush 20, 2) := by decide +kernel
theorem dX7_admits_31 : decode cX7_admits 31 = .ok (.invokevirtual 302, 3) := by decide +kernel
theorem dX7_admits_34 : decode cX7_admits 34 = .ok (.aload_n 0, 1) := by decide +kernel
theorem dX7_admits_35 : decode cX7_admits 35 = .ok (.iload_n 1, 1) := by decide +kernel
theorem dX7_admits_36 : decode cX7_admits 36 = .ok (.iload_n 2, 1) := by decide +kernel
theorem dX7_admits_37 : decode cX7_admits 37 = .ok (.invokevirtual 315, 3) := by decide +kernel
theorem dX7_admits_40 : decode cX7_admits 40 = .ok (.iconst 5, 1) := by decide +kernel
theorem dX7_admits_41 : decode cX7_admits 41 = .ok (.ixor, 1) := by decide +kernel
theorem dX7_admits_42 : decode cX7_admits 42 = .ok (.ireturn, 1) := by decide +kernel
theorem dX7_admits_43 : decode cX7_admits 43 = .ok (.aload_n 0, 1) := by decide +kernel
theorem dX7_admits_44 : decode cX7_admits 44 = .ok (.bipush 61, 2) := by decide +kernel
theorem dX7_admits_46 : decode cX7_admits 46 = .ok (.invokevirtual 302, 3) := by decide +kernel
theorem dX7_admits_49 : decode cX7_admits 49 = .ok (.aload_n 0, 1) := by decide +kernel
theorem dX7_admits_50 : decode cX7_admits 50 = .ok (.iload_n 1, 1) := by decide +kernel
theorem dX7_admits_51 : decode cX7_admits 51 = .ok (.iload_n 2, 1) := by decide +kernel
theorem dX7_admits_52 : decode cX7_admits 52 = .ok (.invokevirtual 315, 3) := by decide +kernel
theorem dX7_admits_55 : decode cX7_admits 55 = .ok (.istore_n 3, 1) := by decide +kernel
theorem dX7_admits_56 : decode cX7_admits 56 = .ok (.iload_n 3, 1) := by decide +kernel
theorem dX7_admits_57 : decode cX7_admits 57 = .ok (.aload_n 0, 1) := by decide +kernel
theorem dX7_admits_58 : decode cX7_admits 58 = .ok (.iconst 2, 1) := by decide +kernel
theorem dX7_admits_59 : decode cX7_admits 59 = .ok (.invokevirtual 308, 3) := by decide +kernel
theorem dX7_admits_62 : decode cX7_admits 62 = .ok (.iadd, 1) := by decide +kernel
theorem dX7_admits_63 : decode cX7_admits 63 = .ok (.ireturn, 1) := by decide +kernel
theorem dX7_admits_64 : decode cX7_admits 64 = .ok (.aload_n 0, 1) := by decide +kernel
theorem dX7_admits_65 : decode cX7_admits 65 = .ok (.iload_n 1, 1) := by decide +kernel
theorem dX7_admits_66 : decode cX7_admits 66 = .ok (.iload_n 2, 1) := by decide +kernel
theorem dX7_admits_67 : decode cX7_admits 67 = .ok (.invokevirtual 315, 3) := by decide +kernel
theorem dX7_admits_70 : decode cX7_admits 70 = .ok (.ireturn, 1) := by decide +kernel
theorem dX7_plainTells_0 : decode cX7_plainTells 0 = .ok (.aload_n 0, 1) := by decide +kernel
theorem dX7_plainTells_1 : decode cX7_plainTells 1 = .ok (.bipush 12, 2) := by decide +kernel
theorem dX7_plainTells_3 : decode cX7_plainTells 3 = .ok (.invokevirtual 302, 3) := by decide +kernel
theorem dX7_plainTells_6 : decode cX7_plainTells 6 = .ok (.aload_n 0, 1) := by decide +kernel
theorem dX7_plainTells_7 : decode cX7_plainTells 7 = .ok (.iload_n 1, 1) := by decide +kernel
theorem dX7_plainTells_8 : decode cX7_plainTells 8 = .ok (.iload_n 2, 1) := by decide +kernel
theorem dX7_plainTells_9 : decode cX7_plainTells 9 = .ok (.invokevirtual 318, 3) := by decide +kernel
theorem dX7_plainTells_12 : decode cX7_plainTells 12 = .ok (.iconst 2, 1) := by decide +kernel
theorem dX7_plainTells_13 : decode cX7_plainTells 13 = .ok (.imul, 1) := by decide +kernel
theorem dX7_plainTells_14 : decode cX7_plainTells 14 = .ok (.ireturn, 1) := by decide +kernel
theorem dX7_tells_0 : decode cX7_tells 0 = .ok (.iload_n 1, 1) := by decide +kernel
theorem dX7_tells_1 : decode cX7_tells 1 = .ok (.tableswitch 99 2 6 #[35, 99, 57, 35, 75], 35) := by decide +kernel
theorem dX7_tells_36 : decode cX7_tells 36 = .ok (.aload_n 0, 1) := by decide +kernel
theorem dX7_tells_37 : decode cX7_tells 37 = .ok (.bipush 31, 2) := by decide +kernel
theorem dX7_tells_39 : decode cX7_tells 39 = .ok (.invokevirtual 302, 3) := by decide +kernel
theorem dX7_tells_42 : decode cX7_tells 42 = .ok (.aload_n 0, 1) := by decide +kernel
theorem dX7_tells_43 : decode cX7_tells 43 = .ok (.iload_n 1, 1) := by decide +kernel
theorem dX7_tells_44 : decode cX7_tells 44 = .ok (.iload_n 2, 1) := by decide +kernel
theorem dX7_tells_45 : decode cX7_tells 45 = .ok (.invokevirtual 321, 3) := by decide +kernel
theorem dX7_tells_48 : decode cX7_tells 48 = .ok (.istore_n 3, 1) := by decide +kernel
theorem dX7_tells_49 : decode cX7_tells 49 = .ok (.iload_n 3, 1) := by decide +kernel
theorem dX7_tells_50 : decode cX7_tells 50 = .ok (.aload_n 0, 1) := by decide +kernel
theorem dX7_tells_51 : decode cX7_tells 51 = .ok (.iload_n 1, 1) := by decide +kernel
theorem dX7_tells_52 : decode cX7_tells 52 = .ok (.iconst 1, 1) := by decide +kernel
theorem dX7_tells_53 : decode cX7_tells 53 = .ok (.invokevirtual 318, 3) := by decide +kernel
theorem dX7_tells_56 : decode cX7_tells 56 = .ok (.iadd, 1) := by decide +kernel
theorem dX7_tells_57 : decode cX7_tells 57 = .ok (.ireturn, 1) := by decide +kernel
theorem dX7_tells_58 : decode cX7_tells 58 = .ok (.aload_n 0, 1) := by decide +kernel
theorem dX7_tells_59 : decode cX7_tells 59 = .ok (.bipush 50, 2) := by decide +kernel
theorem dX7_tells_61 : decode cX7_tells 61 = .ok (.invokevirtual 302, 3) := by decide +kernel
theorem dX7_tells_64 : decode cX7_tells 64 = .ok (.aload_n 0, 1) := by decide +kernel
theorem dX7_tells_65 : decode cX7_tells 65 = .ok (.iload_n 1, 1) := by decide +kernel
theorem dX7_tells_66 : decode cX7_tells 66 = .ok (.iload_n 2, 1) := by decide +kernel
theorem dX7_tells_67 : decode cX7_tells 67 = .ok (.aload_n 0, 1) := by decide +kernel
theorem dX7_tells_68 : decode cX7_tells 68 = .ok (.getfield 7, 3) := by decide +kernel
theorem dX7_tells_71 : decode cX7_tells 71 = .ok (.isub, 1) := by decide +kernel
theorem dX7_tells_72 : decode cX7_tells 72 = .ok (.invokevirtual 321, 3) := by decide +kernel
theorem dX7_tells_75 : decode cX7_tells 75 = .ok (.ireturn, 1) := by decide +kernel
theorem dX7_tells_76 : decode cX7_tells 76 = .ok (.aload_n 0, 1) := by decide +kernel
theorem dX7_tells_77 : decode cX7_tells 77 = .ok (.bipush 70, 2) := by decide +kernel
theorem dX7_tells_79 : decode cX7_tells 79 = .ok (.invokevirtual 302, 3) := by decide +kernel
theorem dX7_tells_82 : decode cX7_tells 82 = .ok (.aload_n 0, 1) := by decide +kernel
theorem dX7_tells_83 : decode cX7_tells 83 = .ok (.iload_n 1, 1) := by decide +kernel
theorem dX7_tells_84 : decode cX7_tells 84 = .ok (.iload_n 2, 1) := by decide +kernel
theorem dX7_tells_85 : decode cX7_tells 85 = .ok (.invokevirtual 318, 3) := by decide +kernel
theorem dX7_tells_88 : decode cX7_tells 88 = .ok (.istore 4, 2) := by decide +kernel
theorem dX7_tells_90 : decode cX7_tells 90 = .ok (.iload 4, 2) := by decide +kernel
theorem dX7_tells_92 : decode cX7_tells 92 = .ok (.aload_n 0, 1) := by decide +kernel
theorem dX7_tells_93 : decode cX7_tells 93 = .ok (.iload_n 1, 1) := by decide +kernel
theorem dX7_tells_94 : decode cX7_tells 94 = .ok (.iload_n 2, 1) := by decide +kernel
theorem dX7_tells_95 : decode cX7_tells 95 = .ok (.invokevirtual 321, 3) := by decide +kernel
theorem dX7_tells_98 : decode cX7_tells 98 = .ok (.isub, 1) := by decide +kernel
theorem dX7_tells_99 : decode cX7_tells 99 = .ok (.ireturn, 1) := by decide +kernel
theorem dX7_tells_100 : decode cX7_tells 100 = .ok (.aload_n 0, 1) := by decide +kernel
theorem dX7_tells_101 : decode cX7_tells 101 = .ok (.iload_n 1, 1) := by decide +kernel
theorem dX7_tells_102 : decode cX7_tells 102 = .ok (.iload_n 2, 1) := by decide +kernel
theorem dX7_tells_103 : decode cX7_tells 103 = .ok (.invokevirtual 321, 3) := by decide +kernel
theorem dX7_tells_106 : decode cX7_tells 106 = .ok (.ireturn, 1) := by decide +kernel
theorem dX7_act_0 : decode cX7_act 0 = .ok (.aload_n 0, 1) := by decide +kernel
theorem dX7_act_1 : decode cX7_act 1 = .ok (.iconst 0, 1) := by decide +kernel
theorem dX7_act_2 : decode cX7_act 2 = .ok (.putfield 217, 3) := by decide +kernel
theorem dX7_act_5 : decode cX7_act 5 = .ok (.aload_n 0, 1) := by decide +kernel
theorem dX7_act_6 : decode cX7_act 6 = .ok (.iload_n 1, 1) := by decide +kernel
theorem dX7_act_7 : decode cX7_act 7 = .ok (.iconst 0, 1) := by decide +kernel
theorem dX7_act_8 : decode cX7_act 8 = .ok (.bipush 6, 2) := by decide +kernel
theorem dX7_act_10 : decode cX7_act 10 = .ok (.invokevirtual 1, 3) := by decide +kernel
theorem dX7_act_13 : decode cX7_act 13 = .ok (.ifCond .eq 13, 3) := by decide +kernel
theorem dX7_act_16 : decode cX7_act 16 = .ok (.aload_n 0, 1) := by decide +kernel
theorem dX7_act_17 : decode cX7_act 17 = .ok (.iload_n 2, 1) := by decide +kernel
theorem dX7_act_18 : decode cX7_act 18 = .ok (.iconst 0, 1) := by decide +kernel
theorem dX7_act_19 : decode cX7_act 19 = .ok (.iconst 2, 1) := by decide +kernel
theorem dX7_act_20 : decode cX7_act 20 = .ok (.invokevirtual 1, 3) := by decide +kernel
theorem dX7_act_23 : decode cX7_act 23 = .ok (.ifCond .ne 5, 3) := by decide +kernel
theorem dX7_act_26 : decode cX7_act 26 = .ok (.iconst 0, 1) := by decide +kernel
theorem dX7_act_27 : decode cX7_act 27 = .ok (.ireturn, 1) := by decide +kernel
theorem dX7_act_28 : decode cX7_act 28 = .ok (.iload_n 2, 1) := by decide +kernel
theorem dX7_act_29 : decode cX7_act 29 = .ok (.ifCond .ne 12, 3) := by decide +kernel
theorem dX7_act_32 : decode cX7_act 32 = .ok (.aload_n 0, 1) := by decide +kernel
theorem dX7_act_33 : decode cX7_act 33 = .ok (.iload_n 1, 1) := by decide +kernel
theorem dX7_act_34 : decode cX7_act 34 = .ok (.iload_n 3, 1) := by decide +kernel
theorem dX7_act_35 : decode cX7_act 35 = .ok (.invokevirtual 311, 3) := by decide +kernel
theorem dX7_act_38 : decode cX7_act 38 = .ok (.goto 23, 3) := by decide +kernel
theorem dX7_act_41 : decode cX7_act 41 = .ok (.iload_n 2, 1) := by decide +kernel
theorem dX7_act_42 : decode cX7_act 42 = .ok (.iconst 1, 1) := by decide +kernel
theorem dX7_act_43 : decode cX7_act 43 = .ok (.if_icmp .ne 12, 3) := by decide +kernel
theorem dX7_act_46 : decode cX7_act 46 = .ok (.aload_n 0, 1) := by decide +kernel
theorem dX7_act_47 : decode cX7_act 47 = .ok (.iload_n 1, 1) := by decide +kernel
theorem dX7_act_48 : decode cX7_act 48 = .ok (.iload_n 3, 1) := by decide +kernel
theorem dX7_act_49 : decode cX7_act 49 = .ok (.invokevirtual 318, 3) := by decide +kernel
theorem dX7_act_52 : decode cX7_act 52 = .ok (.goto 9, 3) := by decide +kernel
theorem dX7_act_55 : decode cX7_act 55 = .ok (.aload_n 0, 1) := by decide +kernel
theorem dX7_act_56 : decode cX7_act 56 = .ok (.iload_n 1, 1) := by decide +kernel
theorem dX7_act_57 : decode cX7_act 57 = .ok (.iload_n 3, 1) := by decide +kernel
theorem dX7_act_58 : decode cX7_act 58 = .ok (.invokevirtual 324, 3) := by decide +kernel
theorem dX7_act_61 : decode cX7_act 61 = .ok (.ireturn, 1) := by decide +kernel
theorem dX7_trace_0 : decode cX7_trace 0 = .ok (.aload_n 0, 1) := by decide +kernel
theorem dX7_trace_1 : decode cX7_trace 1 = .ok (.iload_n 1, 1) := by decide +kernel
theorem dX7_trace_2 : decode cX7_trace 2 = .ok (.iconst 0, 1) := by decide +kernel
theorem dX7_trace_3 : decode cX7_trace 3 = .ok (.bipush 19, 2) := by decide +kernel
theorem dX7_trace_5 : decode cX7_trace 5 = .ok (.invokevirtual 1, 3) := by decide +kernel
theorem dX7_trace_8 : decode cX7_trace 8 = .ok (.ifCond .eq 20, 3) := by decide +kernel
theorem dX7_trace_11 : decode cX7_trace 11 = .ok (.iload_n 1, 1) := by decide +kernel
theorem dX7_trace_12 : decode cX7_trace 12 = .ok (.aload_n 0, 1) := by decide +kernel
theorem dX7_trace_13 : decode cX7_trace 13 = .ok (.getfield 217, 3) := by decide +kernel
theorem dX7_trace_16 : decode cX7_trace 16 = .ok (.if_icmp .ge 12, 3) := by decide +kernel
theorem dX7_trace_19 : decode cX7_trace 19 = .ok (.aload_n 0, 1) := by decide +kernel
theorem dX7_trace_20 : decode cX7_trace 20 = .ok (.getfield 220, 3) := by decide +kernel
theorem dX7_trace_23 : decode cX7_trace 23 = .ok (.iload_n 1, 1) := by decide +kernel
theorem dX7_trace_24 : decode cX7_trace 24 = .ok (.iaload, 1) := by decide +kernel
theorem dX7_trace_25 : decode cX7_trace 25 = .ok (.goto 4, 3) := by decide +kernel
theorem dX7_trace_28 : decode cX7_trace 28 = .ok (.iconst (-1), 1) := by decide +kernel
theorem dX7_trace_29 : decode cX7_trace 29 = .ok (.ireturn, 1) := by decide +kernel
theorem dX7_taken_0 : decode cX7_taken 0 = .ok (.aload_n 0, 1) := by decide +kernel
theorem dX7_taken_1 : decode cX7_taken 1 = .ok (.iload_n 2, 1) := by decide +kernel
theorem dX7_taken_2 : decode cX7_taken 2 = .ok (.iconst 0, 1) := by decide +kernel
theorem dX7_taken_3 : decode cX7_taken 3 = .ok (.bipush 6, 2) := by decide +kernel
theorem dX7_taken_5 : decode cX7_taken 5 = .ok (.invokevirtual 1, 3) := by decide +kernel
theorem dX7_taken_8 : decode cX7_taken 8 = .ok (.ifCond .ne 6, 3) := by decide +kernel
theorem dX7_taken_11 : decode cX7_taken 11 = .ok (.bipush (-2), 2) := by decide +kernel
theorem dX7_taken_13 : decode cX7_taken 13 = .ok (.ireturn, 1) := by decide +kernel
theorem dX7_taken_14 : decode cX7_taken 14 = .ok (.aload_n 0, 1) := by decide +kernel
theorem dX7_taken_15 : decode cX7_taken 15 = .ok (.iload_n 1, 1) := by decide +kernel
theorem dX7_taken_16 : decode cX7_taken 16 = .ok (.iconst 0, 1) := by decide +kernel
theorem dX7_taken_17 : decode cX7_taken 17 = .ok (.bipush 6, 2) := by decide +kernel
theorem dX7_taken_19 : decode cX7_taken 19 = .ok (.invokevirtual 1, 3) := by decide +kernel
theorem dX7_taken_22 : decode cX7_taken 22 = .ok (.ifCond .ne 6, 3) := by decide +kernel
theorem dX7_taken_25 : decode cX7_taken 25 = .ok (.bipush (-11), 2) := by decide +kernel
theorem dX7_taken_27 : decode cX7_taken 27 = .ok (.ireturn, 1) := by decide +kernel
theorem dX7_taken_28 : decode cX7_taken 28 = .ok (.iload_n 2, 1) := by decide +kernel
theorem dX7_taken_29 : decode cX7_taken 29 = .ok (.ifCond .eq 18, 3) := by decide +kernel
theorem dX7_taken_32 : decode cX7_taken 32 = .ok (.iload_n 1, 1) := by decide +kernel
theorem dX7_taken_33 : decode cX7_taken 33 = .ok (.iload_n 2, 1) := by decide +kernel
theorem dX7_taken_34 : decode cX7_taken 34 = .ok (.if_icmp .eq 13, 3) := by decide +kernel
theorem dX7_taken_37 : decode cX7_taken 37 = .ok (.iload_n 2, 1) := by decide +kernel
theorem dX7_taken_38 : decode cX7_taken 38 = .ok (.iconst 2, 1) := by decide +kernel
theorem dX7_taken_39 : decode cX7_taken 39 = .ok (.if_icmp .ne 12, 3) := by decide +kernel
theorem dX7_taken_42 : decode cX7_taken 42 = .ok (.iload_n 1, 1) := by decide +kernel
theorem dX7_taken_43 : decode cX7_taken 43 = .ok (.iconst 5, 1) := by decide +kernel
theorem dX7_taken_44 : decode cX7_taken 44 = .ok (.if_icmp .ne 7, 3) := by decide +kernel
theorem dX7_taken_47 : decode cX7_taken 47 = .ok (.iload_n 1, 1) := by decide +kernel
theorem dX7_taken_48 : decode cX7_taken 48 = .ok (.goto 5, 3) := by decide +kernel
theorem dX7_taken_51 : decode cX7_taken 51 = .ok (.bipush (-12), 2) := by decide +kernel
theorem dX7_taken_53 : decode cX7_taken 53 = .ok (.ireturn, 1) := by decide +kernel
theorem dX7_count_0 : decode cX7_count 0 = .ok (.iload_n 1, 1) := by decide +kernel
theorem dX7_count_1 : decode cX7_count 1 = .ok (.tableswitch 60 0 4 #[35, 40, 45, 50, 55], 35) := by decide +kernel
theorem dX7_count_36 : decode cX7_count 36 = .ok (.aload_n 0, 1) := by decide +kernel
theorem dX7_count_37 : decode cX7_count 37 = .ok (.getfield 7, 3) := by decide +kernel
theorem dX7_count_40 : decode cX7_count 40 = .ok (.ireturn, 1) := by decide +kernel
theorem dX7_count_41 : decode cX7_count 41 = .ok (.aload_n 0, 1) := by decide +kernel
theorem dX7_count_42 : decode cX7_count 42 = .ok (.getfield 52, 3) := by decide +kernel
theorem dX7_count_45 : decode cX7_count 45 = .ok (.ireturn, 1) := by decide +kernel
theorem dX7_count_46 : decode cX7_count 46 = .ok (.aload_n 0, 1) := by decide +kernel
theorem dX7_count_47 : decode cX7_count 47 = .ok (.getfield 55, 3) := by decide +kernel
theorem dX7_count_50 : decode cX7_count 50 = .ok (.ireturn, 1) := by decide +kernel
theorem dX7_count_51 : decode cX7_count 51 = .ok (.aload_n 0, 1) := by decide +kernel
theorem dX7_count_52 : decode cX7_count 52 = .ok (.getfield 160, 3) := by decide +kernel
theorem dX7_count_55 : decode cX7_count 55 = .ok (.ireturn, 1) := by decide +kernel
theorem dX7_count_56 : decode cX7_count 56 = .ok (.aload_n 0, 1) := by decide +kernel
theorem dX7_count_57 : decode cX7_count 57 = .ok (.getfield 217, 3) := by decide +kernel
theorem dX7_count_60 : decode cX7_count 60 = .ok (.ireturn, 1) := by decide +kernel
theorem dX7_count_61 : decode cX7_count 61 = .ok (.bipush (-2), 2) := by decide +kernel
theorem dX7_count_63 : decode cX7_count 63 = .ok (.ireturn, 1) := by decide +kernel
theorem dX7_isTape_0 : decode cX7_isTape 0 = .ok (.aload_n 0, 1) := by decide +kernel
theorem dX7_isTape_1 : decode cX7_isTape 1 = .ok (.iload_n 1, 1) := by decide +kernel
theorem dX7_isTape_2 : decode cX7_isTape 2 = .ok (.iconst 0, 1) := by decide +kernel
theorem dX7_isTape_3 : decode cX7_isTape 3 = .ok (.iconst 5, 1) := by decide +kernel
theorem dX7_isTape_4 : decode cX7_isTape 4 = .ok (.invokevirtual 1, 3) := by decide +kernel
theorem dX7_isTape_7 : decode cX7_isTape 7 = .ok (.ireturn, 1) := by decide +kernel
theorem dX7_tape_0 : decode cX7_tape 0 = .ok (.aload_n 0, 1) := by decide +kernel
theorem dX7_tape_1 : decode cX7_tape 1 = .ok (.iload_n 1, 1) := by decide +kernel
theorem dX7_tape_2 : decode cX7_tape 2 = .ok (.invokevirtual 299, 3) := by decide +kernel
theorem dX7_tape_5 : decode cX7_tape 5 = .ok (.ifCond .ne 5, 3) := by decide +kernel
theorem dX7_tape_8 : decode cX7_tape 8 = .ok (.iconst (-1), 1) := by decide +kernel
theorem dX7_tape_9 : decode cX7_tape 9 = .ok (.ireturn, 1) := by decide +kernel
theorem dX7_tape_10 : decode cX7_tape 10 = .ok (.aload_n 0, 1) := by decide +kernel
theorem dX7_tape_11 : decode cX7_tape 11 = .ok (.iload_n 2, 1) := by decide +kernel
theorem dX7_tape_12 : decode cX7_tape 12 = .ok (.iconst (-1), 1) := by decide +kernel
theorem dX7_tape_13 : decode cX7_tape 13 = .ok (.iconst 4, 1) := by decide +kernel
theorem dX7_tape_14 : decode cX7_tape 14 = .ok (.invokevirtual 1, 3) := by decide +kernel
theorem dX7_tape_17 : decode cX7_tape 17 = .ok (.ifCond .eq 13, 3) := by decide +kernel
theorem dX7_tape_20 : decode cX7_tape 20 = .ok (.iload_n 2, 1) := by decide +kernel
theorem dX7_tape_21 : decode cX7_tape 21 = .ok (.ifCond .lt 12, 3) := by decide +kernel
theorem dX7_tape_24 : decode cX7_tape 24 = .ok (.iload_n 3, 1) := by decide +kernel
theorem dX7_tape_25 : decode cX7_tape 25 = .ok (.bipush 60, 2) := by decide +kernel
theorem dX7_tape_27 : decode cX7_tape 27 = .ok (.if_icmp .le 6, 3) := by decide +kernel
theorem dX7_tape_30 : decode cX7_tape 30 = .ok (.bipush (-2), 2) := by decide +kernel
theorem dX7_tape_32 : decode cX7_tape 32 = .ok (.ireturn, 1) := by decide +kernel
theorem dX7_tape_33 : decode cX7_tape 33 = .ok (.iload_n 2, 1) := by decide +kernel
theorem dX7_tape_34 : decode cX7_tape 34 = .ok (.ifCond .lt 10, 3) := by decide +kernel
theorem dX7_tape_37 : decode cX7_tape 37 = .ok (.iload_n 3, 1) := by decide +kernel
theorem dX7_tape_38 : decode cX7_tape 38 = .ok (.ifCond .ge 6, 3) := by decide +kernel
theorem dX7_tape_41 : decode cX7_tape 41 = .ok (.bipush (-14), 2) := by decide +kernel
theorem dX7_tape_43 : decode cX7_tape 43 = .ok (.ireturn, 1) := by decide +kernel
theorem dX7_tape_44 : decode cX7_tape 44 = .ok (.aload_n 0, 1) := by decide +kernel
theorem dX7_tape_45 : decode cX7_tape 45 = .ok (.getfield 223, 3) := by decide +kernel
theorem dX7_tape_48 : decode cX7_tape 48 = .ok (.iload_n 1, 1) := by decide +kernel
theorem dX7_tape_49 : decode cX7_tape 49 = .ok (.iload_n 2, 1) := by decide +kernel
theorem dX7_tape_50 : decode cX7_tape 50 = .ok (.iastore, 1) := by decide +kernel
theorem dX7_tape_51 : decode cX7_tape 51 = .ok (.aload_n 0, 1) := by decide +kernel
theorem dX7_tape_52 : decode cX7_tape 52 = .ok (.getfield 226, 3) := by decide +kernel
theorem dX7_tape_55 : decode cX7_tape 55 = .ok (.iload_n 1, 1) := by decide +kernel
theorem dX7_tape_56 : decode cX7_tape 56 = .ok (.iload_n 2, 1) := by decide +kernel
theorem dX7_tape_57 : decode cX7_tape 57 = .ok (.ifCond .ge 7, 3) := by decide +kernel
theorem dX7_tape_60 : decode cX7_tape 60 = .ok (.iconst 0, 1) := by decide +kernel
theorem dX7_tape_61 : decode cX7_tape 61 = .ok (.goto 4, 3) := by decide +kernel
theorem dX7_tape_64 : decode cX7_tape 64 = .ok (.iload_n 3, 1) := by decide +kernel
theorem dX7_tape_65 : decode cX7_tape 65 = .ok (.iastore, 1) := by decide +kernel
theorem dX7_tape_66 : decode cX7_tape 66 = .ok (.iconst 0, 1) := by decide +kernel
theorem dX7_tape_67 : decode cX7_tape 67 = .ok (.istore 4, 2) := by decide +kernel
theorem dX7_tape_69 : decode cX7_tape 69 = .ok (.iload 4, 2) := by decide +kernel
theorem dX7_tape_71 : decode cX7_tape 71 = .ok (.bipush 60, 2) := by decide +kernel
theorem dX7_tape_73 : decode cX7_tape 73 = .ok (.if_icmp .ge 22, 3) := by decide +kernel
theorem dX7_tape_76 : decode cX7_tape 76 = .ok (.aload_n 0, 1) := by decide +kernel
theorem dX7_tape_77 : decode cX7_tape 77 = .ok (.getfield 229, 3) := by decide +kernel
theorem dX7_tape_80 : decode cX7_tape 80 = .ok (.bipush 60, 2) := by decide +kernel
theorem dX7_tape_82 : decode cX7_tape 82 = .ok (.iload_n 1, 1) := by decide +kernel
theorem dX7_tape_83 : decode cX7_tape 83 = .ok (.imul, 1) := by decide +kernel
theorem dX7_tape_84 : decode cX7_tape 84 = .ok (.iload 4, 2) := by decide +kernel
theorem dX7_tape_86 : decode cX7_tape 86 = .ok (.iadd, 1) := by decide +kernel
theorem dX7_tape_87 : decode cX7_tape 87 = .ok (.lconst 0, 1) := by decide +kernel
theorem dX7_tape_88 : decode cX7_tape 88 = .ok (.lastore, 1) := by decide +kernel
theorem dX7_tape_89 : decode cX7_tape 89 = .ok (.iinc 4 1, 3) := by decide +kernel
theorem dX7_tape_92 : decode cX7_tape 92 = .ok (.goto (-23), 3) := by decide +kernel
theorem dX7_tape_95 : decode cX7_tape 95 = .ok (.iconst 1, 1) := by decide +kernel
theorem dX7_tape_96 : decode cX7_tape 96 = .ok (.ireturn, 1) := by decide +kernel
theorem dX7_narrow_0 : decode cX7_narrow 0 = .ok (.iload_n 1, 1) := by decide +kernel
theorem dX7_narrow_1 : decode cX7_narrow 1 = .ok (.ifCond .ne 10, 3) := by decide +kernel
theorem dX7_narrow_4 : decode cX7_narrow 4 = .ok (.lload_n 2, 1) := by decide +kernel
theorem dX7_narrow_5 : decode cX7_narrow 5 = .ok (.l2i, 1) := by decide +kernel
theorem dX7_narrow_6 : decode cX7_narrow 6 = .ok (.i2b, 1) := by decide +kernel
theorem dX7_narrow_7 : decode cX7_narrow 7 = .ok (.i2l, 1) := by decide +kernel
theorem dX7_narrow_8 : decode cX7_narrow 8 = .ok (.goto 46, 3) := by decide +kernel
theorem dX7_narrow_11 : decode cX7_narrow 11 = .ok (.iload_n 1, 1) := by decide +kernel
theorem dX7_narrow_12 : decode cX7_narrow 12 = .ok (.iconst 1, 1) := by decide +kernel
theorem dX7_narrow_13 : decode cX7_narrow 13 = .ok (.if_icmp .ne 10, 3) := by decide +kernel
theorem dX7_narrow_16 : decode cX7_narrow 16 = .ok (.lload_n 2, 1) := by decide +kernel
theorem dX7_narrow_17 : decode cX7_narrow 17 = .ok (.l2i, 1) := by decide +kernel
theorem dX7_narrow_18 : decode cX7_narrow 18 = .ok (.i2s, 1) := by decide +kernel
theorem dX7_narrow_19 : decode cX7_narrow 19 = .ok (.i2l, 1) := by decide +kernel
theorem dX7_narrow_20 : decode cX7_narrow 20 = .ok (.goto 34, 3) := by decide +kernel
theorem dX7_narrow_23 : decode cX7_narrow 23 = .ok (.iload_n 1, 1) := by decide +kernel
theorem dX7_narrow_24 : decode cX7_narrow 24 = .ok (.iconst 2, 1) := by decide +kernel
theorem dX7_narrow_25 : decode cX7_narrow 25 = .ok (.if_icmp .ne 9, 3) := by decide +kernel
theorem dX7_narrow_28 : decode cX7_narrow 28 = .ok (.lload_n 2, 1) := by decide +kernel
theorem dX7_narrow_29 : decode cX7_narrow 29 = .ok (.l2i, 1) := by decide +kernel
theorem dX7_narrow_30 : decode cX7_narrow 30 = .ok (.i2l, 1) := by decide +kernel
theorem dX7_narrow_31 : decode cX7_narrow 31 = .ok (.goto 23, 3) := by decide +kernel
theorem dX7_narrow_34 : decode cX7_narrow 34 = .ok (.iload_n 1, 1) := by decide +kernel
theorem dX7_narrow_35 : decode cX7_narrow 35 = .ok (.iconst 4, 1) := by decide +kernel
theorem dX7_narrow_36 : decode cX7_narrow 36 = .ok (.if_icmp .ne 17, 3) := by decide +kernel
theorem dX7_narrow_39 : decode cX7_narrow 39 = .ok (.lload_n 2, 1) := by decide +kernel
theorem dX7_narrow_40 : decode cX7_narrow 40 = .ok (.lconst 0, 1) := by decide +kernel
theorem dX7_narrow_41 : decode cX7_narrow 41 = .ok (.lcmp, 1) := by decide +kernel
theorem dX7_narrow_42 : decode cX7_narrow 42 = .ok (.ifCond .eq 7, 3) := by decide +kernel
theorem dX7_narrow_45 : decode cX7_narrow 45 = .ok (.lconst 1, 1) := by decide +kernel
theorem dX7_narrow_46 : decode cX7_narrow 46 = .ok (.goto 8, 3) := by decide +kernel
theorem dX7_narrow_49 : decode cX7_narrow 49 = .ok (.lconst 0, 1) := by decide +kernel
theorem dX7_narrow_50 : decode cX7_narrow 50 = .ok (.goto 4, 3) := by decide +kernel
theorem dX7_narrow_53 : decode cX7_narrow 53 = .ok (.lload_n 2, 1) := by decide +kernel
theorem dX7_narrow_54 : decode cX7_narrow 54 = .ok (.lreturn, 1) := by decide +kernel
theorem dX7_item_0 : decode cX7_item 0 = .ok (.aload_n 0, 1) := by decide +kernel
theorem dX7_item_1 : decode cX7_item 1 = .ok (.iload_n 1, 1) := by decide +kernel
theorem dX7_item_2 : decode cX7_item 2 = .ok (.invokevirtual 299, 3) := by decide +kernel
theorem dX7_item_5 : decode cX7_item 5 = .ok (.ifCond .ne 5, 3) := by decide +kernel
theorem dX7_item_8 : decode cX7_item 8 = .ok (.iconst (-1), 1) := by decide +kernel
theorem dX7_item_9 : decode cX7_item 9 = .ok (.ireturn, 1) := by decide +kernel
theorem dX7_item_10 : decode cX7_item 10 = .ok (.aload_n 0, 1) := by decide +kernel
theorem dX7_item_11 : decode cX7_item 11 = .ok (.getfield 223, 3) := by decide +kernel
theorem dX7_item_14 : decode cX7_item 14 = .ok (.iload_n 1, 1) := by decide +kernel
theorem dX7_item_15 : decode cX7_item 15 = .ok (.iaload, 1) := by decide +kernel
theorem dX7_item_16 : decode cX7_item 16 = .ok (.ifCond .ge 6, 3) := by decide +kernel
theorem dX7_item_19 : decode cX7_item 19 = .ok (.bipush (-11), 2) := by decide +kernel
theorem dX7_item_21 : decode cX7_item 21 = .ok (.ireturn, 1) := by decide +kernel
theorem dX7_item_22 : decode cX7_item 22 = .ok (.aload_n 0, 1) := by decide +kernel
theorem dX7_item_23 : decode cX7_item 23 = .ok (.iload_n 2, 1) := by decide +kernel
theorem dX7_item_24 : decode cX7_item 24 = .ok (.iconst 0, 1) := by decide +kernel
theorem dX7_item_25 : decode cX7_item 25 = .ok (.aload_n 0, 1) := by decide +kernel
theorem dX7_item_26 : decode cX7_item 26 = .ok (.getfield 226, 3) := by decide +kernel
theorem dX7_item_29 : decode cX7_item 29 = .ok (.iload_n 1, 1) := by decide +kernel
theorem dX7_item_30 : decode cX7_item 30 = .ok (.iaload, 1) := by decide +kernel
theorem dX7_item_31 : decode cX7_item 31 = .ok (.iconst 1, 1) := by decide +kernel
theorem dX7_item_32 : decode cX7_item 32 = .ok (.isub, 1) := by decide +kernel
theorem dX7_item_33 : decode cX7_item 33 = .ok (.invokevirtual 1, 3) := by decide +kernel
theorem dX7_item_36 : decode cX7_item 36 = .ok (.ifCond .ne 6, 3) := by decide +kernel
theorem dX7_item_39 : decode cX7_item 39 = .ok (.bipush (-13), 2) := by decide +kernel
theorem dX7_item_41 : decode cX7_item 41 = .ok (.ireturn, 1) := by decide +kernel
theorem dX7_item_42 : decode cX7_item 42 = .ok (.aload_n 0, 1) := by decide +kernel
theorem dX7_item_43 : decode cX7_item 43 = .ok (.getfield 229, 3) := by decide +kernel
theorem dX7_item_46 : decode cX7_item 46 = .ok (.bipush 60, 2) := by decide +kernel
theorem dX7_item_48 : decode cX7_item 48 = .ok (.iload_n 1, 1) := by decide +kernel
theorem dX7_item_49 : decode cX7_item 49 = .ok (.imul, 1) := by decide +kernel
theorem dX7_item_50 : decode cX7_item 50 = .ok (.iload_n 2, 1) := by decide +kernel
theorem dX7_item_51 : decode cX7_item 51 = .ok (.iadd, 1) := by decide +kernel
theorem dX7_item_52 : decode cX7_item 52 = .ok (.aload_n 0, 1) := by decide +kernel
theorem dX7_item_53 : decode cX7_item 53 = .ok (.aload_n 0, 1) := by decide +kernel
theorem dX7_item_54 : decode cX7_item 54 = .ok (.getfield 223, 3) := by decide +kernel
theorem dX7_item_57 : decode cX7_item 57 = .ok (.iload_n 1, 1) := by decide +kernel
theorem dX7_item_58 : decode cX7_item 58 = .ok (.iaload, 1) := by decide +kernel
theorem dX7_item_59 : decode cX7_item 59 = .ok (.lload_n 3, 1) := by decide +kernel
theorem dX7_item_60 : decode cX7_item 60 = .ok (.invokevirtual 327, 3) := by decide +kernel
theorem dX7_item_63 : decode cX7_item 63 = .ok (.lastore, 1) := by decide +kernel
theorem dX7_item_64 : decode cX7_item 64 = .ok (.iconst 1, 1) := by decide +kernel
theorem dX7_item_65 : decode cX7_item 65 = .ok (.ireturn, 1) := by decide +kernel
theorem dX7_read_0 : decode cX7_read 0 = .ok (.aload_n 0, 1) := by decide +kernel
theorem dX7_read_1 : decode cX7_read 1 = .ok (.iload_n 1, 1) := by decide +kernel
theorem dX7_read_2 : decode cX7_read 2 = .ok (.invokevirtual 299, 3) := by decide +kernel
theorem dX7_read_5 : decode cX7_read 5 = .ok (.ifCond .eq 29, 3) := by decide +kernel
theorem dX7_read_8 : decode cX7_read 8 = .ok (.aload_n 0, 1) := by decide +kernel
theorem dX7_read_9 : decode cX7_read 9 = .ok (.getfield 223, 3) := by decide +kernel
theorem dX7_read_12 : decode cX7_read 12 = .ok (.iload_n 1, 1) := by decide +kernel
theorem dX7_read_13 : decode cX7_read 13 = .ok (.iaload, 1) := by decide +kernel
theorem dX7_read_14 : decode cX7_read 14 = .ok (.ifCond .lt 20, 3) := by decide +kernel
theorem dX7_read_17 : decode cX7_read 17 = .ok (.aload_n 0, 1) := by decide +kernel
theorem dX7_read_18 : decode cX7_read 18 = .ok (.iload_n 2, 1) := by decide +kernel
theorem dX7_read_19 : decode cX7_read 19 = .ok (.iconst 0, 1) := by decide +kernel
theorem dX7_read_20 : decode cX7_read 20 = .ok (.aload_n 0, 1) := by decide +kernel
theorem dX7_read_21 : decode cX7_read 21 = .ok (.getfield 226, 3) := by decide +kernel
theorem dX7_read_24 : decode cX7_read 24 = .ok (.iload_n 1, 1) := by decide +kernel
theorem dX7_read_25 : decode cX7_read 25 = .ok (.iaload, 1) := by decide +kernel
theorem dX7_read_26 : decode cX7_read 26 = .ok (.iconst 1, 1) := by decide +kernel
theorem dX7_read_27 : decode cX7_read 27 = .ok (.isub, 1) := by decide +kernel
theorem dX7_read_28 : decode cX7_read 28 = .ok (.invokevirtual 1, 3) := by decide +kernel
theorem dX7_read_31 : decode cX7_read 31 = .ok (.ifCond .ne 9, 3) := by decide +kernel
theorem dX7_read_34 : decode cX7_read 34 = .ok (.ldc2_w 331, 3) := by decide +kernel
theorem dX7_read_37 : decode cX7_read 37 = .ok (.goto 14, 3) := by decide +kernel
theorem dX7_read_40 : decode cX7_read 40 = .ok (.aload_n 0, 1) := by decide +kernel
theorem dX7_read_41 : decode cX7_read 41 = .ok (.getfield 229, 3) := by decide +kernel
theorem dX7_read_44 : decode cX7_read 44 = .ok (.bipush 60, 2) := by decide +kernel
theorem dX7_read_46 : decode cX7_read 46 = .ok (.iload_n 1, 1) := by decide +kernel
theorem dX7_read_47 : decode cX7_read 47 = .ok (.imul, 1) := by decide +kernel
theorem dX7_read_48 : decode cX7_read 48 = .ok (.iload_n 2, 1) := by decide +kernel
theorem dX7_read_49 : decode cX7_read 49 = .ok (.iadd, 1) := by decide +kernel
theorem dX7_read_50 : decode cX7_read 50 = .ok (.laload, 1) := by decide +kernel
theorem dX7_read_51 : decode cX7_read 51 = .ok (.lreturn, 1) := by decide +kernel
theorem dX7_shift_0 : decode cX7_shift 0 = .ok (.aload_n 0, 1) := by decide +kernel
theorem dX7_shift_1 : decode cX7_shift 1 = .ok (.iload_n 1, 1) := by decide +kernel
theorem dX7_shift_2 : decode cX7_shift 2 = .ok (.invokevirtual 299, 3) := by decide +kernel
theorem dX7_shift_5 : decode cX7_shift 5 = .ok (.ifCond .eq 11, 3) := by decide +kernel
theorem dX7_shift_8 : decode cX7_shift 8 = .ok (.aload_n 0, 1) := by decide +kernel
theorem dX7_shift_9 : decode cX7_shift 9 = .ok (.iload_n 3, 1) := by decide +kernel
theorem dX7_shift_10 : decode cX7_shift 10 = .ok (.invokevirtual 299, 3) := by decide +kernel
theorem dX7_shift_13 : decode cX7_shift 13 = .ok (.ifCond .ne 5, 3) := by decide +kernel
theorem dX7_shift_16 : decode cX7_shift 16 = .ok (.iconst (-1), 1) := by decide +kernel
theorem dX7_shift_17 : decode cX7_shift 17 = .ok (.ireturn, 1) := by decide +kernel
theorem dX7_shift_18 : decode cX7_shift 18 = .ok (.aload_n 0, 1) := by decide +kernel
theorem dX7_shift_19 : decode cX7_shift 19 = .ok (.getfield 223, 3) := by decide +kernel
theorem dX7_shift_22 : decode cX7_shift 22 = .ok (.iload_n 1, 1) := by decide +kernel
theorem dX7_shift_23 : decode cX7_shift 23 = .ok (.iaload, 1) := by decide +kernel
theorem dX7_shift_24 : decode cX7_shift 24 = .ok (.ifCond .lt 12, 3) := by decide +kernel
theorem dX7_shift_27 : decode cX7_shift 27 = .ok (.aload_n 0, 1) := by decide +kernel
theorem dX7_shift_28 : decode cX7_shift 28 = .ok (.getfield 223, 3) := by decide +kernel
theorem dX7_shift_31 : decode cX7_shift 31 = .ok (.iload_n 3, 1) := by decide +kernel
theorem dX7_shift_32 : decode cX7_shift 32 = .ok (.iaload, 1) := by decide +kernel
theorem dX7_shift_33 : decode cX7_shift 33 = .ok (.ifCond .ge 6, 3) := by decide +kernel
theorem dX7_shift_36 : decode cX7_shift 36 = .ok (.bipush (-11), 2) := by decide +kernel
theorem dX7_shift_38 : decode cX7_shift 38 = .ok (.ireturn, 1) := by decide +kernel
theorem dX7_shift_39 : decode cX7_shift 39 = .ok (.aload_n 0, 1) := by decide +kernel
theorem dX7_shift_40 : decode cX7_shift 40 = .ok (.getfield 223, 3) := by decide +kernel
theorem dX7_shift_43 : decode cX7_shift 43 = .ok (.iload_n 1, 1) := by decide +kernel
theorem dX7_shift_44 : decode cX7_shift 44 = .ok (.iaload, 1) := by decide +kernel
theorem dX7_shift_45 : decode cX7_shift 45 = .ok (.aload_n 0, 1) := by decide +kernel
theorem dX7_shift_46 : decode cX7_shift 46 = .ok (.getfield 223, 3) := by decide +kernel
theorem dX7_shift_49 : decode cX7_shift 49 = .ok (.iload_n 3, 1) := by decide +kernel
theorem dX7_shift_50 : decode cX7_shift 50 = .ok (.iaload, 1) := by decide +kernel
theorem dX7_shift_51 : decode cX7_shift 51 = .ok (.if_icmp .eq 6, 3) := by decide +kernel
theorem dX7_shift_54 : decode cX7_shift 54 = .ok (.bipush (-12), 2) := by decide +kernel
theorem dX7_shift_56 : decode cX7_shift 56 = .ok (.ireturn, 1) := by decide +kernel
theorem dX7_shift_57 : decode cX7_shift 57 = .ok (.iload 5, 2) := by decide +kernel
theorem dX7_shift_59 : decode cX7_shift 59 = .ok (.ifCond .lt 39, 3) := by decide +kernel
theorem dX7_shift_62 : decode cX7_shift 62 = .ok (.iload_n 2, 1) := by decide +kernel
theorem dX7_shift_63 : decode cX7_shift 63 = .ok (.ifCond .lt 35, 3) := by decide +kernel
theorem dX7_shift_66 : decode cX7_shift 66 = .ok (.iload 4, 2) := by decide +kernel
theorem dX7_shift_68 : decode cX7_shift 68 = .ok (.ifCond .lt 30, 3) := by decide +kernel
theorem dX7_shift_71 : decode cX7_shift 71 = .ok (.iload_n 2, 1) := by decide +kernel
theorem dX7_shift_72 : decode cX7_shift 72 = .ok (.aload_n 0, 1) := by decide +kernel
theorem dX7_shift_73 : decode cX7_shift 73 = .ok (.getfield 226, 3) := by decide +kernel
theorem dX7_shift_76 : decode cX7_shift 76 = .ok (.iload_n 1, 1) := by decide +kernel
theorem dX7_shift_77 : decode cX7_shift 77 = .ok (.iaload, 1) := by decide +kernel
theorem dX7_shift_78 : decode cX7_shift 78 = .ok (.iload 5, 2) := by decide +kernel
theorem dX7_shift_80 : decode cX7_shift 80 = .ok (.isub, 1) := by decide +kernel
theorem dX7_shift_81 : decode cX7_shift 81 = .ok (.if_icmp .gt 17, 3) := by decide +kernel
theorem dX7_shift_84 : decode cX7_shift 84 = .ok (.iload 4, 2) := by decide +kernel
theorem dX7_shift_86 : decode cX7_shift 86 = .ok (.aload_n 0, 1) := by decide +kernel
theorem dX7_shift_87 : decode cX7_shift 87 = .ok (.getfield 226, 3) := by decide +kernel
theorem dX7_shift_90 : decode cX7_shift 90 = .ok (.iload_n 3, 1) := by decide +kernel
theorem dX7_shift_91 : decode cX7_shift 91 = .ok (.iaload, 1) := by decide +kernel
theorem dX7_shift_92 : decode cX7_shift 92 = .ok (.iload 5, 2) := by decide +kernel
theorem dX7_shift_94 : decode cX7_shift 94 = .ok (.isub, 1) := by decide +kernel
theorem dX7_shift_95 : decode cX7_shift 95 = .ok (.if_icmp .le 6, 3) := by decide +kernel
theorem dX7_shift_98 : decode cX7_shift 98 = .ok (.bipush (-13), 2) := by decide +kernel
theorem dX7_shift_100 : decode cX7_shift 100 = .ok (.ireturn, 1) := by decide +kernel
theorem dX7_shift_101 : decode cX7_shift 101 = .ok (.iconst 0, 1) := by decide +kernel
theorem dX7_shift_102 : decode cX7_shift 102 = .ok (.istore 6, 2) := by decide +kernel
theorem dX7_shift_104 : decode cX7_shift 104 = .ok (.iload 6, 2) := by decide +kernel
theorem dX7_shift_106 : decode cX7_shift 106 = .ok (.iload 5, 2) := by decide +kernel
theorem dX7_shift_108 : decode cX7_shift 108 = .ok (.if_icmp .ge 30, 3) := by decide +kernel
theorem dX7_shift_111 : decode cX7_shift 111 = .ok (.aload_n 0, 1) := by decide +kernel
theorem dX7_shift_112 : decode cX7_shift 112 = .ok (.getfield 233, 3) := by decide +kernel
theorem dX7_shift_115 : decode cX7_shift 115 = .ok (.iload 6, 2) := by decide +kernel
theorem dX7_shift_117 : decode cX7_shift 117 = .ok (.aload_n 0, 1) := by decide +kernel
theorem dX7_shift_118 : decode cX7_shift 118 = .ok (.getfield 229, 3) := by decide +kernel
theorem dX7_shift_121 : decode cX7_shift 121 = .ok (.bipush 60, 2) := by decide +kernel
theorem dX7_shift_123 : decode cX7_shift 123 = .ok (.iload_n 1, 1) := by decide +kernel
theorem dX7_shift_124 : decode cX7_shift 124 = .ok (.imul, 1) := by decide +kernel
theorem dX7_shift_125 : decode cX7_shift 125 = .ok (.iload_n 2, 1) := by decide +kernel
theorem dX7_shift_126 : decode cX7_shift 126 = .ok (.iadd, 1) := by decide +kernel
theorem dX7_shift_127 : decode cX7_shift 127 = .ok (.iload 6, 2) := by decide +kernel
theorem dX7_shift_129 : decode cX7_shift 129 = .ok (.iadd, 1) := by decide +kernel
theorem dX7_shift_130 : decode cX7_shift 130 = .ok (.laload, 1) := by decide +kernel
theorem dX7_shift_131 : decode cX7_shift 131 = .ok (.lastore, 1) := by decide +kernel
theorem dX7_shift_132 : decode cX7_shift 132 = .ok (.iinc 6 1, 3) := by decide +kernel
theorem dX7_shift_135 : decode cX7_shift 135 = .ok (.goto (-31), 3) := by decide +kernel
theorem dX7_shift_138 : decode cX7_shift 138 = .ok (.iconst 0, 1) := by decide +kernel
theorem dX7_shift_139 : decode cX7_shift 139 = .ok (.istore 6, 2) := by decide +kernel
theorem dX7_shift_141 : decode cX7_shift 141 = .ok (.iload 6, 2) := by decide +kernel
theorem dX7_shift_143 : decode cX7_shift 143 = .ok (.iload 5, 2) := by decide +kernel
theorem dX7_shift_145 : decode cX7_shift 145 = .ok (.if_icmp .ge 31, 3) := by decide +kernel
theorem dX7_shift_148 : decode cX7_shift 148 = .ok (.aload_n 0, 1) := by decide +kernel
theorem dX7_shift_149 : decode cX7_shift 149 = .ok (.getfield 229, 3) := by decide +kernel
theorem dX7_shift_152 : decode cX7_shift 152 = .ok (.bipush 60, 2) := by decide +kernel
theorem dX7_shift_154 : decode cX7_shift 154 = .ok (.iload_n 3, 1) := by decide +kernel
theorem dX7_shift_155 : decode cX7_shift 155 = .ok (.imul, 1) := by decide +kernel
theorem dX7_shift_156 : decode cX7_shift 156 = .ok (.iload 4, 2) := by decide +kernel
theorem dX7_shift_158 : decode cX7_shift 158 = .ok (.iadd, 1) := by decide +kernel
theorem dX7_shift_159 : decode cX7_shift 159 = .ok (.iload 6, 2) := by decide +kernel
theorem dX7_shift_161 : decode cX7_shift 161 = .ok (.iadd, 1) := by decide +kernel
theorem dX7_shift_162 : decode cX7_shift 162 = .ok (.aload_n 0, 1) := by decide +kernel
theorem dX7_shift_163 : decode cX7_shift 163 = .ok (.getfield 233, 3) := by decide +kernel
theorem dX7_shift_166 : decode cX7_shift 166 = .ok (.iload 6, 2) := by decide +kernel
theorem dX7_shift_168 : decode cX7_shift 168 = .ok (.laload, 1) := by decide +kernel
theorem dX7_shift_169 : decode cX7_shift 169 = .ok (.lastore, 1) := by decide +kernel
theorem dX7_shift_170 : decode cX7_shift 170 = .ok (.iinc 6 1, 3) := by decide +kernel
theorem dX7_shift_173 : decode cX7_shift 173 = .ok (.goto (-32), 3) := by decide +kernel
theorem dX7_shift_176 : decode cX7_shift 176 = .ok (.iload 5, 2) := by decide +kernel
theorem dX7_shift_178 : decode cX7_shift 178 = .ok (.ireturn, 1) := by decide +kernel
