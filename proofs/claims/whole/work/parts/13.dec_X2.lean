/-! decode rows -/
theorem dX2_restart_0 : decode cX2_restart 0 = .ok (.aload_n 0, 1) := by decide +kernel
theorem dX2_restart_1 : decode cX2_restart 1 = .ok (.aload_n 1, 1) := by decide +kernel
theorem dX2_restart_2 : decode cX2_restart 2 = .ok (.putfield 38, 3) := by decide +kernel
theorem dX2_restart_5 : decode cX2_restart 5 = .ok (.aload_n 0, 1) := by decide +kernel
theorem dX2_restart_6 : decode cX2_restart 6 = .ok (.iload_n 2, 1) := by decide +kernel
theorem dX2_restart_7 : decode cX2_restart 7 = .ok (.putfield 42, 3) := by decide +kernel
theorem dX2_restart_10 : decode cX2_restart 10 = .ok (.aload_n 0, 1) := by decide +kernel
theorem dX2_restart_11 : decode cX2_restart 11 = .ok (.aload_n 1, 1) := by decide +kernel
theorem dX2_restart_12 : decode cX2_restart 12 = .ok (.iconst 2, 1) := by decide +kernel
theorem dX2_restart_13 : decode cX2_restart 13 = .ok (.aload_n 0, 1) := by decide +kernel
theorem dX2_restart_14 : decode cX2_restart 14 = .ok (.getfield 42, 3) := by decide +kernel
theorem dX2_restart_17 : decode cX2_restart 17 = .ok (.iconst 5, 1) := by decide +kernel
theorem dX2_restart_18 : decode cX2_restart 18 = .ok (.iconst 5, 1) := by decide +kernel
theorem dX2_restart_19 : decode cX2_restart 19 = .ok (.invokevirtual 47, 3) := by decide +kernel
theorem dX2_restart_22 : decode cX2_restart 22 = .ok (.putfield 51, 3) := by decide +kernel
theorem dX2_restart_25 : decode cX2_restart 25 = .ok (.aload_n 0, 1) := by decide +kernel
theorem dX2_restart_26 : decode cX2_restart 26 = .ok (.aload_n 1, 1) := by decide +kernel
theorem dX2_restart_27 : decode cX2_restart 27 = .ok (.iconst 3, 1) := by decide +kernel
theorem dX2_restart_28 : decode cX2_restart 28 = .ok (.aload_n 0, 1) := by decide +kernel
theorem dX2_restart_29 : decode cX2_restart 29 = .ok (.getfield 42, 3) := by decide +kernel
theorem dX2_restart_32 : decode cX2_restart 32 = .ok (.iconst 1, 1) := by decide +kernel
theorem dX2_restart_33 : decode cX2_restart 33 = .ok (.iconst 2, 1) := by decide +kernel
theorem dX2_restart_34 : decode cX2_restart 34 = .ok (.invokevirtual 47, 3) := by decide +kernel
theorem dX2_restart_37 : decode cX2_restart 37 = .ok (.putfield 54, 3) := by decide +kernel
theorem dX2_restart_40 : decode cX2_restart 40 = .ok (.aload_n 0, 1) := by decide +kernel
theorem dX2_restart_41 : decode cX2_restart 41 = .ok (.iconst 0, 1) := by decide +kernel
theorem dX2_restart_42 : decode cX2_restart 42 = .ok (.putfield 57, 3) := by decide +kernel
theorem dX2_restart_45 : decode cX2_restart 45 = .ok (.aload_n 0, 1) := by decide +kernel
theorem dX2_restart_46 : decode cX2_restart 46 = .ok (.invokevirtual 60, 3) := by decide +kernel
theorem dX2_restart_49 : decode cX2_restart 49 = .ok (.return_, 1) := by decide +kernel
theorem dX2_now_0 : decode cX2_now 0 = .ok (.aload_n 0, 1) := by decide +kernel
theorem dX2_now_1 : decode cX2_now 1 = .ok (.getfield 11, 3) := by decide +kernel
theorem dX2_now_4 : decode cX2_now 4 = .ok (.aload_n 0, 1) := by decide +kernel
theorem dX2_now_5 : decode cX2_now 5 = .ok (.getfield 57, 3) := by decide +kernel
theorem dX2_now_8 : decode cX2_now 8 = .ok (.aaload, 1) := by decide +kernel
theorem dX2_now_9 : decode cX2_now 9 = .ok (.areturn, 1) := by decide +kernel
theorem dX2_weigh_0 : decode cX2_weigh 0 = .ok (.aload_n 0, 1) := by decide +kernel
theorem dX2_weigh_1 : decode cX2_weigh 1 = .ok (.invokevirtual 63, 3) := by decide +kernel
theorem dX2_weigh_4 : decode cX2_weigh 4 = .ok (.astore_n 1, 1) := by decide +kernel
theorem dX2_weigh_5 : decode cX2_weigh 5 = .ok (.aload_n 0, 1) := by decide +kernel
theorem dX2_weigh_6 : decode cX2_weigh 6 = .ok (.getfield 38, 3) := by decide +kernel
theorem dX2_weigh_9 : decode cX2_weigh 9 = .ok (.ifnull 21, 3) := by decide +kernel
theorem dX2_weigh_12 : decode cX2_weigh 12 = .ok (.aload_n 0, 1) := by decide +kernel
theorem dX2_weigh_13 : decode cX2_weigh 13 = .ok (.getfield 57, 3) := by decide +kernel
theorem dX2_weigh_16 : decode cX2_weigh 16 = .ok (.aload_n 0, 1) := by decide +kernel
theorem dX2_weigh_17 : decode cX2_weigh 17 = .ok (.getfield 51, 3) := by decide +kernel
theorem dX2_weigh_20 : decode cX2_weigh 20 = .ok (.if_icmp .ge 10, 3) := by decide +kernel
theorem dX2_weigh_23 : decode cX2_weigh 23 = .ok (.aload_n 1, 1) := by decide +kernel
theorem dX2_weigh_24 : decode cX2_weigh 24 = .ok (.invokevirtual 67, 3) := by decide +kernel
theorem dX2_weigh_27 : decode cX2_weigh 27 = .ok (.ifCond .eq 4, 3) := by decide +kernel
theorem dX2_weigh_30 : decode cX2_weigh 30 = .ok (.return_, 1) := by decide +kernel
theorem dX2_weigh_31 : decode cX2_weigh 31 = .ok (.aload_n 0, 1) := by decide +kernel
theorem dX2_weigh_32 : decode cX2_weigh 32 = .ok (.getfield 17, 3) := by decide +kernel
theorem dX2_weigh_35 : decode cX2_weigh 35 = .ok (.iconst 0, 1) := by decide +kernel
theorem dX2_weigh_36 : decode cX2_weigh 36 = .ok (.aload_n 0, 1) := by decide +kernel
theorem dX2_weigh_37 : decode cX2_weigh 37 = .ok (.getfield 57, 3) := by decide +kernel
theorem dX2_weigh_40 : decode cX2_weigh 40 = .ok (.iastore, 1) := by decide +kernel
theorem dX2_weigh_41 : decode cX2_weigh 41 = .ok (.aload_n 0, 1) := by decide +kernel
theorem dX2_weigh_42 : decode cX2_weigh 42 = .ok (.getfield 17, 3) := by decide +kernel
theorem dX2_weigh_45 : decode cX2_weigh 45 = .ok (.iconst 1, 1) := by decide +kernel
theorem dX2_weigh_46 : decode cX2_weigh 46 = .ok (.aload_n 1, 1) := by decide +kernel
theorem dX2_weigh_47 : decode cX2_weigh 47 = .ok (.getfield 71, 3) := by decide +kernel
theorem dX2_weigh_50 : decode cX2_weigh 50 = .ok (.iastore, 1) := by decide +kernel
theorem dX2_weigh_51 : decode cX2_weigh 51 = .ok (.aload_n 0, 1) := by decide +kernel
theorem dX2_weigh_52 : decode cX2_weigh 52 = .ok (.getfield 17, 3) := by decide +kernel
theorem dX2_weigh_55 : decode cX2_weigh 55 = .ok (.iconst 2, 1) := by decide +kernel
theorem dX2_weigh_56 : decode cX2_weigh 56 = .ok (.aload_n 1, 1) := by decide +kernel
theorem dX2_weigh_57 : decode cX2_weigh 57 = .ok (.getfield 31, 3) := by decide +kernel
theorem dX2_weigh_60 : decode cX2_weigh 60 = .ok (.iastore, 1) := by decide +kernel
theorem dX2_weigh_61 : decode cX2_weigh 61 = .ok (.aload_n 0, 1) := by decide +kernel
theorem dX2_weigh_62 : decode cX2_weigh 62 = .ok (.getfield 17, 3) := by decide +kernel
theorem dX2_weigh_65 : decode cX2_weigh 65 = .ok (.iconst 3, 1) := by decide +kernel
theorem dX2_weigh_66 : decode cX2_weigh 66 = .ok (.aload_n 1, 1) := by decide +kernel
theorem dX2_weigh_67 : decode cX2_weigh 67 = .ok (.getfield 74, 3) := by decide +kernel
theorem dX2_weigh_70 : decode cX2_weigh 70 = .ok (.invokestatic 77, 3) := by decide +kernel
theorem dX2_weigh_73 : decode cX2_weigh 73 = .ok (.iastore, 1) := by decide +kernel
theorem dX2_weigh_74 : decode cX2_weigh 74 = .ok (.aload_n 0, 1) := by decide +kernel
theorem dX2_weigh_75 : decode cX2_weigh 75 = .ok (.getfield 17, 3) := by decide +kernel
theorem dX2_weigh_78 : decode cX2_weigh 78 = .ok (.iconst 4, 1) := by decide +kernel
theorem dX2_weigh_79 : decode cX2_weigh 79 = .ok (.aload_n 1, 1) := by decide +kernel
theorem dX2_weigh_80 : decode cX2_weigh 80 = .ok (.getfield 83, 3) := by decide +kernel
theorem dX2_weigh_83 : decode cX2_weigh 83 = .ok (.iastore, 1) := by decide +kernel
theorem dX2_weigh_84 : decode cX2_weigh 84 = .ok (.aload_n 1, 1) := by decide +kernel
theorem dX2_weigh_85 : decode cX2_weigh 85 = .ok (.aload_n 0, 1) := by decide +kernel
theorem dX2_weigh_86 : decode cX2_weigh 86 = .ok (.getfield 38, 3) := by decide +kernel
theorem dX2_weigh_89 : decode cX2_weigh 89 = .ok (.iconst 0, 1) := by decide +kernel
theorem dX2_weigh_90 : decode cX2_weigh 90 = .ok (.aload_n 0, 1) := by decide +kernel
theorem dX2_weigh_91 : decode cX2_weigh 91 = .ok (.getfield 42, 3) := by decide +kernel
theorem dX2_weigh_94 : decode cX2_weigh 94 = .ok (.aload_n 0, 1) := by decide +kernel
theorem dX2_weigh_95 : decode cX2_weigh 95 = .ok (.getfield 17, 3) := by decide +kernel
theorem dX2_weigh_98 : decode cX2_weigh 98 = .ok (.invokevirtual 86, 3) := by decide +kernel
theorem dX2_weigh_101 : decode cX2_weigh 101 = .ok (.putfield 90, 3) := by decide +kernel
theorem dX2_weigh_104 : decode cX2_weigh 104 = .ok (.aload_n 1, 1) := by decide +kernel
theorem dX2_weigh_105 : decode cX2_weigh 105 = .ok (.aload_n 0, 1) := by decide +kernel
theorem dX2_weigh_106 : decode cX2_weigh 106 = .ok (.getfield 38, 3) := by decide +kernel
theorem dX2_weigh_109 : decode cX2_weigh 109 = .ok (.iconst 1, 1) := by decide +kernel
theorem dX2_weigh_110 : decode cX2_weigh 110 = .ok (.aload_n 0, 1) := by decide +kernel
theorem dX2_weigh_111 : decode cX2_weigh 111 = .ok (.getfield 42, 3) := by decide +kernel
theorem dX2_weigh_114 : decode cX2_weigh 114 = .ok (.aload_n 0, 1) := by decide +kernel
theorem dX2_weigh_115 : decode cX2_weigh 115 = .ok (.getfield 17, 3) := by decide +kernel
theorem dX2_weigh_118 : decode cX2_weigh 118 = .ok (.invokevirtual 86, 3) := by decide +kernel
theorem dX2_weigh_121 : decode cX2_weigh 121 = .ok (.putfield 93, 3) := by decide +kernel
theorem dX2_weigh_124 : decode cX2_weigh 124 = .ok (.return_, 1) := by decide +kernel
theorem dX2_open_0 : decode cX2_open 0 = .ok (.aload_n 0, 1) := by decide +kernel
theorem dX2_open_1 : decode cX2_open 1 = .ok (.invokevirtual 63, 3) := by decide +kernel
theorem dX2_open_4 : decode cX2_open 4 = .ok (.astore_n 1, 1) := by decide +kernel
theorem dX2_open_5 : decode cX2_open 5 = .ok (.aload_n 0, 1) := by decide +kernel
theorem dX2_open_6 : decode cX2_open 6 = .ok (.getfield 38, 3) := by decide +kernel
theorem dX2_open_9 : decode cX2_open 9 = .ok (.ifnull 21, 3) := by decide +kernel
theorem dX2_open_12 : decode cX2_open 12 = .ok (.aload_n 0, 1) := by decide +kernel
theorem dX2_open_13 : decode cX2_open 13 = .ok (.getfield 57, 3) := by decide +kernel
theorem dX2_open_16 : decode cX2_open 16 = .ok (.aload_n 0, 1) := by decide +kernel
theorem dX2_open_17 : decode cX2_open 17 = .ok (.getfield 51, 3) := by decide +kernel
theorem dX2_open_20 : decode cX2_open 20 = .ok (.if_icmp .ge 10, 3) := by decide +kernel
theorem dX2_open_23 : decode cX2_open 23 = .ok (.aload_n 1, 1) := by decide +kernel
theorem dX2_open_24 : decode cX2_open 24 = .ok (.invokevirtual 67, 3) := by decide +kernel
theorem dX2_open_27 : decode cX2_open 27 = .ok (.ifCond .eq 5, 3) := by decide +kernel
theorem dX2_open_30 : decode cX2_open 30 = .ok (.iconst 0, 1) := by decide +kernel
theorem dX2_open_31 : decode cX2_open 31 = .ok (.ireturn, 1) := by decide +kernel
theorem dX2_open_32 : decode cX2_open 32 = .ok (.aload_n 1, 1) := by decide +kernel
theorem dX2_open_33 : decode cX2_open 33 = .ok (.getfield 90, 3) := by decide +kernel
theorem dX2_open_36 : decode cX2_open 36 = .ok (.istore_n 2, 1) := by decide +kernel
theorem dX2_open_37 : decode cX2_open 37 = .ok (.aload_n 1, 1) := by decide +kernel
theorem dX2_open_38 : decode cX2_open 38 = .ok (.getfield 35, 3) := by decide +kernel
theorem dX2_open_41 : decode cX2_open 41 = .ok (.iconst (-1), 1) := by decide +kernel
theorem dX2_open_42 : decode cX2_open 42 = .ok (.ixor, 1) := by decide +kernel
theorem dX2_open_43 : decode cX2_open 43 = .ok (.istore_n 3, 1) := by decide +kernel
theorem dX2_open_44 : decode cX2_open 44 = .ok (.iload_n 2, 1) := by decide +kernel
theorem dX2_open_45 : decode cX2_open 45 = .ok (.iconst 1, 1) := by decide +kernel
theorem dX2_open_46 : decode cX2_open 46 = .ok (.ishr, 1) := by decide +kernel
theorem dX2_open_47 : decode cX2_open 47 = .ok (.iconst 1, 1) := by decide +kernel
theorem dX2_open_48 : decode cX2_open 48 = .ok (.iand, 1) := by decide +kernel
theorem dX2_open_49 : decode cX2_open 49 = .ok (.iconst 1, 1) := by decide +kernel
theorem dX2_open_50 : decode cX2_open 50 = .ok (.ixor, 1) := by decide +kernel
theorem dX2_open_51 : decode cX2_open 51 = .ok (.istore 4, 2) := by decide +kernel
theorem dX2_open_53 : decode cX2_open 53 = .ok (.iload_n 2, 1) := by decide +kernel
theorem dX2_open_54 : decode cX2_open 54 = .ok (.iconst 2, 1) := by decide +kernel
theorem dX2_open_55 : decode cX2_open 55 = .ok (.ishr, 1) := by decide +kernel
theorem dX2_open_56 : decode cX2_open 56 = .ok (.iconst 1, 1) := by decide +kernel
theorem dX2_open_57 : decode cX2_open 57 = .ok (.iand, 1) := by decide +kernel
theorem dX2_open_58 : decode cX2_open 58 = .ok (.ifCond .ne 21, 3) := by decide +kernel
theorem dX2_open_61 : decode cX2_open 61 = .ok (.iload 4, 2) := by decide +kernel
theorem dX2_open_63 : decode cX2_open 63 = .ok (.aload_n 0, 1) := by decide +kernel
theorem dX2_open_64 : decode cX2_open 64 = .ok (.getfield 24, 3) := by decide +kernel
theorem dX2_open_67 : decode cX2_open 67 = .ok (.aload_n 1, 1) := by decide +kernel
theorem dX2_open_68 : decode cX2_open 68 = .ok (.getfield 71, 3) := by decide +kernel
theorem dX2_open_71 : decode cX2_open 71 = .ok (.iaload, 1) := by decide +kernel
theorem dX2_open_72 : decode cX2_open 72 = .ok (.iload_n 3, 1) := by decide +kernel
theorem dX2_open_73 : decode cX2_open 73 = .ok (.iand, 1) := by decide +kernel
theorem dX2_open_74 : decode cX2_open 74 = .ok (.iconst 1, 1) := by decide +kernel
theorem dX2_open_75 : decode cX2_open 75 = .ok (.ishl, 1) := by decide +kernel
theorem dX2_open_76 : decode cX2_open 76 = .ok (.ior, 1) := by decide +kernel
theorem dX2_open_77 : decode cX2_open 77 = .ok (.istore 4, 2) := by decide +kernel
theorem dX2_open_79 : decode cX2_open 79 = .ok (.iload_n 2, 1) := by decide +kernel
theorem dX2_open_80 : decode cX2_open 80 = .ok (.iconst 3, 1) := by decide +kernel
theorem dX2_open_81 : decode cX2_open 81 = .ok (.ishr, 1) := by decide +kernel
theorem dX2_open_82 : decode cX2_open 82 = .ok (.iconst 1, 1) := by decide +kernel
theorem dX2_open_83 : decode cX2_open 83 = .ok (.iand, 1) := by decide +kernel
theorem dX2_open_84 : decode cX2_open 84 = .ok (.ifCond .ne 10, 3) := by decide +kernel
theorem dX2_open_87 : decode cX2_open 87 = .ok (.iload 4, 2) := by decide +kernel
theorem dX2_open_89 : decode cX2_open 89 = .ok (.bipush 64, 2) := by decide +kernel
theorem dX2_open_91 : decode cX2_open 91 = .ok (.ior, 1) := by decide +kernel
theorem dX2_open_92 : decode cX2_open 92 = .ok (.istore 4, 2) := by decide +kernel
theorem dX2_open_94 : decode cX2_open 94 = .ok (.iload_n 2, 1) := by decide +kernel
theorem dX2_open_95 : decode cX2_open 95 = .ok (.iconst 4, 1) := by decide +kernel
theorem dX2_open_96 : decode cX2_open 96 = .ok (.ishr, 1) := by decide +kernel
theorem dX2_open_97 : decode cX2_open 97 = .ok (.iconst 1, 1) := by decide +kernel
theorem dX2_open_98 : decode cX2_open 98 = .ok (.iand, 1) := by decide +kernel
theorem dX2_open_99 : decode cX2_open 99 = .ok (.ifCond .ne 27, 3) := by decide +kernel
theorem dX2_open_102 : decode cX2_open 102 = .ok (.aload_n 0, 1) := by decide +kernel
theorem dX2_open_103 : decode cX2_open 103 = .ok (.getfield 57, 3) := by decide +kernel
theorem dX2_open_106 : decode cX2_open 106 = .ok (.ifCond .le 20, 3) := by decide +kernel
theorem dX2_open_109 : decode cX2_open 109 = .ok (.aload_n 1, 1) := by decide +kernel
theorem dX2_open_110 : decode cX2_open 110 = .ok (.getfield 83, 3) := by decide +kernel
theorem dX2_open_113 : decode cX2_open 113 = .ok (.bipush 6, 2) := by decide +kernel
theorem dX2_open_115 : decode cX2_open 115 = .ok (.if_icmp .eq 11, 3) := by decide +kernel
theorem dX2_open_118 : decode cX2_open 118 = .ok (.iload 4, 2) := by decide +kernel
theorem dX2_open_120 : decode cX2_open 120 = .ok (.sipush 128, 3) := by decide +kernel
theorem dX2_open_123 : decode cX2_open 123 = .ok (.ior, 1) := by decide +kernel
theorem dX2_open_124 : decode cX2_open 124 = .ok (.istore 4, 2) := by decide +kernel
theorem dX2_open_126 : decode cX2_open 126 = .ok (.iload_n 2, 1) := by decide +kernel
theorem dX2_open_127 : decode cX2_open 127 = .ok (.iconst 5, 1) := by decide +kernel
theorem dX2_open_128 : decode cX2_open 128 = .ok (.ishr, 1) := by decide +kernel
theorem dX2_open_129 : decode cX2_open 129 = .ok (.iconst 1, 1) := by decide +kernel
theorem dX2_open_130 : decode cX2_open 130 = .ok (.iand, 1) := by decide +kernel
theorem dX2_open_131 : decode cX2_open 131 = .ok (.ifCond .ne 22, 3) := by decide +kernel
theorem dX2_open_134 : decode cX2_open 134 = .ok (.iload 4, 2) := by decide +kernel
theorem dX2_open_136 : decode cX2_open 136 = .ok (.aload_n 0, 1) := by decide +kernel
theorem dX2_open_137 : decode cX2_open 137 = .ok (.getfield 27, 3) := by decide +kernel
theorem dX2_open_140 : decode cX2_open 140 = .ok (.aload_n 1, 1) := by decide +kernel
theorem dX2_open_141 : decode cX2_open 141 = .ok (.getfield 71, 3) := by decide +kernel
theorem dX2_open_144 : decode cX2_open 144 = .ok (.iaload, 1) := by decide +kernel
theorem dX2_open_145 : decode cX2_open 145 = .ok (.iload_n 3, 1) := by decide +kernel
theorem dX2_open_146 : decode cX2_open 146 = .ok (.iand, 1) := by decide +kernel
theorem dX2_open_147 : decode cX2_open 147 = .ok (.bipush 8, 2) := by decide +kernel
theorem dX2_open_149 : decode cX2_open 149 = .ok (.ishl, 1) := by decide +kernel
theorem dX2_open_150 : decode cX2_open 150 = .ok (.ior, 1) := by decide +kernel
theorem dX2_open_151 : decode cX2_open 151 = .ok (.istore 4, 2) := by decide +kernel
theorem dX2_open_153 : decode cX2_open 153 = .ok (.iload_n 2, 1) := by decide +kernel
theorem dX2_open_154 : decode cX2_open 154 = .ok (.bipush 6, 2) := by decide +kernel
theorem dX2_open_156 : decode cX2_open 156 = .ok (.ishr, 1) := by decide +kernel
theorem dX2_open_157 : decode cX2_open 157 = .ok (.iconst 1, 1) := by decide +kernel
theorem dX2_open_158 : decode cX2_open 158 = .ok (.iand, 1) := by decide +kernel
theorem dX2_open_159 : decode cX2_open 159 = .ok (.ifCond .ne 27, 3) := by decide +kernel
theorem dX2_open_162 : decode cX2_open 162 = .ok (.aload_n 1, 1) := by decide +kernel
theorem dX2_open_163 : decode cX2_open 163 = .ok (.getfield 96, 3) := by decide +kernel
theorem dX2_open_166 : decode cX2_open 166 = .ok (.aload_n 1, 1) := by decide +kernel
theorem dX2_open_167 : decode cX2_open 167 = .ok (.getfield 31, 3) := by decide +kernel
theorem dX2_open_170 : decode cX2_open 170 = .ok (.iaload, 1) := by decide +kernel
theorem dX2_open_171 : decode cX2_open 171 = .ok (.aload_n 0, 1) := by decide +kernel
theorem dX2_open_172 : decode cX2_open 172 = .ok (.getfield 54, 3) := by decide +kernel
theorem dX2_open_175 : decode cX2_open 175 = .ok (.if_icmp .ge 11, 3) := by decide +kernel
theorem dX2_open_178 : decode cX2_open 178 = .ok (.iload 4, 2) := by decide +kernel
theorem dX2_open_180 : decode cX2_open 180 = .ok (.sipush 8192, 3) := by decide +kernel
theorem dX2_open_183 : decode cX2_open 183 = .ok (.ior, 1) := by decide +kernel
theorem dX2_open_184 : decode cX2_open 184 = .ok (.istore 4, 2) := by decide +kernel
theorem dX2_open_186 : decode cX2_open 186 = .ok (.iload 4, 2) := by decide +kernel
theorem dX2_open_188 : decode cX2_open 188 = .ok (.ireturn, 1) := by decide +kernel
theorem dX2_make_0 : decode cX2_make 0 = .ok (.aload_n 0, 1) := by decide +kernel
theorem dX2_make_1 : decode cX2_make 1 = .ok (.getfield 57, 3) := by decide +kernel
theorem dX2_make_4 : decode cX2_make 4 = .ok (.iconst 5, 1) := by decide +kernel
theorem dX2_make_5 : decode cX2_make 5 = .ok (.if_icmp .ge 41, 3) := by decide +kernel
theorem dX2_make_8 : decode cX2_make 8 = .ok (.aload_n 0, 1) := by decide +kernel
theorem dX2_make_9 : decode cX2_make 9 = .ok (.getfield 11, 3) := by decide +kernel
theorem dX2_make_12 : decode cX2_make 12 = .ok (.aload_n 0, 1) := by decide +kernel
theorem dX2_make_13 : decode cX2_make 13 = .ok (.getfield 57, 3) := by decide +kernel
theorem dX2_make_16 : decode cX2_make 16 = .ok (.iconst 1, 1) := by decide +kernel
theorem dX2_make_17 : decode cX2_make 17 = .ok (.iadd, 1) := by decide +kernel
theorem dX2_make_18 : decode cX2_make 18 = .ok (.aaload, 1) := by decide +kernel
theorem dX2_make_19 : decode cX2_make 19 = .ok (.aload_n 0, 1) := by decide +kernel
theorem dX2_make_20 : decode cX2_make 20 = .ok (.getfield 11, 3) := by decide +kernel
theorem dX2_make_23 : decode cX2_make 23 = .ok (.aload_n 0, 1) := by decide +kernel
theorem dX2_make_24 : decode cX2_make 24 = .ok (.getfield 57, 3) := by decide +kernel
theorem dX2_make_27 : decode cX2_make 27 = .ok (.aaload, 1) := by decide +kernel
theorem dX2_make_28 : decode cX2_make 28 = .ok (.iload_n 1, 1) := by decide +kernel
theorem dX2_make_29 : decode cX2_make 29 = .ok (.invokevirtual 99, 3) := by decide +kernel
theorem dX2_make_32 : decode cX2_make 32 = .ok (.aload_n 0, 1) := by decide +kernel
theorem dX2_make_33 : decode cX2_make 33 = .ok (.dup, 1) := by decide +kernel
theorem dX2_make_34 : decode cX2_make 34 = .ok (.getfield 57, 3) := by decide +kernel
theorem dX2_make_37 : decode cX2_make 37 = .ok (.iconst 1, 1) := by decide +kernel
theorem dX2_make_38 : decode cX2_make 38 = .ok (.iadd, 1) := by decide +kernel
theorem dX2_make_39 : decode cX2_make 39 = .ok (.putfield 57, 3) := by decide +kernel
theorem dX2_make_42 : decode cX2_make 42 = .ok (.aload_n 0, 1) := by decide +kernel
theorem dX2_make_43 : decode cX2_make 43 = .ok (.invokevirtual 60, 3) := by decide +kernel
theorem dX2_make_46 : decode cX2_make 46 = .ok (.return_, 1) := by decide +kernel
theorem dX2_pleaAt_0 : decode cX2_pleaAt 0 = .ok (.iload_n 1, 1) := by decide +kernel
theorem dX2_pleaAt_1 : decode cX2_pleaAt 1 = .ok (.ifCond .lt 11, 3) := by decide +kernel
theorem dX2_pleaAt_4 : decode cX2_pleaAt 4 = .ok (.iload_n 1, 1) := by decide +kernel
theorem dX2_pleaAt_5 : decode cX2_pleaAt 5 = .ok (.aload_n 0, 1) := by decide +kernel
theorem dX2_pleaAt_6 : decode cX2_pleaAt 6 = .ok (.getfield 57, 3) := by decide +kernel
theorem dX2_pleaAt_9 : decode cX2_pleaAt 9 = .ok (.if_icmp .lt 7, 3) := by decide +kernel
theorem dX2_pleaAt_12 : decode cX2_pleaAt 12 = .ok (.iconst (-1), 1) := by decide +kernel
theorem dX2_pleaAt_13 : decode cX2_pleaAt 13 = .ok (.goto 14, 3) := by decide +kernel
theorem dX2_pleaAt_16 : decode cX2_pleaAt 16 = .ok (.aload_n 0, 1) := by decide +kernel
theorem dX2_pleaAt_17 : decode cX2_pleaAt 17 = .ok (.getfield 11, 3) := by decide +kernel
theorem dX2_pleaAt_20 : decode cX2_pleaAt 20 = .ok (.iload_n 1, 1) := by decide +kernel
theorem dX2_pleaAt_21 : decode cX2_pleaAt 21 = .ok (.iconst 1, 1) := by decide +kernel
theorem dX2_pleaAt_22 : decode cX2_pleaAt 22 = .ok (.iadd, 1) := by decide +kernel
theorem dX2_pleaAt_23 : decode cX2_pleaAt 23 = .ok (.aaload, 1) := by decide +kernel
theorem dX2_pleaAt_24 : decode cX2_pleaAt 24 = .ok (.getfield 103, 3) := by decide +kernel
theorem dX2_pleaAt_27 : decode cX2_pleaAt 27 = .ok (.ireturn, 1) := by decide +kernel
theorem dX2_endSort_0 : decode cX2_endSort 0 = .ok (.aload_n 0, 1) := by decide +kernel
theorem dX2_endSort_1 : decode cX2_endSort 1 = .ok (.invokevirtual 63, 3) := by decide +kernel
theorem dX2_endSort_4 : decode cX2_endSort 4 = .ok (.invokevirtual 67, 3) := by decide +kernel
theorem dX2_endSort_7 : decode cX2_endSort 7 = .ok (.ifCond .eq 11, 3) := by decide +kernel
theorem dX2_endSort_10 : decode cX2_endSort 10 = .ok (.aload_n 0, 1) := by decide +kernel
theorem dX2_endSort_11 : decode cX2_endSort 11 = .ok (.invokevirtual 63, 3) := by decide +kernel
theorem dX2_endSort_14 : decode cX2_endSort 14 = .ok (.getfield 83, 3) := by decide +kernel
theorem dX2_endSort_17 : decode cX2_endSort 17 = .ok (.ireturn, 1) := by decide +kernel
theorem dX2_endSort_18 : decode cX2_endSort 18 = .ok (.aload_n 0, 1) := by decide +kernel
theorem dX2_endSort_19 : decode cX2_endSort 19 = .ok (.invokevirtual 106, 3) := by decide +kernel
theorem dX2_endSort_22 : decode cX2_endSort 22 = .ok (.ifCond .ne 8, 3) := by decide +kernel
theorem dX2_endSort_25 : decode cX2_endSort 25 = .ok (.bipush 7, 2) := by decide +kernel
theorem dX2_endSort_27 : decode cX2_endSort 27 = .ok (.goto 4, 3) := by decide +kernel
theorem dX2_endSort_30 : decode cX2_endSort 30 = .ok (.iconst 0, 1) := by decide +kernel
theorem dX2_endSort_31 : decode cX2_endSort 31 = .ok (.ireturn, 1) := by decide +kernel
theorem dX2_countEnds_0 : decode cX2_countEnds 0 = .ok (.iconst 0, 1) := by decide +kernel
theorem dX2_countEnds_1 : decode cX2_countEnds 1 = .ok (.istore_n 2, 1) := by decide +kernel
theorem dX2_countEnds_2 : decode cX2_countEnds 2 = .ok (.iload_n 2, 1) := by decide +kernel
theorem dX2_countEnds_3 : decode cX2_countEnds 3 = .ok (.bipush 7, 2) := by decide +kernel
theorem dX2_countEnds_5 : decode cX2_countEnds 5 = .ok (.if_icmp .gt 16, 3) := by decide +kernel
theorem dX2_countEnds_8 : decode cX2_countEnds 8 = .ok (.aload_n 0, 1) := by decide +kernel
theorem dX2_countEnds_9 : decode cX2_countEnds 9 = .ok (.getfield 21, 3) := by decide +kernel
theorem dX2_countEnds_12 : decode cX2_countEnds 12 = .ok (.iload_n 2, 1) := by decide +kernel
theorem dX2_countEnds_13 : decode cX2_countEnds 13 = .ok (.iconst 0, 1) := by decide +kernel
theorem dX2_countEnds_14 : decode cX2_countEnds 14 = .ok (.iastore, 1) := by decide +kernel
theorem dX2_countEnds_15 : decode cX2_countEnds 15 = .ok (.iinc 2 1, 3) := by decide +kernel
theorem dX2_countEnds_18 : decode cX2_countEnds 18 = .ok (.goto (-16), 3) := by decide +kernel
theorem dX2_countEnds_21 : decode cX2_countEnds 21 = .ok (.aload_n 0, 1) := by decide +kernel
theorem dX2_countEnds_22 : decode cX2_countEnds 22 = .ok (.aload_n 0, 1) := by decide +kernel
theorem dX2_countEnds_23 : decode cX2_countEnds 23 = .ok (.getfield 57, 3) := by decide +kernel
theorem dX2_countEnds_26 : decode cX2_countEnds 26 = .ok (.invokevirtual 110, 3) := by decide +kernel
theorem dX2_countEnds_29 : decode cX2_countEnds 29 = .ok (.aload_n 0, 1) := by decide +kernel
theorem dX2_countEnds_30 : decode cX2_countEnds 30 = .ok (.getfield 21, 3) := by decide +kernel
theorem dX2_countEnds_33 : decode cX2_countEnds 33 = .ok (.iload_n 1, 1) := by decide +kernel
theorem dX2_countEnds_34 : decode cX2_countEnds 34 = .ok (.iaload, 1) := by decide +kernel
theorem dX2_countEnds_35 : decode cX2_countEnds 35 = .ok (.ireturn, 1) := by decide +kernel
theorem dX2_walkEnds_0 : decode cX2_walkEnds 0 = .ok (.aload_n 0, 1) := by decide +kernel
theorem dX2_walkEnds_1 : decode cX2_walkEnds 1 = .ok (.invokevirtual 106, 3) := by decide +kernel
theorem dX2_walkEnds_4 : decode cX2_walkEnds 4 = .ok (.istore_n 2, 1) := by decide +kernel
theorem dX2_walkEnds_5 : decode cX2_walkEnds 5 = .ok (.iload_n 2, 1) := by decide +kernel
theorem dX2_walkEnds_6 : decode cX2_walkEnds 6 = .ok (.ifCond .eq 8, 3) := by decide +kernel
theorem dX2_walkEnds_9 : decode cX2_walkEnds 9 = .ok (.iload_n 1, 1) := by decide +kernel
theorem dX2_walkEnds_10 : decode cX2_walkEnds 10 = .ok (.iconst 5, 1) := by decide +kernel
theorem dX2_walkEnds_11 : decode cX2_walkEnds 11 = .ok (.if_icmp .lt 27, 3) := by decide +kernel
theorem dX2_walkEnds_14 : decode cX2_walkEnds 14 = .ok (.aload_n 0, 1) := by decide +kernel
theorem dX2_walkEnds_15 : decode cX2_walkEnds 15 = .ok (.getfield 21, 3) := by decide +kernel
theorem dX2_walkEnds_18 : decode cX2_walkEnds 18 = .ok (.iconst 0, 1) := by decide +kernel
theorem dX2_walkEnds_19 : decode cX2_walkEnds 19 = .ok (.dup2, 1) := by decide +kernel
theorem dX2_walkEnds_20 : decode cX2_walkEnds 20 = .ok (.iaload, 1) := by decide +kernel
theorem dX2_walkEnds_21 : decode cX2_walkEnds 21 = .ok (.iconst 1, 1) := by decide +kernel
theorem dX2_walkEnds_22 : decode cX2_walkEnds 22 = .ok (.iadd, 1) := by decide +kernel
theorem dX2_walkEnds_23 : decode cX2_walkEnds 23 = .ok (.iastore, 1) := by decide +kernel
theorem dX2_walkEnds_24 : decode cX2_walkEnds 24 = .ok (.aload_n 0, 1) := by decide +kernel
theorem dX2_walkEnds_25 : decode cX2_walkEnds 25 = .ok (.getfield 21, 3) := by decide +kernel
theorem dX2_walkEnds_28 : decode cX2_walkEnds 28 = .ok (.aload_n 0, 1) := by decide +kernel
theorem dX2_walkEnds_29 : decode cX2_walkEnds 29 = .ok (.invokevirtual 114, 3) := by decide +kernel
theorem dX2_walkEnds_32 : decode cX2_walkEnds 32 = .ok (.dup2, 1) := by decide +kernel
theorem dX2_walkEnds_33 : decode cX2_walkEnds 33 = .ok (.iaload, 1) := by decide +kernel
theorem dX2_walkEnds_34 : decode cX2_walkEnds 34 = .ok (.iconst 1, 1) := by decide +kernel
theorem dX2_walkEnds_35 : decode cX2_walkEnds 35 = .ok (.iadd, 1) := by decide +kernel
theorem dX2_walkEnds_36 : decode cX2_walkEnds 36 = .ok (.iastore, 1) := by decide +kernel
theorem dX2_walkEnds_37 : decode cX2_walkEnds 37 = .ok (.return_, 1) := by decide +kernel
theorem dX2_walkEnds_38 : decode cX2_walkEnds 38 = .ok (.iconst 0, 1) := by decide +kernel
theorem dX2_walkEnds_39 : decode cX2_walkEnds 39 = .ok (.istore_n 3, 1) := by decide +kernel
theorem dX2_walkEnds_40 : decode cX2_walkEnds 40 = .ok (.iload_n 3, 1) := by decide +kernel
theorem dX2_walkEnds_41 : decode cX2_walkEnds 41 = .ok (.getstatic 117, 3) := by decide +kernel
theorem dX2_walkEnds_44 : decode cX2_walkEnds 44 = .ok (.arraylength, 1) := by decide +kernel
theorem dX2_walkEnds_45 : decode cX2_walkEnds 45 = .ok (.if_icmp .ge 39, 3) := by decide +kernel
theorem dX2_walkEnds_48 : decode cX2_walkEnds 48 = .ok (.iload_n 2, 1) := by decide +kernel
theorem dX2_walkEnds_49 : decode cX2_walkEnds 49 = .ok (.iload_n 3, 1) := by decide +kernel
theorem dX2_walkEnds_50 : decode cX2_walkEnds 50 = .ok (.ishr, 1) := by decide +kernel
theorem dX2_walkEnds_51 : decode cX2_walkEnds 51 = .ok (.iconst 1, 1) := by decide +kernel
theorem dX2_walkEnds_52 : decode cX2_walkEnds 52 = .ok (.iand, 1) := by decide +kernel
theorem dX2_walkEnds_53 : decode cX2_walkEnds 53 = .ok (.iconst 1, 1) := by decide +kernel
theorem dX2_walkEnds_54 : decode cX2_walkEnds 54 = .ok (.if_icmp .ne 24, 3) := by decide +kernel
theorem dX2_walkEnds_57 : decode cX2_walkEnds 57 = .ok (.aload_n 0, 1) := by decide +kernel
theorem dX2_walkEnds_58 : decode cX2_walkEnds 58 = .ok (.getstatic 117, 3) := by decide +kernel
theorem dX2_walkEnds_61 : decode cX2_walkEnds 61 = .ok (.iload_n 3, 1) := by decide +kernel
theorem dX2_walkEnds_62 : decode cX2_walkEnds 62 = .ok (.iaload, 1) := by decide +kernel
theorem dX2_walkEnds_63 : decode cX2_walkEnds 63 = .ok (.invokevirtual 120, 3) := by decide +kernel
theorem dX2_walkEnds_66 : decode cX2_walkEnds 66 = .ok (.aload_n 0, 1) := by decide +kernel
theorem dX2_walkEnds_67 : decode cX2_walkEnds 67 = .ok (.iload_n 1, 1) := by decide +kernel
theorem dX2_walkEnds_68 : decode cX2_walkEnds 68 = .ok (.iconst 1, 1) := by decide +kernel
theorem dX2_walkEnds_69 : decode cX2_walkEnds 69 = .ok (.iadd, 1) := by decide +kernel
theorem dX2_walkEnds_70 : decode cX2_walkEnds 70 = .ok (.invokevirtual 110, 3) := by decide +kernel
theorem dX2_walkEnds_73 : decode cX2_walkEnds 73 = .ok (.aload_n 0, 1) := by decide +kernel
theorem dX2_walkEnds_74 : decode cX2_walkEnds 74 = .ok (.iload_n 1, 1) := by decide +kernel
theorem dX2_walkEnds_75 : decode cX2_walkEnds 75 = .ok (.putfield 57, 3) := by decide +kernel
theorem dX2_walkEnds_78 : decode cX2_walkEnds 78 = .ok (.iinc 3 1, 3) := by decide +kernel
theorem dX2_walkEnds_81 : decode cX2_walkEnds 81 = .ok (.goto (-41), 3) := by decide +kernel
theorem dX2_walkEnds_84 : decode cX2_walkEnds 84 = .ok (.return_, 1) := by decide +kernel
theorem dX2_pleaOfRow_0 : decode cX2_pleaOfRow 0 = .ok (.aload_n 0, 1) := by decide +kernel
theorem dX2_pleaOfRow_1 : decode cX2_pleaOfRow 1 = .ok (.getfield 57, 3) := by decide +kernel
theorem dX2_pleaOfRow_4 : decode cX2_pleaOfRow 4 = .ok (.istore_n 3, 1) := by decide +kernel
theorem dX2_pleaOfRow_5 : decode cX2_pleaOfRow 5 = .ok (.aload_n 0, 1) := by decide +kernel
theorem dX2_pleaOfRow_6 : decode cX2_pleaOfRow 6 = .ok (.iload_n 1, 1) := by decide +kernel
theorem dX2_pleaOfRow_7 : decode cX2_pleaOfRow 7 = .ok (.putfield 123, 3) := by decide +kernel
theorem dX2_pleaOfRow_10 : decode cX2_pleaOfRow 10 = .ok (.aload_n 0, 1) := by decide +kernel
theorem dX2_pleaOfRow_11 : decode cX2_pleaOfRow 11 = .ok (.aload_n 0, 1) := by decide +kernel
theorem dX2_pleaOfRow_12 : decode cX2_pleaOfRow 12 = .ok (.getfield 57, 3) := by decide +kernel
theorem dX2_pleaOfRow_15 : decode cX2_pleaOfRow 15 = .ok (.invokevirtual 126, 3) := by decide +kernel
theorem dX2_pleaOfRow_18 : decode cX2_pleaOfRow 18 = .ok (.istore 4, 2) := by decide +kernel
theorem dX2_pleaOfRow_20 : decode cX2_pleaOfRow 20 = .ok (.iload 4, 2) := by decide +kernel
theorem dX2_pleaOfRow_22 : decode cX2_pleaOfRow 22 = .ok (.ifCond .ne 7, 3) := by decide +kernel
theorem dX2_pleaOfRow_25 : decode cX2_pleaOfRow 25 = .ok (.iconst (-1), 1) := by decide +kernel
theorem dX2_pleaOfRow_26 : decode cX2_pleaOfRow 26 = .ok (.goto 23, 3) := by decide +kernel
theorem dX2_pleaOfRow_29 : decode cX2_pleaOfRow 29 = .ok (.iload_n 2, 1) := by decide +kernel
theorem dX2_pleaOfRow_30 : decode cX2_pleaOfRow 30 = .ok (.ifCond .ge 12, 3) := by decide +kernel
theorem dX2_pleaOfRow_33 : decode cX2_pleaOfRow 33 = .ok (.aload_n 0, 1) := by decide +kernel
theorem dX2_pleaOfRow_34 : decode cX2_pleaOfRow 34 = .ok (.getfield 57, 3) := by decide +kernel
theorem dX2_pleaOfRow_37 : decode cX2_pleaOfRow 37 = .ok (.iload_n 3, 1) := by decide +kernel
theorem dX2_pleaOfRow_38 : decode cX2_pleaOfRow 38 = .ok (.isub, 1) := by decide +kernel
theorem dX2_pleaOfRow_39 : decode cX2_pleaOfRow 39 = .ok (.goto 10, 3) := by decide +kernel
theorem dX2_pleaOfRow_42 : decode cX2_pleaOfRow 42 = .ok (.aload_n 0, 1) := by decide +kernel
theorem dX2_pleaOfRow_43 : decode cX2_pleaOfRow 43 = .ok (.iload_n 3, 1) := by decide +kernel
theorem dX2_pleaOfRow_44 : decode cX2_pleaOfRow 44 = .ok (.iload_n 2, 1) := by decide +kernel
theorem dX2_pleaOfRow_45 : decode cX2_pleaOfRow 45 = .ok (.iadd, 1) := by decide +kernel
theorem dX2_pleaOfRow_46 : decode cX2_pleaOfRow 46 = .ok (.invokevirtual 130, 3) := by decide +kernel
theorem dX2_pleaOfRow_49 : decode cX2_pleaOfRow 49 = .ok (.istore 5, 2) := by decide +kernel
theorem dX2_pleaOfRow_51 : decode cX2_pleaOfRow 51 = .ok (.aload_n 0, 1) := by decide +kernel
theorem dX2_pleaOfRow_52 : decode cX2_pleaOfRow 52 = .ok (.iload_n 3, 1) := by decide +kernel
theorem dX2_pleaOfRow_53 : decode cX2_pleaOfRow 53 = .ok (.putfield 57, 3) := by decide +kernel
theorem dX2_pleaOfRow_56 : decode cX2_pleaOfRow 56 = .ok (.iload 5, 2) := by decide +kernel
theorem dX2_pleaOfRow_58 : decode cX2_pleaOfRow 58 = .ok (.ireturn, 1) := by decide +kernel
theorem dX2_seekRow_0 : decode cX2_seekRow 0 = .ok (.aload_n 0, 1) := by decide +kernel
theorem dX2_seekRow_1 : decode cX2_seekRow 1 = .ok (.invokevirtual 106, 3) := by decide +kernel
theorem dX2_seekRow_4 : decode cX2_seekRow 4 = .ok (.istore_n 2, 1) := by decide +kernel
theorem dX2_seekRow_5 : decode cX2_seekRow 5 = .ok (.iload_n 2, 1) := by decide +kernel
theorem dX2_seekRow_6 : decode cX2_seekRow 6 = .ok (.ifCond .eq 8, 3) := by decide +kernel
theorem dX2_seekRow_9 : decode cX2_seekRow 9 = .ok (.iload_n 1, 1) := by decide +kernel
theorem dX2_seekRow_10 : decode cX2_seekRow 10 = .ok (.iconst 5, 1) := by decide +kernel
theorem dX2_seekRow_11 : decode cX2_seekRow 11 = .ok (.if_icmp .lt 26, 3) := by decide +kernel
theorem dX2_seekRow_14 : decode cX2_seekRow 14 = .ok (.aload_n 0, 1) := by decide +kernel
theorem dX2_seekRow_15 : decode cX2_seekRow 15 = .ok (.dup, 1) := by decide +kernel
theorem dX2_seekRow_16 : decode cX2_seekRow 16 = .ok (.getfield 123, 3) := by decide +kernel
theorem dX2_seekRow_19 : decode cX2_seekRow 19 = .ok (.iconst 1, 1) := by decide +kernel
theorem dX2_seekRow_20 : decode cX2_seekRow 20 = .ok (.isub, 1) := by decide +kernel
theorem dX2_seekRow_21 : decode cX2_seekRow 21 = .ok (.putfield 123, 3) := by decide +kernel
theorem dX2_seekRow_24 : decode cX2_seekRow 24 = .ok (.aload_n 0, 1) := by decide +kernel
theorem dX2_seekRow_25 : decode cX2_seekRow 25 = .ok (.getfield 123, 3) := by decide +kernel
theorem dX2_seekRow_28 : decode cX2_seekRow 28 = .ok (.ifCond .ge 7, 3) := by decide +kernel
theorem dX2_seekRow_31 : decode cX2_seekRow 31 = .ok (.iconst 1, 1) := by decide +kernel
theorem dX2_seekRow_32 : decode cX2_seekRow 32 = .ok (.goto 4, 3) := by decide +kernel
theorem dX2_seekRow_35 : decode cX2_seekRow 35 = .ok (.iconst 0, 1) := by decide +kernel
theorem dX2_seekRow_36 : decode cX2_seekRow 36 = .ok (.ireturn, 1) := by decide +kernel
theorem dX2_seekRow_37 : decode cX2_seekRow 37 = .ok (.iconst 0, 1) := by decide +kernel
theorem dX2_seekRow_38 : decode cX2_seekRow 38 = .ok (.istore_n 3, 1) := by decide +kernel
theorem dX2_seekRow_39 : decode cX2_seekRow 39 = .ok (.iload_n 3, 1) := by decide +kernel
theorem dX2_seekRow_40 : decode cX2_seekRow 40 = .ok (.getstatic 117, 3) := by decide +kernel
theorem dX2_seekRow_43 : decode cX2_seekRow 43 = .ok (.arraylength, 1) := by decide +kernel
theorem dX2_seekRow_44 : decode cX2_seekRow 44 = .ok (.if_icmp .ge 44, 3) := by decide +kernel
theorem dX2_seekRow_47 : decode cX2_seekRow 47 = .ok (.iload_n 2, 1) := by decide +kernel
theorem dX2_seekRow_48 : decode cX2_seekRow 48 = .ok (.iload_n 3, 1) := by decide +kernel
theorem dX2_seekRow_49 : decode cX2_seekRow 49 = .ok (.ishr, 1) := by decide +kernel
theorem dX2_seekRow_50 : decode cX2_seekRow 50 = .ok (.iconst 1, 1) := by decide +kernel
theorem dX2_seekRow_51 : decode cX2_seekRow 51 = .ok (.iand, 1) := by decide +kernel
theorem dX2_seekRow_52 : decode cX2_seekRow 52 = .ok (.iconst 1, 1) := by decide +kernel
theorem dX2_seekRow_53 : decode cX2_seekRow 53 = .ok (.if_icmp .ne 29, 3) := by decide +kernel
theorem dX2_seekRow_56 : decode cX2_seekRow 56 = .ok (.aload_n 0, 1) := by decide +kernel
theorem dX2_seekRow_57 : decode cX2_seekRow 57 = .ok (.getstatic 117, 3) := by decide +kernel
theorem dX2_seekRow_60 : decode cX2_seekRow 60 = .ok (.iload_n 3, 1) := by decide +kernel
theorem dX2_seekRow_61 : decode cX2_seekRow 61 = .ok (.iaload, 1) := by decide +kernel
theorem dX2_seekRow_62 : decode cX2_seekRow 62 = .ok (.invokevirtual 120, 3) := by decide +kernel
theorem dX2_seekRow_65 : decode cX2_seekRow 65 = .ok (.aload_n 0, 1) := by decide +kernel
theorem dX2_seekRow_66 : decode cX2_seekRow 66 = .ok (.iload_n 1, 1) := by decide +kernel
theorem dX2_seekRow_67 : decode cX2_seekRow 67 = .ok (.iconst 1, 1) := by decide +kernel
theorem dX2_seekRow_68 : decode cX2_seekRow 68 = .ok (.iadd, 1) := by decide +kernel
theorem dX2_seekRow_69 : decode cX2_seekRow 69 = .ok (.invokevirtual 126, 3) := by decide +kernel
theorem dX2_seekRow_72 : decode cX2_seekRow 72 = .ok (.ifCond .eq 5, 3) := by decide +kernel
theorem dX2_seekRow_75 : decode cX2_seekRow 75 = .ok (.iconst 1, 1) := by decide +kernel
theorem dX2_seekRow_76 : decode cX2_seekRow 76 = .ok (.ireturn, 1) := by decide +kernel
theorem dX2_seekRow_77 : decode cX2_seekRow 77 = .ok (.aload_n 0, 1) := by decide +kernel
theorem dX2_seekRow_78 : decode cX2_seekRow 78 = .ok (.iload_n 1, 1) := by decide +kernel
theorem dX2_seekRow_79 : decode cX2_seekRow 79 = .ok (.putfield 57, 3) := by decide +kernel
theorem dX2_seekRow_82 : decode cX2_seekRow 82 = .ok (.iinc 3 1, 3) := by decide +kernel
theorem dX2_seekRow_85 : decode cX2_seekRow 85 = .ok (.goto (-46), 3) := by decide +kernel
theorem dX2_seekRow_88 : decode cX2_seekRow 88 = .ok (.iconst 0, 1) := by decide +kernel
theorem dX2_seekRow_89 : decode cX2_seekRow 89 = .ok (.ireturn, 1) := by decide +kernel
theorem dX2_worthIn_0 : decode cX2_worthIn 0 = .ok (.aload_n 0, 1) := by decide +kernel
theorem dX2_worthIn_1 : decode cX2_worthIn 1 = .ok (.invokevirtual 63, 3) := by decide +kernel
theorem dX2_worthIn_4 : decode cX2_worthIn 4 = .ok (.astore_n 2, 1) := by decide +kernel
theorem dX2_worthIn_5 : decode cX2_worthIn 5 = .ok (.aload_n 2, 1) := by decide +kernel
theorem dX2_worthIn_6 : decode cX2_worthIn 6 = .ok (.getfield 31, 3) := by decide +kernel
theorem dX2_worthIn_9 : decode cX2_worthIn 9 = .ok (.istore_n 3, 1) := by decide +kernel
theorem dX2_worthIn_10 : decode cX2_worthIn 10 = .ok (.iconst 0, 1) := by decide +kernel
theorem dX2_worthIn_11 : decode cX2_worthIn 11 = .ok (.istore 4, 2) := by decide +kernel
theorem dX2_worthIn_13 : decode cX2_worthIn 13 = .ok (.aload_n 2, 1) := by decide +kernel
theorem dX2_worthIn_14 : decode cX2_worthIn 14 = .ok (.getfield 83, 3) := by decide +kernel
theorem dX2_worthIn_17 : decode cX2_worthIn 17 = .ok (.tableswitch 118 1 4 #[31, 118, 64, 85], 31) := by decide +kernel
theorem dX2_worthIn_48 : decode cX2_worthIn 48 = .ok (.bipush 10, 2) := by decide +kernel
theorem dX2_worthIn_50 : decode cX2_worthIn 50 = .ok (.aload_n 1, 1) := by decide +kernel
theorem dX2_worthIn_51 : decode cX2_worthIn 51 = .ok (.getfield 133, 3) := by decide +kernel
theorem dX2_worthIn_54 : decode cX2_worthIn 54 = .ok (.iload_n 3, 1) := by decide +kernel
theorem dX2_worthIn_55 : decode cX2_worthIn 55 = .ok (.aaload, 1) := by decide +kernel
theorem dX2_worthIn_56 : decode cX2_worthIn 56 = .ok (.aload_n 2, 1) := by decide +kernel
theorem dX2_worthIn_57 : decode cX2_worthIn 57 = .ok (.getfield 71, 3) := by decide +kernel
theorem dX2_worthIn_60 : decode cX2_worthIn 60 = .ok (.iaload, 1) := by decide +kernel
theorem dX2_worthIn_61 : decode cX2_worthIn 61 = .ok (.iadd, 1) := by decide +kernel
theorem dX2_worthIn_62 : decode cX2_worthIn 62 = .ok (.aload_n 1, 1) := by decide +kernel
theorem dX2_worthIn_63 : decode cX2_worthIn 63 = .ok (.getfield 133, 3) := by decide +kernel
theorem dX2_worthIn_66 : decode cX2_worthIn 66 = .ok (.iconst 1, 1) := by decide +kernel
theorem dX2_worthIn_67 : decode cX2_worthIn 67 = .ok (.iload_n 3, 1) := by decide +kernel
theorem dX2_worthIn_68 : decode cX2_worthIn 68 = .ok (.isub, 1) := by decide +kernel
theorem dX2_worthIn_69 : decode cX2_worthIn 69 = .ok (.aaload, 1) := by decide +kernel
theorem dX2_worthIn_70 : decode cX2_worthIn 70 = .ok (.aload_n 2, 1) := by decide +kernel
theorem dX2_worthIn_71 : decode cX2_worthIn 71 = .ok (.getfield 71, 3) := by decide +kernel
theorem dX2_worthIn_74 : decode cX2_worthIn 74 = .ok (.iaload, 1) := by decide +kernel
theorem dX2_worthIn_75 : decode cX2_worthIn 75 = .ok (.isub, 1) := by decide +kernel
theorem dX2_worthIn_76 : decode cX2_worthIn 76 = .ok (.istore 4, 2) := by decide +kernel
theorem dX2_worthIn_78 : decode cX2_worthIn 78 = .ok (.goto 57, 3) := by decide +kernel
theorem dX2_worthIn_81 : decode cX2_worthIn 81 = .ok (.bipush 20, 2) := by decide +kernel
theorem dX2_worthIn_83 : decode cX2_worthIn 83 = .ok (.iconst 2, 1) := by decide +kernel
theorem dX2_worthIn_84 : decode cX2_worthIn 84 = .ok (.aload_n 1, 1) := by decide +kernel
theorem dX2_worthIn_85 : decode cX2_worthIn 85 = .ok (.getfield 133, 3) := by decide +kernel
theorem dX2_worthIn_88 : decode cX2_worthIn 88 = .ok (.iconst 2, 1) := by decide +kernel
theorem dX2_worthIn_89 : decode cX2_worthIn 89 = .ok (.aaload, 1) := by decide +kernel
theorem dX2_worthIn_90 : decode cX2_worthIn 90 = .ok (.aload_n 2, 1) := by decide +kernel
theorem dX2_worthIn_91 : decode cX2_worthIn 91 = .ok (.getfield 71, 3) := by decide +kernel
theorem dX2_worthIn_94 : decode cX2_worthIn 94 = .ok (.iaload, 1) := by decide +kernel
theorem dX2_worthIn_95 : decode cX2_worthIn 95 = .ok (.imul, 1) := by decide +kernel
theorem dX2_worthIn_96 : decode cX2_worthIn 96 = .ok (.isub, 1) := by decide +kernel
theorem dX2_worthIn_97 : decode cX2_worthIn 97 = .ok (.istore 4, 2) := by decide +kernel
theorem dX2_worthIn_99 : decode cX2_worthIn 99 = .ok (.goto 36, 3) := by decide +kernel
theorem dX2_worthIn_102 : decode cX2_worthIn 102 = .ok (.aload_n 0, 1) := by decide +kernel
theorem dX2_worthIn_103 : decode cX2_worthIn 103 = .ok (.getfield 57, 3) := by decide +kernel
theorem dX2_worthIn_106 : decode cX2_worthIn 106 = .ok (.ifCond .le 23, 3) := by decide +kernel
theorem dX2_worthIn_109 : decode cX2_worthIn 109 = .ok (.bipush 20, 2) := by decide +kernel
theorem dX2_worthIn_111 : decode cX2_worthIn 111 = .ok (.aload_n 0, 1) := by decide +kernel
theorem dX2_worthIn_112 : decode cX2_worthIn 112 = .ok (.getfield 11, 3) := by decide +kernel
theorem dX2_worthIn_115 : decode cX2_worthIn 115 = .ok (.aload_n 0, 1) := by decide +kernel
theorem dX2_worthIn_116 : decode cX2_worthIn 116 = .ok (.getfield 57, 3) := by decide +kernel
theorem dX2_worthIn_119 : decode cX2_worthIn 119 = .ok (.iconst 1, 1) := by decide +kernel
theorem dX2_worthIn_120 : decode cX2_worthIn 120 = .ok (.isub, 1) := by decide +kernel
theorem dX2_worthIn_121 : decode cX2_worthIn 121 = .ok (.aaload, 1) := by decide +kernel
theorem dX2_worthIn_122 : decode cX2_worthIn 122 = .ok (.getfield 139, 3) := by decide +kernel
theorem dX2_worthIn_125 : decode cX2_worthIn 125 = .ok (.imul, 1) := by decide +kernel
theorem dX2_worthIn_126 : decode cX2_worthIn 126 = .ok (.goto 4, 3) := by decide +kernel
theorem dX2_worthIn_129 : decode cX2_worthIn 129 = .ok (.iconst 0, 1) := by decide +kernel
theorem dX2_worthIn_130 : decode cX2_worthIn 130 = .ok (.istore 4, 2) := by decide +kernel
theorem dX2_worthIn_132 : decode cX2_worthIn 132 = .ok (.goto 3, 3) := by decide +kernel
theorem dX2_worthIn_135 : decode cX2_worthIn 135 = .ok (.iload_n 3, 1) := by decide +kernel
theorem dX2_worthIn_136 : decode cX2_worthIn 136 = .ok (.ifCond .ne 8, 3) := by decide +kernel
theorem dX2_worthIn_139 : decode cX2_worthIn 139 = .ok (.iload 4, 2) := by decide +kernel
theorem dX2_worthIn_141 : decode cX2_worthIn 141 = .ok (.goto 8, 3) := by decide +kernel
theorem dX2_worthIn_144 : decode cX2_worthIn 144 = .ok (.bipush 20, 2) := by decide +kernel
theorem dX2_worthIn_146 : decode cX2_worthIn 146 = .ok (.iload 4, 2) := by decide +kernel
theorem dX2_worthIn_148 : decode cX2_worthIn 148 = .ok (.isub, 1) := by decide +kernel
theorem dX2_worthIn_149 : decode cX2_worthIn 149 = .ok (.ireturn, 1) := by decide +kernel
theorem dX2_valueIn_0 : decode cX2_valueIn 0 = .ok (.aload_n 0, 1) := by decide +kernel
theorem dX2_valueIn_1 : decode cX2_valueIn 1 = .ok (.aload_n 1, 1) := by decide +kernel
theorem dX2_valueIn_2 : decode cX2_valueIn 2 = .ok (.iconst (-1), 1) := by decide +kernel
theorem dX2_valueIn_3 : decode cX2_valueIn 3 = .ok (.bipush 21, 2) := by decide +kernel
theorem dX2_valueIn_5 : decode cX2_valueIn 5 = .ok (.aload_n 0, 1) := by decide +kernel
theorem dX2_valueIn_6 : decode cX2_valueIn 6 = .ok (.getfield 57, 3) := by decide +kernel
theorem dX2_valueIn_9 : decode cX2_valueIn 9 = .ok (.invokevirtual 142, 3) := by decide +kernel
theorem dX2_valueIn_12 : decode cX2_valueIn 12 = .ok (.ireturn, 1) := by decide +kernel
theorem dX2_valueFrom_0 : decode cX2_valueFrom 0 = .ok (.aload_n 0, 1) := by decide +kernel
theorem dX2_valueFrom_1 : decode cX2_valueFrom 1 = .ok (.invokevirtual 106, 3) := by decide +kernel
theorem dX2_valueFrom_4 : decode cX2_valueFrom 4 = .ok (.istore 5, 2) := by decide +kernel
theorem dX2_valueFrom_6 : decode cX2_valueFrom 6 = .ok (.iload 5, 2) := by decide +kernel
theorem dX2_valueFrom_8 : decode cX2_valueFrom 8 = .ok (.ifCond .eq 9, 3) := by decide +kernel
theorem dX2_valueFrom_11 : decode cX2_valueFrom 11 = .ok (.iload 4, 2) := by decide +kernel
theorem dX2_valueFrom_13 : decode cX2_valueFrom 13 = .ok (.iconst 5, 1) := by decide +kernel
theorem dX2_valueFrom_14 : decode cX2_valueFrom 14 = .ok (.if_icmp .lt 9, 3) := by decide +kernel
theorem dX2_valueFrom_17 : decode cX2_valueFrom 17 = .ok (.aload_n 0, 1) := by decide +kernel
theorem dX2_valueFrom_18 : decode cX2_valueFrom 18 = .ok (.aload_n 1, 1) := by decide +kernel
theorem dX2_valueFrom_19 : decode cX2_valueFrom 19 = .ok (.invokevirtual 146, 3) := by decide +kernel
theorem dX2_valueFrom_22 : decode cX2_valueFrom 22 = .ok (.ireturn, 1) := by decide +kernel
theorem dX2_valueFrom_23 : decode cX2_valueFrom 23 = .ok (.aload_n 0, 1) := by decide +kernel
theorem dX2_valueFrom_24 : decode cX2_valueFrom 24 = .ok (.getfield 11, 3) := by decide +kernel
theorem dX2_valueFrom_27 : decode cX2_valueFrom 27 = .ok (.iload 4, 2) := by decide +kernel
theorem dX2_valueFrom_29 : decode cX2_valueFrom 29 = .ok (.aaload, 1) := by decide +kernel
theorem dX2_valueFrom_30 : decode cX2_valueFrom 30 = .ok (.astore 6, 2) := by decide +kernel
theorem dX2_valueFrom_32 : decode cX2_valueFrom 32 = .ok (.aload 6, 2) := by decide +kernel
theorem dX2_valueFrom_34 : decode cX2_valueFrom 34 = .ok (.getfield 31, 3) := by decide +kernel
theorem dX2_valueFrom_37 : decode cX2_valueFrom 37 = .ok (.ifCond .ne 7, 3) := by decide +kernel
theorem dX2_valueFrom_40 : decode cX2_valueFrom 40 = .ok (.iconst 1, 1) := by decide +kernel
theorem dX2_valueFrom_41 : decode cX2_valueFrom 41 = .ok (.goto 4, 3) := by decide +kernel
theorem dX2_valueFrom_44 : decode cX2_valueFrom 44 = .ok (.iconst 0, 1) := by decide +kernel
theorem dX2_valueFrom_45 : decode cX2_valueFrom 45 = .ok (.istore 7, 2) := by decide +kernel
theorem dX2_valueFrom_47 : decode cX2_valueFrom 47 = .ok (.iload 7, 2) := by decide +kernel
theorem dX2_valueFrom_49 : decode cX2_valueFrom 49 = .ok (.ifCond .eq 7, 3) := by decide +kernel
theorem dX2_valueFrom_52 : decode cX2_valueFrom 52 = .ok (.iconst (-1), 1) := by decide +kernel
theorem dX2_valueFrom_53 : decode cX2_valueFrom 53 = .ok (.goto 5, 3) := by decide +kernel
theorem dX2_valueFrom_56 : decode cX2_valueFrom 56 = .ok (.bipush 21, 2) := by decide +kernel
theorem dX2_valueFrom_58 : decode cX2_valueFrom 58 = .ok (.istore 8, 2) := by decide +kernel
theorem dX2_valueFrom_60 : decode cX2_valueFrom 60 = .ok (.iload_n 2, 1) := by decide +kernel
theorem dX2_valueFrom_61 : decode cX2_valueFrom 61 = .ok (.istore 9, 2) := by decide +kernel
theorem dX2_valueFrom_63 : decode cX2_valueFrom 63 = .ok (.iload_n 3, 1) := by decide +kernel
theorem dX2_valueFrom_64 : decode cX2_valueFrom 64 = .ok (.istore 10, 2) := by decide +kernel
theorem dX2_valueFrom_66 : decode cX2_valueFrom 66 = .ok (.iconst 0, 1) := by decide +kernel
theorem dX2_valueFrom_67 : decode cX2_valueFrom 67 = .ok (.istore 11, 2) := by decide +kernel
theorem dX2_valueFrom_69 : decode cX2_valueFrom 69 = .ok (.iload 11, 2) := by decide +kernel
theorem dX2_valueFrom_71 : decode cX2_valueFrom 71 = .ok (.getstatic 117, 3) := by decide +kernel
theorem dX2_valueFrom_74 : decode cX2_valueFrom 74 = .ok (.arraylength, 1) := by decide +kernel
theorem dX2_valueFrom_75 : decode cX2_valueFrom 75 = .ok (.if_icmp .ge 123, 3) := by decide +kernel
theorem dX2_valueFrom_78 : decode cX2_valueFrom 78 = .ok (.iload 9, 2) := by decide +kernel
theorem dX2_valueFrom_80 : decode cX2_valueFrom 80 = .ok (.iload 10, 2) := by decide +kernel
theorem dX2_valueFrom_82 : decode cX2_valueFrom 82 = .ok (.if_icmp .ge 116, 3) := by decide +kernel
theorem dX2_valueFrom_85 : decode cX2_valueFrom 85 = .ok (.iload 5, 2) := by decide +kernel
theorem dX2_valueFrom_87 : decode cX2_valueFrom 87 = .ok (.iload 11, 2) := by decide +kernel
theorem dX2_valueFrom_89 : decode cX2_valueFrom 89 = .ok (.ishr, 1) := by decide +kernel
theorem dX2_valueFrom_90 : decode cX2_valueFrom 90 = .ok (.iconst 1, 1) := by decide +kernel
theorem dX2_valueFrom_91 : decode cX2_valueFrom 91 = .ok (.iand, 1) := by decide +kernel
theorem dX2_valueFrom_92 : decode cX2_valueFrom 92 = .ok (.ifCond .ne 6, 3) := by decide +kernel
theorem dX2_valueFrom_95 : decode cX2_valueFrom 95 = .ok (.goto 97, 3) := by decide +kernel
theorem dX2_valueFrom_98 : decode cX2_valueFrom 98 = .ok (.aload_n 0, 1) := by decide +kernel
theorem dX2_valueFrom_99 : decode cX2_valueFrom 99 = .ok (.getstatic 117, 3) := by decide +kernel
theorem dX2_valueFrom_102 : decode cX2_valueFrom 102 = .ok (.iload 11, 2) := by decide +kernel
theorem dX2_valueFrom_104 : decode cX2_valueFrom 104 = .ok (.iaload, 1) := by decide +kernel
theorem dX2_valueFrom_105 : decode cX2_valueFrom 105 = .ok (.invokevirtual 120, 3) := by decide +kernel
theorem dX2_valueFrom_108 : decode cX2_valueFrom 108 = .ok (.aload_n 0, 1) := by decide +kernel
theorem dX2_valueFrom_109 : decode cX2_valueFrom 109 = .ok (.aload_n 1, 1) := by decide +kernel
theorem dX2_valueFrom_110 : decode cX2_valueFrom 110 = .ok (.iload 9, 2) := by decide +kernel
theorem dX2_valueFrom_112 : decode cX2_valueFrom 112 = .ok (.iload 10, 2) := by decide +kernel
theorem dX2_valueFrom_114 : decode cX2_valueFrom 114 = .ok (.iload 4, 2) := by decide +kernel
theorem dX2_valueFrom_116 : decode cX2_valueFrom 116 = .ok (.iconst 1, 1) := by decide +kernel
theorem dX2_valueFrom_117 : decode cX2_valueFrom 117 = .ok (.iadd, 1) := by decide +kernel
theorem dX2_valueFrom_118 : decode cX2_valueFrom 118 = .ok (.invokevirtual 142, 3) := by decide +kernel
theorem dX2_valueFrom_121 : decode cX2_valueFrom 121 = .ok (.istore 12, 2) := by decide +kernel
theorem dX2_valueFrom_123 : decode cX2_valueFrom 123 = .ok (.aload_n 0, 1) := by decide +kernel
theorem dX2_valueFrom_124 : decode cX2_valueFrom 124 = .ok (.iload 4, 2) := by decide +kernel
theorem dX2_valueFrom_126 : decode cX2_valueFrom 126 = .ok (.putfield 57, 3) := by decide +kernel
theorem dX2_valueFrom_129 : decode cX2_valueFrom 129 = .ok (.iload 7, 2) := by decide +kernel
theorem dX2_valueFrom_131 : decode cX2_valueFrom 131 = .ok (.ifCond .eq 13, 3) := by decide +kernel
theorem dX2_valueFrom_134 : decode cX2_valueFrom 134 = .ok (.iload 12, 2) := by decide +kernel
theorem dX2_valueFrom_136 : decode cX2_valueFrom 136 = .ok (.iload 8, 2) := by decide +kernel
theorem dX2_valueFrom_138 : decode cX2_valueFrom 138 = .ok (.if_icmp .le 28, 3) := by decide +kernel
theorem dX2_valueFrom_141 : decode cX2_valueFrom 141 = .ok (.goto 10, 3) := by decide +kernel
theorem dX2_valueFrom_144 : decode cX2_valueFrom 144 = .ok (.iload 12, 2) := by decide +kernel
theorem dX2_valueFrom_146 : decode cX2_valueFrom 146 = .ok (.iload 8, 2) := by decide +kernel
theorem dX2_valueFrom_148 : decode cX2_valueFrom 148 = .ok (.if_icmp .ge 18, 3) := by decide +kernel
theorem dX2_valueFrom_151 : decode cX2_valueFrom 151 = .ok (.iload 12, 2) := by decide +kernel
theorem dX2_valueFrom_153 : decode cX2_valueFrom 153 = .ok (.istore 8, 2) := by decide +kernel
theorem dX2_valueFrom_155 : decode cX2_valueFrom 155 = .ok (.aload 6, 2) := by decide +kernel
theorem dX2_valueFrom_157 : decode cX2_valueFrom 157 = .ok (.getstatic 117, 3) := by decide +kernel
theorem dX2_valueFrom_160 : decode cX2_valueFrom 160 = .ok (.iload 11, 2) := by decide +kernel
theorem dX2_valueFrom_162 : decode cX2_valueFrom 162 = .ok (.iaload, 1) := by decide +kernel
theorem dX2_valueFrom_163 : decode cX2_valueFrom 163 = .ok (.putfield 150, 3) := by decide +kernel
theorem dX2_valueFrom_166 : decode cX2_valueFrom 166 = .ok (.iload 7, 2) := by decide +kernel
theorem dX2_valueFrom_168 : decode cX2_valueFrom 168 = .ok (.ifCond .eq 15, 3) := by decide +kernel
theorem dX2_valueFrom_171 : decode cX2_valueFrom 171 = .ok (.iload 9, 2) := by decide +kernel
theorem dX2_valueFrom_173 : decode cX2_valueFrom 173 = .ok (.iload 8, 2) := by decide +kernel
theorem dX2_valueFrom_175 : decode cX2_valueFrom 175 = .ok (.invokestatic 153, 3) := by decide +kernel
theorem dX2_valueFrom_178 : decode cX2_valueFrom 178 = .ok (.istore 9, 2) := by decide +kernel
theorem dX2_valueFrom_180 : decode cX2_valueFrom 180 = .ok (.goto 12, 3) := by decide +kernel
theorem dX2_valueFrom_183 : decode cX2_valueFrom 183 = .ok (.iload 10, 2) := by decide +kernel
theorem dX2_valueFrom_185 : decode cX2_valueFrom 185 = .ok (.iload 8, 2) := by decide +kernel
theorem dX2_valueFrom_187 : decode cX2_valueFrom 187 = .ok (.invokestatic 159, 3) := by decide +kernel
theorem dX2_valueFrom_190 : decode cX2_valueFrom 190 = .ok (.istore 10, 2) := by decide +kernel
theorem dX2_valueFrom_192 : decode cX2_valueFrom 192 = .ok (.iinc 11 1, 3) := by decide +kernel
theorem dX2_valueFrom_195 : decode cX2_valueFrom 195 = .ok (.goto (-126), 3) := by decide +kernel
theorem dX2_valueFrom_198 : decode cX2_valueFrom 198 = .ok (.iload 8, 2) := by decide +kernel
theorem dX2_valueFrom_200 : decode cX2_valueFrom 200 = .ok (.ireturn, 1) := by decide +kernel
theorem dX2_bestNow_0 : decode cX2_bestNow 0 = .ok (.aload_n 0, 1) := by decide +kernel
theorem dX2_bestNow_1 : decode cX2_bestNow 1 = .ok (.invokevirtual 106, 3) := by decide +kernel
theorem dX2_bestNow_4 : decode cX2_bestNow 4 = .ok (.ifCond .ne 6, 3) := by decide +kernel
theorem dX2_bestNow_7 : decode cX2_bestNow 7 = .ok (.bipush (-5), 2) := by decide +kernel
theorem dX2_bestNow_9 : decode cX2_bestNow 9 = .ok (.ireturn, 1) := by decide +kernel
theorem dX2_bestNow_10 : decode cX2_bestNow 10 = .ok (.aload_n 0, 1) := by decide +kernel
theorem dX2_bestNow_11 : decode cX2_bestNow 11 = .ok (.aload_n 1, 1) := by decide +kernel
theorem dX2_bestNow_12 : decode cX2_bestNow 12 = .ok (.iconst (-1), 1) := by decide +kernel
theorem dX2_bestNow_13 : decode cX2_bestNow 13 = .ok (.bipush 21, 2) := by decide +kernel
theorem dX2_bestNow_15 : decode cX2_bestNow 15 = .ok (.aload_n 0, 1) := by decide +kernel
theorem dX2_bestNow_16 : decode cX2_bestNow 16 = .ok (.getfield 57, 3) := by decide +kernel
theorem dX2_bestNow_19 : decode cX2_bestNow 19 = .ok (.invokevirtual 142, 3) := by decide +kernel
theorem dX2_bestNow_22 : decode cX2_bestNow 22 = .ok (.pop, 1) := by decide +kernel
theorem dX2_bestNow_23 : decode cX2_bestNow 23 = .ok (.aload_n 0, 1) := by decide +kernel
theorem dX2_bestNow_24 : decode cX2_bestNow 24 = .ok (.invokevirtual 63, 3) := by decide +kernel
theorem dX2_bestNow_27 : decode cX2_bestNow 27 = .ok (.getfield 150, 3) := by decide +kernel
theorem dX2_bestNow_30 : decode cX2_bestNow 30 = .ok (.ireturn, 1) := by decide +kernel
theorem dX2_pleaOfBest_0 : decode cX2_pleaOfBest 0 = .ok (.aload_n 0, 1) := by decide +kernel
theorem dX2_pleaOfBest_1 : decode cX2_pleaOfBest 1 = .ok (.getfield 57, 3) := by decide +kernel
theorem dX2_pleaOfBest_4 : decode cX2_pleaOfBest 4 = .ok (.istore_n 3, 1) := by decide +kernel
theorem dX2_pleaOfBest_5 : decode cX2_pleaOfBest 5 = .ok (.bipush (-5), 2) := by decide +kernel
theorem dX2_pleaOfBest_7 : decode cX2_pleaOfBest 7 = .ok (.istore 4, 2) := by decide +kernel
theorem dX2_pleaOfBest_9 : decode cX2_pleaOfBest 9 = .ok (.iconst 0, 1) := by decide +kernel
theorem dX2_pleaOfBest_10 : decode cX2_pleaOfBest 10 = .ok (.istore 5, 2) := by decide +kernel
theorem dX2_pleaOfBest_12 : decode cX2_pleaOfBest 12 = .ok (.iload 5, 2) := by decide +kernel
theorem dX2_pleaOfBest_14 : decode cX2_pleaOfBest 14 = .ok (.iload_n 2, 1) := by decide +kernel
theorem dX2_pleaOfBest_15 : decode cX2_pleaOfBest 15 = .ok (.if_icmp .gt 38, 3) := by decide +kernel
theorem dX2_pleaOfBest_18 : decode cX2_pleaOfBest 18 = .ok (.iload 5, 2) := by decide +kernel
theorem dX2_pleaOfBest_20 : decode cX2_pleaOfBest 20 = .ok (.iconst 5, 1) := by decide +kernel
theorem dX2_pleaOfBest_21 : decode cX2_pleaOfBest 21 = .ok (.if_icmp .gt 32, 3) := by decide +kernel
theorem dX2_pleaOfBest_24 : decode cX2_pleaOfBest 24 = .ok (.aload_n 0, 1) := by decide +kernel
theorem dX2_pleaOfBest_25 : decode cX2_pleaOfBest 25 = .ok (.aload_n 1, 1) := by decide +kernel
theorem dX2_pleaOfBest_26 : decode cX2_pleaOfBest 26 = .ok (.invokevirtual 162, 3) := by decide +kernel
theorem dX2_pleaOfBest_29 : decode cX2_pleaOfBest 29 = .ok (.istore 4, 2) := by decide +kernel
theorem dX2_pleaOfBest_31 : decode cX2_pleaOfBest 31 = .ok (.iload 4, 2) := by decide +kernel
theorem dX2_pleaOfBest_33 : decode cX2_pleaOfBest 33 = .ok (.bipush (-5), 2) := by decide +kernel
theorem dX2_pleaOfBest_35 : decode cX2_pleaOfBest 35 = .ok (.if_icmp .ne 6, 3) := by decide +kernel
theorem dX2_pleaOfBest_38 : decode cX2_pleaOfBest 38 = .ok (.goto 15, 3) := by decide +kernel
theorem dX2_pleaOfBest_41 : decode cX2_pleaOfBest 41 = .ok (.aload_n 0, 1) := by decide +kernel
theorem dX2_pleaOfBest_42 : decode cX2_pleaOfBest 42 = .ok (.iload 4, 2) := by decide +kernel
theorem dX2_pleaOfBest_44 : decode cX2_pleaOfBest 44 = .ok (.invokevirtual 120, 3) := by decide +kernel
theorem dX2_pleaOfBest_47 : decode cX2_pleaOfBest 47 = .ok (.iinc 5 1, 3) := by decide +kernel
theorem dX2_pleaOfBest_50 : decode cX2_pleaOfBest 50 = .ok (.goto (-38), 3) := by decide +kernel
theorem dX2_pleaOfBest_53 : decode cX2_pleaOfBest 53 = .ok (.aload_n 0, 1) := by decide +kernel
theorem dX2_pleaOfBest_54 : decode cX2_pleaOfBest 54 = .ok (.iload_n 3, 1) := by decide +kernel
theorem dX2_pleaOfBest_55 : decode cX2_pleaOfBest 55 = .ok (.putfield 57, 3) := by decide +kernel
theorem dX2_pleaOfBest_58 : decode cX2_pleaOfBest 58 = .ok (.iload 4, 2) := by decide +kernel
theorem dX2_pleaOfBest_60 : decode cX2_pleaOfBest 60 = .ok (.ireturn, 1) := by decide +kernel
theorem dX2_trapsIn_0 : decode cX2_trapsIn 0 = .ok (.aload_n 0, 1) := by decide +kernel
theorem dX2_trapsIn_1 : decode cX2_trapsIn 1 = .ok (.invokevirtual 106, 3) := by decide +kernel
theorem dX2_trapsIn_4 : decode cX2_trapsIn 4 = .ok (.istore 4, 2) := by decide +kernel
theorem dX2_trapsIn_6 : decode cX2_trapsIn 6 = .ok (.aload_n 0, 1) := by decide +kernel
theorem dX2_trapsIn_7 : decode cX2_trapsIn 7 = .ok (.getfield 57, 3) := by decide +kernel
theorem dX2_trapsIn_10 : decode cX2_trapsIn 10 = .ok (.istore 5, 2) := by decide +kernel
theorem dX2_trapsIn_12 : decode cX2_trapsIn 12 = .ok (.aload_n 0, 1) := by decide +kernel
theorem dX2_trapsIn_13 : decode cX2_trapsIn 13 = .ok (.aload_n 1, 1) := by decide +kernel
theorem dX2_trapsIn_14 : decode cX2_trapsIn 14 = .ok (.invokevirtual 165, 3) := by decide +kernel
theorem dX2_trapsIn_17 : decode cX2_trapsIn 17 = .ok (.istore 6, 2) := by decide +kernel
theorem dX2_trapsIn_19 : decode cX2_trapsIn 19 = .ok (.iconst 0, 1) := by decide +kernel
theorem dX2_trapsIn_20 : decode cX2_trapsIn 20 = .ok (.istore 7, 2) := by decide +kernel
theorem dX2_trapsIn_22 : decode cX2_trapsIn 22 = .ok (.iconst 0, 1) := by decide +kernel
theorem dX2_trapsIn_23 : decode cX2_trapsIn 23 = .ok (.istore 8, 2) := by decide +kernel
theorem dX2_trapsIn_25 : decode cX2_trapsIn 25 = .ok (.iload 8, 2) := by decide +kernel
theorem dX2_trapsIn_27 : decode cX2_trapsIn 27 = .ok (.getstatic 117, 3) := by decide +kernel
theorem dX2_trapsIn_30 : decode cX2_trapsIn 30 = .ok (.arraylength, 1) := by decide +kernel
theorem dX2_trapsIn_31 : decode cX2_trapsIn 31 = .ok (.if_icmp .ge 92, 3) := by decide +kernel
theorem dX2_trapsIn_34 : decode cX2_trapsIn 34 = .ok (.iload 4, 2) := by decide +kernel
theorem dX2_trapsIn_36 : decode cX2_trapsIn 36 = .ok (.iload 8, 2) := by decide +kernel
theorem dX2_trapsIn_38 : decode cX2_trapsIn 38 = .ok (.ishr, 1) := by decide +kernel
theorem dX2_trapsIn_39 : decode cX2_trapsIn 39 = .ok (.iconst 1, 1) := by decide +kernel
theorem dX2_trapsIn_40 : decode cX2_trapsIn 40 = .ok (.iand, 1) := by decide +kernel
theorem dX2_trapsIn_41 : decode cX2_trapsIn 41 = .ok (.ifCond .ne 6, 3) := by decide +kernel
theorem dX2_trapsIn_44 : decode cX2_trapsIn 44 = .ok (.goto 73, 3) := by decide +kernel
theorem dX2_trapsIn_47 : decode cX2_trapsIn 47 = .ok (.aload_n 0, 1) := by decide +kernel
theorem dX2_trapsIn_48 : decode cX2_trapsIn 48 = .ok (.getstatic 117, 3) := by decide +kernel
theorem dX2_trapsIn_51 : decode cX2_trapsIn 51 = .ok (.iload 8, 2) := by decide +kernel
theorem dX2_trapsIn_53 : decode cX2_trapsIn 53 = .ok (.iaload, 1) := by decide +kernel
theorem dX2_trapsIn_54 : decode cX2_trapsIn 54 = .ok (.invokevirtual 120, 3) := by decide +kernel
theorem dX2_trapsIn_57 : decode cX2_trapsIn 57 = .ok (.aload_n 0, 1) := by decide +kernel
theorem dX2_trapsIn_58 : decode cX2_trapsIn 58 = .ok (.aload_n 1, 1) := by decide +kernel
theorem dX2_trapsIn_59 : decode cX2_trapsIn 59 = .ok (.invokevirtual 165, 3) := by decide +kernel
theorem dX2_trapsIn_62 : decode cX2_trapsIn 62 = .ok (.istore 9, 2) := by decide +kernel
theorem dX2_trapsIn_64 : decode cX2_trapsIn 64 = .ok (.aload_n 0, 1) := by decide +kernel
theorem dX2_trapsIn_65 : decode cX2_trapsIn 65 = .ok (.iload 5, 2) := by decide +kernel
theorem dX2_trapsIn_67 : decode cX2_trapsIn 67 = .ok (.putfield 57, 3) := by decide +kernel
theorem dX2_trapsIn_70 : decode cX2_trapsIn 70 = .ok (.aload_n 0, 1) := by decide +kernel
theorem dX2_trapsIn_71 : decode cX2_trapsIn 71 = .ok (.invokevirtual 63, 3) := by decide +kernel
theorem dX2_trapsIn_74 : decode cX2_trapsIn 74 = .ok (.getfield 31, 3) := by decide +kernel
theorem dX2_trapsIn_77 : decode cX2_trapsIn 77 = .ok (.ifCond .ne 11, 3) := by decide +kernel
theorem dX2_trapsIn_80 : decode cX2_trapsIn 80 = .ok (.iload 6, 2) := by decide +kernel
theorem dX2_trapsIn_82 : decode cX2_trapsIn 82 = .ok (.iload 9, 2) := by decide +kernel
theorem dX2_trapsIn_84 : decode cX2_trapsIn 84 = .ok (.isub, 1) := by decide +kernel
theorem dX2_trapsIn_85 : decode cX2_trapsIn 85 = .ok (.goto 8, 3) := by decide +kernel
theorem dX2_trapsIn_88 : decode cX2_trapsIn 88 = .ok (.iload 9, 2) := by decide +kernel
theorem dX2_trapsIn_90 : decode cX2_trapsIn 90 = .ok (.iload 6, 2) := by decide +kernel
theorem dX2_trapsIn_92 : decode cX2_trapsIn 92 = .ok (.isub, 1) := by decide +kernel
theorem dX2_trapsIn_93 : decode cX2_trapsIn 93 = .ok (.istore 10, 2) := by decide +kernel
theorem dX2_trapsIn_95 : decode cX2_trapsIn 95 = .ok (.iload 10, 2) := by decide +kernel
theorem dX2_trapsIn_97 : decode cX2_trapsIn 97 = .ok (.iload_n 2, 1) := by decide +kernel
theorem dX2_trapsIn_98 : decode cX2_trapsIn 98 = .ok (.if_icmp .lt 19, 3) := by decide +kernel
theorem dX2_trapsIn_101 : decode cX2_trapsIn 101 = .ok (.iload 7, 2) := by decide +kernel
theorem dX2_trapsIn_103 : decode cX2_trapsIn 103 = .ok (.iload_n 3, 1) := by decide +kernel
theorem dX2_trapsIn_104 : decode cX2_trapsIn 104 = .ok (.if_icmp .ne 10, 3) := by decide +kernel
theorem dX2_trapsIn_107 : decode cX2_trapsIn 107 = .ok (.getstatic 117, 3) := by decide +kernel
theorem dX2_trapsIn_110 : decode cX2_trapsIn 110 = .ok (.iload 8, 2) := by decide +kernel
theorem dX2_trapsIn_112 : decode cX2_trapsIn 112 = .ok (.iaload, 1) := by decide +kernel
theorem dX2_trapsIn_113 : decode cX2_trapsIn 113 = .ok (.ireturn, 1) := by decide +kernel
theorem dX2_trapsIn_114 : decode cX2_trapsIn 114 = .ok (.iinc 7 1, 3) := by decide +kernel
theorem dX2_trapsIn_117 : decode cX2_trapsIn 117 = .ok (.iinc 8 1, 3) := by decide +kernel
theorem dX2_trapsIn_120 : decode cX2_trapsIn 120 = .ok (.goto (-95), 3) := by decide +kernel
theorem dX2_trapsIn_123 : decode cX2_trapsIn 123 = .ok (.iload_n 3, 1) := by decide +kernel
theorem dX2_trapsIn_124 : decode cX2_trapsIn 124 = .ok (.iconst (-1), 1) := by decide +kernel
theorem dX2_trapsIn_125 : decode cX2_trapsIn 125 = .ok (.if_icmp .ne 8, 3) := by decide +kernel
theorem dX2_trapsIn_128 : decode cX2_trapsIn 128 = .ok (.iload 7, 2) := by decide +kernel
theorem dX2_trapsIn_130 : decode cX2_trapsIn 130 = .ok (.goto 4, 3) := by decide +kernel
theorem dX2_trapsIn_133 : decode cX2_trapsIn 133 = .ok (.iconst (-1), 1) := by decide +kernel
theorem dX2_trapsIn_134 : decode cX2_trapsIn 134 = .ok (.ireturn, 1) := by decide +kernel
theorem dX2_edgeIn_0 : decode cX2_edgeIn 0 = .ok (.aload_n 1, 1) := by decide +kernel
theorem dX2_edgeIn_1 : decode cX2_edgeIn 1 = .ok (.getfield 133, 3) := by decide +kernel
theorem dX2_edgeIn_4 : decode cX2_edgeIn 4 = .ok (.iconst 2, 1) := by decide +kernel
theorem dX2_edgeIn_5 : decode cX2_edgeIn 5 = .ok (.aaload, 1) := by decide +kernel
theorem dX2_edgeIn_6 : decode cX2_edgeIn 6 = .ok (.astore_n 2, 1) := by decide +kernel
theorem dX2_edgeIn_7 : decode cX2_edgeIn 7 = .ok (.aload_n 0, 1) := by decide +kernel
theorem dX2_edgeIn_8 : decode cX2_edgeIn 8 = .ok (.invokevirtual 63, 3) := by decide +kernel
theorem dX2_edgeIn_11 : decode cX2_edgeIn 11 = .ok (.getfield 71, 3) := by decide +kernel
theorem dX2_edgeIn_14 : decode cX2_edgeIn 14 = .ok (.istore_n 3, 1) := by decide +kernel
theorem dX2_edgeIn_15 : decode cX2_edgeIn 15 = .ok (.aload_n 2, 1) := by decide +kernel
theorem dX2_edgeIn_16 : decode cX2_edgeIn 16 = .ok (.iload_n 3, 1) := by decide +kernel
theorem dX2_edgeIn_17 : decode cX2_edgeIn 17 = .ok (.iaload, 1) := by decide +kernel
theorem dX2_edgeIn_18 : decode cX2_edgeIn 18 = .ok (.istore 4, 2) := by decide +kernel
theorem dX2_edgeIn_20 : decode cX2_edgeIn 20 = .ok (.iconst 0, 1) := by decide +kernel
theorem dX2_edgeIn_21 : decode cX2_edgeIn 21 = .ok (.istore 5, 2) := by decide +kernel
theorem dX2_edgeIn_23 : decode cX2_edgeIn 23 = .ok (.iload 5, 2) := by decide +kernel
theorem dX2_edgeIn_25 : decode cX2_edgeIn 25 = .ok (.bipush 10, 2) := by decide +kernel
theorem dX2_edgeIn_27 : decode cX2_edgeIn 27 = .ok (.if_icmp .gt 27, 3) := by decide +kernel
theorem dX2_edgeIn_30 : decode cX2_edgeIn 30 = .ok (.aload_n 2, 1) := by decide +kernel
theorem dX2_edgeIn_31 : decode cX2_edgeIn 31 = .ok (.iload_n 3, 1) := by decide +kernel
theorem dX2_edgeIn_32 : decode cX2_edgeIn 32 = .ok (.iload 5, 2) := by decide +kernel
theorem dX2_edgeIn_34 : decode cX2_edgeIn 34 = .ok (.iastore, 1) := by decide +kernel
theorem dX2_edgeIn_35 : decode cX2_edgeIn 35 = .ok (.aload_n 0, 1) := by decide +kernel
theorem dX2_edgeIn_36 : decode cX2_edgeIn 36 = .ok (.aload_n 1, 1) := by decide +kernel
theorem dX2_edgeIn_37 : decode cX2_edgeIn 37 = .ok (.invokevirtual 162, 3) := by decide +kernel
theorem dX2_edgeIn_40 : decode cX2_edgeIn 40 = .ok (.bipush 30, 2) := by decide +kernel
theorem dX2_edgeIn_42 : decode cX2_edgeIn 42 = .ok (.if_icmp .eq 6, 3) := by decide +kernel
theorem dX2_edgeIn_45 : decode cX2_edgeIn 45 = .ok (.goto 9, 3) := by decide +kernel
theorem dX2_edgeIn_48 : decode cX2_edgeIn 48 = .ok (.iinc 5 1, 3) := by decide +kernel
theorem dX2_edgeIn_51 : decode cX2_edgeIn 51 = .ok (.goto (-28), 3) := by decide +kernel
theorem dX2_edgeIn_54 : decode cX2_edgeIn 54 = .ok (.aload_n 2, 1) := by decide +kernel
theorem dX2_edgeIn_55 : decode cX2_edgeIn 55 = .ok (.iload_n 3, 1) := by decide +kernel
theorem dX2_edgeIn_56 : decode cX2_edgeIn 56 = .ok (.iload 4, 2) := by decide +kernel
theorem dX2_edgeIn_58 : decode cX2_edgeIn 58 = .ok (.iastore, 1) := by decide +kernel
theorem dX2_edgeIn_59 : decode cX2_edgeIn 59 = .ok (.iload 5, 2) := by decide +kernel
theorem dX2_edgeIn_61 : decode cX2_edgeIn 61 = .ok (.ireturn, 1) := by decide +kernel
