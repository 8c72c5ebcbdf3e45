/-! decode rows -/
theorem dX4_follow_0 : decode cX4_follow 0 = .ok (.aload_n 0, 1) := by decide +kernel
theorem dX4_follow_1 : decode cX4_follow 1 = .ok (.iload_n 2, 1) := by decide +kernel
theorem dX4_follow_2 : decode cX4_follow 2 = .ok (.putfield 15, 3) := by decide +kernel
theorem dX4_follow_5 : decode cX4_follow 5 = .ok (.aload_n 0, 1) := by decide +kernel
theorem dX4_follow_6 : decode cX4_follow 6 = .ok (.iload_n 2, 1) := by decide +kernel
theorem dX4_follow_7 : decode cX4_follow 7 = .ok (.bipush 10, 2) := by decide +kernel
theorem dX4_follow_9 : decode cX4_follow 9 = .ok (.idiv, 1) := by decide +kernel
theorem dX4_follow_10 : decode cX4_follow 10 = .ok (.putfield 19, 3) := by decide +kernel
theorem dX4_follow_13 : decode cX4_follow 13 = .ok (.aload_n 0, 1) := by decide +kernel
theorem dX4_follow_14 : decode cX4_follow 14 = .ok (.aload_n 1, 1) := by decide +kernel
theorem dX4_follow_15 : decode cX4_follow 15 = .ok (.getfield 22, 3) := by decide +kernel
theorem dX4_follow_18 : decode cX4_follow 18 = .ok (.aload_n 0, 1) := by decide +kernel
theorem dX4_follow_19 : decode cX4_follow 19 = .ok (.getfield 19, 3) := by decide +kernel
theorem dX4_follow_22 : decode cX4_follow 22 = .ok (.ishr, 1) := by decide +kernel
theorem dX4_follow_23 : decode cX4_follow 23 = .ok (.iconst 1, 1) := by decide +kernel
theorem dX4_follow_24 : decode cX4_follow 24 = .ok (.iand, 1) := by decide +kernel
theorem dX4_follow_25 : decode cX4_follow 25 = .ok (.putfield 25, 3) := by decide +kernel
theorem dX4_follow_28 : decode cX4_follow 28 = .ok (.aload_n 0, 1) := by decide +kernel
theorem dX4_follow_29 : decode cX4_follow 29 = .ok (.getfield 19, 3) := by decide +kernel
theorem dX4_follow_32 : decode cX4_follow 32 = .ok (.iconst 2, 1) := by decide +kernel
theorem dX4_follow_33 : decode cX4_follow 33 = .ok (.if_icmp .eq 11, 3) := by decide +kernel
theorem dX4_follow_36 : decode cX4_follow 36 = .ok (.aload_n 0, 1) := by decide +kernel
theorem dX4_follow_37 : decode cX4_follow 37 = .ok (.getfield 19, 3) := by decide +kernel
theorem dX4_follow_40 : decode cX4_follow 40 = .ok (.iconst 5, 1) := by decide +kernel
theorem dX4_follow_41 : decode cX4_follow 41 = .ok (.if_icmp .ne 7, 3) := by decide +kernel
theorem dX4_follow_44 : decode cX4_follow 44 = .ok (.iconst 1, 1) := by decide +kernel
theorem dX4_follow_45 : decode cX4_follow 45 = .ok (.goto 4, 3) := by decide +kernel
theorem dX4_follow_48 : decode cX4_follow 48 = .ok (.iconst 0, 1) := by decide +kernel
theorem dX4_follow_49 : decode cX4_follow 49 = .ok (.istore_n 3, 1) := by decide +kernel
theorem dX4_follow_50 : decode cX4_follow 50 = .ok (.aload_n 0, 1) := by decide +kernel
theorem dX4_follow_51 : decode cX4_follow 51 = .ok (.iload_n 3, 1) := by decide +kernel
theorem dX4_follow_52 : decode cX4_follow 52 = .ok (.ifCond .eq 10, 3) := by decide +kernel
theorem dX4_follow_55 : decode cX4_follow 55 = .ok (.iload_n 2, 1) := by decide +kernel
theorem dX4_follow_56 : decode cX4_follow 56 = .ok (.bipush 10, 2) := by decide +kernel
theorem dX4_follow_58 : decode cX4_follow 58 = .ok (.irem, 1) := by decide +kernel
theorem dX4_follow_59 : decode cX4_follow 59 = .ok (.goto 7, 3) := by decide +kernel
theorem dX4_follow_62 : decode cX4_follow 62 = .ok (.aload_n 1, 1) := by decide +kernel
theorem dX4_follow_63 : decode cX4_follow 63 = .ok (.getfield 28, 3) := by decide +kernel
theorem dX4_follow_66 : decode cX4_follow 66 = .ok (.putfield 28, 3) := by decide +kernel
theorem dX4_follow_69 : decode cX4_follow 69 = .ok (.aload_n 0, 1) := by decide +kernel
theorem dX4_follow_70 : decode cX4_follow 70 = .ok (.iload_n 3, 1) := by decide +kernel
theorem dX4_follow_71 : decode cX4_follow 71 = .ok (.ifCond .eq 12, 3) := by decide +kernel
theorem dX4_follow_74 : decode cX4_follow 74 = .ok (.iconst 1, 1) := by decide +kernel
theorem dX4_follow_75 : decode cX4_follow 75 = .ok (.aload_n 1, 1) := by decide +kernel
theorem dX4_follow_76 : decode cX4_follow 76 = .ok (.getfield 31, 3) := by decide +kernel
theorem dX4_follow_79 : decode cX4_follow 79 = .ok (.isub, 1) := by decide +kernel
theorem dX4_follow_80 : decode cX4_follow 80 = .ok (.goto 7, 3) := by decide +kernel
theorem dX4_follow_83 : decode cX4_follow 83 = .ok (.aload_n 1, 1) := by decide +kernel
theorem dX4_follow_84 : decode cX4_follow 84 = .ok (.getfield 31, 3) := by decide +kernel
theorem dX4_follow_87 : decode cX4_follow 87 = .ok (.putfield 31, 3) := by decide +kernel
theorem dX4_follow_90 : decode cX4_follow 90 = .ok (.aload_n 0, 1) := by decide +kernel
theorem dX4_follow_91 : decode cX4_follow 91 = .ok (.aload_n 0, 1) := by decide +kernel
theorem dX4_follow_92 : decode cX4_follow 92 = .ok (.getfield 19, 3) := by decide +kernel
theorem dX4_follow_95 : decode cX4_follow 95 = .ok (.iconst 2, 1) := by decide +kernel
theorem dX4_follow_96 : decode cX4_follow 96 = .ok (.if_icmp .eq 11, 3) := by decide +kernel
theorem dX4_follow_99 : decode cX4_follow 99 = .ok (.aload_n 0, 1) := by decide +kernel
theorem dX4_follow_100 : decode cX4_follow 100 = .ok (.getfield 19, 3) := by decide +kernel
theorem dX4_follow_103 : decode cX4_follow 103 = .ok (.iconst 3, 1) := by decide +kernel
theorem dX4_follow_104 : decode cX4_follow 104 = .ok (.if_icmp .ne 17, 3) := by decide +kernel
theorem dX4_follow_107 : decode cX4_follow 107 = .ok (.aload_n 1, 1) := by decide +kernel
theorem dX4_follow_108 : decode cX4_follow 108 = .ok (.getfield 34, 3) := by decide +kernel
theorem dX4_follow_111 : decode cX4_follow 111 = .ok (.iconst 1, 1) := by decide +kernel
theorem dX4_follow_112 : decode cX4_follow 112 = .ok (.aload_n 1, 1) := by decide +kernel
theorem dX4_follow_113 : decode cX4_follow 113 = .ok (.getfield 28, 3) := by decide +kernel
theorem dX4_follow_116 : decode cX4_follow 116 = .ok (.ishl, 1) := by decide +kernel
theorem dX4_follow_117 : decode cX4_follow 117 = .ok (.ior, 1) := by decide +kernel
theorem dX4_follow_118 : decode cX4_follow 118 = .ok (.goto 7, 3) := by decide +kernel
theorem dX4_follow_121 : decode cX4_follow 121 = .ok (.aload_n 1, 1) := by decide +kernel
theorem dX4_follow_122 : decode cX4_follow 122 = .ok (.getfield 34, 3) := by decide +kernel
theorem dX4_follow_125 : decode cX4_follow 125 = .ok (.putfield 34, 3) := by decide +kernel
theorem dX4_follow_128 : decode cX4_follow 128 = .ok (.aload_n 0, 1) := by decide +kernel
theorem dX4_follow_129 : decode cX4_follow 129 = .ok (.aload_n 1, 1) := by decide +kernel
theorem dX4_follow_130 : decode cX4_follow 130 = .ok (.getfield 37, 3) := by decide +kernel
theorem dX4_follow_133 : decode cX4_follow 133 = .ok (.iconst 1, 1) := by decide +kernel
theorem dX4_follow_134 : decode cX4_follow 134 = .ok (.aload_n 0, 1) := by decide +kernel
theorem dX4_follow_135 : decode cX4_follow 135 = .ok (.getfield 28, 3) := by decide +kernel
theorem dX4_follow_138 : decode cX4_follow 138 = .ok (.ishl, 1) := by decide +kernel
theorem dX4_follow_139 : decode cX4_follow 139 = .ok (.ior, 1) := by decide +kernel
theorem dX4_follow_140 : decode cX4_follow 140 = .ok (.putfield 37, 3) := by decide +kernel
theorem dX4_follow_143 : decode cX4_follow 143 = .ok (.aload_n 0, 1) := by decide +kernel
theorem dX4_follow_144 : decode cX4_follow 144 = .ok (.getfield 9, 3) := by decide +kernel
theorem dX4_follow_147 : decode cX4_follow 147 = .ok (.iconst 0, 1) := by decide +kernel
theorem dX4_follow_148 : decode cX4_follow 148 = .ok (.aload_n 1, 1) := by decide +kernel
theorem dX4_follow_149 : decode cX4_follow 149 = .ok (.getfield 9, 3) := by decide +kernel
theorem dX4_follow_152 : decode cX4_follow 152 = .ok (.iconst 0, 1) := by decide +kernel
theorem dX4_follow_153 : decode cX4_follow 153 = .ok (.iaload, 1) := by decide +kernel
theorem dX4_follow_154 : decode cX4_follow 154 = .ok (.iastore, 1) := by decide +kernel
theorem dX4_follow_155 : decode cX4_follow 155 = .ok (.aload_n 0, 1) := by decide +kernel
theorem dX4_follow_156 : decode cX4_follow 156 = .ok (.getfield 9, 3) := by decide +kernel
theorem dX4_follow_159 : decode cX4_follow 159 = .ok (.iconst 1, 1) := by decide +kernel
theorem dX4_follow_160 : decode cX4_follow 160 = .ok (.aload_n 1, 1) := by decide +kernel
theorem dX4_follow_161 : decode cX4_follow 161 = .ok (.getfield 9, 3) := by decide +kernel
theorem dX4_follow_164 : decode cX4_follow 164 = .ok (.iconst 1, 1) := by decide +kernel
theorem dX4_follow_165 : decode cX4_follow 165 = .ok (.iaload, 1) := by decide +kernel
theorem dX4_follow_166 : decode cX4_follow 166 = .ok (.iastore, 1) := by decide +kernel
theorem dX4_follow_167 : decode cX4_follow 167 = .ok (.aload_n 0, 1) := by decide +kernel
theorem dX4_follow_168 : decode cX4_follow 168 = .ok (.getfield 19, 3) := by decide +kernel
theorem dX4_follow_171 : decode cX4_follow 171 = .ok (.bipush 6, 2) := by decide +kernel
theorem dX4_follow_173 : decode cX4_follow 173 = .ok (.if_icmp .ne 16, 3) := by decide +kernel
theorem dX4_follow_176 : decode cX4_follow 176 = .ok (.aload_n 0, 1) := by decide +kernel
theorem dX4_follow_177 : decode cX4_follow 177 = .ok (.getfield 9, 3) := by decide +kernel
theorem dX4_follow_180 : decode cX4_follow 180 = .ok (.aload_n 0, 1) := by decide +kernel
theorem dX4_follow_181 : decode cX4_follow 181 = .ok (.getfield 31, 3) := by decide +kernel
theorem dX4_follow_184 : decode cX4_follow 184 = .ok (.dup2, 1) := by decide +kernel
theorem dX4_follow_185 : decode cX4_follow 185 = .ok (.iaload, 1) := by decide +kernel
theorem dX4_follow_186 : decode cX4_follow 186 = .ok (.iconst 1, 1) := by decide +kernel
theorem dX4_follow_187 : decode cX4_follow 187 = .ok (.iadd, 1) := by decide +kernel
theorem dX4_follow_188 : decode cX4_follow 188 = .ok (.iastore, 1) := by decide +kernel
theorem dX4_follow_189 : decode cX4_follow 189 = .ok (.return_, 1) := by decide +kernel
theorem dX4_isClosed_0 : decode cX4_isClosed 0 = .ok (.aload_n 0, 1) := by decide +kernel
theorem dX4_isClosed_1 : decode cX4_isClosed 1 = .ok (.getfield 19, 3) := by decide +kernel
theorem dX4_isClosed_4 : decode cX4_isClosed 4 = .ok (.iconst 1, 1) := by decide +kernel
theorem dX4_isClosed_5 : decode cX4_isClosed 5 = .ok (.if_icmp .eq 19, 3) := by decide +kernel
theorem dX4_isClosed_8 : decode cX4_isClosed 8 = .ok (.aload_n 0, 1) := by decide +kernel
theorem dX4_isClosed_9 : decode cX4_isClosed 9 = .ok (.getfield 19, 3) := by decide +kernel
theorem dX4_isClosed_12 : decode cX4_isClosed 12 = .ok (.iconst 3, 1) := by decide +kernel
theorem dX4_isClosed_13 : decode cX4_isClosed 13 = .ok (.if_icmp .eq 11, 3) := by decide +kernel
theorem dX4_isClosed_16 : decode cX4_isClosed 16 = .ok (.aload_n 0, 1) := by decide +kernel
theorem dX4_isClosed_17 : decode cX4_isClosed 17 = .ok (.getfield 19, 3) := by decide +kernel
theorem dX4_isClosed_20 : decode cX4_isClosed 20 = .ok (.iconst 4, 1) := by decide +kernel
theorem dX4_isClosed_21 : decode cX4_isClosed 21 = .ok (.if_icmp .ne 7, 3) := by decide +kernel
theorem dX4_isClosed_24 : decode cX4_isClosed 24 = .ok (.iconst 1, 1) := by decide +kernel
theorem dX4_isClosed_25 : decode cX4_isClosed 25 = .ok (.goto 4, 3) := by decide +kernel
theorem dX4_isClosed_28 : decode cX4_isClosed 28 = .ok (.iconst 0, 1) := by decide +kernel
theorem dX4_isClosed_29 : decode cX4_isClosed 29 = .ok (.ireturn, 1) := by decide +kernel
