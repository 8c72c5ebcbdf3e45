/-! decode rows -/
theorem dX0_isKind_0 : decode cX0_isKind 0 = .ok (.iload_n 0, 1) := by decide +kernel
theorem dX0_isKind_1 : decode cX0_isKind 1 = .ok (.ifCond .lt 13, 3) := by decide +kernel
theorem dX0_isKind_4 : decode cX0_isKind 4 = .ok (.iload_n 0, 1) := by decide +kernel
theorem dX0_isKind_5 : decode cX0_isKind 5 = .ok (.bipush 7, 2) := by decide +kernel
theorem dX0_isKind_7 : decode cX0_isKind 7 = .ok (.if_icmp .ge 7, 3) := by decide +kernel
theorem dX0_isKind_10 : decode cX0_isKind 10 = .ok (.iconst 1, 1) := by decide +kernel
theorem dX0_isKind_11 : decode cX0_isKind 11 = .ok (.goto 4, 3) := by decide +kernel
theorem dX0_isKind_14 : decode cX0_isKind 14 = .ok (.iconst 0, 1) := by decide +kernel
theorem dX0_isKind_15 : decode cX0_isKind 15 = .ok (.ireturn, 1) := by decide +kernel
theorem dX0_isUnder_0 : decode cX0_isUnder 0 = .ok (.iload_n 0, 1) := by decide +kernel
theorem dX0_isUnder_1 : decode cX0_isUnder 1 = .ok (.istore_n 2, 1) := by decide +kernel
theorem dX0_isUnder_2 : decode cX0_isUnder 2 = .ok (.bipush 7, 2) := by decide +kernel
theorem dX0_isUnder_4 : decode cX0_isUnder 4 = .ok (.istore_n 3, 1) := by decide +kernel
theorem dX0_isUnder_5 : decode cX0_isUnder 5 = .ok (.iload_n 3, 1) := by decide +kernel
theorem dX0_isUnder_6 : decode cX0_isUnder 6 = .ok (.ifCond .le 29, 3) := by decide +kernel
theorem dX0_isUnder_9 : decode cX0_isUnder 9 = .ok (.iload_n 2, 1) := by decide +kernel
theorem dX0_isUnder_10 : decode cX0_isUnder 10 = .ok (.invokestatic 15, 3) := by decide +kernel
theorem dX0_isUnder_13 : decode cX0_isUnder 13 = .ok (.ifCond .eq 22, 3) := by decide +kernel
theorem dX0_isUnder_16 : decode cX0_isUnder 16 = .ok (.iload_n 2, 1) := by decide +kernel
theorem dX0_isUnder_17 : decode cX0_isUnder 17 = .ok (.iload_n 1, 1) := by decide +kernel
theorem dX0_isUnder_18 : decode cX0_isUnder 18 = .ok (.if_icmp .ne 5, 3) := by decide +kernel
theorem dX0_isUnder_21 : decode cX0_isUnder 21 = .ok (.iconst 1, 1) := by decide +kernel
theorem dX0_isUnder_22 : decode cX0_isUnder 22 = .ok (.ireturn, 1) := by decide +kernel
theorem dX0_isUnder_23 : decode cX0_isUnder 23 = .ok (.getstatic 19, 3) := by decide +kernel
theorem dX0_isUnder_26 : decode cX0_isUnder 26 = .ok (.iload_n 2, 1) := by decide +kernel
theorem dX0_isUnder_27 : decode cX0_isUnder 27 = .ok (.iaload, 1) := by decide +kernel
theorem dX0_isUnder_28 : decode cX0_isUnder 28 = .ok (.istore_n 2, 1) := by decide +kernel
theorem dX0_isUnder_29 : decode cX0_isUnder 29 = .ok (.iinc 3 (-1), 3) := by decide +kernel
theorem dX0_isUnder_32 : decode cX0_isUnder 32 = .ok (.goto (-27), 3) := by decide +kernel
theorem dX0_isUnder_35 : decode cX0_isUnder 35 = .ok (.iconst 0, 1) := by decide +kernel
theorem dX0_isUnder_36 : decode cX0_isUnder 36 = .ok (.ireturn, 1) := by decide +kernel
theorem dX0_start_0 : decode cX0_start 0 = .ok (.aload_n 0, 1) := by decide +kernel
theorem dX0_start_1 : decode cX0_start 1 = .ok (.iconst 0, 1) := by decide +kernel
theorem dX0_start_2 : decode cX0_start 2 = .ok (.putfield 22, 3) := by decide +kernel
theorem dX0_start_5 : decode cX0_start 5 = .ok (.iload_n 1, 1) := by decide +kernel
theorem dX0_start_6 : decode cX0_start 6 = .ok (.invokestatic 15, 3) := by decide +kernel
theorem dX0_start_9 : decode cX0_start 9 = .ok (.ifCond .eq 12, 3) := by decide +kernel
theorem dX0_start_12 : decode cX0_start 12 = .ok (.iload_n 2, 1) := by decide +kernel
theorem dX0_start_13 : decode cX0_start 13 = .ok (.ifCond .lt 8, 3) := by decide +kernel
theorem dX0_start_16 : decode cX0_start 16 = .ok (.iload_n 2, 1) := by decide +kernel
theorem dX0_start_17 : decode cX0_start 17 = .ok (.iconst 3, 1) := by decide +kernel
theorem dX0_start_18 : decode cX0_start 18 = .ok (.if_icmp .lt 5, 3) := by decide +kernel
theorem dX0_start_21 : decode cX0_start 21 = .ok (.iconst 0, 1) := by decide +kernel
theorem dX0_start_22 : decode cX0_start 22 = .ok (.ireturn, 1) := by decide +kernel
theorem dX0_start_23 : decode cX0_start 23 = .ok (.aload_n 0, 1) := by decide +kernel
theorem dX0_start_24 : decode cX0_start 24 = .ok (.iload 4, 2) := by decide +kernel
theorem dX0_start_26 : decode cX0_start 26 = .ok (.putfield 26, 3) := by decide +kernel
theorem dX0_start_29 : decode cX0_start 29 = .ok (.aload_n 0, 1) := by decide +kernel
theorem dX0_start_30 : decode cX0_start 30 = .ok (.iload 5, 2) := by decide +kernel
theorem dX0_start_32 : decode cX0_start 32 = .ok (.putfield 29, 3) := by decide +kernel
theorem dX0_start_35 : decode cX0_start 35 = .ok (.aload_n 0, 1) := by decide +kernel
theorem dX0_start_36 : decode cX0_start 36 = .ok (.iload_n 1, 1) := by decide +kernel
theorem dX0_start_37 : decode cX0_start 37 = .ok (.iload_n 1, 1) := by decide +kernel
theorem dX0_start_38 : decode cX0_start 38 = .ok (.iload_n 2, 1) := by decide +kernel
theorem dX0_start_39 : decode cX0_start 39 = .ok (.iload_n 3, 1) := by decide +kernel
theorem dX0_start_40 : decode cX0_start 40 = .ok (.iconst 0, 1) := by decide +kernel
theorem dX0_start_41 : decode cX0_start 41 = .ok (.invokevirtual 32, 3) := by decide +kernel
theorem dX0_start_44 : decode cX0_start 44 = .ok (.ireturn, 1) := by decide +kernel
theorem dX0_bodyAt_0 : decode cX0_bodyAt 0 = .ok (.iload_n 1, 1) := by decide +kernel
theorem dX0_bodyAt_1 : decode cX0_bodyAt 1 = .ok (.ifCond .lt 17, 3) := by decide +kernel
theorem dX0_bodyAt_4 : decode cX0_bodyAt 4 = .ok (.iload_n 1, 1) := by decide +kernel
theorem dX0_bodyAt_5 : decode cX0_bodyAt 5 = .ok (.aload_n 0, 1) := by decide +kernel
theorem dX0_bodyAt_6 : decode cX0_bodyAt 6 = .ok (.getfield 22, 3) := by decide +kernel
theorem dX0_bodyAt_9 : decode cX0_bodyAt 9 = .ok (.if_icmp .ge 9, 3) := by decide +kernel
theorem dX0_bodyAt_12 : decode cX0_bodyAt 12 = .ok (.iload_n 1, 1) := by decide +kernel
theorem dX0_bodyAt_13 : decode cX0_bodyAt 13 = .ok (.bipush 20, 2) := by decide +kernel
theorem dX0_bodyAt_15 : decode cX0_bodyAt 15 = .ok (.if_icmp .lt 7, 3) := by decide +kernel
theorem dX0_bodyAt_18 : decode cX0_bodyAt 18 = .ok (.iconst (-1), 1) := by decide +kernel
theorem dX0_bodyAt_19 : decode cX0_bodyAt 19 = .ok (.goto 9, 3) := by decide +kernel
theorem dX0_bodyAt_22 : decode cX0_bodyAt 22 = .ok (.aload_n 0, 1) := by decide +kernel
theorem dX0_bodyAt_23 : decode cX0_bodyAt 23 = .ok (.getfield 11, 3) := by decide +kernel
theorem dX0_bodyAt_26 : decode cX0_bodyAt 26 = .ok (.iload_n 1, 1) := by decide +kernel
theorem dX0_bodyAt_27 : decode cX0_bodyAt 27 = .ok (.iaload, 1) := by decide +kernel
theorem dX0_bodyAt_28 : decode cX0_bodyAt 28 = .ok (.ireturn, 1) := by decide +kernel
theorem dX0_note_0 : decode cX0_note 0 = .ok (.aload_n 0, 1) := by decide +kernel
theorem dX0_note_1 : decode cX0_note 1 = .ok (.getfield 22, 3) := by decide +kernel
theorem dX0_note_4 : decode cX0_note 4 = .ok (.bipush 20, 2) := by decide +kernel
theorem dX0_note_6 : decode cX0_note 6 = .ok (.if_icmp .ge 13, 3) := by decide +kernel
theorem dX0_note_9 : decode cX0_note 9 = .ok (.aload_n 0, 1) := by decide +kernel
theorem dX0_note_10 : decode cX0_note 10 = .ok (.getfield 11, 3) := by decide +kernel
theorem dX0_note_13 : decode cX0_note 13 = .ok (.aload_n 0, 1) := by decide +kernel
theorem dX0_note_14 : decode cX0_note 14 = .ok (.getfield 22, 3) := by decide +kernel
theorem dX0_note_17 : decode cX0_note 17 = .ok (.iload_n 1, 1) := by decide +kernel
theorem dX0_note_18 : decode cX0_note 18 = .ok (.iastore, 1) := by decide +kernel
theorem dX0_note_19 : decode cX0_note 19 = .ok (.aload_n 0, 1) := by decide +kernel
theorem dX0_note_20 : decode cX0_note 20 = .ok (.dup, 1) := by decide +kernel
theorem dX0_note_21 : decode cX0_note 21 = .ok (.getfield 22, 3) := by decide +kernel
theorem dX0_note_24 : decode cX0_note 24 = .ok (.iconst 1, 1) := by decide +kernel
theorem dX0_note_25 : decode cX0_note 25 = .ok (.iadd, 1) := by decide +kernel
theorem dX0_note_26 : decode cX0_note 26 = .ok (.putfield 22, 3) := by decide +kernel
theorem dX0_note_29 : decode cX0_note 29 = .ok (.return_, 1) := by decide +kernel
theorem dX0_run_0 : decode cX0_run 0 = .ok (.iload_n 2, 1) := by decide +kernel
theorem dX0_run_1 : decode cX0_run 1 = .ok (.istore 6, 2) := by decide +kernel
theorem dX0_run_3 : decode cX0_run 3 = .ok (.bipush 7, 2) := by decide +kernel
theorem dX0_run_5 : decode cX0_run 5 = .ok (.istore 7, 2) := by decide +kernel
theorem dX0_run_7 : decode cX0_run 7 = .ok (.iload 7, 2) := by decide +kernel
theorem dX0_run_9 : decode cX0_run 9 = .ok (.ifCond .le 38, 3) := by decide +kernel
theorem dX0_run_12 : decode cX0_run 12 = .ok (.iload 6, 2) := by decide +kernel
theorem dX0_run_14 : decode cX0_run 14 = .ok (.invokestatic 15, 3) := by decide +kernel
theorem dX0_run_17 : decode cX0_run 17 = .ok (.ifCond .eq 30, 3) := by decide +kernel
theorem dX0_run_20 : decode cX0_run 20 = .ok (.getstatic 36, 3) := by decide +kernel
theorem dX0_run_23 : decode cX0_run 23 = .ok (.iconst 3, 1) := by decide +kernel
theorem dX0_run_24 : decode cX0_run 24 = .ok (.iload 6, 2) := by decide +kernel
theorem dX0_run_26 : decode cX0_run 26 = .ok (.imul, 1) := by decide +kernel
theorem dX0_run_27 : decode cX0_run 27 = .ok (.iload_n 3, 1) := by decide +kernel
theorem dX0_run_28 : decode cX0_run 28 = .ok (.iadd, 1) := by decide +kernel
theorem dX0_run_29 : decode cX0_run 29 = .ok (.iaload, 1) := by decide +kernel
theorem dX0_run_30 : decode cX0_run 30 = .ok (.ifCond .ne 17, 3) := by decide +kernel
theorem dX0_run_33 : decode cX0_run 33 = .ok (.getstatic 19, 3) := by decide +kernel
theorem dX0_run_36 : decode cX0_run 36 = .ok (.iload 6, 2) := by decide +kernel
theorem dX0_run_38 : decode cX0_run 38 = .ok (.iaload, 1) := by decide +kernel
theorem dX0_run_39 : decode cX0_run 39 = .ok (.istore 6, 2) := by decide +kernel
theorem dX0_run_41 : decode cX0_run 41 = .ok (.iinc 7 (-1), 3) := by decide +kernel
theorem dX0_run_44 : decode cX0_run 44 = .ok (.goto (-37), 3) := by decide +kernel
theorem dX0_run_47 : decode cX0_run 47 = .ok (.iload 6, 2) := by decide +kernel
theorem dX0_run_49 : decode cX0_run 49 = .ok (.invokestatic 15, 3) := by decide +kernel
theorem dX0_run_52 : decode cX0_run 52 = .ok (.ifCond .eq 10, 3) := by decide +kernel
theorem dX0_run_55 : decode cX0_run 55 = .ok (.iload 5, 2) := by decide +kernel
theorem dX0_run_57 : decode cX0_run 57 = .ok (.bipush 40, 2) := by decide +kernel
theorem dX0_run_59 : decode cX0_run 59 = .ok (.if_icmp .le 5, 3) := by decide +kernel
theorem dX0_run_62 : decode cX0_run 62 = .ok (.iconst 0, 1) := by decide +kernel
theorem dX0_run_63 : decode cX0_run 63 = .ok (.ireturn, 1) := by decide +kernel
theorem dX0_run_64 : decode cX0_run 64 = .ok (.getstatic 36, 3) := by decide +kernel
theorem dX0_run_67 : decode cX0_run 67 = .ok (.iconst 3, 1) := by decide +kernel
theorem dX0_run_68 : decode cX0_run 68 = .ok (.iload 6, 2) := by decide +kernel
theorem dX0_run_70 : decode cX0_run 70 = .ok (.imul, 1) := by decide +kernel
theorem dX0_run_71 : decode cX0_run 71 = .ok (.iload_n 3, 1) := by decide +kernel
theorem dX0_run_72 : decode cX0_run 72 = .ok (.iadd, 1) := by decide +kernel
theorem dX0_run_73 : decode cX0_run 73 = .ok (.iaload, 1) := by decide +kernel
theorem dX0_run_74 : decode cX0_run 74 = .ok (.istore 7, 2) := by decide +kernel
theorem dX0_run_76 : decode cX0_run 76 = .ok (.getstatic 19, 3) := by decide +kernel
theorem dX0_run_79 : decode cX0_run 79 = .ok (.iload 6, 2) := by decide +kernel
theorem dX0_run_81 : decode cX0_run 81 = .ok (.iaload, 1) := by decide +kernel
theorem dX0_run_82 : decode cX0_run 82 = .ok (.istore 8, 2) := by decide +kernel
theorem dX0_run_84 : decode cX0_run 84 = .ok (.iload 5, 2) := by decide +kernel
theorem dX0_run_86 : decode cX0_run 86 = .ok (.iconst 1, 1) := by decide +kernel
theorem dX0_run_87 : decode cX0_run 87 = .ok (.iadd, 1) := by decide +kernel
theorem dX0_run_88 : decode cX0_run 88 = .ok (.istore 9, 2) := by decide +kernel
theorem dX0_run_90 : decode cX0_run 90 = .ok (.aload_n 0, 1) := by decide +kernel
theorem dX0_run_91 : decode cX0_run 91 = .ok (.iload 7, 2) := by decide +kernel
theorem dX0_run_93 : decode cX0_run 93 = .ok (.invokevirtual 39, 3) := by decide +kernel
theorem dX0_run_96 : decode cX0_run 96 = .ok (.iload 7, 2) := by decide +kernel
theorem dX0_run_98 : decode cX0_run 98 = .ok (.lookupswitch 291 #[(10, 98), (11, 106), (12, 123), (20, 137), (30, 152), (31, 167), (40, 191), (50, 205), (60, 223), (61, 241), (70, 266)], 98) := by decide +kernel
theorem dX0_run_196 : decode cX0_run 196 = .ok (.iload 4, 2) := by decide +kernel
theorem dX0_run_198 : decode cX0_run 198 = .ok (.aload_n 0, 1) := by decide +kernel
theorem dX0_run_199 : decode cX0_run 199 = .ok (.getfield 26, 3) := by decide +kernel
theorem dX0_run_202 : decode cX0_run 202 = .ok (.iadd, 1) := by decide +kernel
theorem dX0_run_203 : decode cX0_run 203 = .ok (.ireturn, 1) := by decide +kernel
theorem dX0_run_204 : decode cX0_run 204 = .ok (.aload_n 0, 1) := by decide +kernel
theorem dX0_run_205 : decode cX0_run 205 = .ok (.iload_n 1, 1) := by decide +kernel
theorem dX0_run_206 : decode cX0_run 206 = .ok (.iload_n 1, 1) := by decide +kernel
theorem dX0_run_207 : decode cX0_run 207 = .ok (.iconst 0, 1) := by decide +kernel
theorem dX0_run_208 : decode cX0_run 208 = .ok (.iload 4, 2) := by decide +kernel
theorem dX0_run_210 : decode cX0_run 210 = .ok (.iload 9, 2) := by decide +kernel
theorem dX0_run_212 : decode cX0_run 212 = .ok (.invokevirtual 32, 3) := by decide +kernel
theorem dX0_run_215 : decode cX0_run 215 = .ok (.aload_n 0, 1) := by decide +kernel
theorem dX0_run_216 : decode cX0_run 216 = .ok (.getfield 29, 3) := by decide +kernel
theorem dX0_run_219 : decode cX0_run 219 = .ok (.isub, 1) := by decide +kernel
theorem dX0_run_220 : decode cX0_run 220 = .ok (.ireturn, 1) := by decide +kernel
theorem dX0_run_221 : decode cX0_run 221 = .ok (.aload_n 0, 1) := by decide +kernel
theorem dX0_run_222 : decode cX0_run 222 = .ok (.iload_n 1, 1) := by decide +kernel
theorem dX0_run_223 : decode cX0_run 223 = .ok (.iload_n 1, 1) := by decide +kernel
theorem dX0_run_224 : decode cX0_run 224 = .ok (.iconst 1, 1) := by decide +kernel
theorem dX0_run_225 : decode cX0_run 225 = .ok (.iload 4, 2) := by decide +kernel
theorem dX0_run_227 : decode cX0_run 227 = .ok (.iload 9, 2) := by decide +kernel
theorem dX0_run_229 : decode cX0_run 229 = .ok (.invokevirtual 32, 3) := by decide +kernel
theorem dX0_run_232 : decode cX0_run 232 = .ok (.iconst 2, 1) := by decide +kernel
theorem dX0_run_233 : decode cX0_run 233 = .ok (.imul, 1) := by decide +kernel
theorem dX0_run_234 : decode cX0_run 234 = .ok (.ireturn, 1) := by decide +kernel
theorem dX0_run_235 : decode cX0_run 235 = .ok (.aload_n 0, 1) := by decide +kernel
theorem dX0_run_236 : decode cX0_run 236 = .ok (.iload_n 1, 1) := by decide +kernel
theorem dX0_run_237 : decode cX0_run 237 = .ok (.iload 8, 2) := by decide +kernel
theorem dX0_run_239 : decode cX0_run 239 = .ok (.iconst 1, 1) := by decide +kernel
theorem dX0_run_240 : decode cX0_run 240 = .ok (.iload 4, 2) := by decide +kernel
theorem dX0_run_242 : decode cX0_run 242 = .ok (.iload 9, 2) := by decide +kernel
theorem dX0_run_244 : decode cX0_run 244 = .ok (.invokevirtual 32, 3) := by decide +kernel
theorem dX0_run_247 : decode cX0_run 247 = .ok (.iconst 5, 1) := by decide +kernel
theorem dX0_run_248 : decode cX0_run 248 = .ok (.ixor, 1) := by decide +kernel
theorem dX0_run_249 : decode cX0_run 249 = .ok (.ireturn, 1) := by decide +kernel
theorem dX0_run_250 : decode cX0_run 250 = .ok (.aload_n 0, 1) := by decide +kernel
theorem dX0_run_251 : decode cX0_run 251 = .ok (.iload_n 1, 1) := by decide +kernel
theorem dX0_run_252 : decode cX0_run 252 = .ok (.iload 8, 2) := by decide +kernel
theorem dX0_run_254 : decode cX0_run 254 = .ok (.iconst 0, 1) := by decide +kernel
theorem dX0_run_255 : decode cX0_run 255 = .ok (.iload 4, 2) := by decide +kernel
theorem dX0_run_257 : decode cX0_run 257 = .ok (.iconst 3, 1) := by decide +kernel
theorem dX0_run_258 : decode cX0_run 258 = .ok (.imul, 1) := by decide +kernel
theorem dX0_run_259 : decode cX0_run 259 = .ok (.iload 9, 2) := by decide +kernel
theorem dX0_run_261 : decode cX0_run 261 = .ok (.invokevirtual 32, 3) := by decide +kernel
theorem dX0_run_264 : decode cX0_run 264 = .ok (.ireturn, 1) := by decide +kernel
theorem dX0_run_265 : decode cX0_run 265 = .ok (.aload_n 0, 1) := by decide +kernel
theorem dX0_run_266 : decode cX0_run 266 = .ok (.iload_n 1, 1) := by decide +kernel
theorem dX0_run_267 : decode cX0_run 267 = .ok (.iload 8, 2) := by decide +kernel
theorem dX0_run_269 : decode cX0_run 269 = .ok (.iconst 2, 1) := by decide +kernel
theorem dX0_run_270 : decode cX0_run 270 = .ok (.iload 4, 2) := by decide +kernel
theorem dX0_run_272 : decode cX0_run 272 = .ok (.iload 9, 2) := by decide +kernel
theorem dX0_run_274 : decode cX0_run 274 = .ok (.invokevirtual 32, 3) := by decide +kernel
theorem dX0_run_277 : decode cX0_run 277 = .ok (.aload_n 0, 1) := by decide +kernel
theorem dX0_run_278 : decode cX0_run 278 = .ok (.iload_n 1, 1) := by decide +kernel
theorem dX0_run_279 : decode cX0_run 279 = .ok (.iload_n 1, 1) := by decide +kernel
theorem dX0_run_280 : decode cX0_run 280 = .ok (.iconst 1, 1) := by decide +kernel
theorem dX0_run_281 : decode cX0_run 281 = .ok (.iconst 1, 1) := by decide +kernel
theorem dX0_run_282 : decode cX0_run 282 = .ok (.iload 9, 2) := by decide +kernel
theorem dX0_run_284 : decode cX0_run 284 = .ok (.invokevirtual 32, 3) := by decide +kernel
theorem dX0_run_287 : decode cX0_run 287 = .ok (.iadd, 1) := by decide +kernel
theorem dX0_run_288 : decode cX0_run 288 = .ok (.ireturn, 1) := by decide +kernel
theorem dX0_run_289 : decode cX0_run 289 = .ok (.aload_n 0, 1) := by decide +kernel
theorem dX0_run_290 : decode cX0_run 290 = .ok (.iload_n 1, 1) := by decide +kernel
theorem dX0_run_291 : decode cX0_run 291 = .ok (.iload 8, 2) := by decide +kernel
theorem dX0_run_293 : decode cX0_run 293 = .ok (.iconst 0, 1) := by decide +kernel
theorem dX0_run_294 : decode cX0_run 294 = .ok (.iload 4, 2) := by decide +kernel
theorem dX0_run_296 : decode cX0_run 296 = .ok (.iload 9, 2) := by decide +kernel
theorem dX0_run_298 : decode cX0_run 298 = .ok (.invokevirtual 32, 3) := by decide +kernel
theorem dX0_run_301 : decode cX0_run 301 = .ok (.ineg, 1) := by decide +kernel
theorem dX0_run_302 : decode cX0_run 302 = .ok (.ireturn, 1) := by decide +kernel
theorem dX0_run_303 : decode cX0_run 303 = .ok (.aload_n 0, 1) := by decide +kernel
theorem dX0_run_304 : decode cX0_run 304 = .ok (.iload_n 1, 1) := by decide +kernel
theorem dX0_run_305 : decode cX0_run 305 = .ok (.iload 8, 2) := by decide +kernel
theorem dX0_run_307 : decode cX0_run 307 = .ok (.iconst 2, 1) := by decide +kernel
theorem dX0_run_308 : decode cX0_run 308 = .ok (.iload 4, 2) := by decide +kernel
theorem dX0_run_310 : decode cX0_run 310 = .ok (.aload_n 0, 1) := by decide +kernel
theorem dX0_run_311 : decode cX0_run 311 = .ok (.getfield 26, 3) := by decide +kernel
theorem dX0_run_314 : decode cX0_run 314 = .ok (.isub, 1) := by decide +kernel
theorem dX0_run_315 : decode cX0_run 315 = .ok (.iload 9, 2) := by decide +kernel
theorem dX0_run_317 : decode cX0_run 317 = .ok (.invokevirtual 32, 3) := by decide +kernel
theorem dX0_run_320 : decode cX0_run 320 = .ok (.ireturn, 1) := by decide +kernel
theorem dX0_run_321 : decode cX0_run 321 = .ok (.aload_n 0, 1) := by decide +kernel
theorem dX0_run_322 : decode cX0_run 322 = .ok (.iload_n 1, 1) := by decide +kernel
theorem dX0_run_323 : decode cX0_run 323 = .ok (.iload 8, 2) := by decide +kernel
theorem dX0_run_325 : decode cX0_run 325 = .ok (.iconst 0, 1) := by decide +kernel
theorem dX0_run_326 : decode cX0_run 326 = .ok (.iload 4, 2) := by decide +kernel
theorem dX0_run_328 : decode cX0_run 328 = .ok (.iload 9, 2) := by decide +kernel
theorem dX0_run_330 : decode cX0_run 330 = .ok (.invokevirtual 32, 3) := by decide +kernel
theorem dX0_run_333 : decode cX0_run 333 = .ok (.aload_n 0, 1) := by decide +kernel
theorem dX0_run_334 : decode cX0_run 334 = .ok (.getfield 29, 3) := by decide +kernel
theorem dX0_run_337 : decode cX0_run 337 = .ok (.ixor, 1) := by decide +kernel
theorem dX0_run_338 : decode cX0_run 338 = .ok (.ireturn, 1) := by decide +kernel
theorem dX0_run_339 : decode cX0_run 339 = .ok (.aload_n 0, 1) := by decide +kernel
theorem dX0_run_340 : decode cX0_run 340 = .ok (.iload_n 1, 1) := by decide +kernel
theorem dX0_run_341 : decode cX0_run 341 = .ok (.iload 8, 2) := by decide +kernel
theorem dX0_run_343 : decode cX0_run 343 = .ok (.iconst 1, 1) := by decide +kernel
theorem dX0_run_344 : decode cX0_run 344 = .ok (.iload 4, 2) := by decide +kernel
theorem dX0_run_346 : decode cX0_run 346 = .ok (.iload 9, 2) := by decide +kernel
theorem dX0_run_348 : decode cX0_run 348 = .ok (.invokevirtual 32, 3) := by decide +kernel
theorem dX0_run_351 : decode cX0_run 351 = .ok (.aload_n 0, 1) := by decide +kernel
theorem dX0_run_352 : decode cX0_run 352 = .ok (.iload_n 1, 1) := by decide +kernel
theorem dX0_run_353 : decode cX0_run 353 = .ok (.iload 8, 2) := by decide +kernel
theorem dX0_run_355 : decode cX0_run 355 = .ok (.iconst 0, 1) := by decide +kernel
theorem dX0_run_356 : decode cX0_run 356 = .ok (.iconst 2, 1) := by decide +kernel
theorem dX0_run_357 : decode cX0_run 357 = .ok (.iload 9, 2) := by decide +kernel
theorem dX0_run_359 : decode cX0_run 359 = .ok (.invokevirtual 32, 3) := by decide +kernel
theorem dX0_run_362 : decode cX0_run 362 = .ok (.iadd, 1) := by decide +kernel
theorem dX0_run_363 : decode cX0_run 363 = .ok (.ireturn, 1) := by decide +kernel
theorem dX0_run_364 : decode cX0_run 364 = .ok (.aload_n 0, 1) := by decide +kernel
theorem dX0_run_365 : decode cX0_run 365 = .ok (.iload_n 1, 1) := by decide +kernel
theorem dX0_run_366 : decode cX0_run 366 = .ok (.iload_n 1, 1) := by decide +kernel
theorem dX0_run_367 : decode cX0_run 367 = .ok (.iconst 1, 1) := by decide +kernel
theorem dX0_run_368 : decode cX0_run 368 = .ok (.iload 4, 2) := by decide +kernel
theorem dX0_run_370 : decode cX0_run 370 = .ok (.iload 9, 2) := by decide +kernel
theorem dX0_run_372 : decode cX0_run 372 = .ok (.invokevirtual 32, 3) := by decide +kernel
theorem dX0_run_375 : decode cX0_run 375 = .ok (.aload_n 0, 1) := by decide +kernel
theorem dX0_run_376 : decode cX0_run 376 = .ok (.iload_n 1, 1) := by decide +kernel
theorem dX0_run_377 : decode cX0_run 377 = .ok (.iload 8, 2) := by decide +kernel
theorem dX0_run_379 : decode cX0_run 379 = .ok (.iconst 2, 1) := by decide +kernel
theorem dX0_run_380 : decode cX0_run 380 = .ok (.iload 4, 2) := by decide +kernel
theorem dX0_run_382 : decode cX0_run 382 = .ok (.iload 9, 2) := by decide +kernel
theorem dX0_run_384 : decode cX0_run 384 = .ok (.invokevirtual 32, 3) := by decide +kernel
theorem dX0_run_387 : decode cX0_run 387 = .ok (.isub, 1) := by decide +kernel
theorem dX0_run_388 : decode cX0_run 388 = .ok (.ireturn, 1) := by decide +kernel
theorem dX0_run_389 : decode cX0_run 389 = .ok (.iconst 0, 1) := by decide +kernel
theorem dX0_run_390 : decode cX0_run 390 = .ok (.ireturn, 1) := by decide +kernel
