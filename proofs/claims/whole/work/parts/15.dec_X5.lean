/-! decode rows -/
theorem dX5_add_0 : decode cX5_add 0 = .ok (.aload_n 0, 1) := by decide +kernel
theorem dX5_add_1 : decode cX5_add 1 = .ok (.getfield 15, 3) := by decide +kernel
theorem dX5_add_4 : decode cX5_add 4 = .ok (.bipush 100, 2) := by decide +kernel
theorem dX5_add_6 : decode cX5_add 6 = .ok (.if_icmp .ge 23, 3) := by decide +kernel
theorem dX5_add_9 : decode cX5_add 9 = .ok (.aload_n 0, 1) := by decide +kernel
theorem dX5_add_10 : decode cX5_add 10 = .ok (.getfield 9, 3) := by decide +kernel
theorem dX5_add_13 : decode cX5_add 13 = .ok (.aload_n 0, 1) := by decide +kernel
theorem dX5_add_14 : decode cX5_add 14 = .ok (.getfield 15, 3) := by decide +kernel
theorem dX5_add_17 : decode cX5_add 17 = .ok (.iload_n 1, 1) := by decide +kernel
theorem dX5_add_18 : decode cX5_add 18 = .ok (.iastore, 1) := by decide +kernel
theorem dX5_add_19 : decode cX5_add 19 = .ok (.aload_n 0, 1) := by decide +kernel
theorem dX5_add_20 : decode cX5_add 20 = .ok (.dup, 1) := by decide +kernel
theorem dX5_add_21 : decode cX5_add 21 = .ok (.getfield 15, 3) := by decide +kernel
theorem dX5_add_24 : decode cX5_add 24 = .ok (.iconst 1, 1) := by decide +kernel
theorem dX5_add_25 : decode cX5_add 25 = .ok (.iadd, 1) := by decide +kernel
theorem dX5_add_26 : decode cX5_add 26 = .ok (.putfield 15, 3) := by decide +kernel
theorem dX5_add_29 : decode cX5_add 29 = .ok (.return_, 1) := by decide +kernel
theorem dX5_faultOf_0 : decode cX5_faultOf 0 = .ok (.aload_n 0, 1) := by decide +kernel
theorem dX5_faultOf_1 : decode cX5_faultOf 1 = .ok (.aload_n 1, 1) := by decide +kernel
theorem dX5_faultOf_2 : decode cX5_faultOf 2 = .ok (.putfield 19, 3) := by decide +kernel
theorem dX5_faultOf_5 : decode cX5_faultOf 5 = .ok (.aload_n 1, 1) := by decide +kernel
theorem dX5_faultOf_6 : decode cX5_faultOf 6 = .ok (.invokevirtual 23, 3) := by decide +kernel
theorem dX5_faultOf_9 : decode cX5_faultOf 9 = .ok (.aload_n 0, 1) := by decide +kernel
theorem dX5_faultOf_10 : decode cX5_faultOf 10 = .ok (.iconst 0, 1) := by decide +kernel
theorem dX5_faultOf_11 : decode cX5_faultOf 11 = .ok (.putfield 28, 3) := by decide +kernel
theorem dX5_faultOf_14 : decode cX5_faultOf 14 = .ok (.aload_n 0, 1) := by decide +kernel
theorem dX5_faultOf_15 : decode cX5_faultOf 15 = .ok (.iconst 0, 1) := by decide +kernel
theorem dX5_faultOf_16 : decode cX5_faultOf 16 = .ok (.putfield 31, 3) := by decide +kernel
theorem dX5_faultOf_19 : decode cX5_faultOf 19 = .ok (.aload_n 0, 1) := by decide +kernel
theorem dX5_faultOf_20 : decode cX5_faultOf 20 = .ok (.invokevirtual 35, 3) := by decide +kernel
theorem dX5_faultOf_23 : decode cX5_faultOf 23 = .ok (.iconst 1, 1) := by decide +kernel
theorem dX5_faultOf_24 : decode cX5_faultOf 24 = .ok (.istore_n 2, 1) := by decide +kernel
theorem dX5_faultOf_25 : decode cX5_faultOf 25 = .ok (.iload_n 2, 1) := by decide +kernel
theorem dX5_faultOf_26 : decode cX5_faultOf 26 = .ok (.bipush 6, 2) := by decide +kernel
theorem dX5_faultOf_28 : decode cX5_faultOf 28 = .ok (.if_icmp .ge 32, 3) := by decide +kernel
theorem dX5_faultOf_31 : decode cX5_faultOf 31 = .ok (.aload_n 0, 1) := by decide +kernel
theorem dX5_faultOf_32 : decode cX5_faultOf 32 = .ok (.bipush 59, 2) := by decide +kernel
theorem dX5_faultOf_34 : decode cX5_faultOf 34 = .ok (.invokevirtual 38, 3) := by decide +kernel
theorem dX5_faultOf_37 : decode cX5_faultOf 37 = .ok (.ifCond .eq 23, 3) := by decide +kernel
theorem dX5_faultOf_40 : decode cX5_faultOf 40 = .ok (.aload_n 0, 1) := by decide +kernel
theorem dX5_faultOf_41 : decode cX5_faultOf 41 = .ok (.dup, 1) := by decide +kernel
theorem dX5_faultOf_42 : decode cX5_faultOf 42 = .ok (.getfield 28, 3) := by decide +kernel
theorem dX5_faultOf_45 : decode cX5_faultOf 45 = .ok (.iconst 1, 1) := by decide +kernel
theorem dX5_faultOf_46 : decode cX5_faultOf 46 = .ok (.iadd, 1) := by decide +kernel
theorem dX5_faultOf_47 : decode cX5_faultOf 47 = .ok (.putfield 28, 3) := by decide +kernel
theorem dX5_faultOf_50 : decode cX5_faultOf 50 = .ok (.aload_n 0, 1) := by decide +kernel
theorem dX5_faultOf_51 : decode cX5_faultOf 51 = .ok (.invokevirtual 35, 3) := by decide +kernel
theorem dX5_faultOf_54 : decode cX5_faultOf 54 = .ok (.iinc 2 1, 3) := by decide +kernel
theorem dX5_faultOf_57 : decode cX5_faultOf 57 = .ok (.goto (-32), 3) := by decide +kernel
theorem dX5_faultOf_60 : decode cX5_faultOf 60 = .ok (.aload_n 0, 1) := by decide +kernel
theorem dX5_faultOf_61 : decode cX5_faultOf 61 = .ok (.getfield 31, 3) := by decide +kernel
theorem dX5_faultOf_64 : decode cX5_faultOf 64 = .ok (.ifCond .ne 14, 3) := by decide +kernel
theorem dX5_faultOf_67 : decode cX5_faultOf 67 = .ok (.aload_n 0, 1) := by decide +kernel
theorem dX5_faultOf_68 : decode cX5_faultOf 68 = .ok (.getfield 28, 3) := by decide +kernel
theorem dX5_faultOf_71 : decode cX5_faultOf 71 = .ok (.aload_n 0, 1) := by decide +kernel
theorem dX5_faultOf_72 : decode cX5_faultOf 72 = .ok (.getfield 15, 3) := by decide +kernel
theorem dX5_faultOf_75 : decode cX5_faultOf 75 = .ok (.if_icmp .ge 10, 3) := by decide +kernel
theorem dX5_faultOf_78 : decode cX5_faultOf 78 = .ok (.aload_n 0, 1) := by decide +kernel
theorem dX5_faultOf_79 : decode cX5_faultOf 79 = .ok (.getfield 28, 3) := by decide +kernel
theorem dX5_faultOf_82 : decode cX5_faultOf 82 = .ok (.goto 4, 3) := by decide +kernel
theorem dX5_faultOf_85 : decode cX5_faultOf 85 = .ok (.iconst (-1), 1) := by decide +kernel
theorem dX5_faultOf_86 : decode cX5_faultOf 86 = .ok (.ireturn, 1) := by decide +kernel
theorem dX5_isNext_0 : decode cX5_isNext 0 = .ok (.aload_n 0, 1) := by decide +kernel
theorem dX5_isNext_1 : decode cX5_isNext 1 = .ok (.getfield 31, 3) := by decide +kernel
theorem dX5_isNext_4 : decode cX5_isNext 4 = .ok (.ifCond .ne 31, 3) := by decide +kernel
theorem dX5_isNext_7 : decode cX5_isNext 7 = .ok (.aload_n 0, 1) := by decide +kernel
theorem dX5_isNext_8 : decode cX5_isNext 8 = .ok (.getfield 28, 3) := by decide +kernel
theorem dX5_isNext_11 : decode cX5_isNext 11 = .ok (.aload_n 0, 1) := by decide +kernel
theorem dX5_isNext_12 : decode cX5_isNext 12 = .ok (.getfield 15, 3) := by decide +kernel
theorem dX5_isNext_15 : decode cX5_isNext 15 = .ok (.if_icmp .ge 20, 3) := by decide +kernel
theorem dX5_isNext_18 : decode cX5_isNext 18 = .ok (.aload_n 0, 1) := by decide +kernel
theorem dX5_isNext_19 : decode cX5_isNext 19 = .ok (.getfield 9, 3) := by decide +kernel
theorem dX5_isNext_22 : decode cX5_isNext 22 = .ok (.aload_n 0, 1) := by decide +kernel
theorem dX5_isNext_23 : decode cX5_isNext 23 = .ok (.getfield 28, 3) := by decide +kernel
theorem dX5_isNext_26 : decode cX5_isNext 26 = .ok (.iaload, 1) := by decide +kernel
theorem dX5_isNext_27 : decode cX5_isNext 27 = .ok (.iload_n 1, 1) := by decide +kernel
theorem dX5_isNext_28 : decode cX5_isNext 28 = .ok (.if_icmp .ne 7, 3) := by decide +kernel
theorem dX5_isNext_31 : decode cX5_isNext 31 = .ok (.iconst 1, 1) := by decide +kernel
theorem dX5_isNext_32 : decode cX5_isNext 32 = .ok (.goto 4, 3) := by decide +kernel
theorem dX5_isNext_35 : decode cX5_isNext 35 = .ok (.iconst 0, 1) := by decide +kernel
theorem dX5_isNext_36 : decode cX5_isNext 36 = .ok (.ireturn, 1) := by decide +kernel
theorem dX5_takeEither_0 : decode cX5_takeEither 0 = .ok (.aload_n 0, 1) := by decide +kernel
theorem dX5_takeEither_1 : decode cX5_takeEither 1 = .ok (.iload_n 1, 1) := by decide +kernel
theorem dX5_takeEither_2 : decode cX5_takeEither 2 = .ok (.invokevirtual 85, 3) := by decide +kernel
theorem dX5_takeEither_5 : decode cX5_takeEither 5 = .ok (.bipush 100, 2) := by decide +kernel
theorem dX5_takeEither_7 : decode cX5_takeEither 7 = .ok (.istore_n 2, 1) := by decide +kernel
theorem dX5_takeEither_8 : decode cX5_takeEither 8 = .ok (.iload_n 2, 1) := by decide +kernel
theorem dX5_takeEither_9 : decode cX5_takeEither 9 = .ok (.ifCond .le 42, 3) := by decide +kernel
theorem dX5_takeEither_12 : decode cX5_takeEither 12 = .ok (.aload_n 0, 1) := by decide +kernel
theorem dX5_takeEither_13 : decode cX5_takeEither 13 = .ok (.bipush 124, 2) := by decide +kernel
theorem dX5_takeEither_15 : decode cX5_takeEither 15 = .ok (.invokevirtual 38, 3) := by decide +kernel
theorem dX5_takeEither_18 : decode cX5_takeEither 18 = .ok (.ifCond .eq 33, 3) := by decide +kernel
theorem dX5_takeEither_21 : decode cX5_takeEither 21 = .ok (.aload_n 0, 1) := by decide +kernel
theorem dX5_takeEither_22 : decode cX5_takeEither 22 = .ok (.dup, 1) := by decide +kernel
theorem dX5_takeEither_23 : decode cX5_takeEither 23 = .ok (.getfield 28, 3) := by decide +kernel
theorem dX5_takeEither_26 : decode cX5_takeEither 26 = .ok (.iconst 1, 1) := by decide +kernel
theorem dX5_takeEither_27 : decode cX5_takeEither 27 = .ok (.iadd, 1) := by decide +kernel
theorem dX5_takeEither_28 : decode cX5_takeEither 28 = .ok (.putfield 28, 3) := by decide +kernel
theorem dX5_takeEither_31 : decode cX5_takeEither 31 = .ok (.aload_n 0, 1) := by decide +kernel
theorem dX5_takeEither_32 : decode cX5_takeEither 32 = .ok (.iload_n 1, 1) := by decide +kernel
theorem dX5_takeEither_33 : decode cX5_takeEither 33 = .ok (.invokevirtual 85, 3) := by decide +kernel
theorem dX5_takeEither_36 : decode cX5_takeEither 36 = .ok (.aload_n 0, 1) := by decide +kernel
theorem dX5_takeEither_37 : decode cX5_takeEither 37 = .ok (.getfield 19, 3) := by decide +kernel
theorem dX5_takeEither_40 : decode cX5_takeEither 40 = .ok (.bipush (-2), 2) := by decide +kernel
theorem dX5_takeEither_42 : decode cX5_takeEither 42 = .ok (.invokevirtual 88, 3) := by decide +kernel
theorem dX5_takeEither_45 : decode cX5_takeEither 45 = .ok (.iinc 2 (-1), 3) := by decide +kernel
theorem dX5_takeEither_48 : decode cX5_takeEither 48 = .ok (.goto (-40), 3) := by decide +kernel
theorem dX5_takeEither_51 : decode cX5_takeEither 51 = .ok (.return_, 1) := by decide +kernel
theorem dX5_takeBoth_0 : decode cX5_takeBoth 0 = .ok (.aload_n 0, 1) := by decide +kernel
theorem dX5_takeBoth_1 : decode cX5_takeBoth 1 = .ok (.iload_n 1, 1) := by decide +kernel
theorem dX5_takeBoth_2 : decode cX5_takeBoth 2 = .ok (.invokevirtual 91, 3) := by decide +kernel
theorem dX5_takeBoth_5 : decode cX5_takeBoth 5 = .ok (.bipush 100, 2) := by decide +kernel
theorem dX5_takeBoth_7 : decode cX5_takeBoth 7 = .ok (.istore_n 2, 1) := by decide +kernel
theorem dX5_takeBoth_8 : decode cX5_takeBoth 8 = .ok (.iload_n 2, 1) := by decide +kernel
theorem dX5_takeBoth_9 : decode cX5_takeBoth 9 = .ok (.ifCond .le 41, 3) := by decide +kernel
theorem dX5_takeBoth_12 : decode cX5_takeBoth 12 = .ok (.aload_n 0, 1) := by decide +kernel
theorem dX5_takeBoth_13 : decode cX5_takeBoth 13 = .ok (.bipush 38, 2) := by decide +kernel
theorem dX5_takeBoth_15 : decode cX5_takeBoth 15 = .ok (.invokevirtual 38, 3) := by decide +kernel
theorem dX5_takeBoth_18 : decode cX5_takeBoth 18 = .ok (.ifCond .eq 32, 3) := by decide +kernel
theorem dX5_takeBoth_21 : decode cX5_takeBoth 21 = .ok (.aload_n 0, 1) := by decide +kernel
theorem dX5_takeBoth_22 : decode cX5_takeBoth 22 = .ok (.dup, 1) := by decide +kernel
theorem dX5_takeBoth_23 : decode cX5_takeBoth 23 = .ok (.getfield 28, 3) := by decide +kernel
theorem dX5_takeBoth_26 : decode cX5_takeBoth 26 = .ok (.iconst 1, 1) := by decide +kernel
theorem dX5_takeBoth_27 : decode cX5_takeBoth 27 = .ok (.iadd, 1) := by decide +kernel
theorem dX5_takeBoth_28 : decode cX5_takeBoth 28 = .ok (.putfield 28, 3) := by decide +kernel
theorem dX5_takeBoth_31 : decode cX5_takeBoth 31 = .ok (.aload_n 0, 1) := by decide +kernel
theorem dX5_takeBoth_32 : decode cX5_takeBoth 32 = .ok (.iload_n 1, 1) := by decide +kernel
theorem dX5_takeBoth_33 : decode cX5_takeBoth 33 = .ok (.invokevirtual 91, 3) := by decide +kernel
theorem dX5_takeBoth_36 : decode cX5_takeBoth 36 = .ok (.aload_n 0, 1) := by decide +kernel
theorem dX5_takeBoth_37 : decode cX5_takeBoth 37 = .ok (.getfield 19, 3) := by decide +kernel
theorem dX5_takeBoth_40 : decode cX5_takeBoth 40 = .ok (.iconst (-1), 1) := by decide +kernel
theorem dX5_takeBoth_41 : decode cX5_takeBoth 41 = .ok (.invokevirtual 88, 3) := by decide +kernel
theorem dX5_takeBoth_44 : decode cX5_takeBoth 44 = .ok (.iinc 2 (-1), 3) := by decide +kernel
theorem dX5_takeBoth_47 : decode cX5_takeBoth 47 = .ok (.goto (-39), 3) := by decide +kernel
theorem dX5_takeBoth_50 : decode cX5_takeBoth 50 = .ok (.return_, 1) := by decide +kernel
