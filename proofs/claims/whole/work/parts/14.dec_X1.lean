/-! decode rows -/
theorem dX1_oughtToHave_0 : decode cX1_oughtToHave 0 = .ok (.aload_n 0, 1) := by decide +kernel
theorem dX1_oughtToHave_1 : decode cX1_oughtToHave 1 = .ok (.getfield 11, 3) := by decide +kernel
theorem dX1_oughtToHave_4 : decode cX1_oughtToHave 4 = .ok (.iconst 2, 1) := by decide +kernel
theorem dX1_oughtToHave_5 : decode cX1_oughtToHave 5 = .ok (.aaload, 1) := by decide +kernel
theorem dX1_oughtToHave_6 : decode cX1_oughtToHave 6 = .ok (.iconst 0, 1) := by decide +kernel
theorem dX1_oughtToHave_7 : decode cX1_oughtToHave 7 = .ok (.iaload, 1) := by decide +kernel
theorem dX1_oughtToHave_8 : decode cX1_oughtToHave 8 = .ok (.iconst 5, 1) := by decide +kernel
theorem dX1_oughtToHave_9 : decode cX1_oughtToHave 9 = .ok (.if_icmp .lt 16, 3) := by decide +kernel
theorem dX1_oughtToHave_12 : decode cX1_oughtToHave 12 = .ok (.aload_n 0, 1) := by decide +kernel
theorem dX1_oughtToHave_13 : decode cX1_oughtToHave 13 = .ok (.aload_n 1, 1) := by decide +kernel
theorem dX1_oughtToHave_14 : decode cX1_oughtToHave 14 = .ok (.iconst 0, 1) := by decide +kernel
theorem dX1_oughtToHave_15 : decode cX1_oughtToHave 15 = .ok (.invokevirtual 20, 3) := by decide +kernel
theorem dX1_oughtToHave_18 : decode cX1_oughtToHave 18 = .ok (.ifCond .eq 7, 3) := by decide +kernel
theorem dX1_oughtToHave_21 : decode cX1_oughtToHave 21 = .ok (.iconst 1, 1) := by decide +kernel
theorem dX1_oughtToHave_22 : decode cX1_oughtToHave 22 = .ok (.goto 4, 3) := by decide +kernel
theorem dX1_oughtToHave_25 : decode cX1_oughtToHave 25 = .ok (.iconst 0, 1) := by decide +kernel
theorem dX1_oughtToHave_26 : decode cX1_oughtToHave 26 = .ok (.ireturn, 1) := by decide +kernel
theorem dX1_standsUp_0 : decode cX1_standsUp 0 = .ok (.aload_n 0, 1) := by decide +kernel
theorem dX1_standsUp_1 : decode cX1_standsUp 1 = .ok (.aload_n 1, 1) := by decide +kernel
theorem dX1_standsUp_2 : decode cX1_standsUp 2 = .ok (.iload_n 2, 1) := by decide +kernel
theorem dX1_standsUp_3 : decode cX1_standsUp 3 = .ok (.iconst 1, 1) := by decide +kernel
theorem dX1_standsUp_4 : decode cX1_standsUp 4 = .ok (.iload_n 2, 1) := by decide +kernel
theorem dX1_standsUp_5 : decode cX1_standsUp 5 = .ok (.ishl, 1) := by decide +kernel
theorem dX1_standsUp_6 : decode cX1_standsUp 6 = .ok (.invokevirtual 24, 3) := by decide +kernel
theorem dX1_standsUp_9 : decode cX1_standsUp 9 = .ok (.ireturn, 1) := by decide +kernel
theorem dX1_standsBeside_0 : decode cX1_standsBeside 0 = .ok (.aload_n 0, 1) := by decide +kernel
theorem dX1_standsBeside_1 : decode cX1_standsBeside 1 = .ok (.getfield 16, 3) := by decide +kernel
theorem dX1_standsBeside_4 : decode cX1_standsBeside 4 = .ok (.iload_n 2, 1) := by decide +kernel
theorem dX1_standsBeside_5 : decode cX1_standsBeside 5 = .ok (.ishr, 1) := by decide +kernel
theorem dX1_standsBeside_6 : decode cX1_standsBeside 6 = .ok (.iconst 1, 1) := by decide +kernel
theorem dX1_standsBeside_7 : decode cX1_standsBeside 7 = .ok (.iand, 1) := by decide +kernel
theorem dX1_standsBeside_8 : decode cX1_standsBeside 8 = .ok (.ifCond .ne 5, 3) := by decide +kernel
theorem dX1_standsBeside_11 : decode cX1_standsBeside 11 = .ok (.iconst 0, 1) := by decide +kernel
theorem dX1_standsBeside_12 : decode cX1_standsBeside 12 = .ok (.ireturn, 1) := by decide +kernel
theorem dX1_standsBeside_13 : decode cX1_standsBeside 13 = .ok (.aload_n 1, 1) := by decide +kernel
theorem dX1_standsBeside_14 : decode cX1_standsBeside 14 = .ok (.iload_n 2, 1) := by decide +kernel
theorem dX1_standsBeside_15 : decode cX1_standsBeside 15 = .ok (.iaload, 1) := by decide +kernel
theorem dX1_standsBeside_16 : decode cX1_standsBeside 16 = .ok (.iload_n 3, 1) := by decide +kernel
theorem dX1_standsBeside_17 : decode cX1_standsBeside 17 = .ok (.iconst (-1), 1) := by decide +kernel
theorem dX1_standsBeside_18 : decode cX1_standsBeside 18 = .ok (.ixor, 1) := by decide +kernel
theorem dX1_standsBeside_19 : decode cX1_standsBeside 19 = .ok (.iand, 1) := by decide +kernel
theorem dX1_standsBeside_20 : decode cX1_standsBeside 20 = .ok (.istore 4, 2) := by decide +kernel
theorem dX1_standsBeside_22 : decode cX1_standsBeside 22 = .ok (.iconst 0, 1) := by decide +kernel
theorem dX1_standsBeside_23 : decode cX1_standsBeside 23 = .ok (.istore 5, 2) := by decide +kernel
theorem dX1_standsBeside_25 : decode cX1_standsBeside 25 = .ok (.iload 5, 2) := by decide +kernel
theorem dX1_standsBeside_27 : decode cX1_standsBeside 27 = .ok (.iconst 5, 1) := by decide +kernel
theorem dX1_standsBeside_28 : decode cX1_standsBeside 28 = .ok (.if_icmp .ge 38, 3) := by decide +kernel
theorem dX1_standsBeside_31 : decode cX1_standsBeside 31 = .ok (.iload 4, 2) := by decide +kernel
theorem dX1_standsBeside_33 : decode cX1_standsBeside 33 = .ok (.iload 5, 2) := by decide +kernel
theorem dX1_standsBeside_35 : decode cX1_standsBeside 35 = .ok (.ishr, 1) := by decide +kernel
theorem dX1_standsBeside_36 : decode cX1_standsBeside 36 = .ok (.iconst 1, 1) := by decide +kernel
theorem dX1_standsBeside_37 : decode cX1_standsBeside 37 = .ok (.iand, 1) := by decide +kernel
theorem dX1_standsBeside_38 : decode cX1_standsBeside 38 = .ok (.iconst 1, 1) := by decide +kernel
theorem dX1_standsBeside_39 : decode cX1_standsBeside 39 = .ok (.if_icmp .ne 21, 3) := by decide +kernel
theorem dX1_standsBeside_42 : decode cX1_standsBeside 42 = .ok (.aload_n 0, 1) := by decide +kernel
theorem dX1_standsBeside_43 : decode cX1_standsBeside 43 = .ok (.aload_n 1, 1) := by decide +kernel
theorem dX1_standsBeside_44 : decode cX1_standsBeside 44 = .ok (.iload 5, 2) := by decide +kernel
theorem dX1_standsBeside_46 : decode cX1_standsBeside 46 = .ok (.iload_n 3, 1) := by decide +kernel
theorem dX1_standsBeside_47 : decode cX1_standsBeside 47 = .ok (.iconst 1, 1) := by decide +kernel
theorem dX1_standsBeside_48 : decode cX1_standsBeside 48 = .ok (.iload 5, 2) := by decide +kernel
theorem dX1_standsBeside_50 : decode cX1_standsBeside 50 = .ok (.ishl, 1) := by decide +kernel
theorem dX1_standsBeside_51 : decode cX1_standsBeside 51 = .ok (.ior, 1) := by decide +kernel
theorem dX1_standsBeside_52 : decode cX1_standsBeside 52 = .ok (.invokevirtual 24, 3) := by decide +kernel
theorem dX1_standsBeside_55 : decode cX1_standsBeside 55 = .ok (.ifCond .eq 5, 3) := by decide +kernel
theorem dX1_standsBeside_58 : decode cX1_standsBeside 58 = .ok (.iconst 0, 1) := by decide +kernel
theorem dX1_standsBeside_59 : decode cX1_standsBeside 59 = .ok (.ireturn, 1) := by decide +kernel
theorem dX1_standsBeside_60 : decode cX1_standsBeside 60 = .ok (.iinc 5 1, 3) := by decide +kernel
theorem dX1_standsBeside_63 : decode cX1_standsBeside 63 = .ok (.goto (-38), 3) := by decide +kernel
theorem dX1_standsBeside_66 : decode cX1_standsBeside 66 = .ok (.iconst 1, 1) := by decide +kernel
theorem dX1_standsBeside_67 : decode cX1_standsBeside 67 = .ok (.ireturn, 1) := by decide +kernel
