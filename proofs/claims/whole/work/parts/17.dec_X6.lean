/-! decode rows -/
theorem dX6_link_0 : decode cX6_link 0 = .ok (.iload_n 1, 1) := by decide +kernel
theorem dX6_link_1 : decode cX6_link 1 = .ok (.ifCond .lt 22, 3) := by decide +kernel
theorem dX6_link_4 : decode cX6_link 4 = .ok (.iload_n 1, 1) := by decide +kernel
theorem dX6_link_5 : decode cX6_link 5 = .ok (.iconst 1, 1) := by decide +kernel
theorem dX6_link_6 : decode cX6_link 6 = .ok (.if_icmp .gt 17, 3) := by decide +kernel
theorem dX6_link_9 : decode cX6_link 9 = .ok (.iload_n 2, 1) := by decide +kernel
theorem dX6_link_10 : decode cX6_link 10 = .ok (.invokestatic 68, 3) := by decide +kernel
theorem dX6_link_13 : decode cX6_link 13 = .ok (.ifCond .eq 10, 3) := by decide +kernel
theorem dX6_link_16 : decode cX6_link 16 = .ok (.iload_n 3, 1) := by decide +kernel
theorem dX6_link_17 : decode cX6_link 17 = .ok (.invokestatic 68, 3) := by decide +kernel
theorem dX6_link_20 : decode cX6_link 20 = .ok (.ifCond .ne 5, 3) := by decide +kernel
theorem dX6_link_23 : decode cX6_link 23 = .ok (.iconst (-1), 1) := by decide +kernel
theorem dX6_link_24 : decode cX6_link 24 = .ok (.ireturn, 1) := by decide +kernel
theorem dX6_link_25 : decode cX6_link 25 = .ok (.iload_n 2, 1) := by decide +kernel
theorem dX6_link_26 : decode cX6_link 26 = .ok (.iload_n 3, 1) := by decide +kernel
theorem dX6_link_27 : decode cX6_link 27 = .ok (.if_icmp .eq 7, 3) := by decide +kernel
theorem dX6_link_30 : decode cX6_link 30 = .ok (.iload_n 3, 1) := by decide +kernel
theorem dX6_link_31 : decode cX6_link 31 = .ok (.ifCond .ne 6, 3) := by decide +kernel
theorem dX6_link_34 : decode cX6_link 34 = .ok (.bipush (-2), 2) := by decide +kernel
theorem dX6_link_36 : decode cX6_link 36 = .ok (.ireturn, 1) := by decide +kernel
theorem dX6_link_37 : decode cX6_link 37 = .ok (.iload_n 1, 1) := by decide +kernel
theorem dX6_link_38 : decode cX6_link 38 = .ok (.ifCond .ne 10, 3) := by decide +kernel
theorem dX6_link_41 : decode cX6_link 41 = .ok (.aload_n 0, 1) := by decide +kernel
theorem dX6_link_42 : decode cX6_link 42 = .ok (.getfield 11, 3) := by decide +kernel
theorem dX6_link_45 : decode cX6_link 45 = .ok (.goto 7, 3) := by decide +kernel
theorem dX6_link_48 : decode cX6_link 48 = .ok (.aload_n 0, 1) := by decide +kernel
theorem dX6_link_49 : decode cX6_link 49 = .ok (.getfield 15, 3) := by decide +kernel
theorem dX6_link_52 : decode cX6_link 52 = .ok (.astore 5, 2) := by decide +kernel
theorem dX6_link_54 : decode cX6_link 54 = .ok (.aload 5, 2) := by decide +kernel
theorem dX6_link_56 : decode cX6_link 56 = .ok (.iload_n 2, 1) := by decide +kernel
theorem dX6_link_57 : decode cX6_link 57 = .ok (.iaload, 1) := by decide +kernel
theorem dX6_link_58 : decode cX6_link 58 = .ok (.iload_n 3, 1) := by decide +kernel
theorem dX6_link_59 : decode cX6_link 59 = .ok (.ishr, 1) := by decide +kernel
theorem dX6_link_60 : decode cX6_link 60 = .ok (.iconst 1, 1) := by decide +kernel
theorem dX6_link_61 : decode cX6_link 61 = .ok (.iand, 1) := by decide +kernel
theorem dX6_link_62 : decode cX6_link 62 = .ok (.istore 6, 2) := by decide +kernel
theorem dX6_link_64 : decode cX6_link 64 = .ok (.aload 5, 2) := by decide +kernel
theorem dX6_link_66 : decode cX6_link 66 = .ok (.iload_n 2, 1) := by decide +kernel
theorem dX6_link_67 : decode cX6_link 67 = .ok (.iload 4, 2) := by decide +kernel
theorem dX6_link_69 : decode cX6_link 69 = .ok (.ifCond .eq 14, 3) := by decide +kernel
theorem dX6_link_72 : decode cX6_link 72 = .ok (.aload 5, 2) := by decide +kernel
theorem dX6_link_74 : decode cX6_link 74 = .ok (.iload_n 2, 1) := by decide +kernel
theorem dX6_link_75 : decode cX6_link 75 = .ok (.iaload, 1) := by decide +kernel
theorem dX6_link_76 : decode cX6_link 76 = .ok (.iconst 1, 1) := by decide +kernel
theorem dX6_link_77 : decode cX6_link 77 = .ok (.iload_n 3, 1) := by decide +kernel
theorem dX6_link_78 : decode cX6_link 78 = .ok (.ishl, 1) := by decide +kernel
theorem dX6_link_79 : decode cX6_link 79 = .ok (.ior, 1) := by decide +kernel
theorem dX6_link_80 : decode cX6_link 80 = .ok (.goto 13, 3) := by decide +kernel
theorem dX6_link_83 : decode cX6_link 83 = .ok (.aload 5, 2) := by decide +kernel
theorem dX6_link_85 : decode cX6_link 85 = .ok (.iload_n 2, 1) := by decide +kernel
theorem dX6_link_86 : decode cX6_link 86 = .ok (.iaload, 1) := by decide +kernel
theorem dX6_link_87 : decode cX6_link 87 = .ok (.iconst 1, 1) := by decide +kernel
theorem dX6_link_88 : decode cX6_link 88 = .ok (.iload_n 3, 1) := by decide +kernel
theorem dX6_link_89 : decode cX6_link 89 = .ok (.ishl, 1) := by decide +kernel
theorem dX6_link_90 : decode cX6_link 90 = .ok (.iconst (-1), 1) := by decide +kernel
theorem dX6_link_91 : decode cX6_link 91 = .ok (.ixor, 1) := by decide +kernel
theorem dX6_link_92 : decode cX6_link 92 = .ok (.iand, 1) := by decide +kernel
theorem dX6_link_93 : decode cX6_link 93 = .ok (.iastore, 1) := by decide +kernel
theorem dX6_link_94 : decode cX6_link 94 = .ok (.iload 6, 2) := by decide +kernel
theorem dX6_link_96 : decode cX6_link 96 = .ok (.ireturn, 1) := by decide +kernel
theorem dX6_put_0 : decode cX6_put 0 = .ok (.aload_n 0, 1) := by decide +kernel
theorem dX6_put_1 : decode cX6_put 1 = .ok (.iload_n 1, 1) := by decide +kernel
theorem dX6_put_2 : decode cX6_put 2 = .ok (.invokevirtual 79, 3) := by decide +kernel
theorem dX6_put_5 : decode cX6_put 5 = .ok (.astore 5, 2) := by decide +kernel
theorem dX6_put_7 : decode cX6_put 7 = .ok (.aload 5, 2) := by decide +kernel
theorem dX6_put_9 : decode cX6_put 9 = .ok (.ifnull 19, 3) := by decide +kernel
theorem dX6_put_12 : decode cX6_put 12 = .ok (.iload_n 2, 1) := by decide +kernel
theorem dX6_put_13 : decode cX6_put 13 = .ok (.invokestatic 68, 3) := by decide +kernel
theorem dX6_put_16 : decode cX6_put 16 = .ok (.ifCond .eq 12, 3) := by decide +kernel
theorem dX6_put_19 : decode cX6_put 19 = .ok (.iload_n 3, 1) := by decide +kernel
theorem dX6_put_20 : decode cX6_put 20 = .ok (.ifCond .lt 8, 3) := by decide +kernel
theorem dX6_put_23 : decode cX6_put 23 = .ok (.iload_n 3, 1) := by decide +kernel
theorem dX6_put_24 : decode cX6_put 24 = .ok (.iconst 2, 1) := by decide +kernel
theorem dX6_put_25 : decode cX6_put 25 = .ok (.if_icmp .le 5, 3) := by decide +kernel
theorem dX6_put_28 : decode cX6_put 28 = .ok (.iconst (-1), 1) := by decide +kernel
theorem dX6_put_29 : decode cX6_put 29 = .ok (.ireturn, 1) := by decide +kernel
theorem dX6_put_30 : decode cX6_put 30 = .ok (.iload 4, 2) := by decide +kernel
theorem dX6_put_32 : decode cX6_put 32 = .ok (.ifCond .lt 10, 3) := by decide +kernel
theorem dX6_put_35 : decode cX6_put 35 = .ok (.iload 4, 2) := by decide +kernel
theorem dX6_put_37 : decode cX6_put 37 = .ok (.bipush 10, 2) := by decide +kernel
theorem dX6_put_39 : decode cX6_put 39 = .ok (.if_icmp .le 6, 3) := by decide +kernel
theorem dX6_put_42 : decode cX6_put 42 = .ok (.bipush (-2), 2) := by decide +kernel
theorem dX6_put_44 : decode cX6_put 44 = .ok (.ireturn, 1) := by decide +kernel
theorem dX6_put_45 : decode cX6_put 45 = .ok (.aload 5, 2) := by decide +kernel
theorem dX6_put_47 : decode cX6_put 47 = .ok (.getfield 83, 3) := by decide +kernel
theorem dX6_put_50 : decode cX6_put 50 = .ok (.iload_n 3, 1) := by decide +kernel
theorem dX6_put_51 : decode cX6_put 51 = .ok (.aaload, 1) := by decide +kernel
theorem dX6_put_52 : decode cX6_put 52 = .ok (.iload_n 2, 1) := by decide +kernel
theorem dX6_put_53 : decode cX6_put 53 = .ok (.iaload, 1) := by decide +kernel
theorem dX6_put_54 : decode cX6_put 54 = .ok (.istore 6, 2) := by decide +kernel
theorem dX6_put_56 : decode cX6_put 56 = .ok (.aload 5, 2) := by decide +kernel
theorem dX6_put_58 : decode cX6_put 58 = .ok (.getfield 83, 3) := by decide +kernel
theorem dX6_put_61 : decode cX6_put 61 = .ok (.iload_n 3, 1) := by decide +kernel
theorem dX6_put_62 : decode cX6_put 62 = .ok (.aaload, 1) := by decide +kernel
theorem dX6_put_63 : decode cX6_put 63 = .ok (.iload_n 2, 1) := by decide +kernel
theorem dX6_put_64 : decode cX6_put 64 = .ok (.iload 4, 2) := by decide +kernel
theorem dX6_put_66 : decode cX6_put 66 = .ok (.iastore, 1) := by decide +kernel
theorem dX6_put_67 : decode cX6_put 67 = .ok (.iload 6, 2) := by decide +kernel
theorem dX6_put_69 : decode cX6_put 69 = .ok (.ireturn, 1) := by decide +kernel
theorem dX6_of_0 : decode cX6_of 0 = .ok (.aload_n 0, 1) := by decide +kernel
theorem dX6_of_1 : decode cX6_of 1 = .ok (.iload_n 1, 1) := by decide +kernel
theorem dX6_of_2 : decode cX6_of 2 = .ok (.invokevirtual 79, 3) := by decide +kernel
theorem dX6_of_5 : decode cX6_of 5 = .ok (.astore 4, 2) := by decide +kernel
theorem dX6_of_7 : decode cX6_of 7 = .ok (.aload 4, 2) := by decide +kernel
theorem dX6_of_9 : decode cX6_of 9 = .ok (.ifnull 19, 3) := by decide +kernel
theorem dX6_of_12 : decode cX6_of 12 = .ok (.iload_n 2, 1) := by decide +kernel
theorem dX6_of_13 : decode cX6_of 13 = .ok (.invokestatic 68, 3) := by decide +kernel
theorem dX6_of_16 : decode cX6_of 16 = .ok (.ifCond .eq 12, 3) := by decide +kernel
theorem dX6_of_19 : decode cX6_of 19 = .ok (.iload_n 3, 1) := by decide +kernel
theorem dX6_of_20 : decode cX6_of 20 = .ok (.ifCond .lt 8, 3) := by decide +kernel
theorem dX6_of_23 : decode cX6_of 23 = .ok (.iload_n 3, 1) := by decide +kernel
theorem dX6_of_24 : decode cX6_of 24 = .ok (.iconst 4, 1) := by decide +kernel
theorem dX6_of_25 : decode cX6_of 25 = .ok (.if_icmp .le 5, 3) := by decide +kernel
theorem dX6_of_28 : decode cX6_of 28 = .ok (.iconst (-1), 1) := by decide +kernel
theorem dX6_of_29 : decode cX6_of 29 = .ok (.ireturn, 1) := by decide +kernel
theorem dX6_of_30 : decode cX6_of 30 = .ok (.iload_n 3, 1) := by decide +kernel
theorem dX6_of_31 : decode cX6_of 31 = .ok (.iconst 2, 1) := by decide +kernel
theorem dX6_of_32 : decode cX6_of 32 = .ok (.if_icmp .gt 13, 3) := by decide +kernel
theorem dX6_of_35 : decode cX6_of 35 = .ok (.aload 4, 2) := by decide +kernel
theorem dX6_of_37 : decode cX6_of 37 = .ok (.getfield 83, 3) := by decide +kernel
theorem dX6_of_40 : decode cX6_of 40 = .ok (.iload_n 3, 1) := by decide +kernel
theorem dX6_of_41 : decode cX6_of 41 = .ok (.aaload, 1) := by decide +kernel
theorem dX6_of_42 : decode cX6_of 42 = .ok (.iload_n 2, 1) := by decide +kernel
theorem dX6_of_43 : decode cX6_of 43 = .ok (.iaload, 1) := by decide +kernel
theorem dX6_of_44 : decode cX6_of 44 = .ok (.ireturn, 1) := by decide +kernel
theorem dX6_of_45 : decode cX6_of 45 = .ok (.iload_n 3, 1) := by decide +kernel
theorem dX6_of_46 : decode cX6_of 46 = .ok (.iconst 3, 1) := by decide +kernel
theorem dX6_of_47 : decode cX6_of 47 = .ok (.if_icmp .ne 15, 3) := by decide +kernel
theorem dX6_of_50 : decode cX6_of 50 = .ok (.aload 4, 2) := by decide +kernel
theorem dX6_of_52 : decode cX6_of 52 = .ok (.getfield 87, 3) := by decide +kernel
theorem dX6_of_55 : decode cX6_of 55 = .ok (.iload_n 2, 1) := by decide +kernel
theorem dX6_of_56 : decode cX6_of 56 = .ok (.ishr, 1) := by decide +kernel
theorem dX6_of_57 : decode cX6_of 57 = .ok (.iconst 1, 1) := by decide +kernel
theorem dX6_of_58 : decode cX6_of 58 = .ok (.iand, 1) := by decide +kernel
theorem dX6_of_59 : decode cX6_of 59 = .ok (.goto 16, 3) := by decide +kernel
theorem dX6_of_62 : decode cX6_of 62 = .ok (.aload 4, 2) := by decide +kernel
theorem dX6_of_64 : decode cX6_of 64 = .ok (.aload_n 0, 1) := by decide +kernel
theorem dX6_of_65 : decode cX6_of 65 = .ok (.getfield 11, 3) := by decide +kernel
theorem dX6_of_68 : decode cX6_of 68 = .ok (.iload_n 2, 1) := by decide +kernel
theorem dX6_of_69 : decode cX6_of 69 = .ok (.invokevirtual 90, 3) := by decide +kernel
theorem dX6_of_72 : decode cX6_of 72 = .ok (.invokestatic 94, 3) := by decide +kernel
theorem dX6_of_75 : decode cX6_of 75 = .ok (.ireturn, 1) := by decide +kernel
theorem dX6_feed_0 : decode cX6_feed 0 = .ok (.iload_n 2, 1) := by decide +kernel
theorem dX6_feed_1 : decode cX6_feed 1 = .ok (.ifCond .lt 8, 3) := by decide +kernel
theorem dX6_feed_4 : decode cX6_feed 4 = .ok (.iload_n 2, 1) := by decide +kernel
theorem dX6_feed_5 : decode cX6_feed 5 = .ok (.iconst 4, 1) := by decide +kernel
theorem dX6_feed_6 : decode cX6_feed 6 = .ok (.if_icmp .le 6, 3) := by decide +kernel
theorem dX6_feed_9 : decode cX6_feed 9 = .ok (.bipush (-2), 2) := by decide +kernel
theorem dX6_feed_11 : decode cX6_feed 11 = .ok (.ireturn, 1) := by decide +kernel
theorem dX6_feed_12 : decode cX6_feed 12 = .ok (.aload_n 0, 1) := by decide +kernel
theorem dX6_feed_13 : decode cX6_feed 13 = .ok (.getfield 27, 3) := by decide +kernel
theorem dX6_feed_16 : decode cX6_feed 16 = .ok (.getfield 98, 3) := by decide +kernel
theorem dX6_feed_19 : decode cX6_feed 19 = .ok (.iload_n 2, 1) := by decide +kernel
theorem dX6_feed_20 : decode cX6_feed 20 = .ok (.iadd, 1) := by decide +kernel
theorem dX6_feed_21 : decode cX6_feed 21 = .ok (.bipush 100, 2) := by decide +kernel
theorem dX6_feed_23 : decode cX6_feed 23 = .ok (.if_icmp .le 6, 3) := by decide +kernel
theorem dX6_feed_26 : decode cX6_feed 26 = .ok (.bipush (-4), 2) := by decide +kernel
theorem dX6_feed_28 : decode cX6_feed 28 = .ok (.ireturn, 1) := by decide +kernel
theorem dX6_feed_29 : decode cX6_feed 29 = .ok (.iload_n 2, 1) := by decide +kernel
theorem dX6_feed_30 : decode cX6_feed 30 = .ok (.iconst 1, 1) := by decide +kernel
theorem dX6_feed_31 : decode cX6_feed 31 = .ok (.isub, 1) := by decide +kernel
theorem dX6_feed_32 : decode cX6_feed 32 = .ok (.istore_n 3, 1) := by decide +kernel
theorem dX6_feed_33 : decode cX6_feed 33 = .ok (.iload_n 3, 1) := by decide +kernel
theorem dX6_feed_34 : decode cX6_feed 34 = .ok (.ifCond .lt 26, 3) := by decide +kernel
theorem dX6_feed_37 : decode cX6_feed 37 = .ok (.aload_n 0, 1) := by decide +kernel
theorem dX6_feed_38 : decode cX6_feed 38 = .ok (.getfield 27, 3) := by decide +kernel
theorem dX6_feed_41 : decode cX6_feed 41 = .ok (.iload_n 1, 1) := by decide +kernel
theorem dX6_feed_42 : decode cX6_feed 42 = .ok (.bipush 8, 2) := by decide +kernel
theorem dX6_feed_44 : decode cX6_feed 44 = .ok (.iload_n 3, 1) := by decide +kernel
theorem dX6_feed_45 : decode cX6_feed 45 = .ok (.imul, 1) := by decide +kernel
theorem dX6_feed_46 : decode cX6_feed 46 = .ok (.iushr, 1) := by decide +kernel
theorem dX6_feed_47 : decode cX6_feed 47 = .ok (.sipush 255, 3) := by decide +kernel
theorem dX6_feed_50 : decode cX6_feed 50 = .ok (.iand, 1) := by decide +kernel
theorem dX6_feed_51 : decode cX6_feed 51 = .ok (.invokevirtual 101, 3) := by decide +kernel
theorem dX6_feed_54 : decode cX6_feed 54 = .ok (.iinc 3 (-1), 3) := by decide +kernel
theorem dX6_feed_57 : decode cX6_feed 57 = .ok (.goto (-24), 3) := by decide +kernel
theorem dX6_feed_60 : decode cX6_feed 60 = .ok (.aload_n 0, 1) := by decide +kernel
theorem dX6_feed_61 : decode cX6_feed 61 = .ok (.getfield 27, 3) := by decide +kernel
theorem dX6_feed_64 : decode cX6_feed 64 = .ok (.getfield 98, 3) := by decide +kernel
theorem dX6_feed_67 : decode cX6_feed 67 = .ok (.ireturn, 1) := by decide +kernel
theorem dX6_rules_0 : decode cX6_rules 0 = .ok (.aload_n 0, 1) := by decide +kernel
theorem dX6_rules_1 : decode cX6_rules 1 = .ok (.getfield 104, 3) := by decide +kernel
theorem dX6_rules_4 : decode cX6_rules 4 = .ok (.iconst 5, 1) := by decide +kernel
theorem dX6_rules_5 : decode cX6_rules 5 = .ok (.if_icmp .lt 6, 3) := by decide +kernel
theorem dX6_rules_8 : decode cX6_rules 8 = .ok (.bipush (-4), 2) := by decide +kernel
theorem dX6_rules_10 : decode cX6_rules 10 = .ok (.ireturn, 1) := by decide +kernel
theorem dX6_rules_11 : decode cX6_rules 11 = .ok (.aload_n 0, 1) := by decide +kernel
theorem dX6_rules_12 : decode cX6_rules 12 = .ok (.getfield 33, 3) := by decide +kernel
theorem dX6_rules_15 : decode cX6_rules 15 = .ok (.aload_n 0, 1) := by decide +kernel
theorem dX6_rules_16 : decode cX6_rules 16 = .ok (.getfield 104, 3) := by decide +kernel
theorem dX6_rules_19 : decode cX6_rules 19 = .ok (.aaload, 1) := by decide +kernel
theorem dX6_rules_20 : decode cX6_rules 20 = .ok (.astore_n 1, 1) := by decide +kernel
theorem dX6_rules_21 : decode cX6_rules 21 = .ok (.aload_n 0, 1) := by decide +kernel
theorem dX6_rules_22 : decode cX6_rules 22 = .ok (.getfield 27, 3) := by decide +kernel
theorem dX6_rules_25 : decode cX6_rules 25 = .ok (.aload_n 1, 1) := by decide +kernel
theorem dX6_rules_26 : decode cX6_rules 26 = .ok (.invokevirtual 107, 3) := by decide +kernel
theorem dX6_rules_29 : decode cX6_rules 29 = .ok (.istore_n 2, 1) := by decide +kernel
theorem dX6_rules_30 : decode cX6_rules 30 = .ok (.aload_n 0, 1) := by decide +kernel
theorem dX6_rules_31 : decode cX6_rules 31 = .ok (.getfield 27, 3) := by decide +kernel
theorem dX6_rules_34 : decode cX6_rules 34 = .ok (.iconst 0, 1) := by decide +kernel
theorem dX6_rules_35 : decode cX6_rules 35 = .ok (.putfield 98, 3) := by decide +kernel
theorem dX6_rules_38 : decode cX6_rules 38 = .ok (.iload_n 2, 1) := by decide +kernel
theorem dX6_rules_39 : decode cX6_rules 39 = .ok (.iconst (-1), 1) := by decide +kernel
theorem dX6_rules_40 : decode cX6_rules 40 = .ok (.if_icmp .eq 8, 3) := by decide +kernel
theorem dX6_rules_43 : decode cX6_rules 43 = .ok (.bipush (-10), 2) := by decide +kernel
theorem dX6_rules_45 : decode cX6_rules 45 = .ok (.iload_n 2, 1) := by decide +kernel
theorem dX6_rules_46 : decode cX6_rules 46 = .ok (.isub, 1) := by decide +kernel
theorem dX6_rules_47 : decode cX6_rules 47 = .ok (.ireturn, 1) := by decide +kernel
theorem dX6_rules_48 : decode cX6_rules 48 = .ok (.aload_n 0, 1) := by decide +kernel
theorem dX6_rules_49 : decode cX6_rules 49 = .ok (.dup, 1) := by decide +kernel
theorem dX6_rules_50 : decode cX6_rules 50 = .ok (.getfield 104, 3) := by decide +kernel
theorem dX6_rules_53 : decode cX6_rules 53 = .ok (.iconst 1, 1) := by decide +kernel
theorem dX6_rules_54 : decode cX6_rules 54 = .ok (.iadd, 1) := by decide +kernel
theorem dX6_rules_55 : decode cX6_rules 55 = .ok (.putfield 104, 3) := by decide +kernel
theorem dX6_rules_58 : decode cX6_rules 58 = .ok (.aload_n 0, 1) := by decide +kernel
theorem dX6_rules_59 : decode cX6_rules 59 = .ok (.getfield 104, 3) := by decide +kernel
theorem dX6_rules_62 : decode cX6_rules 62 = .ok (.iconst 1, 1) := by decide +kernel
theorem dX6_rules_63 : decode cX6_rules 63 = .ok (.if_icmp .ne 12, 3) := by decide +kernel
theorem dX6_rules_66 : decode cX6_rules 66 = .ok (.aload_n 0, 1) := by decide +kernel
theorem dX6_rules_67 : decode cX6_rules 67 = .ok (.getfield 42, 3) := by decide +kernel
theorem dX6_rules_70 : decode cX6_rules 70 = .ok (.aload_n 1, 1) := by decide +kernel
theorem dX6_rules_71 : decode cX6_rules 71 = .ok (.iconst (-1), 1) := by decide +kernel
theorem dX6_rules_72 : decode cX6_rules 72 = .ok (.invokevirtual 111, 3) := by decide +kernel
theorem dX6_rules_75 : decode cX6_rules 75 = .ok (.aload_n 0, 1) := by decide +kernel
theorem dX6_rules_76 : decode cX6_rules 76 = .ok (.getfield 104, 3) := by decide +kernel
theorem dX6_rules_79 : decode cX6_rules 79 = .ok (.iconst 1, 1) := by decide +kernel
theorem dX6_rules_80 : decode cX6_rules 80 = .ok (.isub, 1) := by decide +kernel
theorem dX6_rules_81 : decode cX6_rules 81 = .ok (.ireturn, 1) := by decide +kernel
theorem dX6_begin_0 : decode cX6_begin 0 = .ok (.aload_n 0, 1) := by decide +kernel
theorem dX6_begin_1 : decode cX6_begin 1 = .ok (.iload_n 1, 1) := by decide +kernel
theorem dX6_begin_2 : decode cX6_begin 2 = .ok (.invokevirtual 115, 3) := by decide +kernel
theorem dX6_begin_5 : decode cX6_begin 5 = .ok (.astore_n 2, 1) := by decide +kernel
theorem dX6_begin_6 : decode cX6_begin 6 = .ok (.aload_n 2, 1) := by decide +kernel
theorem dX6_begin_7 : decode cX6_begin 7 = .ok (.ifnonnull 5, 3) := by decide +kernel
theorem dX6_begin_10 : decode cX6_begin 10 = .ok (.iconst (-1), 1) := by decide +kernel
theorem dX6_begin_11 : decode cX6_begin 11 = .ok (.ireturn, 1) := by decide +kernel
theorem dX6_begin_12 : decode cX6_begin 12 = .ok (.aload_n 0, 1) := by decide +kernel
theorem dX6_begin_13 : decode cX6_begin 13 = .ok (.getfield 42, 3) := by decide +kernel
theorem dX6_begin_16 : decode cX6_begin 16 = .ok (.aload_n 2, 1) := by decide +kernel
theorem dX6_begin_17 : decode cX6_begin 17 = .ok (.iconst (-1), 1) := by decide +kernel
theorem dX6_begin_18 : decode cX6_begin 18 = .ok (.invokevirtual 111, 3) := by decide +kernel
theorem dX6_begin_21 : decode cX6_begin 21 = .ok (.iconst 1, 1) := by decide +kernel
theorem dX6_begin_22 : decode cX6_begin 22 = .ok (.ireturn, 1) := by decide +kernel
theorem dX6_may_0 : decode cX6_may 0 = .ok (.iload_n 1, 1) := by decide +kernel
theorem dX6_may_1 : decode cX6_may 1 = .ok (.invokestatic 119, 3) := by decide +kernel
theorem dX6_may_4 : decode cX6_may 4 = .ok (.istore_n 2, 1) := by decide +kernel
theorem dX6_may_5 : decode cX6_may 5 = .ok (.iload_n 2, 1) := by decide +kernel
theorem dX6_may_6 : decode cX6_may 6 = .ok (.iconst (-1), 1) := by decide +kernel
theorem dX6_may_7 : decode cX6_may 7 = .ok (.if_icmp .ne 8, 3) := by decide +kernel
theorem dX6_may_10 : decode cX6_may 10 = .ok (.bipush (-2), 2) := by decide +kernel
theorem dX6_may_12 : decode cX6_may 12 = .ok (.goto 14, 3) := by decide +kernel
theorem dX6_may_15 : decode cX6_may 15 = .ok (.aload_n 0, 1) := by decide +kernel
theorem dX6_may_16 : decode cX6_may 16 = .ok (.getfield 42, 3) := by decide +kernel
theorem dX6_may_19 : decode cX6_may 19 = .ok (.invokevirtual 123, 3) := by decide +kernel
theorem dX6_may_22 : decode cX6_may 22 = .ok (.iload_n 2, 1) := by decide +kernel
theorem dX6_may_23 : decode cX6_may 23 = .ok (.ishr, 1) := by decide +kernel
theorem dX6_may_24 : decode cX6_may 24 = .ok (.iconst 1, 1) := by decide +kernel
theorem dX6_may_25 : decode cX6_may 25 = .ok (.iand, 1) := by decide +kernel
theorem dX6_may_26 : decode cX6_may 26 = .ok (.ireturn, 1) := by decide +kernel
theorem dX6_plead_0 : decode cX6_plead 0 = .ok (.iload_n 1, 1) := by decide +kernel
theorem dX6_plead_1 : decode cX6_plead 1 = .ok (.invokestatic 119, 3) := by decide +kernel
theorem dX6_plead_4 : decode cX6_plead 4 = .ok (.istore_n 2, 1) := by decide +kernel
theorem dX6_plead_5 : decode cX6_plead 5 = .ok (.iload_n 2, 1) := by decide +kernel
theorem dX6_plead_6 : decode cX6_plead 6 = .ok (.iconst (-1), 1) := by decide +kernel
theorem dX6_plead_7 : decode cX6_plead 7 = .ok (.if_icmp .ne 6, 3) := by decide +kernel
theorem dX6_plead_10 : decode cX6_plead 10 = .ok (.bipush (-2), 2) := by decide +kernel
theorem dX6_plead_12 : decode cX6_plead 12 = .ok (.ireturn, 1) := by decide +kernel
theorem dX6_plead_13 : decode cX6_plead 13 = .ok (.aload_n 0, 1) := by decide +kernel
theorem dX6_plead_14 : decode cX6_plead 14 = .ok (.getfield 42, 3) := by decide +kernel
theorem dX6_plead_17 : decode cX6_plead 17 = .ok (.invokevirtual 123, 3) := by decide +kernel
theorem dX6_plead_20 : decode cX6_plead 20 = .ok (.iload_n 2, 1) := by decide +kernel
theorem dX6_plead_21 : decode cX6_plead 21 = .ok (.ishr, 1) := by decide +kernel
theorem dX6_plead_22 : decode cX6_plead 22 = .ok (.iconst 1, 1) := by decide +kernel
theorem dX6_plead_23 : decode cX6_plead 23 = .ok (.iand, 1) := by decide +kernel
theorem dX6_plead_24 : decode cX6_plead 24 = .ok (.ifCond .ne 6, 3) := by decide +kernel
theorem dX6_plead_27 : decode cX6_plead 27 = .ok (.bipush (-3), 2) := by decide +kernel
theorem dX6_plead_29 : decode cX6_plead 29 = .ok (.ireturn, 1) := by decide +kernel
theorem dX6_plead_30 : decode cX6_plead 30 = .ok (.aload_n 0, 1) := by decide +kernel
theorem dX6_plead_31 : decode cX6_plead 31 = .ok (.getfield 42, 3) := by decide +kernel
theorem dX6_plead_34 : decode cX6_plead 34 = .ok (.iload_n 1, 1) := by decide +kernel
theorem dX6_plead_35 : decode cX6_plead 35 = .ok (.invokevirtual 127, 3) := by decide +kernel
theorem dX6_plead_38 : decode cX6_plead 38 = .ok (.aload_n 0, 1) := by decide +kernel
theorem dX6_plead_39 : decode cX6_plead 39 = .ok (.getfield 42, 3) := by decide +kernel
theorem dX6_plead_42 : decode cX6_plead 42 = .ok (.getfield 130, 3) := by decide +kernel
theorem dX6_plead_45 : decode cX6_plead 45 = .ok (.ireturn, 1) := by decide +kernel
theorem dX6_back_0 : decode cX6_back 0 = .ok (.aload_n 0, 1) := by decide +kernel
theorem dX6_back_1 : decode cX6_back 1 = .ok (.getfield 42, 3) := by decide +kernel
theorem dX6_back_4 : decode cX6_back 4 = .ok (.getfield 130, 3) := by decide +kernel
theorem dX6_back_7 : decode cX6_back 7 = .ok (.ifCond .ne 6, 3) := by decide +kernel
theorem dX6_back_10 : decode cX6_back 10 = .ok (.bipush (-3), 2) := by decide +kernel
theorem dX6_back_12 : decode cX6_back 12 = .ok (.ireturn, 1) := by decide +kernel
theorem dX6_back_13 : decode cX6_back 13 = .ok (.aload_n 0, 1) := by decide +kernel
theorem dX6_back_14 : decode cX6_back 14 = .ok (.getfield 42, 3) := by decide +kernel
theorem dX6_back_17 : decode cX6_back 17 = .ok (.dup, 1) := by decide +kernel
theorem dX6_back_18 : decode cX6_back 18 = .ok (.getfield 130, 3) := by decide +kernel
theorem dX6_back_21 : decode cX6_back 21 = .ok (.iconst 1, 1) := by decide +kernel
theorem dX6_back_22 : decode cX6_back 22 = .ok (.isub, 1) := by decide +kernel
theorem dX6_back_23 : decode cX6_back 23 = .ok (.putfield 130, 3) := by decide +kernel
theorem dX6_back_26 : decode cX6_back 26 = .ok (.aload_n 0, 1) := by decide +kernel
theorem dX6_back_27 : decode cX6_back 27 = .ok (.getfield 42, 3) := by decide +kernel
theorem dX6_back_30 : decode cX6_back 30 = .ok (.getfield 130, 3) := by decide +kernel
theorem dX6_back_33 : decode cX6_back 33 = .ok (.ireturn, 1) := by decide +kernel
theorem dX6_stands_0 : decode cX6_stands 0 = .ok (.aload_n 0, 1) := by decide +kernel
theorem dX6_stands_1 : decode cX6_stands 1 = .ok (.getfield 42, 3) := by decide +kernel
theorem dX6_stands_4 : decode cX6_stands 4 = .ok (.invokevirtual 133, 3) := by decide +kernel
theorem dX6_stands_7 : decode cX6_stands 7 = .ok (.astore_n 2, 1) := by decide +kernel
theorem dX6_stands_8 : decode cX6_stands 8 = .ok (.iload_n 1, 1) := by decide +kernel
theorem dX6_stands_9 : decode cX6_stands 9 = .ok (.tableswitch 63 0 4 #[35, 40, 45, 50, 55], 35) := by decide +kernel
theorem dX6_stands_44 : decode cX6_stands 44 = .ok (.aload_n 2, 1) := by decide +kernel
theorem dX6_stands_45 : decode cX6_stands 45 = .ok (.getfield 137, 3) := by decide +kernel
theorem dX6_stands_48 : decode cX6_stands 48 = .ok (.ireturn, 1) := by decide +kernel
theorem dX6_stands_49 : decode cX6_stands 49 = .ok (.aload_n 2, 1) := by decide +kernel
theorem dX6_stands_50 : decode cX6_stands 50 = .ok (.getfield 142, 3) := by decide +kernel
theorem dX6_stands_53 : decode cX6_stands 53 = .ok (.ireturn, 1) := by decide +kernel
theorem dX6_stands_54 : decode cX6_stands 54 = .ok (.aload_n 2, 1) := by decide +kernel
theorem dX6_stands_55 : decode cX6_stands 55 = .ok (.getfield 145, 3) := by decide +kernel
theorem dX6_stands_58 : decode cX6_stands 58 = .ok (.ireturn, 1) := by decide +kernel
theorem dX6_stands_59 : decode cX6_stands 59 = .ok (.aload_n 2, 1) := by decide +kernel
theorem dX6_stands_60 : decode cX6_stands 60 = .ok (.getfield 148, 3) := by decide +kernel
theorem dX6_stands_63 : decode cX6_stands 63 = .ok (.ireturn, 1) := by decide +kernel
theorem dX6_stands_64 : decode cX6_stands 64 = .ok (.aload_n 0, 1) := by decide +kernel
theorem dX6_stands_65 : decode cX6_stands 65 = .ok (.getfield 42, 3) := by decide +kernel
theorem dX6_stands_68 : decode cX6_stands 68 = .ok (.invokevirtual 151, 3) := by decide +kernel
theorem dX6_stands_71 : decode cX6_stands 71 = .ok (.ireturn, 1) := by decide +kernel
theorem dX6_stands_72 : decode cX6_stands 72 = .ok (.iload_n 1, 1) := by decide +kernel
theorem dX6_stands_73 : decode cX6_stands 73 = .ok (.bipush 10, 2) := by decide +kernel
theorem dX6_stands_75 : decode cX6_stands 75 = .ok (.if_icmp .ge 7, 3) := by decide +kernel
theorem dX6_stands_78 : decode cX6_stands 78 = .ok (.iconst (-1), 1) := by decide +kernel
theorem dX6_stands_79 : decode cX6_stands 79 = .ok (.goto 14, 3) := by decide +kernel
theorem dX6_stands_82 : decode cX6_stands 82 = .ok (.aload_n 0, 1) := by decide +kernel
theorem dX6_stands_83 : decode cX6_stands 83 = .ok (.getfield 42, 3) := by decide +kernel
theorem dX6_stands_86 : decode cX6_stands 86 = .ok (.iload_n 1, 1) := by decide +kernel
theorem dX6_stands_87 : decode cX6_stands 87 = .ok (.bipush 10, 2) := by decide +kernel
theorem dX6_stands_89 : decode cX6_stands 89 = .ok (.isub, 1) := by decide +kernel
theorem dX6_stands_90 : decode cX6_stands 90 = .ok (.invokevirtual 154, 3) := by decide +kernel
theorem dX6_stands_93 : decode cX6_stands 93 = .ok (.ireturn, 1) := by decide +kernel
theorem dX6_ends_0 : decode cX6_ends 0 = .ok (.iload_n 1, 1) := by decide +kernel
theorem dX6_ends_1 : decode cX6_ends 1 = .ok (.ifCond .eq 26, 3) := by decide +kernel
theorem dX6_ends_4 : decode cX6_ends 4 = .ok (.iload_n 1, 1) := by decide +kernel
theorem dX6_ends_5 : decode cX6_ends 5 = .ok (.iconst 1, 1) := by decide +kernel
theorem dX6_ends_6 : decode cX6_ends 6 = .ok (.if_icmp .eq 21, 3) := by decide +kernel
theorem dX6_ends_9 : decode cX6_ends 9 = .ok (.iload_n 1, 1) := by decide +kernel
theorem dX6_ends_10 : decode cX6_ends 10 = .ok (.iconst 3, 1) := by decide +kernel
theorem dX6_ends_11 : decode cX6_ends 11 = .ok (.if_icmp .eq 16, 3) := by decide +kernel
theorem dX6_ends_14 : decode cX6_ends 14 = .ok (.iload_n 1, 1) := by decide +kernel
theorem dX6_ends_15 : decode cX6_ends 15 = .ok (.iconst 4, 1) := by decide +kernel
theorem dX6_ends_16 : decode cX6_ends 16 = .ok (.if_icmp .eq 11, 3) := by decide +kernel
theorem dX6_ends_19 : decode cX6_ends 19 = .ok (.iload_n 1, 1) := by decide +kernel
theorem dX6_ends_20 : decode cX6_ends 20 = .ok (.bipush 7, 2) := by decide +kernel
theorem dX6_ends_22 : decode cX6_ends 22 = .ok (.if_icmp .eq 5, 3) := by decide +kernel
theorem dX6_ends_25 : decode cX6_ends 25 = .ok (.iconst (-1), 1) := by decide +kernel
theorem dX6_ends_26 : decode cX6_ends 26 = .ok (.ireturn, 1) := by decide +kernel
theorem dX6_ends_27 : decode cX6_ends 27 = .ok (.aload_n 0, 1) := by decide +kernel
theorem dX6_ends_28 : decode cX6_ends 28 = .ok (.getfield 42, 3) := by decide +kernel
theorem dX6_ends_31 : decode cX6_ends 31 = .ok (.iload_n 1, 1) := by decide +kernel
theorem dX6_ends_32 : decode cX6_ends 32 = .ok (.invokevirtual 157, 3) := by decide +kernel
theorem dX6_ends_35 : decode cX6_ends 35 = .ok (.ireturn, 1) := by decide +kernel
theorem dX6_row_0 : decode cX6_row 0 = .ok (.iload_n 1, 1) := by decide +kernel
theorem dX6_row_1 : decode cX6_row 1 = .ok (.ifCond .lt 8, 3) := by decide +kernel
theorem dX6_row_4 : decode cX6_row 4 = .ok (.iload_n 2, 1) := by decide +kernel
theorem dX6_row_5 : decode cX6_row 5 = .ok (.iconst (-1), 1) := by decide +kernel
theorem dX6_row_6 : decode cX6_row 6 = .ok (.if_icmp .ge 7, 3) := by decide +kernel
theorem dX6_row_9 : decode cX6_row 9 = .ok (.iconst (-1), 1) := by decide +kernel
theorem dX6_row_10 : decode cX6_row 10 = .ok (.goto 12, 3) := by decide +kernel
theorem dX6_row_13 : decode cX6_row 13 = .ok (.aload_n 0, 1) := by decide +kernel
theorem dX6_row_14 : decode cX6_row 14 = .ok (.getfield 42, 3) := by decide +kernel
theorem dX6_row_17 : decode cX6_row 17 = .ok (.iload_n 1, 1) := by decide +kernel
theorem dX6_row_18 : decode cX6_row 18 = .ok (.iload_n 2, 1) := by decide +kernel
theorem dX6_row_19 : decode cX6_row 19 = .ok (.invokevirtual 160, 3) := by decide +kernel
theorem dX6_row_22 : decode cX6_row 22 = .ok (.ireturn, 1) := by decide +kernel
theorem dX6_worth_0 : decode cX6_worth 0 = .ok (.aload_n 0, 1) := by decide +kernel
theorem dX6_worth_1 : decode cX6_worth 1 = .ok (.iload_n 1, 1) := by decide +kernel
theorem dX6_worth_2 : decode cX6_worth 2 = .ok (.invokevirtual 79, 3) := by decide +kernel
theorem dX6_worth_5 : decode cX6_worth 5 = .ok (.astore_n 2, 1) := by decide +kernel
theorem dX6_worth_6 : decode cX6_worth 6 = .ok (.aload_n 2, 1) := by decide +kernel
theorem dX6_worth_7 : decode cX6_worth 7 = .ok (.ifnonnull 5, 3) := by decide +kernel
theorem dX6_worth_10 : decode cX6_worth 10 = .ok (.iconst (-1), 1) := by decide +kernel
theorem dX6_worth_11 : decode cX6_worth 11 = .ok (.ireturn, 1) := by decide +kernel
theorem dX6_worth_12 : decode cX6_worth 12 = .ok (.aload_n 0, 1) := by decide +kernel
theorem dX6_worth_13 : decode cX6_worth 13 = .ok (.getfield 42, 3) := by decide +kernel
theorem dX6_worth_16 : decode cX6_worth 16 = .ok (.invokevirtual 151, 3) := by decide +kernel
theorem dX6_worth_19 : decode cX6_worth 19 = .ok (.ifCond .ne 8, 3) := by decide +kernel
theorem dX6_worth_22 : decode cX6_worth 22 = .ok (.bipush (-3), 2) := by decide +kernel
theorem dX6_worth_24 : decode cX6_worth 24 = .ok (.goto 11, 3) := by decide +kernel
theorem dX6_worth_27 : decode cX6_worth 27 = .ok (.aload_n 0, 1) := by decide +kernel
theorem dX6_worth_28 : decode cX6_worth 28 = .ok (.getfield 42, 3) := by decide +kernel
theorem dX6_worth_31 : decode cX6_worth 31 = .ok (.aload_n 2, 1) := by decide +kernel
theorem dX6_worth_32 : decode cX6_worth 32 = .ok (.invokevirtual 164, 3) := by decide +kernel
theorem dX6_worth_35 : decode cX6_worth 35 = .ok (.ireturn, 1) := by decide +kernel
theorem dX6_best_0 : decode cX6_best 0 = .ok (.aload_n 0, 1) := by decide +kernel
theorem dX6_best_1 : decode cX6_best 1 = .ok (.iload_n 1, 1) := by decide +kernel
theorem dX6_best_2 : decode cX6_best 2 = .ok (.invokevirtual 79, 3) := by decide +kernel
theorem dX6_best_5 : decode cX6_best 5 = .ok (.astore_n 3, 1) := by decide +kernel
theorem dX6_best_6 : decode cX6_best 6 = .ok (.aload_n 3, 1) := by decide +kernel
theorem dX6_best_7 : decode cX6_best 7 = .ok (.ifnull 8, 3) := by decide +kernel
theorem dX6_best_10 : decode cX6_best 10 = .ok (.iload_n 2, 1) := by decide +kernel
theorem dX6_best_11 : decode cX6_best 11 = .ok (.iconst (-1), 1) := by decide +kernel
theorem dX6_best_12 : decode cX6_best 12 = .ok (.if_icmp .ge 5, 3) := by decide +kernel
theorem dX6_best_15 : decode cX6_best 15 = .ok (.iconst (-1), 1) := by decide +kernel
theorem dX6_best_16 : decode cX6_best 16 = .ok (.ireturn, 1) := by decide +kernel
theorem dX6_best_17 : decode cX6_best 17 = .ok (.iload_n 2, 1) := by decide +kernel
theorem dX6_best_18 : decode cX6_best 18 = .ok (.iconst (-1), 1) := by decide +kernel
theorem dX6_best_19 : decode cX6_best 19 = .ok (.if_icmp .ne 14, 3) := by decide +kernel
theorem dX6_best_22 : decode cX6_best 22 = .ok (.aload_n 0, 1) := by decide +kernel
theorem dX6_best_23 : decode cX6_best 23 = .ok (.getfield 42, 3) := by decide +kernel
theorem dX6_best_26 : decode cX6_best 26 = .ok (.aload_n 3, 1) := by decide +kernel
theorem dX6_best_27 : decode cX6_best 27 = .ok (.invokevirtual 168, 3) := by decide +kernel
theorem dX6_best_30 : decode cX6_best 30 = .ok (.goto 12, 3) := by decide +kernel
theorem dX6_best_33 : decode cX6_best 33 = .ok (.aload_n 0, 1) := by decide +kernel
theorem dX6_best_34 : decode cX6_best 34 = .ok (.getfield 42, 3) := by decide +kernel
theorem dX6_best_37 : decode cX6_best 37 = .ok (.aload_n 3, 1) := by decide +kernel
theorem dX6_best_38 : decode cX6_best 38 = .ok (.iload_n 2, 1) := by decide +kernel
theorem dX6_best_39 : decode cX6_best 39 = .ok (.invokevirtual 171, 3) := by decide +kernel
theorem dX6_best_42 : decode cX6_best 42 = .ok (.ireturn, 1) := by decide +kernel
theorem dX6_traps_0 : decode cX6_traps 0 = .ok (.aload_n 0, 1) := by decide +kernel
theorem dX6_traps_1 : decode cX6_traps 1 = .ok (.iload_n 1, 1) := by decide +kernel
theorem dX6_traps_2 : decode cX6_traps 2 = .ok (.invokevirtual 79, 3) := by decide +kernel
theorem dX6_traps_5 : decode cX6_traps 5 = .ok (.astore 4, 2) := by decide +kernel
theorem dX6_traps_7 : decode cX6_traps 7 = .ok (.aload 4, 2) := by decide +kernel
theorem dX6_traps_9 : decode cX6_traps 9 = .ok (.ifnonnull 5, 3) := by decide +kernel
theorem dX6_traps_12 : decode cX6_traps 12 = .ok (.iconst (-1), 1) := by decide +kernel
theorem dX6_traps_13 : decode cX6_traps 13 = .ok (.ireturn, 1) := by decide +kernel
theorem dX6_traps_14 : decode cX6_traps 14 = .ok (.iload_n 2, 1) := by decide +kernel
theorem dX6_traps_15 : decode cX6_traps 15 = .ok (.iconst 1, 1) := by decide +kernel
theorem dX6_traps_16 : decode cX6_traps 16 = .ok (.if_icmp .lt 9, 3) := by decide +kernel
theorem dX6_traps_19 : decode cX6_traps 19 = .ok (.iload_n 2, 1) := by decide +kernel
theorem dX6_traps_20 : decode cX6_traps 20 = .ok (.bipush 20, 2) := by decide +kernel
theorem dX6_traps_22 : decode cX6_traps 22 = .ok (.if_icmp .le 6, 3) := by decide +kernel
theorem dX6_traps_25 : decode cX6_traps 25 = .ok (.bipush (-2), 2) := by decide +kernel
theorem dX6_traps_27 : decode cX6_traps 27 = .ok (.ireturn, 1) := by decide +kernel
theorem dX6_traps_28 : decode cX6_traps 28 = .ok (.aload_n 0, 1) := by decide +kernel
theorem dX6_traps_29 : decode cX6_traps 29 = .ok (.getfield 42, 3) := by decide +kernel
theorem dX6_traps_32 : decode cX6_traps 32 = .ok (.aload 4, 2) := by decide +kernel
theorem dX6_traps_34 : decode cX6_traps 34 = .ok (.iload_n 2, 1) := by decide +kernel
theorem dX6_traps_35 : decode cX6_traps 35 = .ok (.iload_n 3, 1) := by decide +kernel
theorem dX6_traps_36 : decode cX6_traps 36 = .ok (.invokevirtual 175, 3) := by decide +kernel
theorem dX6_traps_39 : decode cX6_traps 39 = .ok (.ireturn, 1) := by decide +kernel
theorem dX6_ought_0 : decode cX6_ought 0 = .ok (.aload_n 0, 1) := by decide +kernel
theorem dX6_ought_1 : decode cX6_ought 1 = .ok (.iload_n 1, 1) := by decide +kernel
theorem dX6_ought_2 : decode cX6_ought 2 = .ok (.invokevirtual 79, 3) := by decide +kernel
theorem dX6_ought_5 : decode cX6_ought 5 = .ok (.astore_n 2, 1) := by decide +kernel
theorem dX6_ought_6 : decode cX6_ought 6 = .ok (.aload_n 2, 1) := by decide +kernel
theorem dX6_ought_7 : decode cX6_ought 7 = .ok (.ifnonnull 7, 3) := by decide +kernel
theorem dX6_ought_10 : decode cX6_ought 10 = .ok (.iconst (-1), 1) := by decide +kernel
theorem dX6_ought_11 : decode cX6_ought 11 = .ok (.goto 14, 3) := by decide +kernel
theorem dX6_ought_14 : decode cX6_ought 14 = .ok (.aload_n 2, 1) := by decide +kernel
theorem dX6_ought_15 : decode cX6_ought 15 = .ok (.aload_n 0, 1) := by decide +kernel
theorem dX6_ought_16 : decode cX6_ought 16 = .ok (.getfield 11, 3) := by decide +kernel
theorem dX6_ought_19 : decode cX6_ought 19 = .ok (.invokevirtual 179, 3) := by decide +kernel
theorem dX6_ought_22 : decode cX6_ought 22 = .ok (.invokestatic 94, 3) := by decide +kernel
theorem dX6_ought_25 : decode cX6_ought 25 = .ok (.ireturn, 1) := by decide +kernel
theorem dX6_right_0 : decode cX6_right 0 = .ok (.aload_n 0, 1) := by decide +kernel
theorem dX6_right_1 : decode cX6_right 1 = .ok (.iload_n 1, 1) := by decide +kernel
theorem dX6_right_2 : decode cX6_right 2 = .ok (.invokevirtual 115, 3) := by decide +kernel
theorem dX6_right_5 : decode cX6_right 5 = .ok (.astore_n 2, 1) := by decide +kernel
theorem dX6_right_6 : decode cX6_right 6 = .ok (.aload_n 2, 1) := by decide +kernel
theorem dX6_right_7 : decode cX6_right 7 = .ok (.ifnonnull 7, 3) := by decide +kernel
theorem dX6_right_10 : decode cX6_right 10 = .ok (.iconst (-1), 1) := by decide +kernel
theorem dX6_right_11 : decode cX6_right 11 = .ok (.goto 9, 3) := by decide +kernel
theorem dX6_right_14 : decode cX6_right 14 = .ok (.aload_n 0, 1) := by decide +kernel
theorem dX6_right_15 : decode cX6_right 15 = .ok (.aload_n 2, 1) := by decide +kernel
theorem dX6_right_16 : decode cX6_right 16 = .ok (.iconst (-1), 1) := by decide +kernel
theorem dX6_right_17 : decode cX6_right 17 = .ok (.invokevirtual 183, 3) := by decide +kernel
theorem dX6_right_20 : decode cX6_right 20 = .ok (.ireturn, 1) := by decide +kernel
theorem dX6_edge_0 : decode cX6_edge 0 = .ok (.aload_n 0, 1) := by decide +kernel
theorem dX6_edge_1 : decode cX6_edge 1 = .ok (.iload_n 1, 1) := by decide +kernel
theorem dX6_edge_2 : decode cX6_edge 2 = .ok (.invokevirtual 79, 3) := by decide +kernel
theorem dX6_edge_5 : decode cX6_edge 5 = .ok (.astore_n 2, 1) := by decide +kernel
theorem dX6_edge_6 : decode cX6_edge 6 = .ok (.aload_n 2, 1) := by decide +kernel
theorem dX6_edge_7 : decode cX6_edge 7 = .ok (.ifnonnull 5, 3) := by decide +kernel
theorem dX6_edge_10 : decode cX6_edge 10 = .ok (.iconst (-1), 1) := by decide +kernel
theorem dX6_edge_11 : decode cX6_edge 11 = .ok (.ireturn, 1) := by decide +kernel
theorem dX6_edge_12 : decode cX6_edge 12 = .ok (.aload_n 0, 1) := by decide +kernel
theorem dX6_edge_13 : decode cX6_edge 13 = .ok (.bipush 30, 2) := by decide +kernel
theorem dX6_edge_15 : decode cX6_edge 15 = .ok (.invokevirtual 187, 3) := by decide +kernel
theorem dX6_edge_18 : decode cX6_edge 18 = .ok (.iconst 1, 1) := by decide +kernel
theorem dX6_edge_19 : decode cX6_edge 19 = .ok (.if_icmp .ne 14, 3) := by decide +kernel
theorem dX6_edge_22 : decode cX6_edge 22 = .ok (.aload_n 0, 1) := by decide +kernel
theorem dX6_edge_23 : decode cX6_edge 23 = .ok (.getfield 42, 3) := by decide +kernel
theorem dX6_edge_26 : decode cX6_edge 26 = .ok (.aload_n 2, 1) := by decide +kernel
theorem dX6_edge_27 : decode cX6_edge 27 = .ok (.invokevirtual 190, 3) := by decide +kernel
theorem dX6_edge_30 : decode cX6_edge 30 = .ok (.goto 5, 3) := by decide +kernel
theorem dX6_edge_33 : decode cX6_edge 33 = .ok (.bipush (-3), 2) := by decide +kernel
theorem dX6_edge_35 : decode cX6_edge 35 = .ok (.ireturn, 1) := by decide +kernel
theorem dX6_reform_0 : decode cX6_reform 0 = .ok (.aload_n 0, 1) := by decide +kernel
theorem dX6_reform_1 : decode cX6_reform 1 = .ok (.iload_n 1, 1) := by decide +kernel
theorem dX6_reform_2 : decode cX6_reform 2 = .ok (.invokevirtual 115, 3) := by decide +kernel
theorem dX6_reform_5 : decode cX6_reform 5 = .ok (.astore_n 2, 1) := by decide +kernel
theorem dX6_reform_6 : decode cX6_reform 6 = .ok (.aload_n 2, 1) := by decide +kernel
theorem dX6_reform_7 : decode cX6_reform 7 = .ok (.ifnonnull 5, 3) := by decide +kernel
theorem dX6_reform_10 : decode cX6_reform 10 = .ok (.iconst (-1), 1) := by decide +kernel
theorem dX6_reform_11 : decode cX6_reform 11 = .ok (.ireturn, 1) := by decide +kernel
theorem dX6_reform_12 : decode cX6_reform 12 = .ok (.aload_n 0, 1) := by decide +kernel
theorem dX6_reform_13 : decode cX6_reform 13 = .ok (.aload_n 2, 1) := by decide +kernel
theorem dX6_reform_14 : decode cX6_reform 14 = .ok (.iconst (-1), 1) := by decide +kernel
theorem dX6_reform_15 : decode cX6_reform 15 = .ok (.invokevirtual 183, 3) := by decide +kernel
theorem dX6_reform_18 : decode cX6_reform 18 = .ok (.invokestatic 193, 3) := by decide +kernel
theorem dX6_reform_21 : decode cX6_reform 21 = .ok (.istore_n 3, 1) := by decide +kernel
theorem dX6_reform_22 : decode cX6_reform 22 = .ok (.bipush (-5), 2) := by decide +kernel
theorem dX6_reform_24 : decode cX6_reform 24 = .ok (.istore 4, 2) := by decide +kernel
theorem dX6_reform_26 : decode cX6_reform 26 = .ok (.iconst 0, 1) := by decide +kernel
theorem dX6_reform_27 : decode cX6_reform 27 = .ok (.istore 5, 2) := by decide +kernel
theorem dX6_reform_29 : decode cX6_reform 29 = .ok (.iload 5, 2) := by decide +kernel
theorem dX6_reform_31 : decode cX6_reform 31 = .ok (.aload_n 2, 1) := by decide +kernel
theorem dX6_reform_32 : decode cX6_reform 32 = .ok (.getfield 198, 3) := by decide +kernel
theorem dX6_reform_35 : decode cX6_reform 35 = .ok (.if_icmp .ge 34, 3) := by decide +kernel
theorem dX6_reform_38 : decode cX6_reform 38 = .ok (.aload_n 0, 1) := by decide +kernel
theorem dX6_reform_39 : decode cX6_reform 39 = .ok (.aload_n 2, 1) := by decide +kernel
theorem dX6_reform_40 : decode cX6_reform 40 = .ok (.iload 5, 2) := by decide +kernel
theorem dX6_reform_42 : decode cX6_reform 42 = .ok (.invokevirtual 183, 3) := by decide +kernel
theorem dX6_reform_45 : decode cX6_reform 45 = .ok (.invokestatic 193, 3) := by decide +kernel
theorem dX6_reform_48 : decode cX6_reform 48 = .ok (.istore 6, 2) := by decide +kernel
theorem dX6_reform_50 : decode cX6_reform 50 = .ok (.iload 6, 2) := by decide +kernel
theorem dX6_reform_52 : decode cX6_reform 52 = .ok (.iload_n 3, 1) := by decide +kernel
theorem dX6_reform_53 : decode cX6_reform 53 = .ok (.if_icmp .le 10, 3) := by decide +kernel
theorem dX6_reform_56 : decode cX6_reform 56 = .ok (.iload 6, 2) := by decide +kernel
theorem dX6_reform_58 : decode cX6_reform 58 = .ok (.istore_n 3, 1) := by decide +kernel
theorem dX6_reform_59 : decode cX6_reform 59 = .ok (.iload 5, 2) := by decide +kernel
theorem dX6_reform_61 : decode cX6_reform 61 = .ok (.istore 4, 2) := by decide +kernel
theorem dX6_reform_63 : decode cX6_reform 63 = .ok (.iinc 5 1, 3) := by decide +kernel
theorem dX6_reform_66 : decode cX6_reform 66 = .ok (.goto (-37), 3) := by decide +kernel
theorem dX6_reform_69 : decode cX6_reform 69 = .ok (.iload 4, 2) := by decide +kernel
theorem dX6_reform_71 : decode cX6_reform 71 = .ok (.ireturn, 1) := by decide +kernel
theorem dX6_told_0 : decode cX6_told 0 = .ok (.aload_n 0, 1) := by decide +kernel
theorem dX6_told_1 : decode cX6_told 1 = .ok (.iload 4, 2) := by decide +kernel
theorem dX6_told_3 : decode cX6_told 3 = .ok (.invokevirtual 115, 3) := by decide +kernel
theorem dX6_told_6 : decode cX6_told 6 = .ok (.astore 5, 2) := by decide +kernel
theorem dX6_told_8 : decode cX6_told 8 = .ok (.iload_n 1, 1) := by decide +kernel
theorem dX6_told_9 : decode cX6_told 9 = .ok (.invokestatic 201, 3) := by decide +kernel
theorem dX6_told_12 : decode cX6_told 12 = .ok (.ifCond .eq 8, 3) := by decide +kernel
theorem dX6_told_15 : decode cX6_told 15 = .ok (.aload 5, 2) := by decide +kernel
theorem dX6_told_17 : decode cX6_told 17 = .ok (.ifnonnull 5, 3) := by decide +kernel
theorem dX6_told_20 : decode cX6_told 20 = .ok (.iconst (-1), 1) := by decide +kernel
theorem dX6_told_21 : decode cX6_told 21 = .ok (.ireturn, 1) := by decide +kernel
theorem dX6_told_22 : decode cX6_told 22 = .ok (.iload_n 3, 1) := by decide +kernel
theorem dX6_told_23 : decode cX6_told 23 = .ok (.ifCond .lt 9, 3) := by decide +kernel
theorem dX6_told_26 : decode cX6_told 26 = .ok (.iload_n 3, 1) := by decide +kernel
theorem dX6_told_27 : decode cX6_told 27 = .ok (.bipush 20, 2) := by decide +kernel
theorem dX6_told_29 : decode cX6_told 29 = .ok (.if_icmp .le 6, 3) := by decide +kernel
theorem dX6_told_32 : decode cX6_told 32 = .ok (.bipush (-2), 2) := by decide +kernel
theorem dX6_told_34 : decode cX6_told 34 = .ok (.ireturn, 1) := by decide +kernel
theorem dX6_told_35 : decode cX6_told 35 = .ok (.aload_n 0, 1) := by decide +kernel
theorem dX6_told_36 : decode cX6_told 36 = .ok (.getfield 56, 3) := by decide +kernel
theorem dX6_told_39 : decode cX6_told 39 = .ok (.iload_n 1, 1) := by decide +kernel
theorem dX6_told_40 : decode cX6_told 40 = .ok (.iaload, 1) := by decide +kernel
theorem dX6_told_41 : decode cX6_told 41 = .ok (.ifCond .le 6, 3) := by decide +kernel
theorem dX6_told_44 : decode cX6_told 44 = .ok (.bipush (-12), 2) := by decide +kernel
theorem dX6_told_46 : decode cX6_told 46 = .ok (.ireturn, 1) := by decide +kernel
theorem dX6_told_47 : decode cX6_told 47 = .ok (.aload_n 0, 1) := by decide +kernel
theorem dX6_told_48 : decode cX6_told 48 = .ok (.getfield 46, 3) := by decide +kernel
theorem dX6_told_51 : decode cX6_told 51 = .ok (.aload 5, 2) := by decide +kernel
theorem dX6_told_53 : decode cX6_told 53 = .ok (.iconst (-1), 1) := by decide +kernel
theorem dX6_told_54 : decode cX6_told 54 = .ok (.invokevirtual 111, 3) := by decide +kernel
theorem dX6_told_57 : decode cX6_told 57 = .ok (.iconst 0, 1) := by decide +kernel
theorem dX6_told_58 : decode cX6_told 58 = .ok (.istore 6, 2) := by decide +kernel
theorem dX6_told_60 : decode cX6_told 60 = .ok (.iload 6, 2) := by decide +kernel
theorem dX6_told_62 : decode cX6_told 62 = .ok (.iload_n 3, 1) := by decide +kernel
theorem dX6_told_63 : decode cX6_told 63 = .ok (.if_icmp .ge 86, 3) := by decide +kernel
theorem dX6_told_66 : decode cX6_told 66 = .ok (.iload_n 2, 1) := by decide +kernel
theorem dX6_told_67 : decode cX6_told 67 = .ok (.ifCond .lt 16, 3) := by decide +kernel
theorem dX6_told_70 : decode cX6_told 70 = .ok (.iload_n 2, 1) := by decide +kernel
theorem dX6_told_71 : decode cX6_told 71 = .ok (.iload 6, 2) := by decide +kernel
theorem dX6_told_73 : decode cX6_told 73 = .ok (.iadd, 1) := by decide +kernel
theorem dX6_told_74 : decode cX6_told 74 = .ok (.aload_n 0, 1) := by decide +kernel
theorem dX6_told_75 : decode cX6_told 75 = .ok (.getfield 59, 3) := by decide +kernel
theorem dX6_told_78 : decode cX6_told 78 = .ok (.iload_n 1, 1) := by decide +kernel
theorem dX6_told_79 : decode cX6_told 79 = .ok (.iaload, 1) := by decide +kernel
theorem dX6_told_80 : decode cX6_told 80 = .ok (.if_icmp .lt 9, 3) := by decide +kernel
theorem dX6_told_83 : decode cX6_told 83 = .ok (.bipush 100, 2) := by decide +kernel
theorem dX6_told_85 : decode cX6_told 85 = .ok (.iload 6, 2) := by decide +kernel
theorem dX6_told_87 : decode cX6_told 87 = .ok (.iadd, 1) := by decide +kernel
theorem dX6_told_88 : decode cX6_told 88 = .ok (.ireturn, 1) := by decide +kernel
theorem dX6_told_89 : decode cX6_told 89 = .ok (.aload_n 0, 1) := by decide +kernel
theorem dX6_told_90 : decode cX6_told 90 = .ok (.getfield 64, 3) := by decide +kernel
theorem dX6_told_93 : decode cX6_told 93 = .ok (.iload_n 1, 1) := by decide +kernel
theorem dX6_told_94 : decode cX6_told 94 = .ok (.aaload, 1) := by decide +kernel
theorem dX6_told_95 : decode cX6_told 95 = .ok (.iload_n 2, 1) := by decide +kernel
theorem dX6_told_96 : decode cX6_told 96 = .ok (.iload 6, 2) := by decide +kernel
theorem dX6_told_98 : decode cX6_told 98 = .ok (.iadd, 1) := by decide +kernel
theorem dX6_told_99 : decode cX6_told 99 = .ok (.laload, 1) := by decide +kernel
theorem dX6_told_100 : decode cX6_told 100 = .ok (.l2i, 1) := by decide +kernel
theorem dX6_told_101 : decode cX6_told 101 = .ok (.istore 7, 2) := by decide +kernel
theorem dX6_told_103 : decode cX6_told 103 = .ok (.iload 7, 2) := by decide +kernel
theorem dX6_told_105 : decode cX6_told 105 = .ok (.invokestatic 119, 3) := by decide +kernel
theorem dX6_told_108 : decode cX6_told 108 = .ok (.istore 8, 2) := by decide +kernel
theorem dX6_told_110 : decode cX6_told 110 = .ok (.iload 8, 2) := by decide +kernel
theorem dX6_told_112 : decode cX6_told 112 = .ok (.iconst (-1), 1) := by decide +kernel
theorem dX6_told_113 : decode cX6_told 113 = .ok (.if_icmp .eq 18, 3) := by decide +kernel
theorem dX6_told_116 : decode cX6_told 116 = .ok (.aload_n 0, 1) := by decide +kernel
theorem dX6_told_117 : decode cX6_told 117 = .ok (.getfield 46, 3) := by decide +kernel
theorem dX6_told_120 : decode cX6_told 120 = .ok (.invokevirtual 123, 3) := by decide +kernel
theorem dX6_told_123 : decode cX6_told 123 = .ok (.iload 8, 2) := by decide +kernel
theorem dX6_told_125 : decode cX6_told 125 = .ok (.ishr, 1) := by decide +kernel
theorem dX6_told_126 : decode cX6_told 126 = .ok (.iconst 1, 1) := by decide +kernel
theorem dX6_told_127 : decode cX6_told 127 = .ok (.iand, 1) := by decide +kernel
theorem dX6_told_128 : decode cX6_told 128 = .ok (.ifCond .ne 6, 3) := by decide +kernel
theorem dX6_told_131 : decode cX6_told 131 = .ok (.iload 6, 2) := by decide +kernel
theorem dX6_told_133 : decode cX6_told 133 = .ok (.ireturn, 1) := by decide +kernel
theorem dX6_told_134 : decode cX6_told 134 = .ok (.aload_n 0, 1) := by decide +kernel
theorem dX6_told_135 : decode cX6_told 135 = .ok (.getfield 46, 3) := by decide +kernel
theorem dX6_told_138 : decode cX6_told 138 = .ok (.iload 7, 2) := by decide +kernel
theorem dX6_told_140 : decode cX6_told 140 = .ok (.invokevirtual 127, 3) := by decide +kernel
theorem dX6_told_143 : decode cX6_told 143 = .ok (.iinc 6 1, 3) := by decide +kernel
theorem dX6_told_146 : decode cX6_told 146 = .ok (.goto (-86), 3) := by decide +kernel
theorem dX6_told_149 : decode cX6_told 149 = .ok (.bipush (-5), 2) := by decide +kernel
theorem dX6_told_151 : decode cX6_told 151 = .ok (.ireturn, 1) := by decide +kernel
theorem dX6_act_0 : decode cX6_act 0 = .ok (.aload_n 0, 1) := by decide +kernel
theorem dX6_act_1 : decode cX6_act 1 = .ok (.getfield 52, 3) := by decide +kernel
theorem dX6_act_4 : decode cX6_act 4 = .ok (.iload_n 1, 1) := by decide +kernel
theorem dX6_act_5 : decode cX6_act 5 = .ok (.iload_n 2, 1) := by decide +kernel
theorem dX6_act_6 : decode cX6_act 6 = .ok (.iload_n 3, 1) := by decide +kernel
theorem dX6_act_7 : decode cX6_act 7 = .ok (.aload_n 0, 1) := by decide +kernel
theorem dX6_act_8 : decode cX6_act 8 = .ok (.getfield 72, 3) := by decide +kernel
theorem dX6_act_11 : decode cX6_act 11 = .ok (.aload_n 0, 1) := by decide +kernel
theorem dX6_act_12 : decode cX6_act 12 = .ok (.getfield 104, 3) := by decide +kernel
theorem dX6_act_15 : decode cX6_act 15 = .ok (.invokevirtual 204, 3) := by decide +kernel
theorem dX6_act_18 : decode cX6_act 18 = .ok (.ireturn, 1) := by decide +kernel
theorem dX6_trace_0 : decode cX6_trace 0 = .ok (.aload_n 0, 1) := by decide +kernel
theorem dX6_trace_1 : decode cX6_trace 1 = .ok (.getfield 52, 3) := by decide +kernel
theorem dX6_trace_4 : decode cX6_trace 4 = .ok (.iload_n 1, 1) := by decide +kernel
theorem dX6_trace_5 : decode cX6_trace 5 = .ok (.invokevirtual 208, 3) := by decide +kernel
theorem dX6_trace_8 : decode cX6_trace 8 = .ok (.ireturn, 1) := by decide +kernel
theorem dX6_taken_0 : decode cX6_taken 0 = .ok (.iload_n 2, 1) := by decide +kernel
theorem dX6_taken_1 : decode cX6_taken 1 = .ok (.invokestatic 211, 3) := by decide +kernel
theorem dX6_taken_4 : decode cX6_taken 4 = .ok (.ifCond .ne 6, 3) := by decide +kernel
theorem dX6_taken_7 : decode cX6_taken 7 = .ok (.bipush (-2), 2) := by decide +kernel
theorem dX6_taken_9 : decode cX6_taken 9 = .ok (.ireturn, 1) := by decide +kernel
theorem dX6_taken_10 : decode cX6_taken 10 = .ok (.iload_n 1, 1) := by decide +kernel
theorem dX6_taken_11 : decode cX6_taken 11 = .ok (.invokestatic 211, 3) := by decide +kernel
theorem dX6_taken_14 : decode cX6_taken 14 = .ok (.ifCond .ne 6, 3) := by decide +kernel
theorem dX6_taken_17 : decode cX6_taken 17 = .ok (.bipush (-11), 2) := by decide +kernel
theorem dX6_taken_19 : decode cX6_taken 19 = .ok (.ireturn, 1) := by decide +kernel
theorem dX6_taken_20 : decode cX6_taken 20 = .ok (.iload_n 1, 1) := by decide +kernel
theorem dX6_taken_21 : decode cX6_taken 21 = .ok (.iload_n 2, 1) := by decide +kernel
theorem dX6_taken_22 : decode cX6_taken 22 = .ok (.invokestatic 214, 3) := by decide +kernel
theorem dX6_taken_25 : decode cX6_taken 25 = .ok (.ifCond .eq 7, 3) := by decide +kernel
theorem dX6_taken_28 : decode cX6_taken 28 = .ok (.iload_n 1, 1) := by decide +kernel
theorem dX6_taken_29 : decode cX6_taken 29 = .ok (.goto 5, 3) := by decide +kernel
theorem dX6_taken_32 : decode cX6_taken 32 = .ok (.bipush (-12), 2) := by decide +kernel
theorem dX6_taken_34 : decode cX6_taken 34 = .ok (.ireturn, 1) := by decide +kernel
theorem dX6_count_0 : decode cX6_count 0 = .ok (.iload_n 1, 1) := by decide +kernel
theorem dX6_count_1 : decode cX6_count 1 = .ok (.tableswitch 69 0 4 #[35, 40, 45, 53, 61], 35) := by decide +kernel
theorem dX6_count_36 : decode cX6_count 36 = .ok (.aload_n 0, 1) := by decide +kernel
theorem dX6_count_37 : decode cX6_count 37 = .ok (.getfield 72, 3) := by decide +kernel
theorem dX6_count_40 : decode cX6_count 40 = .ok (.ireturn, 1) := by decide +kernel
theorem dX6_count_41 : decode cX6_count 41 = .ok (.aload_n 0, 1) := by decide +kernel
theorem dX6_count_42 : decode cX6_count 42 = .ok (.getfield 104, 3) := by decide +kernel
theorem dX6_count_45 : decode cX6_count 45 = .ok (.ireturn, 1) := by decide +kernel
theorem dX6_count_46 : decode cX6_count 46 = .ok (.aload_n 0, 1) := by decide +kernel
theorem dX6_count_47 : decode cX6_count 47 = .ok (.getfield 27, 3) := by decide +kernel
theorem dX6_count_50 : decode cX6_count 50 = .ok (.getfield 98, 3) := by decide +kernel
theorem dX6_count_53 : decode cX6_count 53 = .ok (.ireturn, 1) := by decide +kernel
theorem dX6_count_54 : decode cX6_count 54 = .ok (.aload_n 0, 1) := by decide +kernel
theorem dX6_count_55 : decode cX6_count 55 = .ok (.getfield 42, 3) := by decide +kernel
theorem dX6_count_58 : decode cX6_count 58 = .ok (.getfield 130, 3) := by decide +kernel
theorem dX6_count_61 : decode cX6_count 61 = .ok (.ireturn, 1) := by decide +kernel
theorem dX6_count_62 : decode cX6_count 62 = .ok (.aload_n 0, 1) := by decide +kernel
theorem dX6_count_63 : decode cX6_count 63 = .ok (.getfield 52, 3) := by decide +kernel
theorem dX6_count_66 : decode cX6_count 66 = .ok (.getfield 218, 3) := by decide +kernel
theorem dX6_count_69 : decode cX6_count 69 = .ok (.ireturn, 1) := by decide +kernel
theorem dX6_count_70 : decode cX6_count 70 = .ok (.bipush (-2), 2) := by decide +kernel
theorem dX6_count_72 : decode cX6_count 72 = .ok (.ireturn, 1) := by decide +kernel
theorem dX6_tape_0 : decode cX6_tape 0 = .ok (.iload_n 1, 1) := by decide +kernel
theorem dX6_tape_1 : decode cX6_tape 1 = .ok (.invokestatic 201, 3) := by decide +kernel
theorem dX6_tape_4 : decode cX6_tape 4 = .ok (.ifCond .ne 5, 3) := by decide +kernel
theorem dX6_tape_7 : decode cX6_tape 7 = .ok (.iconst (-1), 1) := by decide +kernel
theorem dX6_tape_8 : decode cX6_tape 8 = .ok (.ireturn, 1) := by decide +kernel
theorem dX6_tape_9 : decode cX6_tape 9 = .ok (.iload_n 2, 1) := by decide +kernel
theorem dX6_tape_10 : decode cX6_tape 10 = .ok (.iconst (-1), 1) := by decide +kernel
theorem dX6_tape_11 : decode cX6_tape 11 = .ok (.if_icmp .lt 18, 3) := by decide +kernel
theorem dX6_tape_14 : decode cX6_tape 14 = .ok (.iload_n 2, 1) := by decide +kernel
theorem dX6_tape_15 : decode cX6_tape 15 = .ok (.iconst 4, 1) := by decide +kernel
theorem dX6_tape_16 : decode cX6_tape 16 = .ok (.if_icmp .gt 13, 3) := by decide +kernel
theorem dX6_tape_19 : decode cX6_tape 19 = .ok (.iload_n 2, 1) := by decide +kernel
theorem dX6_tape_20 : decode cX6_tape 20 = .ok (.ifCond .lt 12, 3) := by decide +kernel
theorem dX6_tape_23 : decode cX6_tape 23 = .ok (.iload_n 3, 1) := by decide +kernel
theorem dX6_tape_24 : decode cX6_tape 24 = .ok (.bipush 60, 2) := by decide +kernel
theorem dX6_tape_26 : decode cX6_tape 26 = .ok (.if_icmp .le 6, 3) := by decide +kernel
theorem dX6_tape_29 : decode cX6_tape 29 = .ok (.bipush (-2), 2) := by decide +kernel
theorem dX6_tape_31 : decode cX6_tape 31 = .ok (.ireturn, 1) := by decide +kernel
theorem dX6_tape_32 : decode cX6_tape 32 = .ok (.iload_n 2, 1) := by decide +kernel
theorem dX6_tape_33 : decode cX6_tape 33 = .ok (.ifCond .lt 10, 3) := by decide +kernel
theorem dX6_tape_36 : decode cX6_tape 36 = .ok (.iload_n 3, 1) := by decide +kernel
theorem dX6_tape_37 : decode cX6_tape 37 = .ok (.ifCond .ge 6, 3) := by decide +kernel
theorem dX6_tape_40 : decode cX6_tape 40 = .ok (.bipush (-14), 2) := by decide +kernel
theorem dX6_tape_42 : decode cX6_tape 42 = .ok (.ireturn, 1) := by decide +kernel
theorem dX6_tape_43 : decode cX6_tape 43 = .ok (.aload_n 0, 1) := by decide +kernel
theorem dX6_tape_44 : decode cX6_tape 44 = .ok (.getfield 56, 3) := by decide +kernel
theorem dX6_tape_47 : decode cX6_tape 47 = .ok (.iload_n 1, 1) := by decide +kernel
theorem dX6_tape_48 : decode cX6_tape 48 = .ok (.iload_n 2, 1) := by decide +kernel
theorem dX6_tape_49 : decode cX6_tape 49 = .ok (.iastore, 1) := by decide +kernel
theorem dX6_tape_50 : decode cX6_tape 50 = .ok (.aload_n 0, 1) := by decide +kernel
theorem dX6_tape_51 : decode cX6_tape 51 = .ok (.getfield 59, 3) := by decide +kernel
theorem dX6_tape_54 : decode cX6_tape 54 = .ok (.iload_n 1, 1) := by decide +kernel
theorem dX6_tape_55 : decode cX6_tape 55 = .ok (.iload_n 2, 1) := by decide +kernel
theorem dX6_tape_56 : decode cX6_tape 56 = .ok (.ifCond .ge 7, 3) := by decide +kernel
theorem dX6_tape_59 : decode cX6_tape 59 = .ok (.iconst 0, 1) := by decide +kernel
theorem dX6_tape_60 : decode cX6_tape 60 = .ok (.goto 4, 3) := by decide +kernel
theorem dX6_tape_63 : decode cX6_tape 63 = .ok (.iload_n 3, 1) := by decide +kernel
theorem dX6_tape_64 : decode cX6_tape 64 = .ok (.iastore, 1) := by decide +kernel
theorem dX6_tape_65 : decode cX6_tape 65 = .ok (.iconst 0, 1) := by decide +kernel
theorem dX6_tape_66 : decode cX6_tape 66 = .ok (.istore 4, 2) := by decide +kernel
theorem dX6_tape_68 : decode cX6_tape 68 = .ok (.iload 4, 2) := by decide +kernel
theorem dX6_tape_70 : decode cX6_tape 70 = .ok (.bipush 60, 2) := by decide +kernel
theorem dX6_tape_72 : decode cX6_tape 72 = .ok (.if_icmp .ge 19, 3) := by decide +kernel
theorem dX6_tape_75 : decode cX6_tape 75 = .ok (.aload_n 0, 1) := by decide +kernel
theorem dX6_tape_76 : decode cX6_tape 76 = .ok (.getfield 64, 3) := by decide +kernel
theorem dX6_tape_79 : decode cX6_tape 79 = .ok (.iload_n 1, 1) := by decide +kernel
theorem dX6_tape_80 : decode cX6_tape 80 = .ok (.aaload, 1) := by decide +kernel
theorem dX6_tape_81 : decode cX6_tape 81 = .ok (.iload 4, 2) := by decide +kernel
theorem dX6_tape_83 : decode cX6_tape 83 = .ok (.lconst 0, 1) := by decide +kernel
theorem dX6_tape_84 : decode cX6_tape 84 = .ok (.lastore, 1) := by decide +kernel
theorem dX6_tape_85 : decode cX6_tape 85 = .ok (.iinc 4 1, 3) := by decide +kernel
theorem dX6_tape_88 : decode cX6_tape 88 = .ok (.goto (-20), 3) := by decide +kernel
theorem dX6_tape_91 : decode cX6_tape 91 = .ok (.iconst 1, 1) := by decide +kernel
theorem dX6_tape_92 : decode cX6_tape 92 = .ok (.ireturn, 1) := by decide +kernel
theorem dX6_item_0 : decode cX6_item 0 = .ok (.iload_n 1, 1) := by decide +kernel
theorem dX6_item_1 : decode cX6_item 1 = .ok (.invokestatic 201, 3) := by decide +kernel
theorem dX6_item_4 : decode cX6_item 4 = .ok (.ifCond .ne 5, 3) := by decide +kernel
theorem dX6_item_7 : decode cX6_item 7 = .ok (.iconst (-1), 1) := by decide +kernel
theorem dX6_item_8 : decode cX6_item 8 = .ok (.ireturn, 1) := by decide +kernel
theorem dX6_item_9 : decode cX6_item 9 = .ok (.aload_n 0, 1) := by decide +kernel
theorem dX6_item_10 : decode cX6_item 10 = .ok (.getfield 56, 3) := by decide +kernel
theorem dX6_item_13 : decode cX6_item 13 = .ok (.iload_n 1, 1) := by decide +kernel
theorem dX6_item_14 : decode cX6_item 14 = .ok (.iaload, 1) := by decide +kernel
theorem dX6_item_15 : decode cX6_item 15 = .ok (.ifCond .ge 6, 3) := by decide +kernel
theorem dX6_item_18 : decode cX6_item 18 = .ok (.bipush (-11), 2) := by decide +kernel
theorem dX6_item_20 : decode cX6_item 20 = .ok (.ireturn, 1) := by decide +kernel
theorem dX6_item_21 : decode cX6_item 21 = .ok (.iload_n 2, 1) := by decide +kernel
theorem dX6_item_22 : decode cX6_item 22 = .ok (.ifCond .lt 13, 3) := by decide +kernel
theorem dX6_item_25 : decode cX6_item 25 = .ok (.iload_n 2, 1) := by decide +kernel
theorem dX6_item_26 : decode cX6_item 26 = .ok (.aload_n 0, 1) := by decide +kernel
theorem dX6_item_27 : decode cX6_item 27 = .ok (.getfield 59, 3) := by decide +kernel
theorem dX6_item_30 : decode cX6_item 30 = .ok (.iload_n 1, 1) := by decide +kernel
theorem dX6_item_31 : decode cX6_item 31 = .ok (.iaload, 1) := by decide +kernel
theorem dX6_item_32 : decode cX6_item 32 = .ok (.if_icmp .lt 6, 3) := by decide +kernel
theorem dX6_item_35 : decode cX6_item 35 = .ok (.bipush (-13), 2) := by decide +kernel
theorem dX6_item_37 : decode cX6_item 37 = .ok (.ireturn, 1) := by decide +kernel
theorem dX6_item_38 : decode cX6_item 38 = .ok (.aload_n 0, 1) := by decide +kernel
theorem dX6_item_39 : decode cX6_item 39 = .ok (.getfield 64, 3) := by decide +kernel
theorem dX6_item_42 : decode cX6_item 42 = .ok (.iload_n 1, 1) := by decide +kernel
theorem dX6_item_43 : decode cX6_item 43 = .ok (.aaload, 1) := by decide +kernel
theorem dX6_item_44 : decode cX6_item 44 = .ok (.iload_n 2, 1) := by decide +kernel
theorem dX6_item_45 : decode cX6_item 45 = .ok (.aload_n 0, 1) := by decide +kernel
theorem dX6_item_46 : decode cX6_item 46 = .ok (.getfield 56, 3) := by decide +kernel
theorem dX6_item_49 : decode cX6_item 49 = .ok (.iload_n 1, 1) := by decide +kernel
theorem dX6_item_50 : decode cX6_item 50 = .ok (.iaload, 1) := by decide +kernel
theorem dX6_item_51 : decode cX6_item 51 = .ok (.lload_n 3, 1) := by decide +kernel
theorem dX6_item_52 : decode cX6_item 52 = .ok (.invokestatic 221, 3) := by decide +kernel
theorem dX6_item_55 : decode cX6_item 55 = .ok (.lastore, 1) := by decide +kernel
theorem dX6_item_56 : decode cX6_item 56 = .ok (.iconst 1, 1) := by decide +kernel
theorem dX6_item_57 : decode cX6_item 57 = .ok (.ireturn, 1) := by decide +kernel
theorem dX6_read_0 : decode cX6_read 0 = .ok (.iload_n 1, 1) := by decide +kernel
theorem dX6_read_1 : decode cX6_read 1 = .ok (.invokestatic 201, 3) := by decide +kernel
theorem dX6_read_4 : decode cX6_read 4 = .ok (.ifCond .eq 26, 3) := by decide +kernel
theorem dX6_read_7 : decode cX6_read 7 = .ok (.aload_n 0, 1) := by decide +kernel
theorem dX6_read_8 : decode cX6_read 8 = .ok (.getfield 56, 3) := by decide +kernel
theorem dX6_read_11 : decode cX6_read 11 = .ok (.iload_n 1, 1) := by decide +kernel
theorem dX6_read_12 : decode cX6_read 12 = .ok (.iaload, 1) := by decide +kernel
theorem dX6_read_13 : decode cX6_read 13 = .ok (.ifCond .lt 17, 3) := by decide +kernel
theorem dX6_read_16 : decode cX6_read 16 = .ok (.iload_n 2, 1) := by decide +kernel
theorem dX6_read_17 : decode cX6_read 17 = .ok (.ifCond .lt 13, 3) := by decide +kernel
theorem dX6_read_20 : decode cX6_read 20 = .ok (.iload_n 2, 1) := by decide +kernel
theorem dX6_read_21 : decode cX6_read 21 = .ok (.aload_n 0, 1) := by decide +kernel
theorem dX6_read_22 : decode cX6_read 22 = .ok (.getfield 59, 3) := by decide +kernel
theorem dX6_read_25 : decode cX6_read 25 = .ok (.iload_n 1, 1) := by decide +kernel
theorem dX6_read_26 : decode cX6_read 26 = .ok (.iaload, 1) := by decide +kernel
theorem dX6_read_27 : decode cX6_read 27 = .ok (.if_icmp .lt 7, 3) := by decide +kernel
theorem dX6_read_30 : decode cX6_read 30 = .ok (.ldc2_w 225, 3) := by decide +kernel
theorem dX6_read_33 : decode cX6_read 33 = .ok (.lreturn, 1) := by decide +kernel
theorem dX6_read_34 : decode cX6_read 34 = .ok (.aload_n 0, 1) := by decide +kernel
theorem dX6_read_35 : decode cX6_read 35 = .ok (.getfield 64, 3) := by decide +kernel
theorem dX6_read_38 : decode cX6_read 38 = .ok (.iload_n 1, 1) := by decide +kernel
theorem dX6_read_39 : decode cX6_read 39 = .ok (.aaload, 1) := by decide +kernel
theorem dX6_read_40 : decode cX6_read 40 = .ok (.iload_n 2, 1) := by decide +kernel
theorem dX6_read_41 : decode cX6_read 41 = .ok (.laload, 1) := by decide +kernel
theorem dX6_read_42 : decode cX6_read 42 = .ok (.lreturn, 1) := by decide +kernel
theorem dX6_shift_0 : decode cX6_shift 0 = .ok (.iload_n 1, 1) := by decide +kernel
theorem dX6_shift_1 : decode cX6_shift 1 = .ok (.invokestatic 201, 3) := by decide +kernel
theorem dX6_shift_4 : decode cX6_shift 4 = .ok (.ifCond .eq 10, 3) := by decide +kernel
theorem dX6_shift_7 : decode cX6_shift 7 = .ok (.iload_n 3, 1) := by decide +kernel
theorem dX6_shift_8 : decode cX6_shift 8 = .ok (.invokestatic 201, 3) := by decide +kernel
theorem dX6_shift_11 : decode cX6_shift 11 = .ok (.ifCond .ne 5, 3) := by decide +kernel
theorem dX6_shift_14 : decode cX6_shift 14 = .ok (.iconst (-1), 1) := by decide +kernel
theorem dX6_shift_15 : decode cX6_shift 15 = .ok (.ireturn, 1) := by decide +kernel
theorem dX6_shift_16 : decode cX6_shift 16 = .ok (.aload_n 0, 1) := by decide +kernel
theorem dX6_shift_17 : decode cX6_shift 17 = .ok (.getfield 56, 3) := by decide +kernel
theorem dX6_shift_20 : decode cX6_shift 20 = .ok (.iload_n 1, 1) := by decide +kernel
theorem dX6_shift_21 : decode cX6_shift 21 = .ok (.iaload, 1) := by decide +kernel
theorem dX6_shift_22 : decode cX6_shift 22 = .ok (.ifCond .lt 12, 3) := by decide +kernel
theorem dX6_shift_25 : decode cX6_shift 25 = .ok (.aload_n 0, 1) := by decide +kernel
theorem dX6_shift_26 : decode cX6_shift 26 = .ok (.getfield 56, 3) := by decide +kernel
theorem dX6_shift_29 : decode cX6_shift 29 = .ok (.iload_n 3, 1) := by decide +kernel
theorem dX6_shift_30 : decode cX6_shift 30 = .ok (.iaload, 1) := by decide +kernel
theorem dX6_shift_31 : decode cX6_shift 31 = .ok (.ifCond .ge 6, 3) := by decide +kernel
theorem dX6_shift_34 : decode cX6_shift 34 = .ok (.bipush (-11), 2) := by decide +kernel
theorem dX6_shift_36 : decode cX6_shift 36 = .ok (.ireturn, 1) := by decide +kernel
theorem dX6_shift_37 : decode cX6_shift 37 = .ok (.aload_n 0, 1) := by decide +kernel
theorem dX6_shift_38 : decode cX6_shift 38 = .ok (.getfield 56, 3) := by decide +kernel
theorem dX6_shift_41 : decode cX6_shift 41 = .ok (.iload_n 1, 1) := by decide +kernel
theorem dX6_shift_42 : decode cX6_shift 42 = .ok (.iaload, 1) := by decide +kernel
theorem dX6_shift_43 : decode cX6_shift 43 = .ok (.aload_n 0, 1) := by decide +kernel
theorem dX6_shift_44 : decode cX6_shift 44 = .ok (.getfield 56, 3) := by decide +kernel
theorem dX6_shift_47 : decode cX6_shift 47 = .ok (.iload_n 3, 1) := by decide +kernel
theorem dX6_shift_48 : decode cX6_shift 48 = .ok (.iaload, 1) := by decide +kernel
theorem dX6_shift_49 : decode cX6_shift 49 = .ok (.if_icmp .eq 6, 3) := by decide +kernel
theorem dX6_shift_52 : decode cX6_shift 52 = .ok (.bipush (-12), 2) := by decide +kernel
theorem dX6_shift_54 : decode cX6_shift 54 = .ok (.ireturn, 1) := by decide +kernel
theorem dX6_shift_55 : decode cX6_shift 55 = .ok (.iload 5, 2) := by decide +kernel
theorem dX6_shift_57 : decode cX6_shift 57 = .ok (.ifCond .lt 39, 3) := by decide +kernel
theorem dX6_shift_60 : decode cX6_shift 60 = .ok (.iload_n 2, 1) := by decide +kernel
theorem dX6_shift_61 : decode cX6_shift 61 = .ok (.ifCond .lt 35, 3) := by decide +kernel
theorem dX6_shift_64 : decode cX6_shift 64 = .ok (.iload 4, 2) := by decide +kernel
theorem dX6_shift_66 : decode cX6_shift 66 = .ok (.ifCond .lt 30, 3) := by decide +kernel
theorem dX6_shift_69 : decode cX6_shift 69 = .ok (.iload_n 2, 1) := by decide +kernel
theorem dX6_shift_70 : decode cX6_shift 70 = .ok (.aload_n 0, 1) := by decide +kernel
theorem dX6_shift_71 : decode cX6_shift 71 = .ok (.getfield 59, 3) := by decide +kernel
theorem dX6_shift_74 : decode cX6_shift 74 = .ok (.iload_n 1, 1) := by decide +kernel
theorem dX6_shift_75 : decode cX6_shift 75 = .ok (.iaload, 1) := by decide +kernel
theorem dX6_shift_76 : decode cX6_shift 76 = .ok (.iload 5, 2) := by decide +kernel
theorem dX6_shift_78 : decode cX6_shift 78 = .ok (.isub, 1) := by decide +kernel
theorem dX6_shift_79 : decode cX6_shift 79 = .ok (.if_icmp .gt 17, 3) := by decide +kernel
theorem dX6_shift_82 : decode cX6_shift 82 = .ok (.iload 4, 2) := by decide +kernel
theorem dX6_shift_84 : decode cX6_shift 84 = .ok (.aload_n 0, 1) := by decide +kernel
theorem dX6_shift_85 : decode cX6_shift 85 = .ok (.getfield 59, 3) := by decide +kernel
theorem dX6_shift_88 : decode cX6_shift 88 = .ok (.iload_n 3, 1) := by decide +kernel
theorem dX6_shift_89 : decode cX6_shift 89 = .ok (.iaload, 1) := by decide +kernel
theorem dX6_shift_90 : decode cX6_shift 90 = .ok (.iload 5, 2) := by decide +kernel
theorem dX6_shift_92 : decode cX6_shift 92 = .ok (.isub, 1) := by decide +kernel
theorem dX6_shift_93 : decode cX6_shift 93 = .ok (.if_icmp .le 6, 3) := by decide +kernel
theorem dX6_shift_96 : decode cX6_shift 96 = .ok (.bipush (-13), 2) := by decide +kernel
theorem dX6_shift_98 : decode cX6_shift 98 = .ok (.ireturn, 1) := by decide +kernel
theorem dX6_shift_99 : decode cX6_shift 99 = .ok (.aload_n 0, 1) := by decide +kernel
theorem dX6_shift_100 : decode cX6_shift 100 = .ok (.getfield 64, 3) := by decide +kernel
theorem dX6_shift_103 : decode cX6_shift 103 = .ok (.iload_n 1, 1) := by decide +kernel
theorem dX6_shift_104 : decode cX6_shift 104 = .ok (.aaload, 1) := by decide +kernel
theorem dX6_shift_105 : decode cX6_shift 105 = .ok (.iload_n 2, 1) := by decide +kernel
theorem dX6_shift_106 : decode cX6_shift 106 = .ok (.aload_n 0, 1) := by decide +kernel
theorem dX6_shift_107 : decode cX6_shift 107 = .ok (.getfield 64, 3) := by decide +kernel
theorem dX6_shift_110 : decode cX6_shift 110 = .ok (.iload_n 3, 1) := by decide +kernel
theorem dX6_shift_111 : decode cX6_shift 111 = .ok (.aaload, 1) := by decide +kernel
theorem dX6_shift_112 : decode cX6_shift 112 = .ok (.iload 4, 2) := by decide +kernel
theorem dX6_shift_114 : decode cX6_shift 114 = .ok (.iload 5, 2) := by decide +kernel
theorem dX6_shift_116 : decode cX6_shift 116 = .ok (.invokestatic 227, 3) := by decide +kernel
theorem dX6_shift_119 : decode cX6_shift 119 = .ok (.iload 5, 2) := by decide +kernel
theorem dX6_shift_121 : decode cX6_shift 121 = .ok (.ireturn, 1) := by decide +kernel
theorem dX6_isPoint_0 : decode cX6_isPoint 0 = .ok (.iload_n 0, 1) := by decide +kernel
theorem dX6_isPoint_1 : decode cX6_isPoint 1 = .ok (.ifCond .lt 12, 3) := by decide +kernel
theorem dX6_isPoint_4 : decode cX6_isPoint 4 = .ok (.iload_n 0, 1) := by decide +kernel
theorem dX6_isPoint_5 : decode cX6_isPoint 5 = .ok (.iconst 5, 1) := by decide +kernel
theorem dX6_isPoint_6 : decode cX6_isPoint 6 = .ok (.if_icmp .ge 7, 3) := by decide +kernel
theorem dX6_isPoint_9 : decode cX6_isPoint 9 = .ok (.iconst 1, 1) := by decide +kernel
theorem dX6_isPoint_10 : decode cX6_isPoint 10 = .ok (.goto 4, 3) := by decide +kernel
theorem dX6_isPoint_13 : decode cX6_isPoint 13 = .ok (.iconst 0, 1) := by decide +kernel
theorem dX6_isPoint_14 : decode cX6_isPoint 14 = .ok (.ireturn, 1) := by decide +kernel
theorem dX6_isTape_0 : decode cX6_isTape 0 = .ok (.iload_n 0, 1) := by decide +kernel
theorem dX6_isTape_1 : decode cX6_isTape 1 = .ok (.ifCond .lt 13, 3) := by decide +kernel
theorem dX6_isTape_4 : decode cX6_isTape 4 = .ok (.iload_n 0, 1) := by decide +kernel
theorem dX6_isTape_5 : decode cX6_isTape 5 = .ok (.bipush 6, 2) := by decide +kernel
theorem dX6_isTape_7 : decode cX6_isTape 7 = .ok (.if_icmp .ge 7, 3) := by decide +kernel
theorem dX6_isTape_10 : decode cX6_isTape 10 = .ok (.iconst 1, 1) := by decide +kernel
theorem dX6_isTape_11 : decode cX6_isTape 11 = .ok (.goto 4, 3) := by decide +kernel
theorem dX6_isTape_14 : decode cX6_isTape 14 = .ok (.iconst 0, 1) := by decide +kernel
theorem dX6_isTape_15 : decode cX6_isTape 15 = .ok (.ireturn, 1) := by decide +kernel
theorem dX6_asNumber_0 : decode cX6_asNumber 0 = .ok (.iload_n 0, 1) := by decide +kernel
theorem dX6_asNumber_1 : decode cX6_asNumber 1 = .ok (.ifCond .eq 7, 3) := by decide +kernel
theorem dX6_asNumber_4 : decode cX6_asNumber 4 = .ok (.iconst 1, 1) := by decide +kernel
theorem dX6_asNumber_5 : decode cX6_asNumber 5 = .ok (.goto 4, 3) := by decide +kernel
theorem dX6_asNumber_8 : decode cX6_asNumber 8 = .ok (.iconst 0, 1) := by decide +kernel
theorem dX6_asNumber_9 : decode cX6_asNumber 9 = .ok (.ireturn, 1) := by decide +kernel
theorem dX6_asItem_0 : decode cX6_asItem 0 = .ok (.iload_n 0, 1) := by decide +kernel
theorem dX6_asItem_1 : decode cX6_asItem 1 = .ok (.tableswitch 47 0 3 #[31, 36, 41, 45], 31) := by decide +kernel
theorem dX6_asItem_32 : decode cX6_asItem 32 = .ok (.lload_n 1, 1) := by decide +kernel
theorem dX6_asItem_33 : decode cX6_asItem 33 = .ok (.l2i, 1) := by decide +kernel
theorem dX6_asItem_34 : decode cX6_asItem 34 = .ok (.i2b, 1) := by decide +kernel
theorem dX6_asItem_35 : decode cX6_asItem 35 = .ok (.i2l, 1) := by decide +kernel
theorem dX6_asItem_36 : decode cX6_asItem 36 = .ok (.lreturn, 1) := by decide +kernel
theorem dX6_asItem_37 : decode cX6_asItem 37 = .ok (.lload_n 1, 1) := by decide +kernel
theorem dX6_asItem_38 : decode cX6_asItem 38 = .ok (.l2i, 1) := by decide +kernel
theorem dX6_asItem_39 : decode cX6_asItem 39 = .ok (.i2s, 1) := by decide +kernel
theorem dX6_asItem_40 : decode cX6_asItem 40 = .ok (.i2l, 1) := by decide +kernel
theorem dX6_asItem_41 : decode cX6_asItem 41 = .ok (.lreturn, 1) := by decide +kernel
theorem dX6_asItem_42 : decode cX6_asItem 42 = .ok (.lload_n 1, 1) := by decide +kernel
theorem dX6_asItem_43 : decode cX6_asItem 43 = .ok (.l2i, 1) := by decide +kernel
theorem dX6_asItem_44 : decode cX6_asItem 44 = .ok (.i2l, 1) := by decide +kernel
theorem dX6_asItem_45 : decode cX6_asItem 45 = .ok (.lreturn, 1) := by decide +kernel
theorem dX6_asItem_46 : decode cX6_asItem 46 = .ok (.lload_n 1, 1) := by decide +kernel
theorem dX6_asItem_47 : decode cX6_asItem 47 = .ok (.lreturn, 1) := by decide +kernel
theorem dX6_asItem_48 : decode cX6_asItem 48 = .ok (.lload_n 1, 1) := by decide +kernel
theorem dX6_asItem_49 : decode cX6_asItem 49 = .ok (.lconst 0, 1) := by decide +kernel
theorem dX6_asItem_50 : decode cX6_asItem 50 = .ok (.lcmp, 1) := by decide +kernel
theorem dX6_asItem_51 : decode cX6_asItem 51 = .ok (.ifCond .eq 7, 3) := by decide +kernel
theorem dX6_asItem_54 : decode cX6_asItem 54 = .ok (.lconst 1, 1) := by decide +kernel
theorem dX6_asItem_55 : decode cX6_asItem 55 = .ok (.goto 4, 3) := by decide +kernel
theorem dX6_asItem_58 : decode cX6_asItem 58 = .ok (.lconst 0, 1) := by decide +kernel
theorem dX6_asItem_59 : decode cX6_asItem 59 = .ok (.lreturn, 1) := by decide +kernel
theorem dX6_placeOf_0 : decode cX6_placeOf 0 = .ok (.iconst 0, 1) := by decide +kernel
theorem dX6_placeOf_1 : decode cX6_placeOf 1 = .ok (.istore_n 1, 1) := by decide +kernel
theorem dX6_placeOf_2 : decode cX6_placeOf 2 = .ok (.iload_n 1, 1) := by decide +kernel
theorem dX6_placeOf_3 : decode cX6_placeOf 3 = .ok (.getstatic 233, 3) := by decide +kernel
theorem dX6_placeOf_6 : decode cX6_placeOf 6 = .ok (.arraylength, 1) := by decide +kernel
theorem dX6_placeOf_7 : decode cX6_placeOf 7 = .ok (.if_icmp .ge 20, 3) := by decide +kernel
theorem dX6_placeOf_10 : decode cX6_placeOf 10 = .ok (.getstatic 233, 3) := by decide +kernel
theorem dX6_placeOf_13 : decode cX6_placeOf 13 = .ok (.iload_n 1, 1) := by decide +kernel
theorem dX6_placeOf_14 : decode cX6_placeOf 14 = .ok (.iaload, 1) := by decide +kernel
theorem dX6_placeOf_15 : decode cX6_placeOf 15 = .ok (.iload_n 0, 1) := by decide +kernel
theorem dX6_placeOf_16 : decode cX6_placeOf 16 = .ok (.if_icmp .ne 5, 3) := by decide +kernel
theorem dX6_placeOf_19 : decode cX6_placeOf 19 = .ok (.iload_n 1, 1) := by decide +kernel
theorem dX6_placeOf_20 : decode cX6_placeOf 20 = .ok (.ireturn, 1) := by decide +kernel
theorem dX6_placeOf_21 : decode cX6_placeOf 21 = .ok (.iinc 1 1, 3) := by decide +kernel
theorem dX6_placeOf_24 : decode cX6_placeOf 24 = .ok (.goto (-22), 3) := by decide +kernel
theorem dX6_placeOf_27 : decode cX6_placeOf 27 = .ok (.iconst (-1), 1) := by decide +kernel
theorem dX6_placeOf_28 : decode cX6_placeOf 28 = .ok (.ireturn, 1) := by decide +kernel
theorem dX6_caseAt_0 : decode cX6_caseAt 0 = .ok (.iload_n 1, 1) := by decide +kernel
theorem dX6_caseAt_1 : decode cX6_caseAt 1 = .ok (.ifCond .lt 11, 3) := by decide +kernel
theorem dX6_caseAt_4 : decode cX6_caseAt 4 = .ok (.iload_n 1, 1) := by decide +kernel
theorem dX6_caseAt_5 : decode cX6_caseAt 5 = .ok (.aload_n 0, 1) := by decide +kernel
theorem dX6_caseAt_6 : decode cX6_caseAt 6 = .ok (.getfield 72, 3) := by decide +kernel
theorem dX6_caseAt_9 : decode cX6_caseAt 9 = .ok (.if_icmp .lt 7, 3) := by decide +kernel
theorem dX6_caseAt_12 : decode cX6_caseAt 12 = .ok (.aconst_null, 1) := by decide +kernel
theorem dX6_caseAt_13 : decode cX6_caseAt 13 = .ok (.goto 9, 3) := by decide +kernel
theorem dX6_caseAt_16 : decode cX6_caseAt 16 = .ok (.aload_n 0, 1) := by decide +kernel
theorem dX6_caseAt_17 : decode cX6_caseAt 17 = .ok (.getfield 20, 3) := by decide +kernel
theorem dX6_caseAt_20 : decode cX6_caseAt 20 = .ok (.iload_n 1, 1) := by decide +kernel
theorem dX6_caseAt_21 : decode cX6_caseAt 21 = .ok (.aaload, 1) := by decide +kernel
theorem dX6_caseAt_22 : decode cX6_caseAt 22 = .ok (.areturn, 1) := by decide +kernel
theorem dX6_rulesAt_0 : decode cX6_rulesAt 0 = .ok (.iload_n 1, 1) := by decide +kernel
theorem dX6_rulesAt_1 : decode cX6_rulesAt 1 = .ok (.ifCond .lt 11, 3) := by decide +kernel
theorem dX6_rulesAt_4 : decode cX6_rulesAt 4 = .ok (.iload_n 1, 1) := by decide +kernel
theorem dX6_rulesAt_5 : decode cX6_rulesAt 5 = .ok (.aload_n 0, 1) := by decide +kernel
theorem dX6_rulesAt_6 : decode cX6_rulesAt 6 = .ok (.getfield 104, 3) := by decide +kernel
theorem dX6_rulesAt_9 : decode cX6_rulesAt 9 = .ok (.if_icmp .lt 7, 3) := by decide +kernel
theorem dX6_rulesAt_12 : decode cX6_rulesAt 12 = .ok (.aconst_null, 1) := by decide +kernel
theorem dX6_rulesAt_13 : decode cX6_rulesAt 13 = .ok (.goto 9, 3) := by decide +kernel
theorem dX6_rulesAt_16 : decode cX6_rulesAt 16 = .ok (.aload_n 0, 1) := by decide +kernel
theorem dX6_rulesAt_17 : decode cX6_rulesAt 17 = .ok (.getfield 33, 3) := by decide +kernel
theorem dX6_rulesAt_20 : decode cX6_rulesAt 20 = .ok (.iload_n 1, 1) := by decide +kernel
theorem dX6_rulesAt_21 : decode cX6_rulesAt 21 = .ok (.aaload, 1) := by decide +kernel
theorem dX6_rulesAt_22 : decode cX6_rulesAt 22 = .ok (.areturn, 1) := by decide +kernel
theorem dX6_rightCases_0 : decode cX6_rightCases 0 = .ok (.iconst 0, 1) := by decide +kernel
theorem dX6_rightCases_1 : decode cX6_rightCases 1 = .ok (.istore_n 3, 1) := by decide +kernel
theorem dX6_rightCases_2 : decode cX6_rightCases 2 = .ok (.iconst 0, 1) := by decide +kernel
theorem dX6_rightCases_3 : decode cX6_rightCases 3 = .ok (.istore 4, 2) := by decide +kernel
theorem dX6_rightCases_5 : decode cX6_rightCases 5 = .ok (.iload 4, 2) := by decide +kernel
theorem dX6_rightCases_7 : decode cX6_rightCases 7 = .ok (.aload_n 0, 1) := by decide +kernel
theorem dX6_rightCases_8 : decode cX6_rightCases 8 = .ok (.getfield 72, 3) := by decide +kernel
theorem dX6_rightCases_11 : decode cX6_rightCases 11 = .ok (.if_icmp .ge 69, 3) := by decide +kernel
theorem dX6_rightCases_14 : decode cX6_rightCases 14 = .ok (.aload_n 0, 1) := by decide +kernel
theorem dX6_rightCases_15 : decode cX6_rightCases 15 = .ok (.getfield 20, 3) := by decide +kernel
theorem dX6_rightCases_18 : decode cX6_rightCases 18 = .ok (.iload 4, 2) := by decide +kernel
theorem dX6_rightCases_20 : decode cX6_rightCases 20 = .ok (.aaload, 1) := by decide +kernel
theorem dX6_rightCases_21 : decode cX6_rightCases 21 = .ok (.astore 5, 2) := by decide +kernel
theorem dX6_rightCases_23 : decode cX6_rightCases 23 = .ok (.aload_n 0, 1) := by decide +kernel
theorem dX6_rightCases_24 : decode cX6_rightCases 24 = .ok (.getfield 46, 3) := by decide +kernel
theorem dX6_rightCases_27 : decode cX6_rightCases 27 = .ok (.aload_n 1, 1) := by decide +kernel
theorem dX6_rightCases_28 : decode cX6_rightCases 28 = .ok (.iload_n 2, 1) := by decide +kernel
theorem dX6_rightCases_29 : decode cX6_rightCases 29 = .ok (.invokevirtual 111, 3) := by decide +kernel
theorem dX6_rightCases_32 : decode cX6_rightCases 32 = .ok (.aload_n 0, 1) := by decide +kernel
theorem dX6_rightCases_33 : decode cX6_rightCases 33 = .ok (.getfield 46, 3) := by decide +kernel
theorem dX6_rightCases_36 : decode cX6_rightCases 36 = .ok (.aload 5, 2) := by decide +kernel
theorem dX6_rightCases_38 : decode cX6_rightCases 38 = .ok (.invokevirtual 168, 3) := by decide +kernel
theorem dX6_rightCases_41 : decode cX6_rightCases 41 = .ok (.bipush 10, 2) := by decide +kernel
theorem dX6_rightCases_43 : decode cX6_rightCases 43 = .ok (.if_icmp .lt 7, 3) := by decide +kernel
theorem dX6_rightCases_46 : decode cX6_rightCases 46 = .ok (.iconst 1, 1) := by decide +kernel
theorem dX6_rightCases_47 : decode cX6_rightCases 47 = .ok (.goto 4, 3) := by decide +kernel
theorem dX6_rightCases_50 : decode cX6_rightCases 50 = .ok (.iconst 0, 1) := by decide +kernel
theorem dX6_rightCases_51 : decode cX6_rightCases 51 = .ok (.istore 6, 2) := by decide +kernel
theorem dX6_rightCases_53 : decode cX6_rightCases 53 = .ok (.iload 6, 2) := by decide +kernel
theorem dX6_rightCases_55 : decode cX6_rightCases 55 = .ok (.aload 5, 2) := by decide +kernel
theorem dX6_rightCases_57 : decode cX6_rightCases 57 = .ok (.aload_n 0, 1) := by decide +kernel
theorem dX6_rightCases_58 : decode cX6_rightCases 58 = .ok (.getfield 11, 3) := by decide +kernel
theorem dX6_rightCases_61 : decode cX6_rightCases 61 = .ok (.invokevirtual 179, 3) := by decide +kernel
theorem dX6_rightCases_64 : decode cX6_rightCases 64 = .ok (.if_icmp .ne 10, 3) := by decide +kernel
theorem dX6_rightCases_67 : decode cX6_rightCases 67 = .ok (.iload_n 3, 1) := by decide +kernel
theorem dX6_rightCases_68 : decode cX6_rightCases 68 = .ok (.iconst 1, 1) := by decide +kernel
theorem dX6_rightCases_69 : decode cX6_rightCases 69 = .ok (.iload 4, 2) := by decide +kernel
theorem dX6_rightCases_71 : decode cX6_rightCases 71 = .ok (.ishl, 1) := by decide +kernel
theorem dX6_rightCases_72 : decode cX6_rightCases 72 = .ok (.ior, 1) := by decide +kernel
theorem dX6_rightCases_73 : decode cX6_rightCases 73 = .ok (.istore_n 3, 1) := by decide +kernel
theorem dX6_rightCases_74 : decode cX6_rightCases 74 = .ok (.iinc 4 1, 3) := by decide +kernel
theorem dX6_rightCases_77 : decode cX6_rightCases 77 = .ok (.goto (-72), 3) := by decide +kernel
theorem dX6_rightCases_80 : decode cX6_rightCases 80 = .ok (.iload_n 3, 1) := by decide +kernel
theorem dX6_rightCases_81 : decode cX6_rightCases 81 = .ok (.ireturn, 1) := by decide +kernel
