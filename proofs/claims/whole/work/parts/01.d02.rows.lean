theorem dX10_stops_97 : decode cX10_stops 97 = .ok (.ishl, 1) := by decide +kernel
theorem dX10_stops_98 : decode cX10_stops 98 = .ok (.goto 4, 3) := by decide +kernel
theorem dX10_stops_101 : decode cX10_stops 101 = .ok (.iconst 0, 1) := by decide +kernel
theorem dX10_stops_102 : decode cX10_stops 102 = .ok (.ior, 1) := by decide +kernel
theorem dX10_stops_103 : decode cX10_stops 103 = .ok (.istore_n 3, 1) := by decide +kernel
theorem dX10_stops_104 : decode cX10_stops 104 = .ok (.iinc 4 1, 3) := by decide +kernel
theorem dX10_stops_107 : decode cX10_stops 107 = .ok (.goto (-85), 3) := by decide +kernel
theorem dX10_stops_110 : decode cX10_stops 110 = .ok (.iload_n 3, 1) := by decide +kernel
theorem dX10_stops_111 : decode cX10_stops 111 = .ok (.ireturn, 1) := by decide +kernel
theorem dX10_over_0 : decode cX10_over 0 = .ok (.iload_n 0, 1) := by decide +kernel
theorem dX10_over_1 : decode cX10_over 1 = .ok (.ifCond .ne 7, 3) := by decide +kernel
theorem dX10_over_4 : decode cX10_over 4 = .ok (.iconst (-1), 1) := by decide +kernel
theorem dX10_over_5 : decode cX10_over 5 = .ok (.goto 31, 3) := by decide +kernel
theorem dX10_over_8 : decode cX10_over 8 = .ok (.iload_n 0, 1) := by decide +kernel
theorem dX10_over_9 : decode cX10_over 9 = .ok (.iconst 3, 1) := by decide +kernel
theorem dX10_over_10 : decode cX10_over 10 = .ok (.if_icmp .ne 7, 3) := by decide +kernel
theorem dX10_over_13 : decode cX10_over 13 = .ok (.iconst 1, 1) := by decide +kernel
theorem dX10_over_14 : decode cX10_over 14 = .ok (.goto 22, 3) := by decide +kernel
theorem dX10_over_17 : decode cX10_over 17 = .ok (.iload_n 0, 1) := by decide +kernel
theorem dX10_over_18 : decode cX10_over 18 = .ok (.iconst 4, 1) := by decide +kernel
theorem dX10_over_19 : decode cX10_over 19 = .ok (.if_icmp .ne 7, 3) := by decide +kernel
theorem dX10_over_22 : decode cX10_over 22 = .ok (.iconst 2, 1) := by decide +kernel
theorem dX10_over_23 : decode cX10_over 23 = .ok (.goto 13, 3) := by decide +kernel
theorem dX10_over_26 : decode cX10_over 26 = .ok (.iload_n 0, 1) := by decide +kernel
theorem dX10_over_27 : decode cX10_over 27 = .ok (.iconst 5, 1) := by decide +kernel
theorem dX10_over_28 : decode cX10_over 28 = .ok (.if_icmp .ne 7, 3) := by decide +kernel
theorem dX10_over_31 : decode cX10_over 31 = .ok (.iconst 3, 1) := by decide +kernel
theorem dX10_over_32 : decode cX10_over 32 = .ok (.goto 4, 3) := by decide +kernel
theorem dX10_over_35 : decode cX10_over 35 = .ok (.iconst 0, 1) := by decide +kernel
theorem dX10_over_36 : decode cX10_over 36 = .ok (.ireturn, 1) := by decide +kernel
theorem dX10_isUnder_0 : decode cX10_isUnder 0 = .ok (.iload_n 0, 1) := by decide +kernel
theorem dX10_isUnder_1 : decode cX10_isUnder 1 = .ok (.istore_n 2, 1) := by decide +kernel
theorem dX10_isUnder_2 : decode cX10_isUnder 2 = .ok (.iload_n 2, 1) := by decide +kernel
theorem dX10_isUnder_3 : decode cX10_isUnder 3 = .ok (.iconst (-1), 1) := by decide +kernel
theorem dX10_isUnder_4 : decode cX10_isUnder 4 = .ok (.if_icmp .eq 16, 3) := by decide +kernel
theorem dX10_isUnder_7 : decode cX10_isUnder 7 = .ok (.iload_n 2, 1) := by decide +kernel
theorem dX10_isUnder_8 : decode cX10_isUnder 8 = .ok (.iload_n 1, 1) := by decide +kernel
theorem dX10_isUnder_9 : decode cX10_isUnder 9 = .ok (.if_icmp .eq 11, 3) := by decide +kernel
theorem dX10_isUnder_12 : decode cX10_isUnder 12 = .ok (.iload_n 2, 1) := by decide +kernel
theorem dX10_isUnder_13 : decode cX10_isUnder 13 = .ok (.invokestatic 338, 3) := by decide +kernel
theorem dX10_isUnder_16 : decode cX10_isUnder 16 = .ok (.istore_n 2, 1) := by decide +kernel
theorem dX10_isUnder_17 : decode cX10_isUnder 17 = .ok (.goto (-15), 3) := by decide +kernel
theorem dX10_isUnder_20 : decode cX10_isUnder 20 = .ok (.iload_n 2, 1) := by decide +kernel
theorem dX10_isUnder_21 : decode cX10_isUnder 21 = .ok (.iload_n 1, 1) := by decide +kernel
theorem dX10_isUnder_22 : decode cX10_isUnder 22 = .ok (.if_icmp .ne 7, 3) := by decide +kernel
theorem dX10_isUnder_25 : decode cX10_isUnder 25 = .ok (.iconst 1, 1) := by decide +kernel
theorem dX10_isUnder_26 : decode cX10_isUnder 26 = .ok (.goto 4, 3) := by decide +kernel
theorem dX10_isUnder_29 : decode cX10_isUnder 29 = .ok (.iconst 0, 1) := by decide +kernel
theorem dX10_isUnder_30 : decode cX10_isUnder 30 = .ok (.ireturn, 1) := by decide +kernel
theorem dX10_two_0 : decode cX10_two 0 = .ok (.aload_n 0, 1) := by decide +kernel
theorem dX10_two_1 : decode cX10_two 1 = .ok (.iload_n 1, 1) := by decide +kernel
theorem dX10_two_2 : decode cX10_two 2 = .ok (.invokevirtual 141, 3) := by decide +kernel
theorem dX10_two_5 : decode cX10_two 5 = .ok (.ifCond .eq 40, 3) := by decide +kernel
theorem dX10_two_8 : decode cX10_two 8 = .ok (.iload_n 2, 1) := by decide +kernel
theorem dX10_two_9 : decode cX10_two 9 = .ok (.i2l, 1) := by decide +kernel
theorem dX10_two_10 : decode cX10_two 10 = .ok (.lconst 0, 1) := by decide +kernel
theorem dX10_two_11 : decode cX10_two 11 = .ok (.ldc2_w 341, 3) := by decide +kernel
theorem dX10_two_14 : decode cX10_two 14 = .ok (.invokestatic 114, 3) := by decide +kernel
theorem dX10_two_17 : decode cX10_two 17 = .ok (.ifCond .eq 28, 3) := by decide +kernel
theorem dX10_two_20 : decode cX10_two 20 = .ok (.iload_n 3, 1) := by decide +kernel
theorem dX10_two_21 : decode cX10_two 21 = .ok (.i2l, 1) := by decide +kernel
theorem dX10_two_22 : decode cX10_two 22 = .ok (.lconst 0, 1) := by decide +kernel
theorem dX10_two_23 : decode cX10_two 23 = .ok (.ldc2_w 341, 3) := by decide +kernel
theorem dX10_two_26 : decode cX10_two 26 = .ok (.invokestatic 114, 3) := by decide +kernel
theorem dX10_two_29 : decode cX10_two 29 = .ok (.ifCond .eq 16, 3) := by decide +kernel
theorem dX10_two_32 : decode cX10_two 32 = .ok (.iload_n 2, 1) := by decide +kernel
theorem dX10_two_33 : decode cX10_two 33 = .ok (.sipush 1000, 3) := by decide +kernel
theorem dX10_two_36 : decode cX10_two 36 = .ok (.idiv, 1) := by decide +kernel
theorem dX10_two_37 : decode cX10_two 37 = .ok (.iload_n 3, 1) := by decide +kernel
theorem dX10_two_38 : decode cX10_two 38 = .ok (.sipush 1000, 3) := by decide +kernel
theorem dX10_two_41 : decode cX10_two 41 = .ok (.idiv, 1) := by decide +kernel
theorem dX10_two_42 : decode cX10_two 42 = .ok (.if_icmp .ne 6, 3) := by decide +kernel
theorem dX10_two_45 : decode cX10_two 45 = .ok (.bipush (-2), 2) := by decide +kernel
theorem dX10_two_47 : decode cX10_two 47 = .ok (.ireturn, 1) := by decide +kernel
theorem dX10_two_48 : decode cX10_two 48 = .ok (.aload_n 0, 1) := by decide +kernel
theorem dX10_two_49 : decode cX10_two 49 = .ok (.getfield 32, 3) := by decide +kernel
theorem dX10_two_52 : decode cX10_two 52 = .ok (.iload_n 1, 1) := by decide +kernel
theorem dX10_two_53 : decode cX10_two 53 = .ok (.iaload, 1) := by decide +kernel
theorem dX10_two_54 : decode cX10_two 54 = .ok (.iconst 3, 1) := by decide +kernel
theorem dX10_two_55 : decode cX10_two 55 = .ok (.invokestatic 343, 3) := by decide +kernel
theorem dX10_two_58 : decode cX10_two 58 = .ok (.ifCond .ne 6, 3) := by decide +kernel
theorem dX10_two_61 : decode cX10_two 61 = .ok (.bipush (-13), 2) := by decide +kernel
theorem dX10_two_63 : decode cX10_two 63 = .ok (.ireturn, 1) := by decide +kernel
theorem dX10_two_64 : decode cX10_two 64 = .ok (.iload_n 2, 1) := by decide +kernel
theorem dX10_two_65 : decode cX10_two 65 = .ok (.sipush 1000, 3) := by decide +kernel
theorem dX10_two_68 : decode cX10_two 68 = .ok (.irem, 1) := by decide +kernel
theorem dX10_two_69 : decode cX10_two 69 = .ok (.iload_n 3, 1) := by decide +kernel
theorem dX10_two_70 : decode cX10_two 70 = .ok (.sipush 1000, 3) := by decide +kernel
theorem dX10_two_73 : decode cX10_two 73 = .ok (.irem, 1) := by decide +kernel
theorem dX10_two_74 : decode cX10_two 74 = .ok (.isub, 1) := by decide +kernel
theorem dX10_two_75 : decode cX10_two 75 = .ok (.istore 4, 2) := by decide +kernel
theorem dX10_two_77 : decode cX10_two 77 = .ok (.iload 4, 2) := by decide +kernel
theorem dX10_two_79 : decode cX10_two 79 = .ok (.ifCond .lt 13, 3) := by decide +kernel
theorem dX10_two_82 : decode cX10_two 82 = .ok (.iload 4, 2) := by decide +kernel
theorem dX10_two_84 : decode cX10_two 84 = .ok (.ifCond .ne 16, 3) := by decide +kernel
theorem dX10_two_87 : decode cX10_two 87 = .ok (.iload_n 2, 1) := by decide +kernel
theorem dX10_two_88 : decode cX10_two 88 = .ok (.iload_n 3, 1) := by decide +kernel
theorem dX10_two_89 : decode cX10_two 89 = .ok (.if_icmp .ge 11, 3) := by decide +kernel
theorem dX10_two_92 : decode cX10_two 92 = .ok (.iload_n 2, 1) := by decide +kernel
theorem dX10_two_93 : decode cX10_two 93 = .ok (.sipush 1000, 3) := by decide +kernel
theorem dX10_two_96 : decode cX10_two 96 = .ok (.idiv, 1) := by decide +kernel
theorem dX10_two_97 : decode cX10_two 97 = .ok (.goto 8, 3) := by decide +kernel
theorem dX10_two_100 : decode cX10_two 100 = .ok (.iload_n 3, 1) := by decide +kernel
theorem dX10_two_101 : decode cX10_two 101 = .ok (.sipush 1000, 3) := by decide +kernel
theorem dX10_two_104 : decode cX10_two 104 = .ok (.idiv, 1) := by decide +kernel
theorem dX10_two_105 : decode cX10_two 105 = .ok (.ireturn, 1) := by decide +kernel
theorem dX10_keeps_0 : decode cX10_keeps 0 = .ok (.aload_n 0, 1) := by decide +kernel
theorem dX10_keeps_1 : decode cX10_keeps 1 = .ok (.iload_n 1, 1) := by decide +kernel
theorem dX10_keeps_2 : decode cX10_keeps 2 = .ok (.iload_n 2, 1) := by decide +kernel
theorem dX10_keeps_3 : decode cX10_keeps 3 = .ok (.iconst 1, 1) := by decide +kernel
theorem dX10_keeps_4 : decode cX10_keeps 4 = .ok (.invokevirtual 164, 3) := by decide +kernel
theorem dX10_keeps_7 : decode cX10_keeps 7 = .ok (.iconst 0, 1) := by decide +kernel
theorem dX10_keeps_8 : decode cX10_keeps 8 = .ok (.istore_n 3, 1) := by decide +kernel
theorem dX10_keeps_9 : decode cX10_keeps 9 = .ok (.iload_n 3, 1) := by decide +kernel
theorem dX10_keeps_10 : decode cX10_keeps 10 = .ok (.bipush 10, 2) := by decide +kernel
theorem dX10_keeps_12 : decode cX10_keeps 12 = .ok (.if_icmp .ge 21, 3) := by decide +kernel
theorem dX10_keeps_15 : decode cX10_keeps 15 = .ok (.aload_n 0, 1) := by decide +kernel
theorem dX10_keeps_16 : decode cX10_keeps 16 = .ok (.getfield 65, 3) := by decide +kernel
theorem dX10_keeps_19 : decode cX10_keeps 19 = .ok (.iload_n 3, 1) := by decide +kernel
theorem dX10_keeps_20 : decode cX10_keeps 20 = .ok (.aload_n 0, 1) := by decide +kernel
theorem dX10_keeps_21 : decode cX10_keeps 21 = .ok (.getfield 59, 3) := by decide +kernel
theorem dX10_keeps_24 : decode cX10_keeps 24 = .ok (.iload_n 3, 1) := by decide +kernel
theorem dX10_keeps_25 : decode cX10_keeps 25 = .ok (.iaload, 1) := by decide +kernel
theorem dX10_keeps_26 : decode cX10_keeps 26 = .ok (.iastore, 1) := by decide +kernel
theorem dX10_keeps_27 : decode cX10_keeps 27 = .ok (.iinc 3 1, 3) := by decide +kernel
theorem dX10_keeps_30 : decode cX10_keeps 30 = .ok (.goto (-21), 3) := by decide +kernel
theorem dX10_keeps_33 : decode cX10_keeps 33 = .ok (.return_, 1) := by decide +kernel
theorem dX10_change_0 : decode cX10_change 0 = .ok (.aload_n 0, 1) := by decide +kernel
theorem dX10_change_1 : decode cX10_change 1 = .ok (.iload_n 1, 1) := by decide +kernel
theorem dX10_change_2 : decode cX10_change 2 = .ok (.iload_n 2, 1) := by decide +kernel
theorem dX10_change_3 : decode cX10_change 3 = .ok (.iconst 1, 1) := by decide +kernel
theorem dX10_change_4 : decode cX10_change 4 = .ok (.invokevirtual 164, 3) := by decide +kernel
theorem dX10_change_7 : decode cX10_change 7 = .ok (.iconst 0, 1) := by decide +kernel
theorem dX10_change_8 : decode cX10_change 8 = .ok (.istore_n 3, 1) := by decide +kernel
theorem dX10_change_9 : decode cX10_change 9 = .ok (.iconst 0, 1) := by decide +kernel
theorem dX10_change_10 : decode cX10_change 10 = .ok (.istore 4, 2) := by decide +kernel
theorem dX10_change_12 : decode cX10_change 12 = .ok (.iload 4, 2) := by decide +kernel
theorem dX10_change_14 : decode cX10_change 14 = .ok (.bipush 10, 2) := by decide +kernel
theorem dX10_change_16 : decode cX10_change 16 = .ok (.if_icmp .ge 62, 3) := by decide +kernel
theorem dX10_change_19 : decode cX10_change 19 = .ok (.iload_n 3, 1) := by decide +kernel
theorem dX10_change_20 : decode cX10_change 20 = .ok (.aload_n 0, 1) := by decide +kernel
theorem dX10_change_21 : decode cX10_change 21 = .ok (.getfield 59, 3) := by decide +kernel
theorem dX10_change_24 : decode cX10_change 24 = .ok (.iload 4, 2) := by decide +kernel
theorem dX10_change_26 : decode cX10_change 26 = .ok (.iaload, 1) := by decide +kernel
theorem dX10_change_27 : decode cX10_change 27 = .ok (.aload_n 0, 1) := by decide +kernel
theorem dX10_change_28 : decode cX10_change 28 = .ok (.getfield 65, 3) := by decide +kernel
theorem dX10_change_31 : decode cX10_change 31 = .ok (.iload 4, 2) := by decide +kernel
theorem dX10_change_33 : decode cX10_change 33 = .ok (.iaload, 1) := by decide +kernel
theorem dX10_change_34 : decode cX10_change 34 = .ok (.if_icmp .ge 21, 3) := by decide +kernel
theorem dX10_change_37 : decode cX10_change 37 = .ok (.aload_n 0, 1) := by decide +kernel
theorem dX10_change_38 : decode cX10_change 38 = .ok (.getfield 65, 3) := by decide +kernel
theorem dX10_change_41 : decode cX10_change 41 = .ok (.iload 4, 2) := by decide +kernel
theorem dX10_change_43 : decode cX10_change 43 = .ok (.iaload, 1) := by decide +kernel
theorem dX10_change_44 : decode cX10_change 44 = .ok (.aload_n 0, 1) := by decide +kernel
theorem dX10_change_45 : decode cX10_change 45 = .ok (.getfield 59, 3) := by decide +kernel
theorem dX10_change_48 : decode cX10_change 48 = .ok (.iload 4, 2) := by decide +kernel
theorem dX10_change_50 : decode cX10_change 50 = .ok (.iaload, 1) := by decide +kernel
theorem dX10_change_51 : decode cX10_change 51 = .ok (.isub, 1) := by decide +kernel
theorem dX10_change_52 : decode cX10_change 52 = .ok (.goto 18, 3) := by decide +kernel
theorem dX10_change_55 : decode cX10_change 55 = .ok (.aload_n 0, 1) := by decide +kernel
theorem dX10_change_56 : decode cX10_change 56 = .ok (.getfield 59, 3) := by decide +kernel
theorem dX10_change_59 : decode cX10_change 59 = .ok (.iload 4, 2) := by decide +kernel
theorem dX10_change_61 : decode cX10_change 61 = .ok (.iaload, 1) := by decide +kernel
theorem dX10_change_62 : decode cX10_change 62 = .ok (.aload_n 0, 1) := by decide +kernel
theorem dX10_change_63 : decode cX10_change 63 = .ok (.getfield 65, 3) := by decide +kernel
theorem dX10_change_66 : decode cX10_change 66 = .ok (.iload 4, 2) := by decide +kernel
theorem dX10_change_68 : decode cX10_change 68 = .ok (.iaload, 1) := by decide +kernel
theorem dX10_change_69 : decode cX10_change 69 = .ok (.isub, 1) := by decide +kernel
theorem dX10_change_70 : decode cX10_change 70 = .ok (.iadd, 1) := by decide +kernel
theorem dX10_change_71 : decode cX10_change 71 = .ok (.istore_n 3, 1) := by decide +kernel
theorem dX10_change_72 : decode cX10_change 72 = .ok (.iinc 4 1, 3) := by decide +kernel
theorem dX10_change_75 : decode cX10_change 75 = .ok (.goto (-63), 3) := by decide +kernel
theorem dX10_change_78 : decode cX10_change 78 = .ok (.iload_n 3, 1) := by decide +kernel
theorem dX10_change_79 : decode cX10_change 79 = .ok (.ireturn, 1) := by decide +kernel
theorem dX10_hangs_0 : decode cX10_hangs 0 = .ok (.aload_n 0, 1) := by decide +kernel
theorem dX10_hangs_1 : decode cX10_hangs 1 = .ok (.iload_n 1, 1) := by decide +kernel
theorem dX10_hangs_2 : decode cX10_hangs 2 = .ok (.invokevirtual 129, 3) := by decide +kernel
theorem dX10_hangs_5 : decode cX10_hangs 5 = .ok (.ifCond .eq 20, 3) := by decide +kernel
theorem dX10_hangs_8 : decode cX10_hangs 8 = .ok (.iload_n 2, 1) := by decide +kernel
theorem dX10_hangs_9 : decode cX10_hangs 9 = .ok (.invokestatic 138, 3) := by decide +kernel
theorem dX10_hangs_12 : decode cX10_hangs 12 = .ok (.ifCond .eq 13, 3) := by decide +kernel
theorem dX10_hangs_15 : decode cX10_hangs 15 = .ok (.iload_n 3, 1) := by decide +kernel
theorem dX10_hangs_16 : decode cX10_hangs 16 = .ok (.i2l, 1) := by decide +kernel
theorem dX10_hangs_17 : decode cX10_hangs 17 = .ok (.lconst 0, 1) := by decide +kernel
theorem dX10_hangs_18 : decode cX10_hangs 18 = .ok (.lconst 1, 1) := by decide +kernel
theorem dX10_hangs_19 : decode cX10_hangs 19 = .ok (.invokestatic 114, 3) := by decide +kernel
theorem dX10_hangs_22 : decode cX10_hangs 22 = .ok (.ifCond .ne 6, 3) := by decide +kernel
theorem dX10_hangs_25 : decode cX10_hangs 25 = .ok (.bipush (-2), 2) := by decide +kernel
theorem dX10_hangs_27 : decode cX10_hangs 27 = .ok (.ireturn, 1) := by decide +kernel
theorem dX10_hangs_28 : decode cX10_hangs 28 = .ok (.aload_n 0, 1) := by decide +kernel
theorem dX10_hangs_29 : decode cX10_hangs 29 = .ok (.iload_n 1, 1) := by decide +kernel
theorem dX10_hangs_30 : decode cX10_hangs 30 = .ok (.iload_n 2, 1) := by decide +kernel
theorem dX10_hangs_31 : decode cX10_hangs 31 = .ok (.invokevirtual 347, 3) := by decide +kernel
theorem dX10_hangs_34 : decode cX10_hangs 34 = .ok (.iconst (-1), 1) := by decide +kernel
theorem dX10_hangs_35 : decode cX10_hangs 35 = .ok (.istore 4, 2) := by decide +kernel
theorem dX10_hangs_37 : decode cX10_hangs 37 = .ok (.iconst 0, 1) := by decide +kernel
theorem dX10_hangs_38 : decode cX10_hangs 38 = .ok (.istore 5, 2) := by decide +kernel
theorem dX10_hangs_40 : decode cX10_hangs 40 = .ok (.iconst 0, 1) := by decide +kernel
theorem dX10_hangs_41 : decode cX10_hangs 41 = .ok (.istore 6, 2) := by decide +kernel
theorem dX10_hangs_43 : decode cX10_hangs 43 = .ok (.iload 6, 2) := by decide +kernel
theorem dX10_hangs_45 : decode cX10_hangs 45 = .ok (.iconst 3, 1) := by decide +kernel
theorem dX10_hangs_46 : decode cX10_hangs 46 = .ok (.if_icmp .ge 73, 3) := by decide +kernel
theorem dX10_hangs_49 : decode cX10_hangs 49 = .ok (.aload_n 0, 1) := by decide +kernel
theorem dX10_hangs_50 : decode cX10_hangs 50 = .ok (.getfield 29, 3) := by decide +kernel
theorem dX10_hangs_53 : decode cX10_hangs 53 = .ok (.iconst 3, 1) := by decide +kernel
theorem dX10_hangs_54 : decode cX10_hangs 54 = .ok (.iload_n 1, 1) := by decide +kernel
theorem dX10_hangs_55 : decode cX10_hangs 55 = .ok (.imul, 1) := by decide +kernel
theorem dX10_hangs_56 : decode cX10_hangs 56 = .ok (.iload 6, 2) := by decide +kernel
theorem dX10_hangs_58 : decode cX10_hangs 58 = .ok (.iadd, 1) := by decide +kernel
theorem dX10_hangs_59 : decode cX10_hangs 59 = .ok (.iaload, 1) := by decide +kernel
theorem dX10_hangs_60 : decode cX10_hangs 60 = .ok (.istore 7, 2) := by decide +kernel
theorem dX10_hangs_62 : decode cX10_hangs 62 = .ok (.aload_n 0, 1) := by decide +kernel
theorem dX10_hangs_63 : decode cX10_hangs 63 = .ok (.getfield 29, 3) := by decide +kernel
theorem dX10_hangs_66 : decode cX10_hangs 66 = .ok (.iconst 3, 1) := by decide +kernel
theorem dX10_hangs_67 : decode cX10_hangs 67 = .ok (.iload_n 1, 1) := by decide +kernel
theorem dX10_hangs_68 : decode cX10_hangs 68 = .ok (.imul, 1) := by decide +kernel
theorem dX10_hangs_69 : decode cX10_hangs 69 = .ok (.iload 6, 2) := by decide +kernel
theorem dX10_hangs_71 : decode cX10_hangs 71 = .ok (.iadd, 1) := by decide +kernel
theorem dX10_hangs_72 : decode cX10_hangs 72 = .ok (.iconst (-1), 1) := by decide +kernel
theorem dX10_hangs_73 : decode cX10_hangs 73 = .ok (.iastore, 1) := by decide +kernel
theorem dX10_hangs_74 : decode cX10_hangs 74 = .ok (.aload_n 0, 1) := by decide +kernel
theorem dX10_hangs_75 : decode cX10_hangs 75 = .ok (.iload_n 1, 1) := by decide +kernel
theorem dX10_hangs_76 : decode cX10_hangs 76 = .ok (.iload_n 2, 1) := by decide +kernel
theorem dX10_hangs_77 : decode cX10_hangs 77 = .ok (.invokevirtual 351, 3) := by decide +kernel
theorem dX10_hangs_80 : decode cX10_hangs 80 = .ok (.istore 8, 2) := by decide +kernel
theorem dX10_hangs_82 : decode cX10_hangs 82 = .ok (.aload_n 0, 1) := by decide +kernel
theorem dX10_hangs_83 : decode cX10_hangs 83 = .ok (.getfield 29, 3) := by decide +kernel
theorem dX10_hangs_86 : decode cX10_hangs 86 = .ok (.iconst 3, 1) := by decide +kernel
theorem dX10_hangs_87 : decode cX10_hangs 87 = .ok (.iload_n 1, 1) := by decide +kernel
theorem dX10_hangs_88 : decode cX10_hangs 88 = .ok (.imul, 1) := by decide +kernel
theorem dX10_hangs_89 : decode cX10_hangs 89 = .ok (.iload 6, 2) := by decide +kernel
theorem dX10_hangs_91 : decode cX10_hangs 91 = .ok (.iadd, 1) := by decide +kernel
theorem dX10_hangs_92 : decode cX10_hangs 92 = .ok (.iload 7, 2) := by decide +kernel
theorem dX10_hangs_94 : decode cX10_hangs 94 = .ok (.iastore, 1) := by decide +kernel
theorem dX10_hangs_95 : decode cX10_hangs 95 = .ok (.iload 8, 2) := by decide +kernel
theorem dX10_hangs_97 : decode cX10_hangs 97 = .ok (.iload 5, 2) := by decide +kernel
theorem dX10_hangs_99 : decode cX10_hangs 99 = .ok (.if_icmp .gt 6, 3) := by decide +kernel
theorem dX10_hangs_102 : decode cX10_hangs 102 = .ok (.goto 11, 3) := by decide +kernel
theorem dX10_hangs_105 : decode cX10_hangs 105 = .ok (.iload 8, 2) := by decide +kernel
theorem dX10_hangs_107 : decode cX10_hangs 107 = .ok (.istore 5, 2) := by decide +kernel
theorem dX10_hangs_109 : decode cX10_hangs 109 = .ok (.iload 6, 2) := by decide +kernel
theorem dX10_hangs_111 : decode cX10_hangs 111 = .ok (.istore 4, 2) := by decide +kernel
theorem dX10_hangs_113 : decode cX10_hangs 113 = .ok (.iinc 6 1, 3) := by decide +kernel
theorem dX10_hangs_116 : decode cX10_hangs 116 = .ok (.goto (-73), 3) := by decide +kernel
theorem dX10_hangs_119 : decode cX10_hangs 119 = .ok (.iconst 0, 1) := by decide +kernel
theorem dX10_hangs_120 : decode cX10_hangs 120 = .ok (.istore 6, 2) := by decide +kernel
theorem dX10_hangs_122 : decode cX10_hangs 122 = .ok (.iload 6, 2) := by decide +kernel
theorem dX10_hangs_124 : decode cX10_hangs 124 = .ok (.aload_n 0, 1) := by decide +kernel
theorem dX10_hangs_125 : decode cX10_hangs 125 = .ok (.getfield 118, 3) := by decide +kernel
theorem dX10_hangs_128 : decode cX10_hangs 128 = .ok (.if_icmp .ge 78, 3) := by decide +kernel
theorem dX10_hangs_131 : decode cX10_hangs 131 = .ok (.aload_n 0, 1) := by decide +kernel
theorem dX10_hangs_132 : decode cX10_hangs 132 = .ok (.getfield 35, 3) := by decide +kernel
theorem dX10_hangs_135 : decode cX10_hangs 135 = .ok (.iload 6, 2) := by decide +kernel
theorem dX10_hangs_137 : decode cX10_hangs 137 = .ok (.iaload, 1) := by decide +kernel
theorem dX10_hangs_138 : decode cX10_hangs 138 = .ok (.iload_n 1, 1) := by decide +kernel
theorem dX10_hangs_139 : decode cX10_hangs 139 = .ok (.if_icmp .eq 6, 3) := by decide +kernel
theorem dX10_hangs_142 : decode cX10_hangs 142 = .ok (.goto 58, 3) := by decide +kernel
theorem dX10_hangs_145 : decode cX10_hangs 145 = .ok (.aload_n 0, 1) := by decide +kernel
theorem dX10_hangs_146 : decode cX10_hangs 146 = .ok (.getfield 53, 3) := by decide +kernel
theorem dX10_hangs_149 : decode cX10_hangs 149 = .ok (.iload 6, 2) := by decide +kernel
theorem dX10_hangs_151 : decode cX10_hangs 151 = .ok (.iaload, 1) := by decide +kernel
theorem dX10_hangs_152 : decode cX10_hangs 152 = .ok (.istore 7, 2) := by decide +kernel
theorem dX10_hangs_154 : decode cX10_hangs 154 = .ok (.aload_n 0, 1) := by decide +kernel
theorem dX10_hangs_155 : decode cX10_hangs 155 = .ok (.getfield 53, 3) := by decide +kernel
theorem dX10_hangs_158 : decode cX10_hangs 158 = .ok (.iload 6, 2) := by decide +kernel
theorem dX10_hangs_160 : decode cX10_hangs 160 = .ok (.iconst (-1), 1) := by decide +kernel
theorem dX10_hangs_161 : decode cX10_hangs 161 = .ok (.iastore, 1) := by decide +kernel
theorem dX10_hangs_162 : decode cX10_hangs 162 = .ok (.aload_n 0, 1) := by decide +kernel
theorem dX10_hangs_163 : decode cX10_hangs 163 = .ok (.iload_n 1, 1) := by decide +kernel
theorem dX10_hangs_164 : decode cX10_hangs 164 = .ok (.iload_n 2, 1) := by decide +kernel
theorem dX10_hangs_165 : decode cX10_hangs 165 = .ok (.invokevirtual 351, 3) := by decide +kernel
theorem dX10_hangs_168 : decode cX10_hangs 168 = .ok (.istore 8, 2) := by decide +kernel
theorem dX10_hangs_170 : decode cX10_hangs 170 = .ok (.aload_n 0, 1) := by decide +kernel
theorem dX10_hangs_171 : decode cX10_hangs 171 = .ok (.getfield 53, 3) := by decide +kernel
theorem dX10_hangs_174 : decode cX10_hangs 174 = .ok (.iload 6, 2) := by decide +kernel
theorem dX10_hangs_176 : decode cX10_hangs 176 = .ok (.iload 7, 2) := by decide +kernel
theorem dX10_hangs_178 : decode cX10_hangs 178 = .ok (.iastore, 1) := by decide +kernel
theorem dX10_hangs_179 : decode cX10_hangs 179 = .ok (.iload 8, 2) := by decide +kernel
theorem dX10_hangs_181 : decode cX10_hangs 181 = .ok (.iload 5, 2) := by decide +kernel
theorem dX10_hangs_183 : decode cX10_hangs 183 = .ok (.if_icmp .gt 6, 3) := by decide +kernel
theorem dX10_hangs_186 : decode cX10_hangs 186 = .ok (.goto 14, 3) := by decide +kernel
theorem dX10_hangs_189 : decode cX10_hangs 189 = .ok (.iload 8, 2) := by decide +kernel
theorem dX10_hangs_191 : decode cX10_hangs 191 = .ok (.istore 5, 2) := by decide +kernel
theorem dX10_hangs_193 : decode cX10_hangs 193 = .ok (.bipush 10, 2) := by decide +kernel
theorem dX10_hangs_195 : decode cX10_hangs 195 = .ok (.iload 6, 2) := by decide +kernel
theorem dX10_hangs_197 : decode cX10_hangs 197 = .ok (.iadd, 1) := by decide +kernel
theorem dX10_hangs_198 : decode cX10_hangs 198 = .ok (.istore 4, 2) := by decide +kernel
theorem dX10_hangs_200 : decode cX10_hangs 200 = .ok (.iinc 6 1, 3) := by decide +kernel
theorem dX10_hangs_203 : decode cX10_hangs 203 = .ok (.goto (-81), 3) := by decide +kernel
theorem dX10_hangs_206 : decode cX10_hangs 206 = .ok (.iload 4, 2) := by decide +kernel
theorem dX10_hangs_208 : decode cX10_hangs 208 = .ok (.iconst (-1), 1) := by decide +kernel
theorem dX10_hangs_209 : decode cX10_hangs 209 = .ok (.if_icmp .eq 7, 3) := by decide +kernel
theorem dX10_hangs_212 : decode cX10_hangs 212 = .ok (.iload_n 3, 1) := by decide +kernel
theorem dX10_hangs_213 : decode cX10_hangs 213 = .ok (.ifCond .ne 8, 3) := by decide +kernel
theorem dX10_hangs_216 : decode cX10_hangs 216 = .ok (.iload 4, 2) := by decide +kernel
theorem dX10_hangs_218 : decode cX10_hangs 218 = .ok (.goto 5, 3) := by decide +kernel
theorem dX10_hangs_221 : decode cX10_hangs 221 = .ok (.iload 5, 2) := by decide +kernel
theorem dX10_hangs_223 : decode cX10_hangs 223 = .ok (.ireturn, 1) := by decide +kernel
theorem dX10_moves_0 : decode cX10_moves 0 = .ok (.aload_n 0, 1) := by decide +kernel
theorem dX10_moves_1 : decode cX10_moves 1 = .ok (.iload_n 1, 1) := by decide +kernel
theorem dX10_moves_2 : decode cX10_moves 2 = .ok (.invokevirtual 141, 3) := by decide +kernel
theorem dX10_moves_5 : decode cX10_moves 5 = .ok (.ifCond .eq 22, 3) := by decide +kernel
theorem dX10_moves_8 : decode cX10_moves 8 = .ok (.iload_n 2, 1) := by decide +kernel
theorem dX10_moves_9 : decode cX10_moves 9 = .ok (.i2l, 1) := by decide +kernel
theorem dX10_moves_10 : decode cX10_moves 10 = .ok (.lconst 0, 1) := by decide +kernel
theorem dX10_moves_11 : decode cX10_moves 11 = .ok (.ldc2_w 354, 3) := by decide +kernel
theorem dX10_moves_14 : decode cX10_moves 14 = .ok (.invokestatic 114, 3) := by decide +kernel
theorem dX10_moves_17 : decode cX10_moves 17 = .ok (.ifCond .eq 10, 3) := by decide +kernel
theorem dX10_moves_20 : decode cX10_moves 20 = .ok (.iload_n 3, 1) := by decide +kernel
theorem dX10_moves_21 : decode cX10_moves 21 = .ok (.invokestatic 138, 3) := by decide +kernel
theorem dX10_moves_24 : decode cX10_moves 24 = .ok (.ifCond .ne 7, 3) := by decide +kernel
theorem dX10_moves_27 : decode cX10_moves 27 = .ok (.ldc2_w 168, 3) := by decide +kernel
theorem dX10_moves_30 : decode cX10_moves 30 = .ok (.lreturn, 1) := by decide +kernel
theorem dX10_moves_31 : decode cX10_moves 31 = .ok (.aload_n 0, 1) := by decide +kernel
theorem dX10_moves_32 : decode cX10_moves 32 = .ok (.aload_n 0, 1) := by decide +kernel
theorem dX10_moves_33 : decode cX10_moves 33 = .ok (.getfield 35, 3) := by decide +kernel
theorem dX10_moves_36 : decode cX10_moves 36 = .ok (.iload_n 1, 1) := by decide +kernel
theorem dX10_moves_37 : decode cX10_moves 37 = .ok (.iaload, 1) := by decide +kernel
theorem dX10_moves_38 : decode cX10_moves 38 = .ok (.iload_n 3, 1) := by decide +kernel
theorem dX10_moves_39 : decode cX10_moves 39 = .ok (.iconst 1, 1) := by decide +kernel
theorem dX10_moves_40 : decode cX10_moves 40 = .ok (.invokevirtual 164, 3) := by decide +kernel
theorem dX10_moves_43 : decode cX10_moves 43 = .ok (.aload_n 0, 1) := by decide +kernel
theorem dX10_moves_44 : decode cX10_moves 44 = .ok (.getfield 59, 3) := by decide +kernel
theorem dX10_moves_47 : decode cX10_moves 47 = .ok (.iload_n 2, 1) := by decide +kernel
theorem dX10_moves_48 : decode cX10_moves 48 = .ok (.bipush 10, 2) := by decide +kernel
theorem dX10_moves_50 : decode cX10_moves 50 = .ok (.irem, 1) := by decide +kernel
theorem dX10_moves_51 : decode cX10_moves 51 = .ok (.iaload, 1) := by decide +kernel
theorem dX10_moves_52 : decode cX10_moves 52 = .ok (.istore 4, 2) := by decide +kernel
theorem dX10_moves_54 : decode cX10_moves 54 = .ok (.aload_n 0, 1) := by decide +kernel
theorem dX10_moves_55 : decode cX10_moves 55 = .ok (.getfield 32, 3) := by decide +kernel
theorem dX10_moves_58 : decode cX10_moves 58 = .ok (.iload_n 1, 1) := by decide +kernel
theorem dX10_moves_59 : decode cX10_moves 59 = .ok (.iaload, 1) := by decide +kernel
theorem dX10_moves_60 : decode cX10_moves 60 = .ok (.istore 5, 2) := by decide +kernel
theorem dX10_moves_62 : decode cX10_moves 62 = .ok (.aload_n 0, 1) := by decide +kernel
theorem dX10_moves_63 : decode cX10_moves 63 = .ok (.getfield 32, 3) := by decide +kernel
theorem dX10_moves_66 : decode cX10_moves 66 = .ok (.iload_n 1, 1) := by decide +kernel
theorem dX10_moves_67 : decode cX10_moves 67 = .ok (.iload_n 2, 1) := by decide +kernel
theorem dX10_moves_68 : decode cX10_moves 68 = .ok (.bipush 10, 2) := by decide +kernel
theorem dX10_moves_70 : decode cX10_moves 70 = .ok (.idiv, 1) := by decide +kernel
theorem dX10_moves_71 : decode cX10_moves 71 = .ok (.iastore, 1) := by decide +kernel
theorem dX10_moves_72 : decode cX10_moves 72 = .ok (.aload_n 0, 1) := by decide +kernel
theorem dX10_moves_73 : decode cX10_moves 73 = .ok (.aload_n 0, 1) := by decide +kernel
theorem dX10_moves_74 : decode cX10_moves 74 = .ok (.getfield 35, 3) := by decide +kernel
theorem dX10_moves_77 : decode cX10_moves 77 = .ok (.iload_n 1, 1) := by decide +kernel
theorem dX10_moves_78 : decode cX10_moves 78 = .ok (.iaload, 1) := by decide +kernel
theorem dX10_moves_79 : decode cX10_moves 79 = .ok (.iload_n 3, 1) := by decide +kernel
theorem dX10_moves_80 : decode cX10_moves 80 = .ok (.iconst 1, 1) := by decide +kernel
theorem dX10_moves_81 : decode cX10_moves 81 = .ok (.invokevirtual 164, 3) := by decide +kernel
theorem dX10_moves_84 : decode cX10_moves 84 = .ok (.aload_n 0, 1) := by decide +kernel
theorem dX10_moves_85 : decode cX10_moves 85 = .ok (.getfield 32, 3) := by decide +kernel
theorem dX10_moves_88 : decode cX10_moves 88 = .ok (.iload_n 1, 1) := by decide +kernel
theorem dX10_moves_89 : decode cX10_moves 89 = .ok (.iload 5, 2) := by decide +kernel
theorem dX10_moves_91 : decode cX10_moves 91 = .ok (.iastore, 1) := by decide +kernel
theorem dX10_moves_92 : decode cX10_moves 92 = .ok (.aload_n 0, 1) := by decide +kernel
theorem dX10_moves_93 : decode cX10_moves 93 = .ok (.getfield 59, 3) := by decide +kernel
theorem dX10_moves_96 : decode cX10_moves 96 = .ok (.iload_n 2, 1) := by decide +kernel
theorem dX10_moves_97 : decode cX10_moves 97 = .ok (.bipush 10, 2) := by decide +kernel
theorem dX10_moves_99 : decode cX10_moves 99 = .ok (.irem, 1) := by decide +kernel
theorem dX10_moves_100 : decode cX10_moves 100 = .ok (.iaload, 1) := by decide +kernel
theorem dX10_moves_101 : decode cX10_moves 101 = .ok (.iload 4, 2) := by decide +kernel
theorem dX10_moves_103 : decode cX10_moves 103 = .ok (.isub, 1) := by decide +kernel
theorem dX10_moves_104 : decode cX10_moves 104 = .ok (.i2l, 1) := by decide +kernel
theorem dX10_moves_105 : decode cX10_moves 105 = .ok (.lreturn, 1) := by decide +kernel
theorem dX10_telegraph_0 : decode cX10_telegraph 0 = .ok (.aload_n 0, 1) := by decide +kernel
theorem dX10_telegraph_1 : decode cX10_telegraph 1 = .ok (.iload_n 1, 1) := by decide +kernel
theorem dX10_telegraph_2 : decode cX10_telegraph 2 = .ok (.invokevirtual 129, 3) := by decide +kernel
theorem dX10_telegraph_5 : decode cX10_telegraph 5 = .ok (.ifCond .eq 10, 3) := by decide +kernel
theorem dX10_telegraph_8 : decode cX10_telegraph 8 = .ok (.iload_n 2, 1) := by decide +kernel
theorem dX10_telegraph_9 : decode cX10_telegraph 9 = .ok (.invokestatic 138, 3) := by decide +kernel
theorem dX10_telegraph_12 : decode cX10_telegraph 12 = .ok (.ifCond .ne 6, 3) := by decide +kernel
theorem dX10_telegraph_15 : decode cX10_telegraph 15 = .ok (.bipush (-2), 2) := by decide +kernel
theorem dX10_telegraph_17 : decode cX10_telegraph 17 = .ok (.ireturn, 1) := by decide +kernel
theorem dX10_telegraph_18 : decode cX10_telegraph 18 = .ok (.aload_n 0, 1) := by decide +kernel
theorem dX10_telegraph_19 : decode cX10_telegraph 19 = .ok (.iload_n 1, 1) := by decide +kernel
theorem dX10_telegraph_20 : decode cX10_telegraph 20 = .ok (.iload_n 2, 1) := by decide +kernel
theorem dX10_telegraph_21 : decode cX10_telegraph 21 = .ok (.iconst 1, 1) := by decide +kernel
theorem dX10_telegraph_22 : decode cX10_telegraph 22 = .ok (.invokevirtual 164, 3) := by decide +kernel
theorem dX10_telegraph_25 : decode cX10_telegraph 25 = .ok (.iconst 0, 1) := by decide +kernel
theorem dX10_telegraph_26 : decode cX10_telegraph 26 = .ok (.istore_n 3, 1) := by decide +kernel
theorem dX10_telegraph_27 : decode cX10_telegraph 27 = .ok (.iconst 0, 1) := by decide +kernel
theorem dX10_telegraph_28 : decode cX10_telegraph 28 = .ok (.istore 4, 2) := by decide +kernel
theorem dX10_telegraph_30 : decode cX10_telegraph 30 = .ok (.iload 4, 2) := by decide +kernel
theorem dX10_telegraph_32 : decode cX10_telegraph 32 = .ok (.aload_n 0, 1) := by decide +kernel
theorem dX10_telegraph_33 : decode cX10_telegraph 33 = .ok (.getfield 118, 3) := by decide +kernel
theorem dX10_telegraph_36 : decode cX10_telegraph 36 = .ok (.if_icmp .ge 57, 3) := by decide +kernel
theorem dX10_telegraph_39 : decode cX10_telegraph 39 = .ok (.iload_n 3, 1) := by decide +kernel
theorem dX10_telegraph_40 : decode cX10_telegraph 40 = .ok (.aload_n 0, 1) := by decide +kernel
theorem dX10_telegraph_41 : decode cX10_telegraph 41 = .ok (.getfield 35, 3) := by decide +kernel
theorem dX10_telegraph_44 : decode cX10_telegraph 44 = .ok (.iload 4, 2) := by decide +kernel
theorem dX10_telegraph_46 : decode cX10_telegraph 46 = .ok (.iaload, 1) := by decide +kernel
theorem dX10_telegraph_47 : decode cX10_telegraph 47 = .ok (.iload_n 1, 1) := by decide +kernel
theorem dX10_telegraph_48 : decode cX10_telegraph 48 = .ok (.if_icmp .ne 36, 3) := by decide +kernel
theorem dX10_telegraph_51 : decode cX10_telegraph 51 = .ok (.aload_n 0, 1) := by decide +kernel
theorem dX10_telegraph_52 : decode cX10_telegraph 52 = .ok (.getfield 50, 3) := by decide +kernel
theorem dX10_telegraph_55 : decode cX10_telegraph 55 = .ok (.iload 4, 2) := by decide +kernel
theorem dX10_telegraph_57 : decode cX10_telegraph 57 = .ok (.iaload, 1) := by decide +kernel
theorem dX10_telegraph_58 : decode cX10_telegraph 58 = .ok (.iload_n 2, 1) := by decide +kernel
theorem dX10_telegraph_59 : decode cX10_telegraph 59 = .ok (.if_icmp .le 25, 3) := by decide +kernel
theorem dX10_telegraph_62 : decode cX10_telegraph 62 = .ok (.aload_n 0, 1) := by decide +kernel
theorem dX10_telegraph_63 : decode cX10_telegraph 63 = .ok (.getfield 59, 3) := by decide +kernel
theorem dX10_telegraph_66 : decode cX10_telegraph 66 = .ok (.aload_n 0, 1) := by decide +kernel
theorem dX10_telegraph_67 : decode cX10_telegraph 67 = .ok (.getfield 38, 3) := by decide +kernel
theorem dX10_telegraph_70 : decode cX10_telegraph 70 = .ok (.iload 4, 2) := by decide +kernel
theorem dX10_telegraph_72 : decode cX10_telegraph 72 = .ok (.iaload, 1) := by decide +kernel
theorem dX10_telegraph_73 : decode cX10_telegraph 73 = .ok (.iaload, 1) := by decide +kernel
theorem dX10_telegraph_74 : decode cX10_telegraph 74 = .ok (.ifCond .le 10, 3) := by decide +kernel
theorem dX10_telegraph_77 : decode cX10_telegraph 77 = .ok (.iconst 1, 1) := by decide +kernel
theorem dX10_telegraph_78 : decode cX10_telegraph 78 = .ok (.iload 4, 2) := by decide +kernel
theorem dX10_telegraph_80 : decode cX10_telegraph 80 = .ok (.ishl, 1) := by decide +kernel
theorem dX10_telegraph_81 : decode cX10_telegraph 81 = .ok (.goto 4, 3) := by decide +kernel
theorem dX10_telegraph_84 : decode cX10_telegraph 84 = .ok (.iconst 0, 1) := by decide +kernel
theorem dX10_telegraph_85 : decode cX10_telegraph 85 = .ok (.ior, 1) := by decide +kernel
theorem dX10_telegraph_86 : decode cX10_telegraph 86 = .ok (.istore_n 3, 1) := by decide +kernel
theorem dX10_telegraph_87 : decode cX10_telegraph 87 = .ok (.iinc 4 1, 3) := by decide +kernel
theorem dX10_telegraph_90 : decode cX10_telegraph 90 = .ok (.goto (-60), 3) := by decide +kernel
theorem dX10_telegraph_93 : decode cX10_telegraph 93 = .ok (.iload_n 3, 1) := by decide +kernel
theorem dX10_telegraph_94 : decode cX10_telegraph 94 = .ok (.ireturn, 1) := by decide +kernel
theorem dX10_image_0 : decode cX10_image 0 = .ok (.aload_n 0, 1) := by decide +kernel
theorem dX10_image_1 : decode cX10_image 1 = .ok (.iconst 1, 1) := by decide +kernel
theorem dX10_image_2 : decode cX10_image 2 = .ok (.putfield 356, 3) := by decide +kernel
theorem dX10_image_5 : decode cX10_image 5 = .ok (.aload_n 0, 1) := by decide +kernel
theorem dX10_image_6 : decode cX10_image 6 = .ok (.aload_n 0, 1) := by decide +kernel
theorem dX10_image_7 : decode cX10_image 7 = .ok (.getfield 111, 3) := by decide +kernel
theorem dX10_image_10 : decode cX10_image 10 = .ok (.putfield 359, 3) := by decide +kernel
theorem dX10_image_13 : decode cX10_image 13 = .ok (.aload_n 0, 1) := by decide +kernel
theorem dX10_image_14 : decode cX10_image 14 = .ok (.aload_n 0, 1) := by decide +kernel
theorem dX10_image_15 : decode cX10_image 15 = .ok (.getfield 118, 3) := by decide +kernel
theorem dX10_image_18 : decode cX10_image 18 = .ok (.putfield 362, 3) := by decide +kernel
theorem dX10_image_21 : decode cX10_image 21 = .ok (.aload_n 0, 1) := by decide +kernel
theorem dX10_image_22 : decode cX10_image 22 = .ok (.aload_n 0, 1) := by decide +kernel
theorem dX10_image_23 : decode cX10_image 23 = .ok (.getfield 309, 3) := by decide +kernel
theorem dX10_image_26 : decode cX10_image 26 = .ok (.putfield 365, 3) := by decide +kernel
theorem dX10_image_29 : decode cX10_image 29 = .ok (.iconst 0, 1) := by decide +kernel
theorem dX10_image_30 : decode cX10_image 30 = .ok (.istore_n 1, 1) := by decide +kernel
theorem dX10_image_31 : decode cX10_image 31 = .ok (.iload_n 1, 1) := by decide +kernel
theorem dX10_image_32 : decode cX10_image 32 = .ok (.iconst 3, 1) := by decide +kernel
theorem dX10_image_33 : decode cX10_image 33 = .ok (.aload_n 0, 1) := by decide +kernel
theorem dX10_image_34 : decode cX10_image 34 = .ok (.getfield 111, 3) := by decide +kernel
theorem dX10_image_37 : decode cX10_image 37 = .ok (.imul, 1) := by decide +kernel
theorem dX10_image_38 : decode cX10_image 38 = .ok (.if_icmp .ge 21, 3) := by decide +kernel
theorem dX10_image_41 : decode cX10_image 41 = .ok (.aload_n 0, 1) := by decide +kernel
theorem dX10_image_42 : decode cX10_image 42 = .ok (.getfield 68, 3) := by decide +kernel
theorem dX10_image_45 : decode cX10_image 45 = .ok (.iload_n 1, 1) := by decide +kernel
theorem dX10_image_46 : decode cX10_image 46 = .ok (.aload_n 0, 1) := by decide +kernel
theorem dX10_image_47 : decode cX10_image 47 = .ok (.getfield 29, 3) := by decide +kernel
theorem dX10_image_50 : decode cX10_image 50 = .ok (.iload_n 1, 1) := by decide +kernel
theorem dX10_image_51 : decode cX10_image 51 = .ok (.iaload, 1) := by decide +kernel
theorem dX10_image_52 : decode cX10_image 52 = .ok (.iastore, 1) := by decide +kernel
theorem dX10_image_53 : decode cX10_image 53 = .ok (.iinc 1 1, 3) := by decide +kernel
theorem dX10_image_56 : decode cX10_image 56 = .ok (.goto (-25), 3) := by decide +kernel
theorem dX10_image_59 : decode cX10_image 59 = .ok (.iconst 0, 1) := by decide +kernel
theorem dX10_image_60 : decode cX10_image 60 = .ok (.istore_n 1, 1) := by decide +kernel
theorem dX10_image_61 : decode cX10_image 61 = .ok (.iload_n 1, 1) := by decide +kernel
theorem dX10_image_62 : decode cX10_image 62 = .ok (.aload_n 0, 1) := by decide +kernel
theorem dX10_image_63 : decode cX10_image 63 = .ok (.getfield 118, 3) := by decide +kernel
theorem dX10_image_66 : decode cX10_image 66 = .ok (.if_icmp .ge 33, 3) := by decide +kernel
theorem dX10_image_69 : decode cX10_image 69 = .ok (.aload_n 0, 1) := by decide +kernel
theorem dX10_image_70 : decode cX10_image 70 = .ok (.getfield 71, 3) := by decide +kernel
theorem dX10_image_73 : decode cX10_image 73 = .ok (.iload_n 1, 1) := by decide +kernel
theorem dX10_image_74 : decode cX10_image 74 = .ok (.aload_n 0, 1) := by decide +kernel
theorem dX10_image_75 : decode cX10_image 75 = .ok (.getfield 53, 3) := by decide +kernel
theorem dX10_image_78 : decode cX10_image 78 = .ok (.iload_n 1, 1) := by decide +kernel
theorem dX10_image_79 : decode cX10_image 79 = .ok (.iaload, 1) := by decide +kernel
theorem dX10_image_80 : decode cX10_image 80 = .ok (.iastore, 1) := by decide +kernel
theorem dX10_image_81 : decode cX10_image 81 = .ok (.aload_n 0, 1) := by decide +kernel
theorem dX10_image_82 : decode cX10_image 82 = .ok (.getfield 74, 3) := by decide +kernel
theorem dX10_image_85 : decode cX10_image 85 = .ok (.iload_n 1, 1) := by decide +kernel
theorem dX10_image_86 : decode cX10_image 86 = .ok (.aload_n 0, 1) := by decide +kernel
theorem dX10_image_87 : decode cX10_image 87 = .ok (.getfield 56, 3) := by decide +kernel
theorem dX10_image_90 : decode cX10_image 90 = .ok (.iload_n 1, 1) := by decide +kernel
theorem dX10_image_91 : decode cX10_image 91 = .ok (.iaload, 1) := by decide +kernel
theorem dX10_image_92 : decode cX10_image 92 = .ok (.iastore, 1) := by decide +kernel
theorem dX10_image_93 : decode cX10_image 93 = .ok (.iinc 1 1, 3) := by decide +kernel
theorem dX10_image_96 : decode cX10_image 96 = .ok (.goto (-35), 3) := by decide +kernel
theorem dX10_image_99 : decode cX10_image 99 = .ok (.aload_n 0, 1) := by decide +kernel
theorem dX10_image_100 : decode cX10_image 100 = .ok (.getfield 118, 3) := by decide +kernel
theorem dX10_image_103 : decode cX10_image 103 = .ok (.ireturn, 1) := by decide +kernel
theorem dX10_back_0 : decode cX10_back 0 = .ok (.aload_n 0, 1) := by decide +kernel
theorem dX10_back_1 : decode cX10_back 1 = .ok (.getfield 356, 3) := by decide +kernel
theorem dX10_back_4 : decode cX10_back 4 = .ok (.ifCond .ne 6, 3) := by decide +kernel
theorem dX10_back_7 : decode cX10_back 7 = .ok (.bipush (-3), 2) := by decide +kernel
theorem dX10_back_9 : decode cX10_back 9 = .ok (.ireturn, 1) := by decide +kernel
theorem dX10_back_10 : decode cX10_back 10 = .ok (.aload_n 0, 1) := by decide +kernel
theorem dX10_back_11 : decode cX10_back 11 = .ok (.aload_n 0, 1) := by decide +kernel
theorem dX10_back_12 : decode cX10_back 12 = .ok (.getfield 365, 3) := by decide +kernel
theorem dX10_back_15 : decode cX10_back 15 = .ok (.putfield 309, 3) := by decide +kernel
theorem dX10_back_18 : decode cX10_back 18 = .ok (.iconst 0, 1) := by decide +kernel
theorem dX10_back_19 : decode cX10_back 19 = .ok (.istore_n 1, 1) := by decide +kernel
theorem dX10_back_20 : decode cX10_back 20 = .ok (.iload_n 1, 1) := by decide +kernel
theorem dX10_back_21 : decode cX10_back 21 = .ok (.iconst 3, 1) := by decide +kernel
theorem dX10_back_22 : decode cX10_back 22 = .ok (.aload_n 0, 1) := by decide +kernel
theorem dX10_back_23 : decode cX10_back 23 = .ok (.getfield 359, 3) := by decide +kernel
theorem dX10_back_26 : decode cX10_back 26 = .ok (.imul, 1) := by decide +kernel
theorem dX10_back_27 : decode cX10_back 27 = .ok (.if_icmp .ge 21, 3) := by decide +kernel
theorem dX10_back_30 : decode cX10_back 30 = .ok (.aload_n 0, 1) := by decide +kernel
theorem dX10_back_31 : decode cX10_back 31 = .ok (.getfield 29, 3) := by decide +kernel
theorem dX10_back_34 : decode cX10_back 34 = .ok (.iload_n 1, 1) := by decide +kernel
theorem dX10_back_35 : decode cX10_back 35 = .ok (.aload_n 0, 1) := by decide +kernel
theorem dX10_back_36 : decode cX10_back 36 = .ok (.getfield 68, 3) := by decide +kernel
theorem dX10_back_39 : decode cX10_back 39 = .ok (.iload_n 1, 1) := by decide +kernel
theorem dX10_back_40 : decode cX10_back 40 = .ok (.iaload, 1) := by decide +kernel
theorem dX10_back_41 : decode cX10_back 41 = .ok (.iastore, 1) := by decide +kernel
theorem dX10_back_42 : decode cX10_back 42 = .ok (.iinc 1 1, 3) := by decide +kernel
theorem dX10_back_45 : decode cX10_back 45 = .ok (.goto (-25), 3) := by decide +kernel
theorem dX10_back_48 : decode cX10_back 48 = .ok (.iconst 0, 1) := by decide +kernel
theorem dX10_back_49 : decode cX10_back 49 = .ok (.istore_n 1, 1) := by decide +kernel
theorem dX10_back_50 : decode cX10_back 50 = .ok (.iload_n 1, 1) := by decide +kernel
theorem dX10_back_51 : decode cX10_back 51 = .ok (.aload_n 0, 1) := by decide +kernel
theorem dX10_back_52 : decode cX10_back 52 = .ok (.getfield 362, 3) := by decide +kernel
theorem dX10_back_55 : decode cX10_back 55 = .ok (.if_icmp .ge 33, 3) := by decide +kernel
theorem dX10_back_58 : decode cX10_back 58 = .ok (.aload_n 0, 1) := by decide +kernel
theorem dX10_back_59 : decode cX10_back 59 = .ok (.getfield 53, 3) := by decide +kernel
theorem dX10_back_62 : decode cX10_back 62 = .ok (.iload_n 1, 1) := by decide +kernel
theorem dX10_back_63 : decode cX10_back 63 = .ok (.aload_n 0, 1) := by decide +kernel
theorem dX10_back_64 : decode cX10_back 64 = .ok (.getfield 71, 3) := by decide +kernel
theorem dX10_back_67 : decode cX10_back 67 = .ok (.iload_n 1, 1) := by decide +kernel
theorem dX10_back_68 : decode cX10_back 68 = .ok (.iaload, 1) := by decide +kernel
theorem dX10_back_69 : decode cX10_back 69 = .ok (.iastore, 1) := by decide +kernel
theorem dX10_back_70 : decode cX10_back 70 = .ok (.aload_n 0, 1) := by decide +kernel
theorem dX10_back_71 : decode cX10_back 71 = .ok (.getfield 56, 3) := by decide +kernel
theorem dX10_back_74 : decode cX10_back 74 = .ok (.iload_n 1, 1) := by decide +kernel
theorem dX10_back_75 : decode cX10_back 75 = .ok (.aload_n 0, 1) := by decide +kernel
theorem dX10_back_76 : decode cX10_back 76 = .ok (.getfield 74, 3) := by decide +kernel
theorem dX10_back_79 : decode cX10_back 79 = .ok (.iload_n 1, 1) := by decide +kernel
theorem dX10_back_80 : decode cX10_back 80 = .ok (.iaload, 1) := by decide +kernel
theorem dX10_back_81 : decode cX10_back 81 = .ok (.iastore, 1) := by decide +kernel
theorem dX10_back_82 : decode cX10_back 82 = .ok (.iinc 1 1, 3) := by decide +kernel
theorem dX10_back_85 : decode cX10_back 85 = .ok (.goto (-35), 3) := by decide +kernel
theorem dX10_back_88 : decode cX10_back 88 = .ok (.aload_n 0, 1) := by decide +kernel
theorem dX10_back_89 : decode cX10_back 89 = .ok (.getfield 118, 3) := by decide +kernel
theorem dX10_back_92 : decode cX10_back 92 = .ok (.ireturn, 1) := by decide +kernel
theorem dX10_count_0 : decode cX10_count 0 = .ok (.iconst 0, 1) := by decide +kernel
theorem dX10_count_1 : decode cX10_count 1 = .ok (.istore_n 2, 1) := by decide +kernel
theorem dX10_count_2 : decode cX10_count 2 = .ok (.iload_n 1, 1) := by decide +kernel
theorem dX10_count_3 : decode cX10_count 3 = .ok (.tableswitch 129 0 6 #[41, 46, 51, 56, 61, 66, 102], 41) := by decide +kernel
theorem dX10_count_44 : decode cX10_count 44 = .ok (.aload_n 0, 1) := by decide +kernel
theorem dX10_count_45 : decode cX10_count 45 = .ok (.getfield 111, 3) := by decide +kernel
theorem dX10_count_48 : decode cX10_count 48 = .ok (.ireturn, 1) := by decide +kernel
theorem dX10_count_49 : decode cX10_count 49 = .ok (.aload_n 0, 1) := by decide +kernel
theorem dX10_count_50 : decode cX10_count 50 = .ok (.getfield 118, 3) := by decide +kernel
theorem dX10_count_53 : decode cX10_count 53 = .ok (.ireturn, 1) := by decide +kernel
theorem dX10_count_54 : decode cX10_count 54 = .ok (.aload_n 0, 1) := by decide +kernel
theorem dX10_count_55 : decode cX10_count 55 = .ok (.getfield 106, 3) := by decide +kernel
theorem dX10_count_58 : decode cX10_count 58 = .ok (.ireturn, 1) := by decide +kernel
theorem dX10_count_59 : decode cX10_count 59 = .ok (.aload_n 0, 1) := by decide +kernel
theorem dX10_count_60 : decode cX10_count 60 = .ok (.getfield 176, 3) := by decide +kernel
theorem dX10_count_63 : decode cX10_count 63 = .ok (.ireturn, 1) := by decide +kernel
theorem dX10_count_64 : decode cX10_count 64 = .ok (.aload_n 0, 1) := by decide +kernel
theorem dX10_count_65 : decode cX10_count 65 = .ok (.getfield 309, 3) := by decide +kernel
theorem dX10_count_68 : decode cX10_count 68 = .ok (.ireturn, 1) := by decide +kernel
theorem dX10_count_69 : decode cX10_count 69 = .ok (.iconst 0, 1) := by decide +kernel
theorem dX10_count_70 : decode cX10_count 70 = .ok (.istore_n 3, 1) := by decide +kernel
theorem dX10_count_71 : decode cX10_count 71 = .ok (.iload_n 3, 1) := by decide +kernel
theorem dX10_count_72 : decode cX10_count 72 = .ok (.aload_n 0, 1) := by decide +kernel
theorem dX10_count_73 : decode cX10_count 73 = .ok (.getfield 118, 3) := by decide +kernel
theorem dX10_count_76 : decode cX10_count 76 = .ok (.if_icmp .ge 27, 3) := by decide +kernel
theorem dX10_count_79 : decode cX10_count 79 = .ok (.iload_n 2, 1) := by decide +kernel
theorem dX10_count_80 : decode cX10_count 80 = .ok (.aload_n 0, 1) := by decide +kernel
theorem dX10_count_81 : decode cX10_count 81 = .ok (.getfield 53, 3) := by decide +kernel
theorem dX10_count_84 : decode cX10_count 84 = .ok (.iload_n 3, 1) := by decide +kernel
theorem dX10_count_85 : decode cX10_count 85 = .ok (.iaload, 1) := by decide +kernel
theorem dX10_count_86 : decode cX10_count 86 = .ok (.iconst (-1), 1) := by decide +kernel
theorem dX10_count_87 : decode cX10_count 87 = .ok (.if_icmp .eq 7, 3) := by decide +kernel
theorem dX10_count_90 : decode cX10_count 90 = .ok (.iconst 1, 1) := by decide +kernel
theorem dX10_count_91 : decode cX10_count 91 = .ok (.goto 4, 3) := by decide +kernel
theorem dX10_count_94 : decode cX10_count 94 = .ok (.iconst 0, 1) := by decide +kernel
theorem dX10_count_95 : decode cX10_count 95 = .ok (.iadd, 1) := by decide +kernel
theorem dX10_count_96 : decode cX10_count 96 = .ok (.istore_n 2, 1) := by decide +kernel
theorem dX10_count_97 : decode cX10_count 97 = .ok (.iinc 3 1, 3) := by decide +kernel
theorem dX10_count_100 : decode cX10_count 100 = .ok (.goto (-29), 3) := by decide +kernel
theorem dX10_count_103 : decode cX10_count 103 = .ok (.iload_n 2, 1) := by decide +kernel
theorem dX10_count_104 : decode cX10_count 104 = .ok (.ireturn, 1) := by decide +kernel
theorem dX10_count_105 : decode cX10_count 105 = .ok (.iconst 0, 1) := by decide +kernel
theorem dX10_count_106 : decode cX10_count 106 = .ok (.istore_n 3, 1) := by decide +kernel
theorem dX10_count_107 : decode cX10_count 107 = .ok (.iload_n 3, 1) := by decide +kernel
theorem dX10_count_108 : decode cX10_count 108 = .ok (.aload_n 0, 1) := by decide +kernel
theorem dX10_count_109 : decode cX10_count 109 = .ok (.getfield 118, 3) := by decide +kernel
theorem dX10_count_112 : decode cX10_count 112 = .ok (.if_icmp .ge 18, 3) := by decide +kernel
theorem dX10_count_115 : decode cX10_count 115 = .ok (.iload_n 2, 1) := by decide +kernel
theorem dX10_count_116 : decode cX10_count 116 = .ok (.aload_n 0, 1) := by decide +kernel
theorem dX10_count_117 : decode cX10_count 117 = .ok (.getfield 56, 3) := by decide +kernel
theorem dX10_count_120 : decode cX10_count 120 = .ok (.iload_n 3, 1) := by decide +kernel
theorem dX10_count_121 : decode cX10_count 121 = .ok (.iaload, 1) := by decide +kernel
theorem dX10_count_122 : decode cX10_count 122 = .ok (.iadd, 1) := by decide +kernel
theorem dX10_count_123 : decode cX10_count 123 = .ok (.istore_n 2, 1) := by decide +kernel
theorem dX10_count_124 : decode cX10_count 124 = .ok (.iinc 3 1, 3) := by decide +kernel
theorem dX10_count_127 : decode cX10_count 127 = .ok (.goto (-20), 3) := by decide +kernel
theorem dX10_count_130 : decode cX10_count 130 = .ok (.iload_n 2, 1) := by decide +kernel
theorem dX10_count_131 : decode cX10_count 131 = .ok (.ireturn, 1) := by decide +kernel
theorem dX10_count_132 : decode cX10_count 132 = .ok (.bipush (-2), 2) := by decide +kernel
theorem dX10_count_134 : decode cX10_count 134 = .ok (.ireturn, 1) := by decide +kernel
theorem dX10_isSheet_0 : decode cX10_isSheet 0 = .ok (.iload_n 0, 1) := by decide +kernel
theorem dX10_isSheet_1 : decode cX10_isSheet 1 = .ok (.i2l, 1) := by decide +kernel
theorem dX10_isSheet_2 : decode cX10_isSheet 2 = .ok (.lconst 0, 1) := by decide +kernel
theorem dX10_isSheet_3 : decode cX10_isSheet 3 = .ok (.ldc2_w 368, 3) := by decide +kernel
theorem dX10_isSheet_6 : decode cX10_isSheet 6 = .ok (.invokestatic 114, 3) := by decide +kernel
theorem dX10_isSheet_9 : decode cX10_isSheet 9 = .ok (.ireturn, 1) := by decide +kernel
theorem dX10_sheet_0 : decode cX10_sheet 0 = .ok (.iload_n 1, 1) := by decide +kernel
theorem dX10_sheet_1 : decode cX10_sheet 1 = .ok (.invokestatic 370, 3) := by decide +kernel
theorem dX10_sheet_4 : decode cX10_sheet 4 = .ok (.ifCond .eq 27, 3) := by decide +kernel
theorem dX10_sheet_7 : decode cX10_sheet 7 = .ok (.iload_n 2, 1) := by decide +kernel
theorem dX10_sheet_8 : decode cX10_sheet 8 = .ok (.i2l, 1) := by decide +kernel
theorem dX10_sheet_9 : decode cX10_sheet 9 = .ok (.ldc2_w 134, 3) := by decide +kernel
theorem dX10_sheet_12 : decode cX10_sheet 12 = .ok (.ldc2_w 132, 3) := by decide +kernel
theorem dX10_sheet_15 : decode cX10_sheet 15 = .ok (.invokestatic 114, 3) := by decide +kernel
theorem dX10_sheet_18 : decode cX10_sheet 18 = .ok (.ifCond .eq 13, 3) := by decide +kernel
theorem dX10_sheet_21 : decode cX10_sheet 21 = .ok (.iload_n 2, 1) := by decide +kernel
theorem dX10_sheet_22 : decode cX10_sheet 22 = .ok (.ifCond .lt 12, 3) := by decide +kernel
theorem dX10_sheet_25 : decode cX10_sheet 25 = .ok (.iload_n 3, 1) := by decide +kernel
theorem dX10_sheet_26 : decode cX10_sheet 26 = .ok (.bipush 40, 2) := by decide +kernel
theorem dX10_sheet_28 : decode cX10_sheet 28 = .ok (.if_icmp .le 6, 3) := by decide +kernel
theorem dX10_sheet_31 : decode cX10_sheet 31 = .ok (.bipush (-2), 2) := by decide +kernel
theorem dX10_sheet_33 : decode cX10_sheet 33 = .ok (.ireturn, 1) := by decide +kernel
theorem dX10_sheet_34 : decode cX10_sheet 34 = .ok (.iload_n 2, 1) := by decide +kernel
theorem dX10_sheet_35 : decode cX10_sheet 35 = .ok (.ifCond .lt 10, 3) := by decide +kernel
theorem dX10_sheet_38 : decode cX10_sheet 38 = .ok (.iload_n 3, 1) := by decide +kernel
theorem dX10_sheet_39 : decode cX10_sheet 39 = .ok (.ifCond .ge 6, 3) := by decide +kernel
theorem dX10_sheet_42 : decode cX10_sheet 42 = .ok (.bipush (-14), 2) := by decide +kernel
theorem dX10_sheet_44 : decode cX10_sheet 44 = .ok (.ireturn, 1) := by decide +kernel
theorem dX10_sheet_45 : decode cX10_sheet 45 = .ok (.aload_n 0, 1) := by decide +kernel
theorem dX10_sheet_46 : decode cX10_sheet 46 = .ok (.getfield 77, 3) := by decide +kernel
theorem dX10_sheet_49 : decode cX10_sheet 49 = .ok (.iload_n 1, 1) := by decide +kernel
theorem dX10_sheet_50 : decode cX10_sheet 50 = .ok (.iload_n 2, 1) := by decide +kernel
theorem dX10_sheet_51 : decode cX10_sheet 51 = .ok (.ifCond .lt 7, 3) := by decide +kernel
theorem dX10_sheet_54 : decode cX10_sheet 54 = .ok (.iconst 1, 1) := by decide +kernel
theorem dX10_sheet_55 : decode cX10_sheet 55 = .ok (.goto 4, 3) := by decide +kernel
theorem dX10_sheet_58 : decode cX10_sheet 58 = .ok (.iconst 0, 1) := by decide +kernel
theorem dX10_sheet_59 : decode cX10_sheet 59 = .ok (.bastore, 1) := by decide +kernel
theorem dX10_sheet_60 : decode cX10_sheet 60 = .ok (.aload_n 0, 1) := by decide +kernel
theorem dX10_sheet_61 : decode cX10_sheet 61 = .ok (.getfield 81, 3) := by decide +kernel
theorem dX10_sheet_64 : decode cX10_sheet 64 = .ok (.iload_n 1, 1) := by decide +kernel
theorem dX10_sheet_65 : decode cX10_sheet 65 = .ok (.iload_n 2, 1) := by decide +kernel
theorem dX10_sheet_66 : decode cX10_sheet 66 = .ok (.iastore, 1) := by decide +kernel
theorem dX10_sheet_67 : decode cX10_sheet 67 = .ok (.aload_n 0, 1) := by decide +kernel
theorem dX10_sheet_68 : decode cX10_sheet 68 = .ok (.getfield 84, 3) := by decide +kernel
theorem dX10_sheet_71 : decode cX10_sheet 71 = .ok (.iload_n 1, 1) := by decide +kernel
theorem dX10_sheet_72 : decode cX10_sheet 72 = .ok (.iload_n 3, 1) := by decide +kernel
theorem dX10_sheet_73 : decode cX10_sheet 73 = .ok (.iastore, 1) := by decide +kernel
theorem dX10_sheet_74 : decode cX10_sheet 74 = .ok (.iconst 0, 1) := by decide +kernel
theorem dX10_sheet_75 : decode cX10_sheet 75 = .ok (.istore 4, 2) := by decide +kernel
theorem dX10_sheet_77 : decode cX10_sheet 77 = .ok (.iload 4, 2) := by decide +kernel
theorem dX10_sheet_79 : decode cX10_sheet 79 = .ok (.iload_n 3, 1) := by decide +kernel
theorem dX10_sheet_80 : decode cX10_sheet 80 = .ok (.if_icmp .ge 26, 3) := by decide +kernel
theorem dX10_sheet_83 : decode cX10_sheet 83 = .ok (.iload_n 2, 1) := by decide +kernel
theorem dX10_sheet_84 : decode cX10_sheet 84 = .ok (.ifCond .lt 22, 3) := by decide +kernel
theorem dX10_sheet_87 : decode cX10_sheet 87 = .ok (.aload_n 0, 1) := by decide +kernel
theorem dX10_sheet_88 : decode cX10_sheet 88 = .ok (.getfield 87, 3) := by decide +kernel
theorem dX10_sheet_91 : decode cX10_sheet 91 = .ok (.bipush 40, 2) := by decide +kernel
theorem dX10_sheet_93 : decode cX10_sheet 93 = .ok (.iload_n 1, 1) := by decide +kernel
theorem dX10_sheet_94 : decode cX10_sheet 94 = .ok (.imul, 1) := by decide +kernel
theorem dX10_sheet_95 : decode cX10_sheet 95 = .ok (.iload 4, 2) := by decide +kernel
theorem dX10_sheet_97 : decode cX10_sheet 97 = .ok (.iadd, 1) := by decide +kernel
theorem dX10_sheet_98 : decode cX10_sheet 98 = .ok (.iconst 0, 1) := by decide +kernel
theorem dX10_sheet_99 : decode cX10_sheet 99 = .ok (.iastore, 1) := by decide +kernel
theorem dX10_sheet_100 : decode cX10_sheet 100 = .ok (.iinc 4 1, 3) := by decide +kernel
theorem dX10_sheet_103 : decode cX10_sheet 103 = .ok (.goto (-26), 3) := by decide +kernel
theorem dX10_sheet_106 : decode cX10_sheet 106 = .ok (.iconst 1, 1) := by decide +kernel
theorem dX10_sheet_107 : decode cX10_sheet 107 = .ok (.ireturn, 1) := by decide +kernel
theorem dX10_cell_0 : decode cX10_cell 0 = .ok (.iload_n 1, 1) := by decide +kernel
theorem dX10_cell_1 : decode cX10_cell 1 = .ok (.invokestatic 370, 3) := by decide +kernel
theorem dX10_cell_4 : decode cX10_cell 4 = .ok (.ifCond .ne 6, 3) := by decide +kernel
theorem dX10_cell_7 : decode cX10_cell 7 = .ok (.bipush (-2), 2) := by decide +kernel
theorem dX10_cell_9 : decode cX10_cell 9 = .ok (.ireturn, 1) := by decide +kernel
theorem dX10_cell_10 : decode cX10_cell 10 = .ok (.aload_n 0, 1) := by decide +kernel
theorem dX10_cell_11 : decode cX10_cell 11 = .ok (.getfield 77, 3) := by decide +kernel
theorem dX10_cell_14 : decode cX10_cell 14 = .ok (.iload_n 1, 1) := by decide +kernel
theorem dX10_cell_15 : decode cX10_cell 15 = .ok (.baload, 1) := by decide +kernel
theorem dX10_cell_16 : decode cX10_cell 16 = .ok (.ifCond .ne 6, 3) := by decide +kernel
theorem dX10_cell_19 : decode cX10_cell 19 = .ok (.bipush (-11), 2) := by decide +kernel
theorem dX10_cell_21 : decode cX10_cell 21 = .ok (.ireturn, 1) := by decide +kernel
theorem dX10_cell_22 : decode cX10_cell 22 = .ok (.iload_n 2, 1) := by decide +kernel
theorem dX10_cell_23 : decode cX10_cell 23 = .ok (.i2l, 1) := by decide +kernel
theorem dX10_cell_24 : decode cX10_cell 24 = .ok (.lconst 0, 1) := by decide +kernel
theorem dX10_cell_25 : decode cX10_cell 25 = .ok (.aload_n 0, 1) := by decide +kernel
theorem dX10_cell_26 : decode cX10_cell 26 = .ok (.getfield 84, 3) := by decide +kernel
theorem dX10_cell_29 : decode cX10_cell 29 = .ok (.iload_n 1, 1) := by decide +kernel
theorem dX10_cell_30 : decode cX10_cell 30 = .ok (.iaload, 1) := by decide +kernel
theorem dX10_cell_31 : decode cX10_cell 31 = .ok (.iconst 1, 1) := by decide +kernel
theorem dX10_cell_32 : decode cX10_cell 32 = .ok (.isub, 1) := by decide +kernel
theorem dX10_cell_33 : decode cX10_cell 33 = .ok (.i2l, 1) := by decide +kernel
theorem dX10_cell_34 : decode cX10_cell 34 = .ok (.invokestatic 114, 3) := by decide +kernel
theorem dX10_cell_37 : decode cX10_cell 37 = .ok (.ifCond .ne 6, 3) := by decide +kernel
theorem dX10_cell_40 : decode cX10_cell 40 = .ok (.bipush (-12), 2) := by decide +kernel
theorem dX10_cell_42 : decode cX10_cell 42 = .ok (.ireturn, 1) := by decide +kernel
theorem dX10_cell_43 : decode cX10_cell 43 = .ok (.aload_n 0, 1) := by decide +kernel
theorem dX10_cell_44 : decode cX10_cell 44 = .ok (.getfield 87, 3) := by decide +kernel
theorem dX10_cell_47 : decode cX10_cell 47 = .ok (.bipush 40, 2) := by decide +kernel
theorem dX10_cell_49 : decode cX10_cell 49 = .ok (.iload_n 1, 1) := by decide +kernel
theorem dX10_cell_50 : decode cX10_cell 50 = .ok (.imul, 1) := by decide +kernel
theorem dX10_cell_51 : decode cX10_cell 51 = .ok (.iload_n 2, 1) := by decide +kernel
theorem dX10_cell_52 : decode cX10_cell 52 = .ok (.iadd, 1) := by decide +kernel
theorem dX10_cell_53 : decode cX10_cell 53 = .ok (.aload_n 0, 1) := by decide +kernel
theorem dX10_cell_54 : decode cX10_cell 54 = .ok (.getfield 81, 3) := by decide +kernel
theorem dX10_cell_57 : decode cX10_cell 57 = .ok (.iload_n 1, 1) := by decide +kernel
theorem dX10_cell_58 : decode cX10_cell 58 = .ok (.iaload, 1) := by decide +kernel
theorem dX10_cell_59 : decode cX10_cell 59 = .ok (.ifCond .ne 8, 3) := by decide +kernel
theorem dX10_cell_62 : decode cX10_cell 62 = .ok (.iload_n 3, 1) := by decide +kernel
theorem dX10_cell_63 : decode cX10_cell 63 = .ok (.i2b, 1) := by decide +kernel
theorem dX10_cell_64 : decode cX10_cell 64 = .ok (.goto 19, 3) := by decide +kernel
theorem dX10_cell_67 : decode cX10_cell 67 = .ok (.aload_n 0, 1) := by decide +kernel
theorem dX10_cell_68 : decode cX10_cell 68 = .ok (.getfield 81, 3) := by decide +kernel
theorem dX10_cell_71 : decode cX10_cell 71 = .ok (.iload_n 1, 1) := by decide +kernel
theorem dX10_cell_72 : decode cX10_cell 72 = .ok (.iaload, 1) := by decide +kernel
theorem dX10_cell_73 : decode cX10_cell 73 = .ok (.iconst 1, 1) := by decide +kernel
theorem dX10_cell_74 : decode cX10_cell 74 = .ok (.if_icmp .ne 8, 3) := by decide +kernel
theorem dX10_cell_77 : decode cX10_cell 77 = .ok (.iload_n 3, 1) := by decide +kernel
theorem dX10_cell_78 : decode cX10_cell 78 = .ok (.i2s, 1) := by decide +kernel
theorem dX10_cell_79 : decode cX10_cell 79 = .ok (.goto 4, 3) := by decide +kernel
theorem dX10_cell_82 : decode cX10_cell 82 = .ok (.iload_n 3, 1) := by decide +kernel
theorem dX10_cell_83 : decode cX10_cell 83 = .ok (.iastore, 1) := by decide +kernel
theorem dX10_cell_84 : decode cX10_cell 84 = .ok (.iconst 1, 1) := by decide +kernel
theorem dX10_cell_85 : decode cX10_cell 85 = .ok (.ireturn, 1) := by decide +kernel
theorem dX10_copy_0 : decode cX10_copy 0 = .ok (.iload_n 1, 1) := by decide +kernel
theorem dX10_copy_1 : decode cX10_copy 1 = .ok (.invokestatic 370, 3) := by decide +kernel
theorem dX10_copy_4 : decode cX10_copy 4 = .ok (.ifCond .eq 10, 3) := by decide +kernel
theorem dX10_copy_7 : decode cX10_copy 7 = .ok (.iload_n 3, 1) := by decide +kernel
theorem dX10_copy_8 : decode cX10_copy 8 = .ok (.invokestatic 370, 3) := by decide +kernel
theorem dX10_copy_11 : decode cX10_copy 11 = .ok (.ifCond .ne 6, 3) := by decide +kernel
theorem dX10_copy_14 : decode cX10_copy 14 = .ok (.bipush (-2), 2) := by decide +kernel
theorem dX10_copy_16 : decode cX10_copy 16 = .ok (.ireturn, 1) := by decide +kernel
theorem dX10_copy_17 : decode cX10_copy 17 = .ok (.aload_n 0, 1) := by decide +kernel
theorem dX10_copy_18 : decode cX10_copy 18 = .ok (.getfield 77, 3) := by decide +kernel
theorem dX10_copy_21 : decode cX10_copy 21 = .ok (.iload_n 1, 1) := by decide +kernel
theorem dX10_copy_22 : decode cX10_copy 22 = .ok (.baload, 1) := by decide +kernel
theorem dX10_copy_23 : decode cX10_copy 23 = .ok (.ifCond .eq 12, 3) := by decide +kernel
theorem dX10_copy_26 : decode cX10_copy 26 = .ok (.aload_n 0, 1) := by decide +kernel
theorem dX10_copy_27 : decode cX10_copy 27 = .ok (.getfield 77, 3) := by decide +kernel
theorem dX10_copy_30 : decode cX10_copy 30 = .ok (.iload_n 3, 1) := by decide +kernel
theorem dX10_copy_31 : decode cX10_copy 31 = .ok (.baload, 1) := by decide +kernel
theorem dX10_copy_32 : decode cX10_copy 32 = .ok (.ifCond .ne 6, 3) := by decide +kernel
theorem dX10_copy_35 : decode cX10_copy 35 = .ok (.bipush (-11), 2) := by decide +kernel
theorem dX10_copy_37 : decode cX10_copy 37 = .ok (.ireturn, 1) := by decide +kernel
theorem dX10_copy_38 : decode cX10_copy 38 = .ok (.aload_n 0, 1) := by decide +kernel
theorem dX10_copy_39 : decode cX10_copy 39 = .ok (.getfield 81, 3) := by decide +kernel
theorem dX10_copy_42 : decode cX10_copy 42 = .ok (.iload_n 1, 1) := by decide +kernel
theorem dX10_copy_43 : decode cX10_copy 43 = .ok (.iaload, 1) := by decide +kernel
theorem dX10_copy_44 : decode cX10_copy 44 = .ok (.aload_n 0, 1) := by decide +kernel
theorem dX10_copy_45 : decode cX10_copy 45 = .ok (.getfield 81, 3) := by decide +kernel
theorem dX10_copy_48 : decode cX10_copy 48 = .ok (.iload_n 3, 1) := by decide +kernel
theorem dX10_copy_49 : decode cX10_copy 49 = .ok (.iaload, 1) := by decide +kernel
theorem dX10_copy_50 : decode cX10_copy 50 = .ok (.if_icmp .eq 6, 3) := by decide +kernel
theorem dX10_copy_53 : decode cX10_copy 53 = .ok (.bipush (-13), 2) := by decide +kernel
theorem dX10_copy_55 : decode cX10_copy 55 = .ok (.ireturn, 1) := by decide +kernel
theorem dX10_copy_56 : decode cX10_copy 56 = .ok (.iload 5, 2) := by decide +kernel
theorem dX10_copy_58 : decode cX10_copy 58 = .ok (.ifCond .lt 39, 3) := by decide +kernel
theorem dX10_copy_61 : decode cX10_copy 61 = .ok (.iload_n 2, 1) := by decide +kernel
theorem dX10_copy_62 : decode cX10_copy 62 = .ok (.ifCond .lt 35, 3) := by decide +kernel
theorem dX10_copy_65 : decode cX10_copy 65 = .ok (.iload 4, 2) := by decide +kernel
theorem dX10_copy_67 : decode cX10_copy 67 = .ok (.ifCond .lt 30, 3) := by decide +kernel
theorem dX10_copy_70 : decode cX10_copy 70 = .ok (.iload_n 2, 1) := by decide +kernel
theorem dX10_copy_71 : decode cX10_copy 71 = .ok (.aload_n 0, 1) := by decide +kernel
theorem dX10_copy_72 : decode cX10_copy 72 = .ok (.getfield 84, 3) := by decide +kernel
theorem dX10_copy_75 : decode cX10_copy 75 = .ok (.iload_n 1, 1) := by decide +kernel
theorem dX10_copy_76 : decode cX10_copy 76 = .ok (.iaload, 1) := by decide +kernel
theorem dX10_copy_77 : decode cX10_copy 77 = .ok (.iload 5, 2) := by decide +kernel
theorem dX10_copy_79 : decode cX10_copy 79 = .ok (.isub, 1) := by decide +kernel
theorem dX10_copy_80 : decode cX10_copy 80 = .ok (.if_icmp .gt 17, 3) := by decide +kernel
theorem dX10_copy_83 : decode cX10_copy 83 = .ok (.iload 4, 2) := by decide +kernel
theorem dX10_copy_85 : decode cX10_copy 85 = .ok (.aload_n 0, 1) := by decide +kernel
theorem dX10_copy_86 : decode cX10_copy 86 = .ok (.getfield 84, 3) := by decide +kernel
theorem dX10_copy_89 : decode cX10_copy 89 = .ok (.iload_n 3, 1) := by decide +kernel
theorem dX10_copy_90 : decode cX10_copy 90 = .ok (.iaload, 1) := by decide +kernel
theorem dX10_copy_91 : decode cX10_copy 91 = .ok (.iload 5, 2) := by decide +kernel
theorem dX10_copy_93 : decode cX10_copy 93 = .ok (.isub, 1) := by decide +kernel
theorem dX10_copy_94 : decode cX10_copy 94 = .ok (.if_icmp .le 6, 3) := by decide +kernel
theorem dX10_copy_97 : decode cX10_copy 97 = .ok (.bipush (-12), 2) := by decide +kernel
theorem dX10_copy_99 : decode cX10_copy 99 = .ok (.ireturn, 1) := by decide +kernel
theorem dX10_copy_100 : decode cX10_copy 100 = .ok (.iload_n 1, 1) := by decide +kernel
theorem dX10_copy_101 : decode cX10_copy 101 = .ok (.iload_n 3, 1) := by decide +kernel
theorem dX10_copy_102 : decode cX10_copy 102 = .ok (.if_icmp .ne 13, 3) := by decide +kernel
theorem dX10_copy_105 : decode cX10_copy 105 = .ok (.iload_n 2, 1) := by decide +kernel
theorem dX10_copy_106 : decode cX10_copy 106 = .ok (.iload 4, 2) := by decide +kernel
theorem dX10_copy_108 : decode cX10_copy 108 = .ok (.if_icmp .ge 7, 3) := by decide +kernel
theorem dX10_copy_111 : decode cX10_copy 111 = .ok (.iconst 1, 1) := by decide +kernel
theorem dX10_copy_112 : decode cX10_copy 112 = .ok (.goto 4, 3) := by decide +kernel
theorem dX10_copy_115 : decode cX10_copy 115 = .ok (.iconst 0, 1) := by decide +kernel
theorem dX10_copy_116 : decode cX10_copy 116 = .ok (.istore 6, 2) := by decide +kernel
theorem dX10_copy_118 : decode cX10_copy 118 = .ok (.iconst 0, 1) := by decide +kernel
theorem dX10_copy_119 : decode cX10_copy 119 = .ok (.istore 7, 2) := by decide +kernel
theorem dX10_copy_121 : decode cX10_copy 121 = .ok (.iload 7, 2) := by decide +kernel
theorem dX10_copy_123 : decode cX10_copy 123 = .ok (.iload 5, 2) := by decide +kernel
theorem dX10_copy_125 : decode cX10_copy 125 = .ok (.if_icmp .ge 57, 3) := by decide +kernel
theorem dX10_copy_128 : decode cX10_copy 128 = .ok (.iload 6, 2) := by decide +kernel
theorem dX10_copy_130 : decode cX10_copy 130 = .ok (.ifCond .eq 13, 3) := by decide +kernel
theorem dX10_copy_133 : decode cX10_copy 133 = .ok (.iload 5, 2) := by decide +kernel
theorem dX10_copy_135 : decode cX10_copy 135 = .ok (.iconst 1, 1) := by decide +kernel
theorem dX10_copy_136 : decode cX10_copy 136 = .ok (.isub, 1) := by decide +kernel
theorem dX10_copy_137 : decode cX10_copy 137 = .ok (.iload 7, 2) := by decide +kernel
theorem dX10_copy_139 : decode cX10_copy 139 = .ok (.isub, 1) := by decide +kernel
theorem dX10_copy_140 : decode cX10_copy 140 = .ok (.goto 5, 3) := by decide +kernel
theorem dX10_copy_143 : decode cX10_copy 143 = .ok (.iload 7, 2) := by decide +kernel
theorem dX10_copy_145 : decode cX10_copy 145 = .ok (.istore 8, 2) := by decide +kernel
theorem dX10_copy_147 : decode cX10_copy 147 = .ok (.aload_n 0, 1) := by decide +kernel
theorem dX10_copy_148 : decode cX10_copy 148 = .ok (.getfield 87, 3) := by decide +kernel
theorem dX10_copy_151 : decode cX10_copy 151 = .ok (.bipush 40, 2) := by decide +kernel
theorem dX10_copy_153 : decode cX10_copy 153 = .ok (.iload_n 3, 1) := by decide +kernel
theorem dX10_copy_154 : decode cX10_copy 154 = .ok (.imul, 1) := by decide +kernel
theorem dX10_copy_155 : decode cX10_copy 155 = .ok (.iload 4, 2) := by decide +kernel
theorem dX10_copy_157 : decode cX10_copy 157 = .ok (.iadd, 1) := by decide +kernel
theorem dX10_copy_158 : decode cX10_copy 158 = .ok (.iload 8, 2) := by decide +kernel
theorem dX10_copy_160 : decode cX10_copy 160 = .ok (.iadd, 1) := by decide +kernel
theorem dX10_copy_161 : decode cX10_copy 161 = .ok (.aload_n 0, 1) := by decide +kernel
theorem dX10_copy_162 : decode cX10_copy 162 = .ok (.getfield 87, 3) := by decide +kernel
theorem dX10_copy_165 : decode cX10_copy 165 = .ok (.bipush 40, 2) := by decide +kernel
theorem dX10_copy_167 : decode cX10_copy 167 = .ok (.iload_n 1, 1) := by decide +kernel
theorem dX10_copy_168 : decode cX10_copy 168 = .ok (.imul, 1) := by decide +kernel
theorem dX10_copy_169 : decode cX10_copy 169 = .ok (.iload_n 2, 1) := by decide +kernel
theorem dX10_copy_170 : decode cX10_copy 170 = .ok (.iadd, 1) := by decide +kernel
theorem dX10_copy_171 : decode cX10_copy 171 = .ok (.iload 8, 2) := by decide +kernel
theorem dX10_copy_173 : decode cX10_copy 173 = .ok (.iadd, 1) := by decide +kernel
theorem dX10_copy_174 : decode cX10_copy 174 = .ok (.iaload, 1) := by decide +kernel
theorem dX10_copy_175 : decode cX10_copy 175 = .ok (.iastore, 1) := by decide +kernel
theorem dX10_copy_176 : decode cX10_copy 176 = .ok (.iinc 7 1, 3) := by decide +kernel
theorem dX10_copy_179 : decode cX10_copy 179 = .ok (.goto (-58), 3) := by decide +kernel
theorem dX10_copy_182 : decode cX10_copy 182 = .ok (.iload 5, 2) := by decide +kernel
theorem dX10_copy_184 : decode cX10_copy 184 = .ok (.ireturn, 1) := by decide +kernel
theorem dX10_sales_0 : decode cX10_sales 0 = .ok (.iload_n 1, 1) := by decide +kernel
theorem dX10_sales_1 : decode cX10_sales 1 = .ok (.invokestatic 370, 3) := by decide +kernel
theorem dX10_sales_4 : decode cX10_sales 4 = .ok (.ifCond .eq 28, 3) := by decide +kernel
theorem dX10_sales_7 : decode cX10_sales 7 = .ok (.iload_n 2, 1) := by decide +kernel
theorem dX10_sales_8 : decode cX10_sales 8 = .ok (.i2l, 1) := by decide +kernel
theorem dX10_sales_9 : decode cX10_sales 9 = .ok (.lconst 0, 1) := by decide +kernel
theorem dX10_sales_10 : decode cX10_sales 10 = .ok (.ldc2_w 132, 3) := by decide +kernel
theorem dX10_sales_13 : decode cX10_sales 13 = .ok (.invokestatic 114, 3) := by decide +kernel
theorem dX10_sales_16 : decode cX10_sales 16 = .ok (.ifCond .eq 16, 3) := by decide +kernel
theorem dX10_sales_19 : decode cX10_sales 19 = .ok (.iload 4, 2) := by decide +kernel
theorem dX10_sales_21 : decode cX10_sales 21 = .ok (.i2l, 1) := by decide +kernel
theorem dX10_sales_22 : decode cX10_sales 22 = .ok (.lconst 0, 1) := by decide +kernel
theorem dX10_sales_23 : decode cX10_sales 23 = .ok (.ldc2_w 174, 3) := by decide +kernel
theorem dX10_sales_26 : decode cX10_sales 26 = .ok (.invokestatic 114, 3) := by decide +kernel
theorem dX10_sales_29 : decode cX10_sales 29 = .ok (.ifCond .ne 6, 3) := by decide +kernel
theorem dX10_sales_32 : decode cX10_sales 32 = .ok (.bipush (-2), 2) := by decide +kernel
theorem dX10_sales_34 : decode cX10_sales 34 = .ok (.ireturn, 1) := by decide +kernel
theorem dX10_sales_35 : decode cX10_sales 35 = .ok (.aload_n 0, 1) := by decide +kernel
theorem dX10_sales_36 : decode cX10_sales 36 = .ok (.getfield 77, 3) := by decide +kernel
theorem dX10_sales_39 : decode cX10_sales 39 = .ok (.iload_n 1, 1) := by decide +kernel
theorem dX10_sales_40 : decode cX10_sales 40 = .ok (.baload, 1) := by decide +kernel
theorem dX10_sales_41 : decode cX10_sales 41 = .ok (.ifCond .eq 16, 3) := by decide +kernel
theorem dX10_sales_44 : decode cX10_sales 44 = .ok (.aload_n 0, 1) := by decide +kernel
theorem dX10_sales_45 : decode cX10_sales 45 = .ok (.getfield 81, 3) := by decide +kernel
theorem dX10_sales_48 : decode cX10_sales 48 = .ok (.iload_n 1, 1) := by decide +kernel
theorem dX10_sales_49 : decode cX10_sales 49 = .ok (.iaload, 1) := by decide +kernel
theorem dX10_sales_50 : decode cX10_sales 50 = .ok (.iload_n 2, 1) := by decide +kernel
theorem dX10_sales_51 : decode cX10_sales 51 = .ok (.if_icmp .eq 6, 3) := by decide +kernel
theorem dX10_sales_54 : decode cX10_sales 54 = .ok (.bipush (-13), 2) := by decide +kernel
theorem dX10_sales_56 : decode cX10_sales 56 = .ok (.ireturn, 1) := by decide +kernel
theorem dX10_sales_57 : decode cX10_sales 57 = .ok (.aload_n 0, 1) := by decide +kernel
theorem dX10_sales_58 : decode cX10_sales 58 = .ok (.getfield 77, 3) := by decide +kernel
theorem dX10_sales_61 : decode cX10_sales 61 = .ok (.iload_n 1, 1) := by decide +kernel
theorem dX10_sales_62 : decode cX10_sales 62 = .ok (.baload, 1) := by decide +kernel
theorem dX10_sales_63 : decode cX10_sales 63 = .ok (.ifCond .ne 6, 3) := by decide +kernel
theorem dX10_sales_66 : decode cX10_sales 66 = .ok (.bipush (-11), 2) := by decide +kernel
theorem dX10_sales_68 : decode cX10_sales 68 = .ok (.ireturn, 1) := by decide +kernel
theorem dX10_sales_69 : decode cX10_sales 69 = .ok (.iconst 0, 1) := by decide +kernel
theorem dX10_sales_70 : decode cX10_sales 70 = .ok (.istore 5, 2) := by decide +kernel
theorem dX10_sales_72 : decode cX10_sales 72 = .ok (.iconst 0, 1) := by decide +kernel
theorem dX10_sales_73 : decode cX10_sales 73 = .ok (.istore 6, 2) := by decide +kernel
theorem dX10_sales_75 : decode cX10_sales 75 = .ok (.iload 6, 2) := by decide +kernel
theorem dX10_sales_77 : decode cX10_sales 77 = .ok (.iload 4, 2) := by decide +kernel
theorem dX10_sales_79 : decode cX10_sales 79 = .ok (.if_icmp .ge 106, 3) := by decide +kernel
theorem dX10_sales_82 : decode cX10_sales 82 = .ok (.iload_n 3, 1) := by decide +kernel
theorem dX10_sales_83 : decode cX10_sales 83 = .ok (.ifCond .lt 20, 3) := by decide +kernel
theorem dX10_sales_86 : decode cX10_sales 86 = .ok (.iload_n 3, 1) := by decide +kernel
theorem dX10_sales_87 : decode cX10_sales 87 = .ok (.aload_n 0, 1) := by decide +kernel
theorem dX10_sales_88 : decode cX10_sales 88 = .ok (.getfield 84, 3) := by decide +kernel
theorem dX10_sales_91 : decode cX10_sales 91 = .ok (.iload_n 1, 1) := by decide +kernel
theorem dX10_sales_92 : decode cX10_sales 92 = .ok (.iaload, 1) := by decide +kernel
theorem dX10_sales_93 : decode cX10_sales 93 = .ok (.iconst 5, 1) := by decide +kernel
theorem dX10_sales_94 : decode cX10_sales 94 = .ok (.iload 6, 2) := by decide +kernel
theorem dX10_sales_96 : decode cX10_sales 96 = .ok (.imul, 1) := by decide +kernel
theorem dX10_sales_97 : decode cX10_sales 97 = .ok (.isub, 1) := by decide +kernel
theorem dX10_sales_98 : decode cX10_sales 98 = .ok (.iconst 5, 1) := by decide +kernel
theorem dX10_sales_99 : decode cX10_sales 99 = .ok (.isub, 1) := by decide +kernel
theorem dX10_sales_100 : decode cX10_sales 100 = .ok (.if_icmp .le 6, 3) := by decide +kernel
theorem dX10_sales_103 : decode cX10_sales 103 = .ok (.bipush (-12), 2) := by decide +kernel
theorem dX10_sales_105 : decode cX10_sales 105 = .ok (.ireturn, 1) := by decide +kernel
theorem dX10_sales_106 : decode cX10_sales 106 = .ok (.bipush 40, 2) := by decide +kernel
theorem dX10_sales_108 : decode cX10_sales 108 = .ok (.iload_n 1, 1) := by decide +kernel
theorem dX10_sales_109 : decode cX10_sales 109 = .ok (.imul, 1) := by decide +kernel
theorem dX10_sales_110 : decode cX10_sales 110 = .ok (.iload_n 3, 1) := by decide +kernel
theorem dX10_sales_111 : decode cX10_sales 111 = .ok (.iadd, 1) := by decide +kernel
theorem dX10_sales_112 : decode cX10_sales 112 = .ok (.iconst 5, 1) := by decide +kernel
theorem dX10_sales_113 : decode cX10_sales 113 = .ok (.iload 6, 2) := by decide +kernel
theorem dX10_sales_115 : decode cX10_sales 115 = .ok (.imul, 1) := by decide +kernel
theorem dX10_sales_116 : decode cX10_sales 116 = .ok (.iadd, 1) := by decide +kernel
theorem dX10_sales_117 : decode cX10_sales 117 = .ok (.istore 7, 2) := by decide +kernel
theorem dX10_sales_119 : decode cX10_sales 119 = .ok (.iload 5, 2) := by decide +kernel
theorem dX10_sales_121 : decode cX10_sales 121 = .ok (.aload_n 0, 1) := by decide +kernel
theorem dX10_sales_122 : decode cX10_sales 122 = .ok (.aload_n 0, 1) := by decide +kernel
theorem dX10_sales_123 : decode cX10_sales 123 = .ok (.getfield 87, 3) := by decide +kernel
theorem dX10_sales_126 : decode cX10_sales 126 = .ok (.iload 7, 2) := by decide +kernel
theorem dX10_sales_128 : decode cX10_sales 128 = .ok (.iaload, 1) := by decide +kernel
theorem dX10_sales_129 : decode cX10_sales 129 = .ok (.aload_n 0, 1) := by decide +kernel
theorem dX10_sales_130 : decode cX10_sales 130 = .ok (.getfield 87, 3) := by decide +kernel
theorem dX10_sales_133 : decode cX10_sales 133 = .ok (.iload 7, 2) := by decide +kernel
theorem dX10_sales_135 : decode cX10_sales 135 = .ok (.iconst 1, 1) := by decide +kernel
theorem dX10_sales_136 : decode cX10_sales 136 = .ok (.iadd, 1) := by decide +kernel
theorem dX10_sales_137 : decode cX10_sales 137 = .ok (.iaload, 1) := by decide +kernel
theorem dX10_sales_138 : decode cX10_sales 138 = .ok (.aload_n 0, 1) := by decide +kernel
theorem dX10_sales_139 : decode cX10_sales 139 = .ok (.getfield 87, 3) := by decide +kernel
theorem dX10_sales_142 : decode cX10_sales 142 = .ok (.iload 7, 2) := by decide +kernel
theorem dX10_sales_144 : decode cX10_sales 144 = .ok (.iconst 2, 1) := by decide +kernel
theorem dX10_sales_145 : decode cX10_sales 145 = .ok (.iadd, 1) := by decide +kernel
theorem dX10_sales_146 : decode cX10_sales 146 = .ok (.iaload, 1) := by decide +kernel
theorem dX10_sales_147 : decode cX10_sales 147 = .ok (.aload_n 0, 1) := by decide +kernel
theorem dX10_sales_148 : decode cX10_sales 148 = .ok (.getfield 87, 3) := by decide +kernel
theorem dX10_sales_151 : decode cX10_sales 151 = .ok (.iload 7, 2) := by decide +kernel
theorem dX10_sales_153 : decode cX10_sales 153 = .ok (.iconst 3, 1) := by decide +kernel
theorem dX10_sales_154 : decode cX10_sales 154 = .ok (.iadd, 1) := by decide +kernel
theorem dX10_sales_155 : decode cX10_sales 155 = .ok (.iaload, 1) := by decide +kernel
theorem dX10_sales_156 : decode cX10_sales 156 = .ok (.aload_n 0, 1) := by decide +kernel
theorem dX10_sales_157 : decode cX10_sales 157 = .ok (.getfield 87, 3) := by decide +kernel
theorem dX10_sales_160 : decode cX10_sales 160 = .ok (.iload 7, 2) := by decide +kernel
theorem dX10_sales_162 : decode cX10_sales 162 = .ok (.iconst 4, 1) := by decide +kernel
theorem dX10_sales_163 : decode cX10_sales 163 = .ok (.iadd, 1) := by decide +kernel
theorem dX10_sales_164 : decode cX10_sales 164 = .ok (.iaload, 1) := by decide +kernel
theorem dX10_sales_165 : decode cX10_sales 165 = .ok (.invokevirtual 373, 3) := by decide +kernel
theorem dX10_sales_168 : decode cX10_sales 168 = .ok (.ifCond .lt 7, 3) := by decide +kernel
theorem dX10_sales_171 : decode cX10_sales 171 = .ok (.iconst 1, 1) := by decide +kernel
theorem dX10_sales_172 : decode cX10_sales 172 = .ok (.goto 4, 3) := by decide +kernel
theorem dX10_sales_175 : decode cX10_sales 175 = .ok (.iconst 0, 1) := by decide +kernel
theorem dX10_sales_176 : decode cX10_sales 176 = .ok (.iadd, 1) := by decide +kernel
theorem dX10_sales_177 : decode cX10_sales 177 = .ok (.istore 5, 2) := by decide +kernel
theorem dX10_sales_179 : decode cX10_sales 179 = .ok (.iinc 6 1, 3) := by decide +kernel
theorem dX10_sales_182 : decode cX10_sales 182 = .ok (.goto (-107), 3) := by decide +kernel
theorem dX10_sales_185 : decode cX10_sales 185 = .ok (.iload 5, 2) := by decide +kernel
theorem dX10_sales_187 : decode cX10_sales 187 = .ok (.ireturn, 1) := by decide +kernel
theorem dX10_taken_0 : decode cX10_taken 0 = .ok (.iload_n 2, 1) := by decide +kernel
theorem dX10_taken_1 : decode cX10_taken 1 = .ok (.i2l, 1) := by decide +kernel
theorem dX10_taken_2 : decode cX10_taken 2 = .ok (.lconst 0, 1) := by decide +kernel
theorem dX10_taken_3 : decode cX10_taken 3 = .ok (.ldc2_w 136, 3) := by decide +kernel
theorem dX10_taken_6 : decode cX10_taken 6 = .ok (.invokestatic 114, 3) := by decide +kernel
theorem dX10_taken_9 : decode cX10_taken 9 = .ok (.ifCond .ne 6, 3) := by decide +kernel
theorem dX10_taken_12 : decode cX10_taken 12 = .ok (.bipush (-2), 2) := by decide +kernel
theorem dX10_taken_14 : decode cX10_taken 14 = .ok (.ireturn, 1) := by decide +kernel
theorem dX10_taken_15 : decode cX10_taken 15 = .ok (.aload_n 0, 1) := by decide +kernel
theorem dX10_taken_16 : decode cX10_taken 16 = .ok (.iload_n 1, 1) := by decide +kernel
theorem dX10_taken_17 : decode cX10_taken 17 = .ok (.invokevirtual 141, 3) := by decide +kernel
theorem dX10_taken_20 : decode cX10_taken 20 = .ok (.ifCond .ne 6, 3) := by decide +kernel
theorem dX10_taken_23 : decode cX10_taken 23 = .ok (.bipush (-11), 2) := by decide +kernel
theorem dX10_taken_25 : decode cX10_taken 25 = .ok (.ireturn, 1) := by decide +kernel
theorem dX10_taken_26 : decode cX10_taken 26 = .ok (.aload_n 0, 1) := by decide +kernel
theorem dX10_taken_27 : decode cX10_taken 27 = .ok (.getfield 32, 3) := by decide +kernel
theorem dX10_taken_30 : decode cX10_taken 30 = .ok (.iload_n 1, 1) := by decide +kernel
theorem dX10_taken_31 : decode cX10_taken 31 = .ok (.iaload, 1) := by decide +kernel
theorem dX10_taken_32 : decode cX10_taken 32 = .ok (.iload_n 2, 1) := by decide +kernel
theorem dX10_taken_33 : decode cX10_taken 33 = .ok (.invokestatic 343, 3) := by decide +kernel
theorem dX10_taken_36 : decode cX10_taken 36 = .ok (.ifCond .eq 12, 3) := by decide +kernel
theorem dX10_taken_39 : decode cX10_taken 39 = .ok (.aload_n 0, 1) := by decide +kernel
theorem dX10_taken_40 : decode cX10_taken 40 = .ok (.getfield 47, 3) := by decide +kernel
theorem dX10_taken_43 : decode cX10_taken 43 = .ok (.iload_n 1, 1) := by decide +kernel
theorem dX10_taken_44 : decode cX10_taken 44 = .ok (.iaload, 1) := by decide +kernel
theorem dX10_taken_45 : decode cX10_taken 45 = .ok (.goto 5, 3) := by decide +kernel
theorem dX10_taken_48 : decode cX10_taken 48 = .ok (.bipush (-13), 2) := by decide +kernel
theorem dX10_taken_50 : decode cX10_taken 50 = .ok (.ireturn, 1) := by decide +kernel
theorem dX1_init_0 : decode cX1_init 0 = .ok (.aload_n 0, 1) := by decide +kernel
theorem dX1_init_1 : decode cX1_init 1 = .ok (.invokespecial 3, 3) := by decide +kernel
theorem dX1_init_4 : decode cX1_init 4 = .ok (.aload_n 0, 1) := by decide +kernel
theorem dX1_init_5 : decode cX1_init 5 = .ok (.bipush 10, 2) := by decide +kernel
theorem dX1_init_7 : decode cX1_init 7 = .ok (.newarray .int, 2) := by decide +kernel
theorem dX1_init_9 : decode cX1_init 9 = .ok (.putfield 9, 3) := by decide +kernel
theorem dX1_init_12 : decode cX1_init 12 = .ok (.aload_n 0, 1) := by decide +kernel
theorem dX1_init_13 : decode cX1_init 13 = .ok (.bipush 24, 2) := by decide +kernel
theorem dX1_init_15 : decode cX1_init 15 = .ok (.anewarray 15, 3) := by decide +kernel
theorem dX1_init_18 : decode cX1_init 18 = .ok (.putfield 17, 3) := by decide +kernel
theorem dX1_init_21 : decode cX1_init 21 = .ok (.aload_n 0, 1) := by decide +kernel
theorem dX1_init_22 : decode cX1_init 22 = .ok (.bipush 24, 2) := by decide +kernel
theorem dX1_init_24 : decode cX1_init 24 = .ok (.newarray .int, 2) := by decide +kernel
theorem dX1_init_26 : decode cX1_init 26 = .ok (.putfield 21, 3) := by decide +kernel
theorem dX1_init_29 : decode cX1_init 29 = .ok (.return_, 1) := by decide +kernel
theorem dX1_open_0 : decode cX1_open 0 = .ok (.aload_n 0, 1) := by decide +kernel
theorem dX1_open_1 : decode cX1_open 1 = .ok (.iconst 0, 1) := by decide +kernel
theorem dX1_open_2 : decode cX1_open 2 = .ok (.putfield 24, 3) := by decide +kernel
theorem dX1_open_5 : decode cX1_open 5 = .ok (.aload_n 0, 1) := by decide +kernel
theorem dX1_open_6 : decode cX1_open 6 = .ok (.iconst 0, 1) := by decide +kernel
theorem dX1_open_7 : decode cX1_open 7 = .ok (.putfield 28, 3) := by decide +kernel
theorem dX1_open_10 : decode cX1_open 10 = .ok (.aload_n 0, 1) := by decide +kernel
theorem dX1_open_11 : decode cX1_open 11 = .ok (.getfield 9, 3) := by decide +kernel
theorem dX1_open_14 : decode cX1_open 14 = .ok (.iconst 0, 1) := by decide +kernel
theorem dX1_open_15 : decode cX1_open 15 = .ok (.invokestatic 31, 3) := by decide +kernel
theorem dX1_open_18 : decode cX1_open 18 = .ok (.aload_n 0, 1) := by decide +kernel
theorem dX1_open_19 : decode cX1_open 19 = .ok (.getfield 9, 3) := by decide +kernel
theorem dX1_open_22 : decode cX1_open 22 = .ok (.aload_n 1, 1) := by decide +kernel
theorem dX1_open_23 : decode cX1_open 23 = .ok (.getfield 37, 3) := by decide +kernel
theorem dX1_open_26 : decode cX1_open 26 = .ok (.aload_n 1, 1) := by decide +kernel
theorem dX1_open_27 : decode cX1_open 27 = .ok (.getfield 42, 3) := by decide +kernel
theorem dX1_open_30 : decode cX1_open 30 = .ok (.iastore, 1) := by decide +kernel
theorem dX1_open_31 : decode cX1_open 31 = .ok (.iconst 0, 1) := by decide +kernel
theorem dX1_open_32 : decode cX1_open 32 = .ok (.istore 5, 2) := by decide +kernel
theorem dX1_open_34 : decode cX1_open 34 = .ok (.iload 5, 2) := by decide +kernel
theorem dX1_open_36 : decode cX1_open 36 = .ok (.iload_n 3, 1) := by decide +kernel
theorem dX1_open_37 : decode cX1_open 37 = .ok (.if_icmp .ge 37, 3) := by decide +kernel
theorem dX1_open_40 : decode cX1_open 40 = .ok (.aload_n 2, 1) := by decide +kernel
theorem dX1_open_41 : decode cX1_open 41 = .ok (.iload 5, 2) := by decide +kernel
theorem dX1_open_43 : decode cX1_open 43 = .ok (.aaload, 1) := by decide +kernel
theorem dX1_open_44 : decode cX1_open 44 = .ok (.getfield 45, 3) := by decide +kernel
theorem dX1_open_47 : decode cX1_open 47 = .ok (.aload_n 1, 1) := by decide +kernel
theorem dX1_open_48 : decode cX1_open 48 = .ok (.if_acmp .ne 20, 3) := by decide +kernel
theorem dX1_open_51 : decode cX1_open 51 = .ok (.aload_n 0, 1) := by decide +kernel
theorem dX1_open_52 : decode cX1_open 52 = .ok (.aload_n 2, 1) := by decide +kernel
theorem dX1_open_53 : decode cX1_open 53 = .ok (.iload 5, 2) := by decide +kernel
theorem dX1_open_55 : decode cX1_open 55 = .ok (.aaload, 1) := by decide +kernel
theorem dX1_open_56 : decode cX1_open 56 = .ok (.aload_n 2, 1) := by decide +kernel
theorem dX1_open_57 : decode cX1_open 57 = .ok (.iload 5, 2) := by decide +kernel
theorem dX1_open_59 : decode cX1_open 59 = .ok (.aaload, 1) := by decide +kernel
theorem dX1_open_60 : decode cX1_open 60 = .ok (.iload 4, 2) := by decide +kernel
theorem dX1_open_62 : decode cX1_open 62 = .ok (.invokevirtual 49, 3) := by decide +kernel
theorem dX1_open_65 : decode cX1_open 65 = .ok (.invokevirtual 53, 3) := by decide +kernel
theorem dX1_open_68 : decode cX1_open 68 = .ok (.iinc 5 1, 3) := by decide +kernel
theorem dX1_open_71 : decode cX1_open 71 = .ok (.goto (-37), 3) := by decide +kernel
theorem dX1_open_74 : decode cX1_open 74 = .ok (.return_, 1) := by decide +kernel
theorem dX1_enter_0 : decode cX1_enter 0 = .ok (.aload_n 0, 1) := by decide +kernel
theorem dX1_enter_1 : decode cX1_enter 1 = .ok (.getfield 24, 3) := by decide +kernel
theorem dX1_enter_4 : decode cX1_enter 4 = .ok (.istore_n 3, 1) := by decide +kernel
theorem dX1_enter_5 : decode cX1_enter 5 = .ok (.iload_n 3, 1) := by decide +kernel
theorem dX1_enter_6 : decode cX1_enter 6 = .ok (.ifCond .le 49, 3) := by decide +kernel
theorem dX1_enter_9 : decode cX1_enter 9 = .ok (.aload_n 0, 1) := by decide +kernel
theorem dX1_enter_10 : decode cX1_enter 10 = .ok (.getfield 21, 3) := by decide +kernel
theorem dX1_enter_13 : decode cX1_enter 13 = .ok (.iload_n 3, 1) := by decide +kernel
theorem dX1_enter_14 : decode cX1_enter 14 = .ok (.iconst 1, 1) := by decide +kernel
theorem dX1_enter_15 : decode cX1_enter 15 = .ok (.isub, 1) := by decide +kernel
theorem dX1_enter_16 : decode cX1_enter 16 = .ok (.iaload, 1) := by decide +kernel
theorem dX1_enter_17 : decode cX1_enter 17 = .ok (.iload_n 2, 1) := by decide +kernel
theorem dX1_enter_18 : decode cX1_enter 18 = .ok (.if_icmp .le 37, 3) := by decide +kernel
theorem dX1_enter_21 : decode cX1_enter 21 = .ok (.aload_n 0, 1) := by decide +kernel
theorem dX1_enter_22 : decode cX1_enter 22 = .ok (.getfield 21, 3) := by decide +kernel
theorem dX1_enter_25 : decode cX1_enter 25 = .ok (.iload_n 3, 1) := by decide +kernel
theorem dX1_enter_26 : decode cX1_enter 26 = .ok (.aload_n 0, 1) := by decide +kernel
theorem dX1_enter_27 : decode cX1_enter 27 = .ok (.getfield 21, 3) := by decide +kernel
theorem dX1_enter_30 : decode cX1_enter 30 = .ok (.iload_n 3, 1) := by decide +kernel
theorem dX1_enter_31 : decode cX1_enter 31 = .ok (.iconst 1, 1) := by decide +kernel
theorem dX1_enter_32 : decode cX1_enter 32 = .ok (.isub, 1) := by decide +kernel
theorem dX1_enter_33 : decode cX1_enter 33 = .ok (.iaload, 1) := by decide +kernel
theorem dX1_enter_34 : decode cX1_enter 34 = .ok (.iastore, 1) := by decide +kernel
theorem dX1_enter_35 : decode cX1_enter 35 = .ok (.aload_n 0, 1) := by decide +kernel
theorem dX1_enter_36 : decode cX1_enter 36 = .ok (.getfield 17, 3) := by decide +kernel
theorem dX1_enter_39 : decode cX1_enter 39 = .ok (.iload_n 3, 1) := by decide +kernel
theorem dX1_enter_40 : decode cX1_enter 40 = .ok (.aload_n 0, 1) := by decide +kernel
theorem dX1_enter_41 : decode cX1_enter 41 = .ok (.getfield 17, 3) := by decide +kernel
theorem dX1_enter_44 : decode cX1_enter 44 = .ok (.iload_n 3, 1) := by decide +kernel
theorem dX1_enter_45 : decode cX1_enter 45 = .ok (.iconst 1, 1) := by decide +kernel
theorem dX1_enter_46 : decode cX1_enter 46 = .ok (.isub, 1) := by decide +kernel
theorem dX1_enter_47 : decode cX1_enter 47 = .ok (.aaload, 1) := by decide +kernel
theorem dX1_enter_48 : decode cX1_enter 48 = .ok (.aastore, 1) := by decide +kernel
theorem dX1_enter_49 : decode cX1_enter 49 = .ok (.iinc 3 (-1), 3) := by decide +kernel
theorem dX1_enter_52 : decode cX1_enter 52 = .ok (.goto (-47), 3) := by decide +kernel
theorem dX1_enter_55 : decode cX1_enter 55 = .ok (.aload_n 0, 1) := by decide +kernel
theorem dX1_enter_56 : decode cX1_enter 56 = .ok (.getfield 21, 3) := by decide +kernel
theorem dX1_enter_59 : decode cX1_enter 59 = .ok (.iload_n 3, 1) := by decide +kernel
theorem dX1_enter_60 : decode cX1_enter 60 = .ok (.iload_n 2, 1) := by decide +kernel
theorem dX1_enter_61 : decode cX1_enter 61 = .ok (.iastore, 1) := by decide +kernel
theorem dX1_enter_62 : decode cX1_enter 62 = .ok (.aload_n 0, 1) := by decide +kernel
theorem dX1_enter_63 : decode cX1_enter 63 = .ok (.getfield 17, 3) := by decide +kernel
theorem dX1_enter_66 : decode cX1_enter 66 = .ok (.iload_n 3, 1) := by decide +kernel
theorem dX1_enter_67 : decode cX1_enter 67 = .ok (.aload_n 1, 1) := by decide +kernel
theorem dX1_enter_68 : decode cX1_enter 68 = .ok (.aastore, 1) := by decide +kernel
theorem dX1_enter_69 : decode cX1_enter 69 = .ok (.aload_n 0, 1) := by decide +kernel
theorem dX1_enter_70 : decode cX1_enter 70 = .ok (.dup, 1) := by decide +kernel
theorem dX1_enter_71 : decode cX1_enter 71 = .ok (.getfield 24, 3) := by decide +kernel
theorem dX1_enter_74 : decode cX1_enter 74 = .ok (.iconst 1, 1) := by decide +kernel
theorem dX1_enter_75 : decode cX1_enter 75 = .ok (.iadd, 1) := by decide +kernel
theorem dX1_enter_76 : decode cX1_enter 76 = .ok (.putfield 24, 3) := by decide +kernel
theorem dX1_enter_79 : decode cX1_enter 79 = .ok (.return_, 1) := by decide +kernel
theorem dX1_runTo_0 : decode cX1_runTo 0 = .ok (.aload_n 0, 1) := by decide +kernel
theorem dX1_runTo_1 : decode cX1_runTo 1 = .ok (.getfield 28, 3) := by decide +kernel
theorem dX1_runTo_4 : decode cX1_runTo 4 = .ok (.aload_n 0, 1) := by decide +kernel
theorem dX1_runTo_5 : decode cX1_runTo 5 = .ok (.getfield 24, 3) := by decide +kernel
theorem dX1_runTo_8 : decode cX1_runTo 8 = .ok (.if_icmp .ge 82, 3) := by decide +kernel
theorem dX1_runTo_11 : decode cX1_runTo 11 = .ok (.aload_n 0, 1) := by decide +kernel
theorem dX1_runTo_12 : decode cX1_runTo 12 = .ok (.getfield 21, 3) := by decide +kernel
theorem dX1_runTo_15 : decode cX1_runTo 15 = .ok (.aload_n 0, 1) := by decide +kernel
theorem dX1_runTo_16 : decode cX1_runTo 16 = .ok (.getfield 28, 3) := by decide +kernel
theorem dX1_runTo_19 : decode cX1_runTo 19 = .ok (.iaload, 1) := by decide +kernel
theorem dX1_runTo_20 : decode cX1_runTo 20 = .ok (.iload_n 1, 1) := by decide +kernel
theorem dX1_runTo_21 : decode cX1_runTo 21 = .ok (.if_icmp .gt 69, 3) := by decide +kernel
theorem dX1_runTo_24 : decode cX1_runTo 24 = .ok (.aload_n 0, 1) := by decide +kernel
theorem dX1_runTo_25 : decode cX1_runTo 25 = .ok (.getfield 17, 3) := by decide +kernel
theorem dX1_runTo_28 : decode cX1_runTo 28 = .ok (.aload_n 0, 1) := by decide +kernel
theorem dX1_runTo_29 : decode cX1_runTo 29 = .ok (.getfield 28, 3) := by decide +kernel
theorem dX1_runTo_32 : decode cX1_runTo 32 = .ok (.aaload, 1) := by decide +kernel
theorem dX1_runTo_33 : decode cX1_runTo 33 = .ok (.astore_n 2, 1) := by decide +kernel
theorem dX1_runTo_34 : decode cX1_runTo 34 = .ok (.aload_n 2, 1) := by decide +kernel
theorem dX1_runTo_35 : decode cX1_runTo 35 = .ok (.getfield 57, 3) := by decide +kernel
theorem dX1_runTo_38 : decode cX1_runTo 38 = .ok (.aload_n 0, 1) := by decide +kernel
theorem dX1_runTo_39 : decode cX1_runTo 39 = .ok (.getfield 9, 3) := by decide +kernel
theorem dX1_runTo_42 : decode cX1_runTo 42 = .ok (.aload_n 2, 1) := by decide +kernel
theorem dX1_runTo_43 : decode cX1_runTo 43 = .ok (.getfield 58, 3) := by decide +kernel
theorem dX1_runTo_46 : decode cX1_runTo 46 = .ok (.iaload, 1) := by decide +kernel
theorem dX1_runTo_47 : decode cX1_runTo 47 = .ok (.invokestatic 61, 3) := by decide +kernel
theorem dX1_runTo_50 : decode cX1_runTo 50 = .ok (.istore_n 3, 1) := by decide +kernel
theorem dX1_runTo_51 : decode cX1_runTo 51 = .ok (.aload_n 0, 1) := by decide +kernel
theorem dX1_runTo_52 : decode cX1_runTo 52 = .ok (.getfield 9, 3) := by decide +kernel
theorem dX1_runTo_55 : decode cX1_runTo 55 = .ok (.aload_n 2, 1) := by decide +kernel
theorem dX1_runTo_56 : decode cX1_runTo 56 = .ok (.getfield 58, 3) := by decide +kernel
theorem dX1_runTo_59 : decode cX1_runTo 59 = .ok (.dup2, 1) := by decide +kernel
theorem dX1_runTo_60 : decode cX1_runTo 60 = .ok (.iaload, 1) := by decide +kernel
theorem dX1_runTo_61 : decode cX1_runTo 61 = .ok (.iload_n 3, 1) := by decide +kernel
theorem dX1_runTo_62 : decode cX1_runTo 62 = .ok (.isub, 1) := by decide +kernel
theorem dX1_runTo_63 : decode cX1_runTo 63 = .ok (.iastore, 1) := by decide +kernel
theorem dX1_runTo_64 : decode cX1_runTo 64 = .ok (.aload_n 0, 1) := by decide +kernel
theorem dX1_runTo_65 : decode cX1_runTo 65 = .ok (.getfield 9, 3) := by decide +kernel
theorem dX1_runTo_68 : decode cX1_runTo 68 = .ok (.aload_n 2, 1) := by decide +kernel
theorem dX1_runTo_69 : decode cX1_runTo 69 = .ok (.getfield 67, 3) := by decide +kernel
theorem dX1_runTo_72 : decode cX1_runTo 72 = .ok (.dup2, 1) := by decide +kernel
theorem dX1_runTo_73 : decode cX1_runTo 73 = .ok (.iaload, 1) := by decide +kernel
theorem dX1_runTo_74 : decode cX1_runTo 74 = .ok (.iload_n 3, 1) := by decide +kernel
theorem dX1_runTo_75 : decode cX1_runTo 75 = .ok (.iadd, 1) := by decide +kernel
theorem dX1_runTo_76 : decode cX1_runTo 76 = .ok (.iastore, 1) := by decide +kernel
theorem dX1_runTo_77 : decode cX1_runTo 77 = .ok (.aload_n 0, 1) := by decide +kernel
theorem dX1_runTo_78 : decode cX1_runTo 78 = .ok (.dup, 1) := by decide +kernel
theorem dX1_runTo_79 : decode cX1_runTo 79 = .ok (.getfield 28, 3) := by decide +kernel
theorem dX1_runTo_82 : decode cX1_runTo 82 = .ok (.iconst 1, 1) := by decide +kernel
theorem dX1_runTo_83 : decode cX1_runTo 83 = .ok (.iadd, 1) := by decide +kernel
theorem dX1_runTo_84 : decode cX1_runTo 84 = .ok (.putfield 28, 3) := by decide +kernel
theorem dX1_runTo_87 : decode cX1_runTo 87 = .ok (.goto (-87), 3) := by decide +kernel
theorem dX1_runTo_90 : decode cX1_runTo 90 = .ok (.return_, 1) := by decide +kernel
theorem dX1_nextHour_0 : decode cX1_nextHour 0 = .ok (.aload_n 0, 1) := by decide +kernel
theorem dX1_nextHour_1 : decode cX1_nextHour 1 = .ok (.getfield 28, 3) := by decide +kernel
theorem dX1_nextHour_4 : decode cX1_nextHour 4 = .ok (.aload_n 0, 1) := by decide +kernel
theorem dX1_nextHour_5 : decode cX1_nextHour 5 = .ok (.getfield 24, 3) := by decide +kernel
theorem dX1_nextHour_8 : decode cX1_nextHour 8 = .ok (.if_icmp .ge 15, 3) := by decide +kernel
theorem dX1_nextHour_11 : decode cX1_nextHour 11 = .ok (.aload_n 0, 1) := by decide +kernel
theorem dX1_nextHour_12 : decode cX1_nextHour 12 = .ok (.getfield 21, 3) := by decide +kernel
theorem dX1_nextHour_15 : decode cX1_nextHour 15 = .ok (.aload_n 0, 1) := by decide +kernel
theorem dX1_nextHour_16 : decode cX1_nextHour 16 = .ok (.getfield 28, 3) := by decide +kernel
theorem dX1_nextHour_19 : decode cX1_nextHour 19 = .ok (.iaload, 1) := by decide +kernel
theorem dX1_nextHour_20 : decode cX1_nextHour 20 = .ok (.goto 6, 3) := by decide +kernel
theorem dX1_nextHour_23 : decode cX1_nextHour 23 = .ok (.sipush 1000, 3) := by decide +kernel
theorem dX1_nextHour_26 : decode cX1_nextHour 26 = .ok (.ireturn, 1) := by decide +kernel
theorem dX2_init_0 : decode cX2_init 0 = .ok (.aload_n 0, 1) := by decide +kernel
theorem dX2_init_1 : decode cX2_init 1 = .ok (.invokespecial 3, 3) := by decide +kernel
theorem dX2_init_4 : decode cX2_init 4 = .ok (.aload_n 0, 1) := by decide +kernel
theorem dX2_init_5 : decode cX2_init 5 = .ok (.sipush 160, 3) := by decide +kernel
theorem dX2_init_8 : decode cX2_init 8 = .ok (.newarray .int, 2) := by decide +kernel
theorem dX2_init_10 : decode cX2_init 10 = .ok (.putfield 11, 3) := by decide +kernel
theorem dX2_init_13 : decode cX2_init 13 = .ok (.aload_n 0, 1) := by decide +kernel
theorem dX2_init_14 : decode cX2_init 14 = .ok (.sipush 161, 3) := by decide +kernel
theorem dX2_init_17 : decode cX2_init 17 = .ok (.newarray .int, 2) := by decide +kernel
theorem dX2_init_19 : decode cX2_init 19 = .ok (.putfield 15, 3) := by decide +kernel
theorem dX2_init_22 : decode cX2_init 22 = .ok (.aload_n 0, 1) := by decide +kernel
theorem dX2_init_23 : decode cX2_init 23 = .ok (.sipush 161, 3) := by decide +kernel
theorem dX2_init_26 : decode cX2_init 26 = .ok (.newarray .int, 2) := by decide +kernel
theorem dX2_init_28 : decode cX2_init 28 = .ok (.putfield 18, 3) := by decide +kernel
theorem dX2_init_31 : decode cX2_init 31 = .ok (.aload_n 0, 1) := by decide +kernel
theorem dX2_init_32 : decode cX2_init 32 = .ok (.sipush 160, 3) := by decide +kernel
theorem dX2_init_35 : decode cX2_init 35 = .ok (.newarray .int, 2) := by decide +kernel
theorem dX2_init_37 : decode cX2_init 37 = .ok (.putfield 21, 3) := by decide +kernel
theorem dX2_init_40 : decode cX2_init 40 = .ok (.aload_n 0, 1) := by decide +kernel
theorem dX2_init_41 : decode cX2_init 41 = .ok (.iconst 3, 1) := by decide +kernel
theorem dX2_init_42 : decode cX2_init 42 = .ok (.newarray .int, 2) := by decide +kernel
theorem dX2_init_44 : decode cX2_init 44 = .ok (.putfield 24, 3) := by decide +kernel
theorem dX2_init_47 : decode cX2_init 47 = .ok (.return_, 1) := by decide +kernel
theorem dX2_room_0 : decode cX2_room 0 = .ok (.sipush 160, 3) := by decide +kernel
theorem dX2_room_3 : decode cX2_room 3 = .ok (.aload_n 0, 1) := by decide +kernel
theorem dX2_room_4 : decode cX2_room 4 = .ok (.getfield 27, 3) := by decide +kernel
theorem dX2_room_7 : decode cX2_room 7 = .ok (.isub, 1) := by decide +kernel
theorem dX2_room_8 : decode cX2_room 8 = .ok (.ireturn, 1) := by decide +kernel
theorem dX2_put_0 : decode cX2_put 0 = .ok (.aload_n 0, 1) := by decide +kernel
theorem dX2_put_1 : decode cX2_put 1 = .ok (.getfield 27, 3) := by decide +kernel
theorem dX2_put_4 : decode cX2_put 4 = .ok (.sipush 160, 3) := by decide +kernel
theorem dX2_put_7 : decode cX2_put 7 = .ok (.if_icmp .ge 23, 3) := by decide +kernel
theorem dX2_put_10 : decode cX2_put 10 = .ok (.aload_n 0, 1) := by decide +kernel
theorem dX2_put_11 : decode cX2_put 11 = .ok (.getfield 11, 3) := by decide +kernel
theorem dX2_put_14 : decode cX2_put 14 = .ok (.aload_n 0, 1) := by decide +kernel
theorem dX2_put_15 : decode cX2_put 15 = .ok (.getfield 27, 3) := by decide +kernel
theorem dX2_put_18 : decode cX2_put 18 = .ok (.iload_n 1, 1) := by decide +kernel
theorem dX2_put_19 : decode cX2_put 19 = .ok (.iastore, 1) := by decide +kernel
theorem dX2_put_20 : decode cX2_put 20 = .ok (.aload_n 0, 1) := by decide +kernel
theorem dX2_put_21 : decode cX2_put 21 = .ok (.dup, 1) := by decide +kernel
theorem dX2_put_22 : decode cX2_put 22 = .ok (.getfield 27, 3) := by decide +kernel
theorem dX2_put_25 : decode cX2_put 25 = .ok (.iconst 1, 1) := by decide +kernel
theorem dX2_put_26 : decode cX2_put 26 = .ok (.iadd, 1) := by decide +kernel
theorem dX2_put_27 : decode cX2_put 27 = .ok (.putfield 27, 3) := by decide +kernel
theorem dX2_put_30 : decode cX2_put 30 = .ok (.return_, 1) := by decide +kernel
theorem dX2_empty_0 : decode cX2_empty 0 = .ok (.aload_n 0, 1) := by decide +kernel
theorem dX2_empty_1 : decode cX2_empty 1 = .ok (.iconst 0, 1) := by decide +kernel
theorem dX2_empty_2 : decode cX2_empty 2 = .ok (.putfield 27, 3) := by decide +kernel
theorem dX2_empty_5 : decode cX2_empty 5 = .ok (.return_, 1) := by decide +kernel
theorem dX2_read_0 : decode cX2_read 0 = .ok (.aload_n 0, 1) := by decide +kernel
theorem dX2_read_1 : decode cX2_read 1 = .ok (.invokevirtual 31, 3) := by decide +kernel
theorem dX2_read_4 : decode cX2_read 4 = .ok (.aload_n 0, 1) := by decide +kernel
theorem dX2_read_5 : decode cX2_read 5 = .ok (.iconst 0, 1) := by decide +kernel
theorem dX2_read_6 : decode cX2_read 6 = .ok (.putfield 34, 3) := by decide +kernel
theorem dX2_read_9 : decode cX2_read 9 = .ok (.aload_n 0, 1) := by decide +kernel
theorem dX2_read_10 : decode cX2_read 10 = .ok (.iconst (-1), 1) := by decide +kernel
theorem dX2_read_11 : decode cX2_read 11 = .ok (.putfield 37, 3) := by decide +kernel
theorem dX2_read_14 : decode cX2_read 14 = .ok (.aload_n 0, 1) := by decide +kernel
theorem dX2_read_15 : decode cX2_read 15 = .ok (.iconst 0, 1) := by decide +kernel
theorem dX2_read_16 : decode cX2_read 16 = .ok (.putfield 40, 3) := by decide +kernel
theorem dX2_read_19 : decode cX2_read 19 = .ok (.iconst 0, 1) := by decide +kernel
theorem dX2_read_20 : decode cX2_read 20 = .ok (.istore_n 1, 1) := by decide +kernel
theorem dX2_read_21 : decode cX2_read 21 = .ok (.iload_n 1, 1) := by decide +kernel
theorem dX2_read_22 : decode cX2_read 22 = .ok (.iconst 3, 1) := by decide +kernel
theorem dX2_read_23 : decode cX2_read 23 = .ok (.if_icmp .ge 39, 3) := by decide +kernel
theorem dX2_read_26 : decode cX2_read 26 = .ok (.aload_n 0, 1) := by decide +kernel
theorem dX2_read_27 : decode cX2_read 27 = .ok (.bipush 9, 2) := by decide +kernel
theorem dX2_read_29 : decode cX2_read 29 = .ok (.iload_n 1, 1) := by decide +kernel
theorem dX2_read_30 : decode cX2_read 30 = .ok (.iadd, 1) := by decide +kernel
theorem dX2_read_31 : decode cX2_read 31 = .ok (.invokevirtual 45, 3) := by decide +kernel
theorem dX2_read_34 : decode cX2_read 34 = .ok (.aload_n 0, 1) := by decide +kernel
theorem dX2_read_35 : decode cX2_read 35 = .ok (.iconst 0, 1) := by decide +kernel
theorem dX2_read_36 : decode cX2_read 36 = .ok (.iconst 0, 1) := by decide +kernel
theorem dX2_read_37 : decode cX2_read 37 = .ok (.invokevirtual 49, 3) := by decide +kernel
theorem dX2_read_40 : decode cX2_read 40 = .ok (.aload_n 0, 1) := by decide +kernel
theorem dX2_read_41 : decode cX2_read 41 = .ok (.bipush 59, 2) := by decide +kernel
theorem dX2_read_43 : decode cX2_read 43 = .ok (.invokevirtual 45, 3) := by decide +kernel
theorem dX2_read_46 : decode cX2_read 46 = .ok (.aload_n 0, 1) := by decide +kernel
theorem dX2_read_47 : decode cX2_read 47 = .ok (.getfield 24, 3) := by decide +kernel
theorem dX2_read_50 : decode cX2_read 50 = .ok (.iload_n 1, 1) := by decide +kernel
theorem dX2_read_51 : decode cX2_read 51 = .ok (.aload_n 0, 1) := by decide +kernel
theorem dX2_read_52 : decode cX2_read 52 = .ok (.getfield 40, 3) := by decide +kernel
theorem dX2_read_55 : decode cX2_read 55 = .ok (.iastore, 1) := by decide +kernel
theorem dX2_read_56 : decode cX2_read 56 = .ok (.iinc 1 1, 3) := by decide +kernel
theorem dX2_read_59 : decode cX2_read 59 = .ok (.goto (-38), 3) := by decide +kernel
theorem dX2_read_62 : decode cX2_read 62 = .ok (.aload_n 0, 1) := by decide +kernel
theorem dX2_read_63 : decode cX2_read 63 = .ok (.invokevirtual 53, 3) := by decide +kernel
theorem dX2_read_66 : decode cX2_read 66 = .ok (.bipush 20, 2) := by decide +kernel
theorem dX2_read_68 : decode cX2_read 68 = .ok (.if_icmp .eq 7, 3) := by decide +kernel
theorem dX2_read_71 : decode cX2_read 71 = .ok (.aload_n 0, 1) := by decide +kernel
theorem dX2_read_72 : decode cX2_read 72 = .ok (.invokevirtual 57, 3) := by decide +kernel
theorem dX2_read_75 : decode cX2_read 75 = .ok (.aload_n 0, 1) := by decide +kernel
theorem dX2_read_76 : decode cX2_read 76 = .ok (.getfield 37, 3) := by decide +kernel
theorem dX2_read_79 : decode cX2_read 79 = .ok (.ireturn, 1) := by decide +kernel
theorem dX2_asText_0 : decode cX2_asText 0 = .ok (.new 60, 3) := by decide +kernel
theorem dX2_asText_3 : decode cX2_asText 3 = .ok (.dup, 1) := by decide +kernel
theorem dX2_asText_4 : decode cX2_asText 4 = .ok (.aload_n 0, 1) := by decide +kernel
theorem dX2_asText_5 : decode cX2_asText 5 = .ok (.getfield 21, 3) := by decide +kernel
theorem dX2_asText_8 : decode cX2_asText 8 = .ok (.aload_n 0, 1) := by decide +kernel
theorem dX2_asText_9 : decode cX2_asText 9 = .ok (.getfield 40, 3) := by decide +kernel
theorem dX2_asText_12 : decode cX2_asText 12 = .ok (.invokestatic 62, 3) := by decide +kernel
theorem dX2_asText_15 : decode cX2_asText 15 = .ok (.aload_n 0, 1) := by decide +kernel
theorem dX2_asText_16 : decode cX2_asText 16 = .ok (.getfield 24, 3) := by decide +kernel
theorem dX2_asText_19 : decode cX2_asText 19 = .ok (.iconst 3, 1) := by decide +kernel
theorem dX2_asText_20 : decode cX2_asText 20 = .ok (.invokestatic 62, 3) := by decide +kernel
theorem dX2_asText_23 : decode cX2_asText 23 = .ok (.invokespecial 68, 3) := by decide +kernel
theorem dX2_asText_26 : decode cX2_asText 26 = .ok (.areturn, 1) := by decide +kernel
theorem dX2_split_0 : decode cX2_split 0 = .ok (.aload_n 0, 1) := by decide +kernel
theorem dX2_split_1 : decode cX2_split 1 = .ok (.iconst 0, 1) := by decide +kernel
theorem dX2_split_2 : decode cX2_split 2 = .ok (.putfield 71, 3) := by decide +kernel
theorem dX2_split_5 : decode cX2_split 5 = .ok (.iconst 0, 1) := by decide +kernel
theorem dX2_split_6 : decode cX2_split 6 = .ok (.istore_n 1, 1) := by decide +kernel
theorem dX2_split_7 : decode cX2_split 7 = .ok (.iconst 0, 1) := by decide +kernel
theorem dX2_split_8 : decode cX2_split 8 = .ok (.istore_n 2, 1) := by decide +kernel
theorem dX2_split_9 : decode cX2_split 9 = .ok (.iload_n 2, 1) := by decide +kernel
theorem dX2_split_10 : decode cX2_split 10 = .ok (.sipush 160, 3) := by decide +kernel
theorem dX2_split_13 : decode cX2_split 13 = .ok (.if_icmp .ge 72, 3) := by decide +kernel
theorem dX2_split_16 : decode cX2_split 16 = .ok (.iload_n 1, 1) := by decide +kernel
theorem dX2_split_17 : decode cX2_split 17 = .ok (.aload_n 0, 1) := by decide +kernel
theorem dX2_split_18 : decode cX2_split 18 = .ok (.getfield 27, 3) := by decide +kernel
theorem dX2_split_21 : decode cX2_split 21 = .ok (.if_icmp .ge 64, 3) := by decide +kernel
theorem dX2_split_24 : decode cX2_split 24 = .ok (.aload_n 0, 1) := by decide +kernel
theorem dX2_split_25 : decode cX2_split 25 = .ok (.iload_n 1, 1) := by decide +kernel
theorem dX2_split_26 : decode cX2_split 26 = .ok (.invokevirtual 74, 3) := by decide +kernel
theorem dX2_split_29 : decode cX2_split 29 = .ok (.istore_n 3, 1) := by decide +kernel
theorem dX2_split_30 : decode cX2_split 30 = .ok (.aload_n 0, 1) := by decide +kernel
theorem dX2_split_31 : decode cX2_split 31 = .ok (.getfield 11, 3) := by decide +kernel
theorem dX2_split_34 : decode cX2_split 34 = .ok (.iload_n 1, 1) := by decide +kernel
theorem dX2_split_35 : decode cX2_split 35 = .ok (.iaload, 1) := by decide +kernel
theorem dX2_split_36 : decode cX2_split 36 = .ok (.invokestatic 78, 3) := by decide +kernel
theorem dX2_split_39 : decode cX2_split 39 = .ok (.ifCond .ne 38, 3) := by decide +kernel
theorem dX2_split_42 : decode cX2_split 42 = .ok (.aload_n 0, 1) := by decide +kernel
theorem dX2_split_43 : decode cX2_split 43 = .ok (.getfield 15, 3) := by decide +kernel
theorem dX2_split_46 : decode cX2_split 46 = .ok (.aload_n 0, 1) := by decide +kernel
theorem dX2_split_47 : decode cX2_split 47 = .ok (.getfield 71, 3) := by decide +kernel
theorem dX2_split_50 : decode cX2_split 50 = .ok (.aload_n 0, 1) := by decide +kernel
theorem dX2_split_51 : decode cX2_split 51 = .ok (.iload_n 1, 1) := by decide +kernel
theorem dX2_split_52 : decode cX2_split 52 = .ok (.iload_n 3, 1) := by decide +kernel
theorem dX2_split_53 : decode cX2_split 53 = .ok (.invokevirtual 82, 3) := by decide +kernel
theorem dX2_split_56 : decode cX2_split 56 = .ok (.iastore, 1) := by decide +kernel
theorem dX2_split_57 : decode cX2_split 57 = .ok (.aload_n 0, 1) := by decide +kernel
theorem dX2_split_58 : decode cX2_split 58 = .ok (.getfield 18, 3) := by decide +kernel
theorem dX2_split_61 : decode cX2_split 61 = .ok (.aload_n 0, 1) := by decide +kernel
theorem dX2_split_62 : decode cX2_split 62 = .ok (.getfield 71, 3) := by decide +kernel
theorem dX2_split_65 : decode cX2_split 65 = .ok (.iload_n 1, 1) := by decide +kernel
theorem dX2_split_66 : decode cX2_split 66 = .ok (.iastore, 1) := by decide +kernel
theorem dX2_split_67 : decode cX2_split 67 = .ok (.aload_n 0, 1) := by decide +kernel
theorem dX2_split_68 : decode cX2_split 68 = .ok (.dup, 1) := by decide +kernel
theorem dX2_split_69 : decode cX2_split 69 = .ok (.getfield 71, 3) := by decide +kernel
theorem dX2_split_72 : decode cX2_split 72 = .ok (.iconst 1, 1) := by decide +kernel
theorem dX2_split_73 : decode cX2_split 73 = .ok (.iadd, 1) := by decide +kernel
theorem dX2_split_74 : decode cX2_split 74 = .ok (.putfield 71, 3) := by decide +kernel
theorem dX2_split_77 : decode cX2_split 77 = .ok (.iload_n 3, 1) := by decide +kernel
theorem dX2_split_78 : decode cX2_split 78 = .ok (.istore_n 1, 1) := by decide +kernel
theorem dX2_split_79 : decode cX2_split 79 = .ok (.iinc 2 1, 3) := by decide +kernel
theorem dX2_split_82 : decode cX2_split 82 = .ok (.goto (-73), 3) := by decide +kernel
theorem dX2_split_85 : decode cX2_split 85 = .ok (.aload_n 0, 1) := by decide +kernel
theorem dX2_split_86 : decode cX2_split 86 = .ok (.getfield 15, 3) := by decide +kernel
theorem dX2_split_89 : decode cX2_split 89 = .ok (.aload_n 0, 1) := by decide +kernel
theorem dX2_split_90 : decode cX2_split 90 = .ok (.getfield 71, 3) := by decide +kernel
theorem dX2_split_93 : decode cX2_split 93 = .ok (.bipush 20, 2) := by decide +kernel
theorem dX2_split_95 : decode cX2_split 95 = .ok (.iastore, 1) := by decide +kernel
theorem dX2_split_96 : decode cX2_split 96 = .ok (.aload_n 0, 1) := by decide +kernel
theorem dX2_split_97 : decode cX2_split 97 = .ok (.getfield 18, 3) := by decide +kernel
theorem dX2_split_100 : decode cX2_split 100 = .ok (.aload_n 0, 1) := by decide +kernel
theorem dX2_split_101 : decode cX2_split 101 = .ok (.getfield 71, 3) := by decide +kernel
theorem dX2_split_104 : decode cX2_split 104 = .ok (.aload_n 0, 1) := by decide +kernel
theorem dX2_split_105 : decode cX2_split 105 = .ok (.getfield 27, 3) := by decide +kernel
theorem dX2_split_108 : decode cX2_split 108 = .ok (.iastore, 1) := by decide +kernel
theorem dX2_split_109 : decode cX2_split 109 = .ok (.return_, 1) := by decide +kernel
theorem dX2_isBlank_0 : decode cX2_isBlank 0 = .ok (.iload_n 0, 1) := by decide +kernel
theorem dX2_isBlank_1 : decode cX2_isBlank 1 = .ok (.bipush 32, 2) := by decide +kernel
theorem dX2_isBlank_3 : decode cX2_isBlank 3 = .ok (.if_icmp .eq 9, 3) := by decide +kernel
theorem dX2_isBlank_6 : decode cX2_isBlank 6 = .ok (.iload_n 0, 1) := by decide +kernel
theorem dX2_isBlank_7 : decode cX2_isBlank 7 = .ok (.bipush 10, 2) := by decide +kernel
theorem dX2_isBlank_9 : decode cX2_isBlank 9 = .ok (.if_icmp .ne 7, 3) := by decide +kernel
theorem dX2_isBlank_12 : decode cX2_isBlank 12 = .ok (.iconst 1, 1) := by decide +kernel
theorem dX2_isBlank_13 : decode cX2_isBlank 13 = .ok (.goto 4, 3) := by decide +kernel
theorem dX2_isBlank_16 : decode cX2_isBlank 16 = .ok (.iconst 0, 1) := by decide +kernel
theorem dX2_isBlank_17 : decode cX2_isBlank 17 = .ok (.ireturn, 1) := by decide +kernel
theorem dX2_isLetter_0 : decode cX2_isLetter 0 = .ok (.iload_n 0, 1) := by decide +kernel
theorem dX2_isLetter_1 : decode cX2_isLetter 1 = .ok (.bipush 97, 2) := by decide +kernel
theorem dX2_isLetter_3 : decode cX2_isLetter 3 = .ok (.if_icmp .lt 13, 3) := by decide +kernel
theorem dX2_isLetter_6 : decode cX2_isLetter 6 = .ok (.iload_n 0, 1) := by decide +kernel
theorem dX2_isLetter_7 : decode cX2_isLetter 7 = .ok (.bipush 122, 2) := by decide +kernel
theorem dX2_isLetter_9 : decode cX2_isLetter 9 = .ok (.if_icmp .gt 7, 3) := by decide +kernel
theorem dX2_isLetter_12 : decode cX2_isLetter 12 = .ok (.iconst 1, 1) := by decide +kernel
theorem dX2_isLetter_13 : decode cX2_isLetter 13 = .ok (.goto 4, 3) := by decide +kernel
theorem dX2_isLetter_16 : decode cX2_isLetter 16 = .ok (.iconst 0, 1) := by decide +kernel
theorem dX2_isLetter_17 : decode cX2_isLetter 17 = .ok (.ireturn, 1) := by decide +kernel
theorem dX2_isDigit_0 : decode cX2_isDigit 0 = .ok (.iload_n 0, 1) := by decide +kernel
theorem dX2_isDigit_1 : decode cX2_isDigit 1 = .ok (.bipush 48, 2) := by decide +kernel
theorem dX2_isDigit_3 : decode cX2_isDigit 3 = .ok (.if_icmp .lt 13, 3) := by decide +kernel
theorem dX2_isDigit_6 : decode cX2_isDigit 6 = .ok (.iload_n 0, 1) := by decide +kernel
theorem dX2_isDigit_7 : decode cX2_isDigit 7 = .ok (.bipush 57, 2) := by decide +kernel
theorem dX2_isDigit_9 : decode cX2_isDigit 9 = .ok (.if_icmp .gt 7, 3) := by decide +kernel
theorem dX2_isDigit_12 : decode cX2_isDigit 12 = .ok (.iconst 1, 1) := by decide +kernel
theorem dX2_isDigit_13 : decode cX2_isDigit 13 = .ok (.goto 4, 3) := by decide +kernel
theorem dX2_isDigit_16 : decode cX2_isDigit 16 = .ok (.iconst 0, 1) := by decide +kernel
theorem dX2_isDigit_17 : decode cX2_isDigit 17 = .ok (.ireturn, 1) := by decide +kernel
theorem dX2_endOfToken_0 : decode cX2_endOfToken 0 = .ok (.aload_n 0, 1) := by decide +kernel
theorem dX2_endOfToken_1 : decode cX2_endOfToken 1 = .ok (.getfield 11, 3) := by decide +kernel
theorem dX2_endOfToken_4 : decode cX2_endOfToken 4 = .ok (.iload_n 1, 1) := by decide +kernel
theorem dX2_endOfToken_5 : decode cX2_endOfToken 5 = .ok (.iaload, 1) := by decide +kernel
theorem dX2_endOfToken_6 : decode cX2_endOfToken 6 = .ok (.invokestatic 86, 3) := by decide +kernel
theorem dX2_endOfToken_9 : decode cX2_endOfToken 9 = .ok (.istore_n 2, 1) := by decide +kernel
theorem dX2_endOfToken_10 : decode cX2_endOfToken 10 = .ok (.aload_n 0, 1) := by decide +kernel
theorem dX2_endOfToken_11 : decode cX2_endOfToken 11 = .ok (.getfield 11, 3) := by decide +kernel
theorem dX2_endOfToken_14 : decode cX2_endOfToken 14 = .ok (.iload_n 1, 1) := by decide +kernel
theorem dX2_endOfToken_15 : decode cX2_endOfToken 15 = .ok (.iaload, 1) := by decide +kernel
theorem dX2_endOfToken_16 : decode cX2_endOfToken 16 = .ok (.invokestatic 89, 3) := by decide +kernel
theorem dX2_endOfToken_19 : decode cX2_endOfToken 19 = .ok (.istore_n 3, 1) := by decide +kernel
theorem dX2_endOfToken_20 : decode cX2_endOfToken 20 = .ok (.iload_n 1, 1) := by decide +kernel
theorem dX2_endOfToken_21 : decode cX2_endOfToken 21 = .ok (.iconst 1, 1) := by decide +kernel
theorem dX2_endOfToken_22 : decode cX2_endOfToken 22 = .ok (.iadd, 1) := by decide +kernel
theorem dX2_endOfToken_23 : decode cX2_endOfToken 23 = .ok (.istore 4, 2) := by decide +kernel
theorem dX2_endOfToken_25 : decode cX2_endOfToken 25 = .ok (.iload 4, 2) := by decide +kernel
theorem dX2_endOfToken_27 : decode cX2_endOfToken 27 = .ok (.aload_n 0, 1) := by decide +kernel
theorem dX2_endOfToken_28 : decode cX2_endOfToken 28 = .ok (.getfield 27, 3) := by decide +kernel
theorem dX2_endOfToken_31 : decode cX2_endOfToken 31 = .ok (.if_icmp .ge 43, 3) := by decide +kernel
theorem dX2_endOfToken_34 : decode cX2_endOfToken 34 = .ok (.iload_n 2, 1) := by decide +kernel
theorem dX2_endOfToken_35 : decode cX2_endOfToken 35 = .ok (.ifCond .eq 16, 3) := by decide +kernel
theorem dX2_endOfToken_38 : decode cX2_endOfToken 38 = .ok (.aload_n 0, 1) := by decide +kernel
theorem dX2_endOfToken_39 : decode cX2_endOfToken 39 = .ok (.getfield 11, 3) := by decide +kernel
theorem dX2_endOfToken_42 : decode cX2_endOfToken 42 = .ok (.iload 4, 2) := by decide +kernel
theorem dX2_endOfToken_44 : decode cX2_endOfToken 44 = .ok (.iaload, 1) := by decide +kernel
theorem dX2_endOfToken_45 : decode cX2_endOfToken 45 = .ok (.invokestatic 86, 3) := by decide +kernel
theorem dX2_endOfToken_48 : decode cX2_endOfToken 48 = .ok (.ifCond .ne 20, 3) := by decide +kernel
theorem dX2_endOfToken_51 : decode cX2_endOfToken 51 = .ok (.iload_n 3, 1) := by decide +kernel
theorem dX2_endOfToken_52 : decode cX2_endOfToken 52 = .ok (.ifCond .eq 22, 3) := by decide +kernel
theorem dX2_endOfToken_55 : decode cX2_endOfToken 55 = .ok (.aload_n 0, 1) := by decide +kernel
theorem dX2_endOfToken_56 : decode cX2_endOfToken 56 = .ok (.getfield 11, 3) := by decide +kernel
theorem dX2_endOfToken_59 : decode cX2_endOfToken 59 = .ok (.iload 4, 2) := by decide +kernel
theorem dX2_endOfToken_61 : decode cX2_endOfToken 61 = .ok (.iaload, 1) := by decide +kernel
theorem dX2_endOfToken_62 : decode cX2_endOfToken 62 = .ok (.invokestatic 89, 3) := by decide +kernel
theorem dX2_endOfToken_65 : decode cX2_endOfToken 65 = .ok (.ifCond .eq 9, 3) := by decide +kernel
theorem dX2_endOfToken_68 : decode cX2_endOfToken 68 = .ok (.iinc 4 1, 3) := by decide +kernel
theorem dX2_endOfToken_71 : decode cX2_endOfToken 71 = .ok (.goto (-46), 3) := by decide +kernel
theorem dX2_endOfToken_74 : decode cX2_endOfToken 74 = .ok (.iload 4, 2) := by decide +kernel
theorem dX2_endOfToken_76 : decode cX2_endOfToken 76 = .ok (.ireturn, 1) := by decide +kernel
theorem dX2_tokenOf_0 : decode cX2_tokenOf 0 = .ok (.aload_n 0, 1) := by decide +kernel
theorem dX2_tokenOf_1 : decode cX2_tokenOf 1 = .ok (.getfield 11, 3) := by decide +kernel
theorem dX2_tokenOf_4 : decode cX2_tokenOf 4 = .ok (.iload_n 1, 1) := by decide +kernel
theorem dX2_tokenOf_5 : decode cX2_tokenOf 5 = .ok (.iaload, 1) := by decide +kernel
theorem dX2_tokenOf_6 : decode cX2_tokenOf 6 = .ok (.istore_n 3, 1) := by decide +kernel
theorem dX2_tokenOf_7 : decode cX2_tokenOf 7 = .ok (.iload_n 3, 1) := by decide +kernel
theorem dX2_tokenOf_8 : decode cX2_tokenOf 8 = .ok (.invokestatic 86, 3) := by decide +kernel
theorem dX2_tokenOf_11 : decode cX2_tokenOf 11 = .ok (.ifCond .eq 10, 3) := by decide +kernel
theorem dX2_tokenOf_14 : decode cX2_tokenOf 14 = .ok (.aload_n 0, 1) := by decide +kernel
theorem dX2_tokenOf_15 : decode cX2_tokenOf 15 = .ok (.iload_n 1, 1) := by decide +kernel
theorem dX2_tokenOf_16 : decode cX2_tokenOf 16 = .ok (.iload_n 2, 1) := by decide +kernel
theorem dX2_tokenOf_17 : decode cX2_tokenOf 17 = .ok (.invokevirtual 92, 3) := by decide +kernel
theorem dX2_tokenOf_20 : decode cX2_tokenOf 20 = .ok (.ireturn, 1) := by decide +kernel
theorem dX2_tokenOf_21 : decode cX2_tokenOf 21 = .ok (.iload_n 3, 1) := by decide +kernel
theorem dX2_tokenOf_22 : decode cX2_tokenOf 22 = .ok (.invokestatic 89, 3) := by decide +kernel
theorem dX2_tokenOf_25 : decode cX2_tokenOf 25 = .ok (.ifCond .eq 25, 3) := by decide +kernel
theorem dX2_tokenOf_28 : decode cX2_tokenOf 28 = .ok (.iload_n 2, 1) := by decide +kernel
theorem dX2_tokenOf_29 : decode cX2_tokenOf 29 = .ok (.iload_n 1, 1) := by decide +kernel
theorem dX2_tokenOf_30 : decode cX2_tokenOf 30 = .ok (.isub, 1) := by decide +kernel
theorem dX2_tokenOf_31 : decode cX2_tokenOf 31 = .ok (.iconst 4, 1) := by decide +kernel
theorem dX2_tokenOf_32 : decode cX2_tokenOf 32 = .ok (.if_icmp .le 8, 3) := by decide +kernel
theorem dX2_tokenOf_35 : decode cX2_tokenOf 35 = .ok (.bipush 21, 2) := by decide +kernel
theorem dX2_tokenOf_37 : decode cX2_tokenOf 37 = .ok (.goto 12, 3) := by decide +kernel
theorem dX2_tokenOf_40 : decode cX2_tokenOf 40 = .ok (.bipush 100, 2) := by decide +kernel
theorem dX2_tokenOf_42 : decode cX2_tokenOf 42 = .ok (.aload_n 0, 1) := by decide +kernel
theorem dX2_tokenOf_43 : decode cX2_tokenOf 43 = .ok (.iload_n 1, 1) := by decide +kernel
theorem dX2_tokenOf_44 : decode cX2_tokenOf 44 = .ok (.iload_n 2, 1) := by decide +kernel
theorem dX2_tokenOf_45 : decode cX2_tokenOf 45 = .ok (.invokevirtual 95, 3) := by decide +kernel
theorem dX2_tokenOf_48 : decode cX2_tokenOf 48 = .ok (.iadd, 1) := by decide +kernel
theorem dX2_tokenOf_49 : decode cX2_tokenOf 49 = .ok (.ireturn, 1) := by decide +kernel
theorem dX2_tokenOf_50 : decode cX2_tokenOf 50 = .ok (.ldc 98, 2) := by decide +kernel
theorem dX2_tokenOf_52 : decode cX2_tokenOf 52 = .ok (.iload_n 3, 1) := by decide +kernel
theorem dX2_tokenOf_53 : decode cX2_tokenOf 53 = .ok (.i2c, 1) := by decide +kernel
theorem dX2_tokenOf_54 : decode cX2_tokenOf 54 = .ok (.invokevirtual 100, 3) := by decide +kernel
theorem dX2_tokenOf_57 : decode cX2_tokenOf 57 = .ok (.ifCond .ge 8, 3) := by decide +kernel
theorem dX2_tokenOf_60 : decode cX2_tokenOf 60 = .ok (.bipush 21, 2) := by decide +kernel
theorem dX2_tokenOf_62 : decode cX2_tokenOf 62 = .ok (.goto 4, 3) := by decide +kernel
theorem dX2_tokenOf_65 : decode cX2_tokenOf 65 = .ok (.iload_n 3, 1) := by decide +kernel
theorem dX2_tokenOf_66 : decode cX2_tokenOf 66 = .ok (.ireturn, 1) := by decide +kernel
theorem dX2_numberOf_0 : decode cX2_numberOf 0 = .ok (.iconst 0, 1) := by decide +kernel
theorem dX2_numberOf_1 : decode cX2_numberOf 1 = .ok (.istore_n 3, 1) := by decide +kernel
theorem dX2_numberOf_2 : decode cX2_numberOf 2 = .ok (.iload_n 1, 1) := by decide +kernel
theorem dX2_numberOf_3 : decode cX2_numberOf 3 = .ok (.istore 4, 2) := by decide +kernel
theorem dX2_numberOf_5 : decode cX2_numberOf 5 = .ok (.iload 4, 2) := by decide +kernel
theorem dX2_numberOf_7 : decode cX2_numberOf 7 = .ok (.iload_n 2, 1) := by decide +kernel
theorem dX2_numberOf_8 : decode cX2_numberOf 8 = .ok (.if_icmp .ge 25, 3) := by decide +kernel
theorem dX2_numberOf_11 : decode cX2_numberOf 11 = .ok (.iload_n 3, 1) := by decide +kernel
theorem dX2_numberOf_12 : decode cX2_numberOf 12 = .ok (.bipush 10, 2) := by decide +kernel
theorem dX2_numberOf_14 : decode cX2_numberOf 14 = .ok (.imul, 1) := by decide +kernel
theorem dX2_numberOf_15 : decode cX2_numberOf 15 = .ok (.aload_n 0, 1) := by decide +kernel
theorem dX2_numberOf_16 : decode cX2_numberOf 16 = .ok (.getfield 11, 3) := by decide +kernel
theorem dX2_numberOf_19 : decode cX2_numberOf 19 = .ok (.iload 4, 2) := by decide +kernel
theorem dX2_numberOf_21 : decode cX2_numberOf 21 = .ok (.iaload, 1) := by decide +kernel
theorem dX2_numberOf_22 : decode cX2_numberOf 22 = .ok (.iadd, 1) := by decide +kernel
theorem dX2_numberOf_23 : decode cX2_numberOf 23 = .ok (.bipush 48, 2) := by decide +kernel
theorem dX2_numberOf_25 : decode cX2_numberOf 25 = .ok (.isub, 1) := by decide +kernel
theorem dX2_numberOf_26 : decode cX2_numberOf 26 = .ok (.istore_n 3, 1) := by decide +kernel
theorem dX2_numberOf_27 : decode cX2_numberOf 27 = .ok (.iinc 4 1, 3) := by decide +kernel
theorem dX2_numberOf_30 : decode cX2_numberOf 30 = .ok (.goto (-25), 3) := by decide +kernel
theorem dX2_numberOf_33 : decode cX2_numberOf 33 = .ok (.iload_n 3, 1) := by decide +kernel
theorem dX2_numberOf_34 : decode cX2_numberOf 34 = .ok (.ireturn, 1) := by decide +kernel
theorem dX2_wordOf_0 : decode cX2_wordOf 0 = .ok (.iconst 0, 1) := by decide +kernel
theorem dX2_wordOf_1 : decode cX2_wordOf 1 = .ok (.istore_n 3, 1) := by decide +kernel
theorem dX2_wordOf_2 : decode cX2_wordOf 2 = .ok (.iconst 0, 1) := by decide +kernel
theorem dX2_wordOf_3 : decode cX2_wordOf 3 = .ok (.istore 4, 2) := by decide +kernel
theorem dX2_wordOf_5 : decode cX2_wordOf 5 = .ok (.iconst 0, 1) := by decide +kernel
theorem dX2_wordOf_6 : decode cX2_wordOf 6 = .ok (.istore 5, 2) := by decide +kernel
theorem dX2_wordOf_8 : decode cX2_wordOf 8 = .ok (.iload 5, 2) := by decide +kernel
theorem dX2_wordOf_10 : decode cX2_wordOf 10 = .ok (.ldc 105, 2) := by decide +kernel
theorem dX2_wordOf_12 : decode cX2_wordOf 12 = .ok (.invokevirtual 107, 3) := by decide +kernel
theorem dX2_wordOf_15 : decode cX2_wordOf 15 = .ok (.if_icmp .ge 54, 3) := by decide +kernel
theorem dX2_wordOf_18 : decode cX2_wordOf 18 = .ok (.ldc 105, 2) := by decide +kernel
theorem dX2_wordOf_20 : decode cX2_wordOf 20 = .ok (.iload 5, 2) := by decide +kernel
theorem dX2_wordOf_22 : decode cX2_wordOf 22 = .ok (.invokevirtual 110, 3) := by decide +kernel
theorem dX2_wordOf_25 : decode cX2_wordOf 25 = .ok (.bipush 32, 2) := by decide +kernel
theorem dX2_wordOf_27 : decode cX2_wordOf 27 = .ok (.if_icmp .ne 36, 3) := by decide +kernel
theorem dX2_wordOf_30 : decode cX2_wordOf 30 = .ok (.iload 5, 2) := by decide +kernel
theorem dX2_wordOf_32 : decode cX2_wordOf 32 = .ok (.iload 4, 2) := by decide +kernel
theorem dX2_wordOf_34 : decode cX2_wordOf 34 = .ok (.isub, 1) := by decide +kernel
theorem dX2_wordOf_35 : decode cX2_wordOf 35 = .ok (.iload_n 2, 1) := by decide +kernel
theorem dX2_wordOf_36 : decode cX2_wordOf 36 = .ok (.iload_n 1, 1) := by decide +kernel
theorem dX2_wordOf_37 : decode cX2_wordOf 37 = .ok (.isub, 1) := by decide +kernel
theorem dX2_wordOf_38 : decode cX2_wordOf 38 = .ok (.if_icmp .ne 16, 3) := by decide +kernel
theorem dX2_wordOf_41 : decode cX2_wordOf 41 = .ok (.aload_n 0, 1) := by decide +kernel
theorem dX2_wordOf_42 : decode cX2_wordOf 42 = .ok (.iload 4, 2) := by decide +kernel
theorem dX2_wordOf_44 : decode cX2_wordOf 44 = .ok (.iload_n 1, 1) := by decide +kernel
theorem dX2_wordOf_45 : decode cX2_wordOf 45 = .ok (.iload_n 2, 1) := by decide +kernel
theorem dX2_wordOf_46 : decode cX2_wordOf 46 = .ok (.invokevirtual 114, 3) := by decide +kernel
theorem dX2_wordOf_49 : decode cX2_wordOf 49 = .ok (.ifCond .eq 5, 3) := by decide +kernel
theorem dX2_wordOf_52 : decode cX2_wordOf 52 = .ok (.iload_n 3, 1) := by decide +kernel
theorem dX2_wordOf_53 : decode cX2_wordOf 53 = .ok (.ireturn, 1) := by decide +kernel
theorem dX2_wordOf_54 : decode cX2_wordOf 54 = .ok (.iinc 3 1, 3) := by decide +kernel
theorem dX2_wordOf_57 : decode cX2_wordOf 57 = .ok (.iload 5, 2) := by decide +kernel
theorem dX2_wordOf_59 : decode cX2_wordOf 59 = .ok (.iconst 1, 1) := by decide +kernel
theorem dX2_wordOf_60 : decode cX2_wordOf 60 = .ok (.iadd, 1) := by decide +kernel
theorem dX2_wordOf_61 : decode cX2_wordOf 61 = .ok (.istore 4, 2) := by decide +kernel
theorem dX2_wordOf_63 : decode cX2_wordOf 63 = .ok (.iinc 5 1, 3) := by decide +kernel
theorem dX2_wordOf_66 : decode cX2_wordOf 66 = .ok (.goto (-58), 3) := by decide +kernel
theorem dX2_wordOf_69 : decode cX2_wordOf 69 = .ok (.bipush 21, 2) := by decide +kernel
theorem dX2_wordOf_71 : decode cX2_wordOf 71 = .ok (.ireturn, 1) := by decide +kernel
theorem dX2_stands_0 : decode cX2_stands 0 = .ok (.iload_n 2, 1) := by decide +kernel
theorem dX2_stands_1 : decode cX2_stands 1 = .ok (.istore 4, 2) := by decide +kernel
theorem dX2_stands_3 : decode cX2_stands 3 = .ok (.iload 4, 2) := by decide +kernel
theorem dX2_stands_5 : decode cX2_stands 5 = .ok (.iload_n 3, 1) := by decide +kernel
theorem dX2_stands_6 : decode cX2_stands 6 = .ok (.if_icmp .ge 32, 3) := by decide +kernel
theorem dX2_stands_9 : decode cX2_stands 9 = .ok (.aload_n 0, 1) := by decide +kernel
theorem dX2_stands_10 : decode cX2_stands 10 = .ok (.getfield 11, 3) := by decide +kernel
theorem dX2_stands_13 : decode cX2_stands 13 = .ok (.iload 4, 2) := by decide +kernel
theorem dX2_stands_15 : decode cX2_stands 15 = .ok (.iaload, 1) := by decide +kernel
theorem dX2_stands_16 : decode cX2_stands 16 = .ok (.ldc 105, 2) := by decide +kernel
theorem dX2_stands_18 : decode cX2_stands 18 = .ok (.iload_n 1, 1) := by decide +kernel
theorem dX2_stands_19 : decode cX2_stands 19 = .ok (.iload 4, 2) := by decide +kernel
theorem dX2_stands_21 : decode cX2_stands 21 = .ok (.iadd, 1) := by decide +kernel
theorem dX2_stands_22 : decode cX2_stands 22 = .ok (.iload_n 2, 1) := by decide +kernel
theorem dX2_stands_23 : decode cX2_stands 23 = .ok (.isub, 1) := by decide +kernel
theorem dX2_stands_24 : decode cX2_stands 24 = .ok (.invokevirtual 110, 3) := by decide +kernel
theorem dX2_stands_27 : decode cX2_stands 27 = .ok (.if_icmp .eq 5, 3) := by decide +kernel
theorem dX2_stands_30 : decode cX2_stands 30 = .ok (.iconst 0, 1) := by decide +kernel
theorem dX2_stands_31 : decode cX2_stands 31 = .ok (.ireturn, 1) := by decide +kernel
theorem dX2_stands_32 : decode cX2_stands 32 = .ok (.iinc 4 1, 3) := by decide +kernel
theorem dX2_stands_35 : decode cX2_stands 35 = .ok (.goto (-32), 3) := by decide +kernel
theorem dX2_stands_38 : decode cX2_stands 38 = .ok (.iconst 1, 1) := by decide +kernel
theorem dX2_stands_39 : decode cX2_stands 39 = .ok (.ireturn, 1) := by decide +kernel
theorem dX2_token_0 : decode cX2_token 0 = .ok (.aload_n 0, 1) := by decide +kernel
theorem dX2_token_1 : decode cX2_token 1 = .ok (.getfield 37, 3) := by decide +kernel
theorem dX2_token_4 : decode cX2_token 4 = .ok (.iconst (-1), 1) := by decide +kernel
theorem dX2_token_5 : decode cX2_token 5 = .ok (.if_icmp .ne 15, 3) := by decide +kernel
theorem dX2_token_8 : decode cX2_token 8 = .ok (.aload_n 0, 1) := by decide +kernel
theorem dX2_token_9 : decode cX2_token 9 = .ok (.getfield 15, 3) := by decide +kernel
theorem dX2_token_12 : decode cX2_token 12 = .ok (.aload_n 0, 1) := by decide +kernel
theorem dX2_token_13 : decode cX2_token 13 = .ok (.getfield 34, 3) := by decide +kernel
