theorem dX9_between_43 : decode cX9_between 43 = .ok (.if_icmp .lt 14, 3) := by decide +kernel
theorem dX9_between_46 : decode cX9_between 46 = .ok (.iload 4, 2) := by decide +kernel
theorem dX9_between_48 : decode cX9_between 48 = .ok (.ifCond .eq 12, 3) := by decide +kernel
theorem dX9_between_51 : decode cX9_between 51 = .ok (.iload 4, 2) := by decide +kernel
theorem dX9_between_53 : decode cX9_between 53 = .ok (.iconst 1, 1) := by decide +kernel
theorem dX9_between_54 : decode cX9_between 54 = .ok (.if_icmp .eq 6, 3) := by decide +kernel
theorem dX9_between_57 : decode cX9_between 57 = .ok (.bipush (-2), 2) := by decide +kernel
theorem dX9_between_59 : decode cX9_between 59 = .ok (.ireturn, 1) := by decide +kernel
theorem dX9_between_60 : decode cX9_between 60 = .ok (.aload_n 0, 1) := by decide +kernel
theorem dX9_between_61 : decode cX9_between 61 = .ok (.getfield 44, 3) := by decide +kernel
theorem dX9_between_64 : decode cX9_between 64 = .ok (.aload 5, 2) := by decide +kernel
theorem dX9_between_66 : decode cX9_between 66 = .ok (.aload_n 0, 1) := by decide +kernel
theorem dX9_between_67 : decode cX9_between 67 = .ok (.getfield 17, 3) := by decide +kernel
theorem dX9_between_70 : decode cX9_between 70 = .ok (.aload_n 0, 1) := by decide +kernel
theorem dX9_between_71 : decode cX9_between 71 = .ok (.getfield 125, 3) := by decide +kernel
theorem dX9_between_74 : decode cX9_between 74 = .ok (.iconst 1, 1) := by decide +kernel
theorem dX9_between_75 : decode cX9_between 75 = .ok (.invokevirtual 168, 3) := by decide +kernel
theorem dX9_between_78 : decode cX9_between 78 = .ok (.aload_n 0, 1) := by decide +kernel
theorem dX9_between_79 : decode cX9_between 79 = .ok (.getfield 44, 3) := by decide +kernel
theorem dX9_between_82 : decode cX9_between 82 = .ok (.iload 6, 2) := by decide +kernel
theorem dX9_between_84 : decode cX9_between 84 = .ok (.invokevirtual 172, 3) := by decide +kernel
theorem dX9_between_87 : decode cX9_between 87 = .ok (.aload_n 0, 1) := by decide +kernel
theorem dX9_between_88 : decode cX9_between 88 = .ok (.getfield 44, 3) := by decide +kernel
theorem dX9_between_91 : decode cX9_between 91 = .ok (.getfield 175, 3) := by decide +kernel
theorem dX9_between_94 : decode cX9_between 94 = .ok (.iload_n 2, 1) := by decide +kernel
theorem dX9_between_95 : decode cX9_between 95 = .ok (.iaload, 1) := by decide +kernel
theorem dX9_between_96 : decode cX9_between 96 = .ok (.istore 8, 2) := by decide +kernel
theorem dX9_between_98 : decode cX9_between 98 = .ok (.iload 8, 2) := by decide +kernel
theorem dX9_between_100 : decode cX9_between 100 = .ok (.istore 9, 2) := by decide +kernel
theorem dX9_between_102 : decode cX9_between 102 = .ok (.iconst 0, 1) := by decide +kernel
theorem dX9_between_103 : decode cX9_between 103 = .ok (.istore 10, 2) := by decide +kernel
theorem dX9_between_105 : decode cX9_between 105 = .ok (.iload 10, 2) := by decide +kernel
theorem dX9_between_107 : decode cX9_between 107 = .ok (.bipush 24, 2) := by decide +kernel
theorem dX9_between_109 : decode cX9_between 109 = .ok (.if_icmp .ge 67, 3) := by decide +kernel
theorem dX9_between_112 : decode cX9_between 112 = .ok (.aload_n 0, 1) := by decide +kernel
theorem dX9_between_113 : decode cX9_between 113 = .ok (.getfield 44, 3) := by decide +kernel
theorem dX9_between_116 : decode cX9_between 116 = .ok (.invokevirtual 178, 3) := by decide +kernel
theorem dX9_between_119 : decode cX9_between 119 = .ok (.iload 7, 2) := by decide +kernel
theorem dX9_between_121 : decode cX9_between 121 = .ok (.if_icmp .gt 55, 3) := by decide +kernel
theorem dX9_between_124 : decode cX9_between 124 = .ok (.aload_n 0, 1) := by decide +kernel
theorem dX9_between_125 : decode cX9_between 125 = .ok (.getfield 44, 3) := by decide +kernel
theorem dX9_between_128 : decode cX9_between 128 = .ok (.aload_n 0, 1) := by decide +kernel
theorem dX9_between_129 : decode cX9_between 129 = .ok (.getfield 44, 3) := by decide +kernel
theorem dX9_between_132 : decode cX9_between 132 = .ok (.invokevirtual 178, 3) := by decide +kernel
theorem dX9_between_135 : decode cX9_between 135 = .ok (.invokevirtual 172, 3) := by decide +kernel
theorem dX9_between_138 : decode cX9_between 138 = .ok (.iload 8, 2) := by decide +kernel
theorem dX9_between_140 : decode cX9_between 140 = .ok (.aload_n 0, 1) := by decide +kernel
theorem dX9_between_141 : decode cX9_between 141 = .ok (.getfield 44, 3) := by decide +kernel
theorem dX9_between_144 : decode cX9_between 144 = .ok (.getfield 175, 3) := by decide +kernel
theorem dX9_between_147 : decode cX9_between 147 = .ok (.iload_n 2, 1) := by decide +kernel
theorem dX9_between_148 : decode cX9_between 148 = .ok (.iaload, 1) := by decide +kernel
theorem dX9_between_149 : decode cX9_between 149 = .ok (.invokestatic 181, 3) := by decide +kernel
theorem dX9_between_152 : decode cX9_between 152 = .ok (.istore 8, 2) := by decide +kernel
theorem dX9_between_154 : decode cX9_between 154 = .ok (.iload 9, 2) := by decide +kernel
theorem dX9_between_156 : decode cX9_between 156 = .ok (.aload_n 0, 1) := by decide +kernel
theorem dX9_between_157 : decode cX9_between 157 = .ok (.getfield 44, 3) := by decide +kernel
theorem dX9_between_160 : decode cX9_between 160 = .ok (.getfield 175, 3) := by decide +kernel
theorem dX9_between_163 : decode cX9_between 163 = .ok (.iload_n 2, 1) := by decide +kernel
theorem dX9_between_164 : decode cX9_between 164 = .ok (.iaload, 1) := by decide +kernel
theorem dX9_between_165 : decode cX9_between 165 = .ok (.invokestatic 186, 3) := by decide +kernel
theorem dX9_between_168 : decode cX9_between 168 = .ok (.istore 9, 2) := by decide +kernel
theorem dX9_between_170 : decode cX9_between 170 = .ok (.iinc 10 1, 3) := by decide +kernel
theorem dX9_between_173 : decode cX9_between 173 = .ok (.goto (-68), 3) := by decide +kernel
theorem dX9_between_176 : decode cX9_between 176 = .ok (.iload 4, 2) := by decide +kernel
theorem dX9_between_178 : decode cX9_between 178 = .ok (.ifCond .ne 8, 3) := by decide +kernel
theorem dX9_between_181 : decode cX9_between 181 = .ok (.iload 8, 2) := by decide +kernel
theorem dX9_between_183 : decode cX9_between 183 = .ok (.goto 5, 3) := by decide +kernel
theorem dX9_between_186 : decode cX9_between 186 = .ok (.iload 9, 2) := by decide +kernel
theorem dX9_between_188 : decode cX9_between 188 = .ok (.ireturn, 1) := by decide +kernel
theorem dX9_feed_0 : decode cX9_feed 0 = .ok (.iload_n 1, 1) := by decide +kernel
theorem dX9_feed_1 : decode cX9_feed 1 = .ok (.iconst 1, 1) := by decide +kernel
theorem dX9_feed_2 : decode cX9_feed 2 = .ok (.if_icmp .lt 9, 3) := by decide +kernel
theorem dX9_feed_5 : decode cX9_feed 5 = .ok (.iload_n 1, 1) := by decide +kernel
theorem dX9_feed_6 : decode cX9_feed 6 = .ok (.bipush 8, 2) := by decide +kernel
theorem dX9_feed_8 : decode cX9_feed 8 = .ok (.if_icmp .le 6, 3) := by decide +kernel
theorem dX9_feed_11 : decode cX9_feed 11 = .ok (.bipush (-2), 2) := by decide +kernel
theorem dX9_feed_13 : decode cX9_feed 13 = .ok (.ireturn, 1) := by decide +kernel
theorem dX9_feed_14 : decode cX9_feed 14 = .ok (.iload_n 1, 1) := by decide +kernel
theorem dX9_feed_15 : decode cX9_feed 15 = .ok (.aload_n 0, 1) := by decide +kernel
theorem dX9_feed_16 : decode cX9_feed 16 = .ok (.getfield 30, 3) := by decide +kernel
theorem dX9_feed_19 : decode cX9_feed 19 = .ok (.invokevirtual 189, 3) := by decide +kernel
theorem dX9_feed_22 : decode cX9_feed 22 = .ok (.if_icmp .le 6, 3) := by decide +kernel
theorem dX9_feed_25 : decode cX9_feed 25 = .ok (.bipush (-4), 2) := by decide +kernel
theorem dX9_feed_27 : decode cX9_feed 27 = .ok (.ireturn, 1) := by decide +kernel
theorem dX9_feed_28 : decode cX9_feed 28 = .ok (.iconst 0, 1) := by decide +kernel
theorem dX9_feed_29 : decode cX9_feed 29 = .ok (.istore 4, 2) := by decide +kernel
theorem dX9_feed_31 : decode cX9_feed 31 = .ok (.iload 4, 2) := by decide +kernel
theorem dX9_feed_33 : decode cX9_feed 33 = .ok (.iload_n 1, 1) := by decide +kernel
theorem dX9_feed_34 : decode cX9_feed 34 = .ok (.if_icmp .ge 28, 3) := by decide +kernel
theorem dX9_feed_37 : decode cX9_feed 37 = .ok (.aload_n 0, 1) := by decide +kernel
theorem dX9_feed_38 : decode cX9_feed 38 = .ok (.getfield 30, 3) := by decide +kernel
theorem dX9_feed_41 : decode cX9_feed 41 = .ok (.lload_n 2, 1) := by decide +kernel
theorem dX9_feed_42 : decode cX9_feed 42 = .ok (.bipush 8, 2) := by decide +kernel
theorem dX9_feed_44 : decode cX9_feed 44 = .ok (.iload 4, 2) := by decide +kernel
theorem dX9_feed_46 : decode cX9_feed 46 = .ok (.imul, 1) := by decide +kernel
theorem dX9_feed_47 : decode cX9_feed 47 = .ok (.lushr, 1) := by decide +kernel
theorem dX9_feed_48 : decode cX9_feed 48 = .ok (.l2i, 1) := by decide +kernel
theorem dX9_feed_49 : decode cX9_feed 49 = .ok (.sipush 255, 3) := by decide +kernel
theorem dX9_feed_52 : decode cX9_feed 52 = .ok (.iand, 1) := by decide +kernel
theorem dX9_feed_53 : decode cX9_feed 53 = .ok (.invokevirtual 78, 3) := by decide +kernel
theorem dX9_feed_56 : decode cX9_feed 56 = .ok (.iinc 4 1, 3) := by decide +kernel
theorem dX9_feed_59 : decode cX9_feed 59 = .ok (.goto (-28), 3) := by decide +kernel
theorem dX9_feed_62 : decode cX9_feed 62 = .ok (.aload_n 0, 1) := by decide +kernel
theorem dX9_feed_63 : decode cX9_feed 63 = .ok (.getfield 30, 3) := by decide +kernel
theorem dX9_feed_66 : decode cX9_feed 66 = .ok (.getfield 192, 3) := by decide +kernel
theorem dX9_feed_69 : decode cX9_feed 69 = .ok (.ireturn, 1) := by decide +kernel
theorem dX9_text_0 : decode cX9_text 0 = .ok (.aload_n 0, 1) := by decide +kernel
theorem dX9_text_1 : decode cX9_text 1 = .ok (.getfield 89, 3) := by decide +kernel
theorem dX9_text_4 : decode cX9_text 4 = .ok (.bipush 6, 2) := by decide +kernel
theorem dX9_text_6 : decode cX9_text 6 = .ok (.if_icmp .lt 6, 3) := by decide +kernel
theorem dX9_text_9 : decode cX9_text 9 = .ok (.bipush (-4), 2) := by decide +kernel
theorem dX9_text_11 : decode cX9_text 11 = .ok (.ireturn, 1) := by decide +kernel
theorem dX9_text_12 : decode cX9_text 12 = .ok (.aload_n 0, 1) := by decide +kernel
theorem dX9_text_13 : decode cX9_text 13 = .ok (.getfield 30, 3) := by decide +kernel
theorem dX9_text_16 : decode cX9_text 16 = .ok (.invokevirtual 82, 3) := by decide +kernel
theorem dX9_text_19 : decode cX9_text 19 = .ok (.istore_n 1, 1) := by decide +kernel
theorem dX9_text_20 : decode cX9_text 20 = .ok (.iload_n 1, 1) := by decide +kernel
theorem dX9_text_21 : decode cX9_text 21 = .ok (.iconst (-1), 1) := by decide +kernel
theorem dX9_text_22 : decode cX9_text 22 = .ok (.if_icmp .ne 29, 3) := by decide +kernel
theorem dX9_text_25 : decode cX9_text 25 = .ok (.aload_n 0, 1) := by decide +kernel
theorem dX9_text_26 : decode cX9_text 26 = .ok (.getfield 23, 3) := by decide +kernel
theorem dX9_text_29 : decode cX9_text 29 = .ok (.aload_n 0, 1) := by decide +kernel
theorem dX9_text_30 : decode cX9_text 30 = .ok (.getfield 89, 3) := by decide +kernel
theorem dX9_text_33 : decode cX9_text 33 = .ok (.aload_n 0, 1) := by decide +kernel
theorem dX9_text_34 : decode cX9_text 34 = .ok (.getfield 30, 3) := by decide +kernel
theorem dX9_text_37 : decode cX9_text 37 = .ok (.invokevirtual 85, 3) := by decide +kernel
theorem dX9_text_40 : decode cX9_text 40 = .ok (.aastore, 1) := by decide +kernel
theorem dX9_text_41 : decode cX9_text 41 = .ok (.aload_n 0, 1) := by decide +kernel
theorem dX9_text_42 : decode cX9_text 42 = .ok (.dup, 1) := by decide +kernel
theorem dX9_text_43 : decode cX9_text 43 = .ok (.getfield 89, 3) := by decide +kernel
theorem dX9_text_46 : decode cX9_text 46 = .ok (.iconst 1, 1) := by decide +kernel
theorem dX9_text_47 : decode cX9_text 47 = .ok (.iadd, 1) := by decide +kernel
theorem dX9_text_48 : decode cX9_text 48 = .ok (.putfield 89, 3) := by decide +kernel
theorem dX9_text_51 : decode cX9_text 51 = .ok (.aload_n 0, 1) := by decide +kernel
theorem dX9_text_52 : decode cX9_text 52 = .ok (.getfield 30, 3) := by decide +kernel
theorem dX9_text_55 : decode cX9_text 55 = .ok (.invokevirtual 93, 3) := by decide +kernel
theorem dX9_text_58 : decode cX9_text 58 = .ok (.iload_n 1, 1) := by decide +kernel
theorem dX9_text_59 : decode cX9_text 59 = .ok (.iconst (-1), 1) := by decide +kernel
theorem dX9_text_60 : decode cX9_text 60 = .ok (.if_icmp .ne 12, 3) := by decide +kernel
theorem dX9_text_63 : decode cX9_text 63 = .ok (.aload_n 0, 1) := by decide +kernel
theorem dX9_text_64 : decode cX9_text 64 = .ok (.getfield 89, 3) := by decide +kernel
theorem dX9_text_67 : decode cX9_text 67 = .ok (.iconst 1, 1) := by decide +kernel
theorem dX9_text_68 : decode cX9_text 68 = .ok (.isub, 1) := by decide +kernel
theorem dX9_text_69 : decode cX9_text 69 = .ok (.goto 7, 3) := by decide +kernel
theorem dX9_text_72 : decode cX9_text 72 = .ok (.bipush (-100), 2) := by decide +kernel
theorem dX9_text_74 : decode cX9_text 74 = .ok (.iload_n 1, 1) := by decide +kernel
theorem dX9_text_75 : decode cX9_text 75 = .ok (.isub, 1) := by decide +kernel
theorem dX9_text_76 : decode cX9_text 76 = .ok (.ireturn, 1) := by decide +kernel
theorem dX9_force_0 : decode cX9_force 0 = .ok (.iload_n 1, 1) := by decide +kernel
theorem dX9_force_1 : decode cX9_force 1 = .ok (.ifCond .lt 11, 3) := by decide +kernel
theorem dX9_force_4 : decode cX9_force 4 = .ok (.iload_n 1, 1) := by decide +kernel
theorem dX9_force_5 : decode cX9_force 5 = .ok (.aload_n 0, 1) := by decide +kernel
theorem dX9_force_6 : decode cX9_force 6 = .ok (.getfield 89, 3) := by decide +kernel
theorem dX9_force_9 : decode cX9_force 9 = .ok (.if_icmp .lt 6, 3) := by decide +kernel
theorem dX9_force_12 : decode cX9_force 12 = .ok (.bipush (-2), 2) := by decide +kernel
theorem dX9_force_14 : decode cX9_force 14 = .ok (.ireturn, 1) := by decide +kernel
theorem dX9_force_15 : decode cX9_force 15 = .ok (.aload_n 0, 1) := by decide +kernel
theorem dX9_force_16 : decode cX9_force 16 = .ok (.getfield 195, 3) := by decide +kernel
theorem dX9_force_19 : decode cX9_force 19 = .ok (.istore_n 2, 1) := by decide +kernel
theorem dX9_force_20 : decode cX9_force 20 = .ok (.aload_n 0, 1) := by decide +kernel
theorem dX9_force_21 : decode cX9_force 21 = .ok (.iload_n 1, 1) := by decide +kernel
theorem dX9_force_22 : decode cX9_force 22 = .ok (.putfield 195, 3) := by decide +kernel
theorem dX9_force_25 : decode cX9_force 25 = .ok (.iload_n 2, 1) := by decide +kernel
theorem dX9_force_26 : decode cX9_force 26 = .ok (.ireturn, 1) := by decide +kernel
theorem dX9_owes_0 : decode cX9_owes 0 = .ok (.aload_n 0, 1) := by decide +kernel
theorem dX9_owes_1 : decode cX9_owes 1 = .ok (.iload_n 1, 1) := by decide +kernel
theorem dX9_owes_2 : decode cX9_owes 2 = .ok (.invokevirtual 131, 3) := by decide +kernel
theorem dX9_owes_5 : decode cX9_owes 5 = .ok (.astore_n 3, 1) := by decide +kernel
theorem dX9_owes_6 : decode cX9_owes 6 = .ok (.aload_n 3, 1) := by decide +kernel
theorem dX9_owes_7 : decode cX9_owes 7 = .ok (.ifnull 10, 3) := by decide +kernel
theorem dX9_owes_10 : decode cX9_owes 10 = .ok (.iload_n 2, 1) := by decide +kernel
theorem dX9_owes_11 : decode cX9_owes 11 = .ok (.invokestatic 122, 3) := by decide +kernel
theorem dX9_owes_14 : decode cX9_owes 14 = .ok (.ifCond .ne 9, 3) := by decide +kernel
theorem dX9_owes_17 : decode cX9_owes 17 = .ok (.ldc2_w 156, 3) := by decide +kernel
theorem dX9_owes_20 : decode cX9_owes 20 = .ok (.goto 9, 3) := by decide +kernel
theorem dX9_owes_23 : decode cX9_owes 23 = .ok (.aload_n 0, 1) := by decide +kernel
theorem dX9_owes_24 : decode cX9_owes 24 = .ok (.aload_n 3, 1) := by decide +kernel
theorem dX9_owes_25 : decode cX9_owes 25 = .ok (.iload_n 2, 1) := by decide +kernel
theorem dX9_owes_26 : decode cX9_owes 26 = .ok (.invokevirtual 198, 3) := by decide +kernel
theorem dX9_owes_29 : decode cX9_owes 29 = .ok (.lreturn, 1) := by decide +kernel
theorem dX9_balance_0 : decode cX9_balance 0 = .ok (.iload_n 1, 1) := by decide +kernel
theorem dX9_balance_1 : decode cX9_balance 1 = .ok (.invokestatic 100, 3) := by decide +kernel
theorem dX9_balance_4 : decode cX9_balance 4 = .ok (.ifCond .eq 10, 3) := by decide +kernel
theorem dX9_balance_7 : decode cX9_balance 7 = .ok (.iload_n 2, 1) := by decide +kernel
theorem dX9_balance_8 : decode cX9_balance 8 = .ok (.invokestatic 122, 3) := by decide +kernel
theorem dX9_balance_11 : decode cX9_balance 11 = .ok (.ifCond .ne 7, 3) := by decide +kernel
theorem dX9_balance_14 : decode cX9_balance 14 = .ok (.ldc2_w 156, 3) := by decide +kernel
theorem dX9_balance_17 : decode cX9_balance 17 = .ok (.lreturn, 1) := by decide +kernel
theorem dX9_balance_18 : decode cX9_balance 18 = .ok (.lconst 0, 1) := by decide +kernel
theorem dX9_balance_19 : decode cX9_balance 19 = .ok (.lstore_n 3, 1) := by decide +kernel
theorem dX9_balance_20 : decode cX9_balance 20 = .ok (.iconst 0, 1) := by decide +kernel
theorem dX9_balance_21 : decode cX9_balance 21 = .ok (.istore 5, 2) := by decide +kernel
theorem dX9_balance_23 : decode cX9_balance 23 = .ok (.iload 5, 2) := by decide +kernel
theorem dX9_balance_25 : decode cX9_balance 25 = .ok (.aload_n 0, 1) := by decide +kernel
theorem dX9_balance_26 : decode cX9_balance 26 = .ok (.getfield 125, 3) := by decide +kernel
theorem dX9_balance_29 : decode cX9_balance 29 = .ok (.if_icmp .ge 59, 3) := by decide +kernel
theorem dX9_balance_32 : decode cX9_balance 32 = .ok (.aload_n 0, 1) := by decide +kernel
theorem dX9_balance_33 : decode cX9_balance 33 = .ok (.getfield 17, 3) := by decide +kernel
theorem dX9_balance_36 : decode cX9_balance 36 = .ok (.iload 5, 2) := by decide +kernel
theorem dX9_balance_38 : decode cX9_balance 38 = .ok (.aaload, 1) := by decide +kernel
theorem dX9_balance_39 : decode cX9_balance 39 = .ok (.astore 6, 2) := by decide +kernel
theorem dX9_balance_41 : decode cX9_balance 41 = .ok (.aload 6, 2) := by decide +kernel
theorem dX9_balance_43 : decode cX9_balance 43 = .ok (.getfield 202, 3) := by decide +kernel
theorem dX9_balance_46 : decode cX9_balance 46 = .ok (.iload_n 1, 1) := by decide +kernel
theorem dX9_balance_47 : decode cX9_balance 47 = .ok (.if_icmp .ne 16, 3) := by decide +kernel
theorem dX9_balance_50 : decode cX9_balance 50 = .ok (.lload_n 3, 1) := by decide +kernel
theorem dX9_balance_51 : decode cX9_balance 51 = .ok (.aload_n 0, 1) := by decide +kernel
theorem dX9_balance_52 : decode cX9_balance 52 = .ok (.aload 6, 2) := by decide +kernel
theorem dX9_balance_54 : decode cX9_balance 54 = .ok (.iload_n 2, 1) := by decide +kernel
theorem dX9_balance_55 : decode cX9_balance 55 = .ok (.invokevirtual 198, 3) := by decide +kernel
theorem dX9_balance_58 : decode cX9_balance 58 = .ok (.ladd, 1) := by decide +kernel
theorem dX9_balance_59 : decode cX9_balance 59 = .ok (.lstore_n 3, 1) := by decide +kernel
theorem dX9_balance_60 : decode cX9_balance 60 = .ok (.goto 22, 3) := by decide +kernel
theorem dX9_balance_63 : decode cX9_balance 63 = .ok (.aload 6, 2) := by decide +kernel
theorem dX9_balance_65 : decode cX9_balance 65 = .ok (.getfield 205, 3) := by decide +kernel
theorem dX9_balance_68 : decode cX9_balance 68 = .ok (.iload_n 1, 1) := by decide +kernel
theorem dX9_balance_69 : decode cX9_balance 69 = .ok (.if_icmp .ne 13, 3) := by decide +kernel
theorem dX9_balance_72 : decode cX9_balance 72 = .ok (.lload_n 3, 1) := by decide +kernel
theorem dX9_balance_73 : decode cX9_balance 73 = .ok (.aload_n 0, 1) := by decide +kernel
theorem dX9_balance_74 : decode cX9_balance 74 = .ok (.aload 6, 2) := by decide +kernel
theorem dX9_balance_76 : decode cX9_balance 76 = .ok (.iload_n 2, 1) := by decide +kernel
theorem dX9_balance_77 : decode cX9_balance 77 = .ok (.invokevirtual 198, 3) := by decide +kernel
theorem dX9_balance_80 : decode cX9_balance 80 = .ok (.lsub, 1) := by decide +kernel
theorem dX9_balance_81 : decode cX9_balance 81 = .ok (.lstore_n 3, 1) := by decide +kernel
theorem dX9_balance_82 : decode cX9_balance 82 = .ok (.iinc 5 1, 3) := by decide +kernel
theorem dX9_balance_85 : decode cX9_balance 85 = .ok (.goto (-62), 3) := by decide +kernel
theorem dX9_balance_88 : decode cX9_balance 88 = .ok (.lload_n 3, 1) := by decide +kernel
theorem dX9_balance_89 : decode cX9_balance 89 = .ok (.lreturn, 1) := by decide +kernel
theorem dX9_closes_0 : decode cX9_closes 0 = .ok (.aload_n 0, 1) := by decide +kernel
theorem dX9_closes_1 : decode cX9_closes 1 = .ok (.iload_n 1, 1) := by decide +kernel
theorem dX9_closes_2 : decode cX9_closes 2 = .ok (.invokevirtual 208, 3) := by decide +kernel
theorem dX9_closes_5 : decode cX9_closes 5 = .ok (.ifCond .ne 6, 3) := by decide +kernel
theorem dX9_closes_8 : decode cX9_closes 8 = .ok (.bipush (-2), 2) := by decide +kernel
theorem dX9_closes_10 : decode cX9_closes 10 = .ok (.ireturn, 1) := by decide +kernel
theorem dX9_closes_11 : decode cX9_closes 11 = .ok (.aload_n 0, 1) := by decide +kernel
theorem dX9_closes_12 : decode cX9_closes 12 = .ok (.getfield 51, 3) := by decide +kernel
theorem dX9_closes_15 : decode cX9_closes 15 = .ok (.aload_n 0, 1) := by decide +kernel
theorem dX9_closes_16 : decode cX9_closes 16 = .ok (.getfield 17, 3) := by decide +kernel
theorem dX9_closes_19 : decode cX9_closes 19 = .ok (.aload_n 0, 1) := by decide +kernel
theorem dX9_closes_20 : decode cX9_closes 20 = .ok (.getfield 125, 3) := by decide +kernel
theorem dX9_closes_23 : decode cX9_closes 23 = .ok (.iload_n 1, 1) := by decide +kernel
theorem dX9_closes_24 : decode cX9_closes 24 = .ok (.invokevirtual 211, 3) := by decide +kernel
theorem dX9_closes_27 : decode cX9_closes 27 = .ok (.ifCond .eq 7, 3) := by decide +kernel
theorem dX9_closes_30 : decode cX9_closes 30 = .ok (.iconst 1, 1) := by decide +kernel
theorem dX9_closes_31 : decode cX9_closes 31 = .ok (.goto 4, 3) := by decide +kernel
theorem dX9_closes_34 : decode cX9_closes 34 = .ok (.iconst 0, 1) := by decide +kernel
theorem dX9_closes_35 : decode cX9_closes 35 = .ok (.ireturn, 1) := by decide +kernel
theorem dX9_differ_0 : decode cX9_differ 0 = .ok (.iload_n 2, 1) := by decide +kernel
theorem dX9_differ_1 : decode cX9_differ 1 = .ok (.invokestatic 100, 3) := by decide +kernel
theorem dX9_differ_4 : decode cX9_differ 4 = .ok (.ifCond .ne 7, 3) := by decide +kernel
theorem dX9_differ_7 : decode cX9_differ 7 = .ok (.ldc2_w 156, 3) := by decide +kernel
theorem dX9_differ_10 : decode cX9_differ 10 = .ok (.lreturn, 1) := by decide +kernel
theorem dX9_differ_11 : decode cX9_differ 11 = .ok (.aload_n 0, 1) := by decide +kernel
theorem dX9_differ_12 : decode cX9_differ 12 = .ok (.iload_n 1, 1) := by decide +kernel
theorem dX9_differ_13 : decode cX9_differ 13 = .ok (.invokevirtual 208, 3) := by decide +kernel
theorem dX9_differ_16 : decode cX9_differ 16 = .ok (.ifCond .ne 7, 3) := by decide +kernel
theorem dX9_differ_19 : decode cX9_differ 19 = .ok (.ldc2_w 215, 3) := by decide +kernel
theorem dX9_differ_22 : decode cX9_differ 22 = .ok (.lreturn, 1) := by decide +kernel
theorem dX9_differ_23 : decode cX9_differ 23 = .ok (.aload_n 0, 1) := by decide +kernel
theorem dX9_differ_24 : decode cX9_differ 24 = .ok (.getfield 51, 3) := by decide +kernel
theorem dX9_differ_27 : decode cX9_differ 27 = .ok (.aload_n 0, 1) := by decide +kernel
theorem dX9_differ_28 : decode cX9_differ 28 = .ok (.getfield 17, 3) := by decide +kernel
theorem dX9_differ_31 : decode cX9_differ 31 = .ok (.aload_n 0, 1) := by decide +kernel
theorem dX9_differ_32 : decode cX9_differ 32 = .ok (.getfield 125, 3) := by decide +kernel
theorem dX9_differ_35 : decode cX9_differ 35 = .ok (.iload_n 1, 1) := by decide +kernel
theorem dX9_differ_36 : decode cX9_differ 36 = .ok (.invokevirtual 211, 3) := by decide +kernel
theorem dX9_differ_39 : decode cX9_differ 39 = .ok (.ifCond .eq 12, 3) := by decide +kernel
theorem dX9_differ_42 : decode cX9_differ 42 = .ok (.aload_n 0, 1) := by decide +kernel
theorem dX9_differ_43 : decode cX9_differ 43 = .ok (.iload_n 2, 1) := by decide +kernel
theorem dX9_differ_44 : decode cX9_differ 44 = .ok (.iload_n 1, 1) := by decide +kernel
theorem dX9_differ_45 : decode cX9_differ 45 = .ok (.invokevirtual 217, 3) := by decide +kernel
theorem dX9_differ_48 : decode cX9_differ 48 = .ok (.goto 6, 3) := by decide +kernel
theorem dX9_differ_51 : decode cX9_differ 51 = .ok (.ldc2_w 221, 3) := by decide +kernel
theorem dX9_differ_54 : decode cX9_differ 54 = .ok (.lreturn, 1) := by decide +kernel
theorem dX9_found_0 : decode cX9_found 0 = .ok (.aload_n 0, 1) := by decide +kernel
theorem dX9_found_1 : decode cX9_found 1 = .ok (.iload_n 1, 1) := by decide +kernel
theorem dX9_found_2 : decode cX9_found 2 = .ok (.invokevirtual 109, 3) := by decide +kernel
theorem dX9_found_5 : decode cX9_found 5 = .ok (.astore_n 2, 1) := by decide +kernel
theorem dX9_found_6 : decode cX9_found 6 = .ok (.aload_n 2, 1) := by decide +kernel
theorem dX9_found_7 : decode cX9_found 7 = .ok (.ifnonnull 8, 3) := by decide +kernel
theorem dX9_found_10 : decode cX9_found 10 = .ok (.bipush (-2), 2) := by decide +kernel
theorem dX9_found_12 : decode cX9_found 12 = .ok (.goto 19, 3) := by decide +kernel
theorem dX9_found_15 : decode cX9_found 15 = .ok (.aload_n 0, 1) := by decide +kernel
theorem dX9_found_16 : decode cX9_found 16 = .ok (.getfield 51, 3) := by decide +kernel
theorem dX9_found_19 : decode cX9_found 19 = .ok (.aload_n 0, 1) := by decide +kernel
theorem dX9_found_20 : decode cX9_found 20 = .ok (.getfield 17, 3) := by decide +kernel
theorem dX9_found_23 : decode cX9_found 23 = .ok (.aload_n 0, 1) := by decide +kernel
theorem dX9_found_24 : decode cX9_found 24 = .ok (.getfield 125, 3) := by decide +kernel
theorem dX9_found_27 : decode cX9_found 27 = .ok (.aload_n 2, 1) := by decide +kernel
theorem dX9_found_28 : decode cX9_found 28 = .ok (.invokevirtual 223, 3) := by decide +kernel
theorem dX9_found_31 : decode cX9_found 31 = .ok (.ireturn, 1) := by decide +kernel
theorem dX9_loses_0 : decode cX9_loses 0 = .ok (.iload_n 1, 1) := by decide +kernel
theorem dX9_loses_1 : decode cX9_loses 1 = .ok (.bipush 10, 2) := by decide +kernel
theorem dX9_loses_3 : decode cX9_loses 3 = .ok (.idiv, 1) := by decide +kernel
theorem dX9_loses_4 : decode cX9_loses 4 = .ok (.istore_n 3, 1) := by decide +kernel
theorem dX9_loses_5 : decode cX9_loses 5 = .ok (.iload_n 1, 1) := by decide +kernel
theorem dX9_loses_6 : decode cX9_loses 6 = .ok (.bipush 10, 2) := by decide +kernel
theorem dX9_loses_8 : decode cX9_loses 8 = .ok (.irem, 1) := by decide +kernel
theorem dX9_loses_9 : decode cX9_loses 9 = .ok (.istore 4, 2) := by decide +kernel
theorem dX9_loses_11 : decode cX9_loses 11 = .ok (.iload_n 1, 1) := by decide +kernel
theorem dX9_loses_12 : decode cX9_loses 12 = .ok (.ifCond .lt 23, 3) := by decide +kernel
theorem dX9_loses_15 : decode cX9_loses 15 = .ok (.iload_n 3, 1) := by decide +kernel
theorem dX9_loses_16 : decode cX9_loses 16 = .ok (.invokestatic 100, 3) := by decide +kernel
theorem dX9_loses_19 : decode cX9_loses 19 = .ok (.ifCond .eq 16, 3) := by decide +kernel
theorem dX9_loses_22 : decode cX9_loses 22 = .ok (.iload_n 3, 1) := by decide +kernel
theorem dX9_loses_23 : decode cX9_loses 23 = .ok (.iload 4, 2) := by decide +kernel
theorem dX9_loses_25 : decode cX9_loses 25 = .ok (.if_icmp .eq 10, 3) := by decide +kernel
theorem dX9_loses_28 : decode cX9_loses 28 = .ok (.iload_n 2, 1) := by decide +kernel
theorem dX9_loses_29 : decode cX9_loses 29 = .ok (.invokestatic 122, 3) := by decide +kernel
theorem dX9_loses_32 : decode cX9_loses 32 = .ok (.ifCond .ne 7, 3) := by decide +kernel
theorem dX9_loses_35 : decode cX9_loses 35 = .ok (.ldc2_w 156, 3) := by decide +kernel
theorem dX9_loses_38 : decode cX9_loses 38 = .ok (.lreturn, 1) := by decide +kernel
theorem dX9_loses_39 : decode cX9_loses 39 = .ok (.lconst 0, 1) := by decide +kernel
theorem dX9_loses_40 : decode cX9_loses 40 = .ok (.lstore 5, 2) := by decide +kernel
theorem dX9_loses_42 : decode cX9_loses 42 = .ok (.iconst 0, 1) := by decide +kernel
theorem dX9_loses_43 : decode cX9_loses 43 = .ok (.istore 7, 2) := by decide +kernel
theorem dX9_loses_45 : decode cX9_loses 45 = .ok (.iload 7, 2) := by decide +kernel
theorem dX9_loses_47 : decode cX9_loses 47 = .ok (.aload_n 0, 1) := by decide +kernel
theorem dX9_loses_48 : decode cX9_loses 48 = .ok (.getfield 125, 3) := by decide +kernel
theorem dX9_loses_51 : decode cX9_loses 51 = .ok (.if_icmp .ge 62, 3) := by decide +kernel
theorem dX9_loses_54 : decode cX9_loses 54 = .ok (.aload_n 0, 1) := by decide +kernel
theorem dX9_loses_55 : decode cX9_loses 55 = .ok (.getfield 17, 3) := by decide +kernel
theorem dX9_loses_58 : decode cX9_loses 58 = .ok (.iload 7, 2) := by decide +kernel
theorem dX9_loses_60 : decode cX9_loses 60 = .ok (.aaload, 1) := by decide +kernel
theorem dX9_loses_61 : decode cX9_loses 61 = .ok (.astore 8, 2) := by decide +kernel
theorem dX9_loses_63 : decode cX9_loses 63 = .ok (.aload 8, 2) := by decide +kernel
theorem dX9_loses_65 : decode cX9_loses 65 = .ok (.getfield 205, 3) := by decide +kernel
theorem dX9_loses_68 : decode cX9_loses 68 = .ok (.iload_n 3, 1) := by decide +kernel
theorem dX9_loses_69 : decode cX9_loses 69 = .ok (.if_icmp .ne 38, 3) := by decide +kernel
theorem dX9_loses_72 : decode cX9_loses 72 = .ok (.aload 8, 2) := by decide +kernel
theorem dX9_loses_74 : decode cX9_loses 74 = .ok (.getfield 202, 3) := by decide +kernel
theorem dX9_loses_77 : decode cX9_loses 77 = .ok (.iload 4, 2) := by decide +kernel
theorem dX9_loses_79 : decode cX9_loses 79 = .ok (.if_icmp .ne 28, 3) := by decide +kernel
theorem dX9_loses_82 : decode cX9_loses 82 = .ok (.aload 8, 2) := by decide +kernel
theorem dX9_loses_84 : decode cX9_loses 84 = .ok (.invokevirtual 227, 3) := by decide +kernel
theorem dX9_loses_87 : decode cX9_loses 87 = .ok (.iload_n 2, 1) := by decide +kernel
theorem dX9_loses_88 : decode cX9_loses 88 = .ok (.if_icmp .gt 19, 3) := by decide +kernel
theorem dX9_loses_91 : decode cX9_loses 91 = .ok (.lload 5, 2) := by decide +kernel
theorem dX9_loses_93 : decode cX9_loses 93 = .ok (.lconst 0, 1) := by decide +kernel
theorem dX9_loses_94 : decode cX9_loses 94 = .ok (.aload_n 0, 1) := by decide +kernel
theorem dX9_loses_95 : decode cX9_loses 95 = .ok (.aload 8, 2) := by decide +kernel
theorem dX9_loses_97 : decode cX9_loses 97 = .ok (.iload_n 2, 1) := by decide +kernel
theorem dX9_loses_98 : decode cX9_loses 98 = .ok (.invokevirtual 198, 3) := by decide +kernel
theorem dX9_loses_101 : decode cX9_loses 101 = .ok (.invokestatic 230, 3) := by decide +kernel
theorem dX9_loses_104 : decode cX9_loses 104 = .ok (.ladd, 1) := by decide +kernel
theorem dX9_loses_105 : decode cX9_loses 105 = .ok (.lstore 5, 2) := by decide +kernel
theorem dX9_loses_107 : decode cX9_loses 107 = .ok (.iinc 7 1, 3) := by decide +kernel
theorem dX9_loses_110 : decode cX9_loses 110 = .ok (.goto (-65), 3) := by decide +kernel
theorem dX9_loses_113 : decode cX9_loses 113 = .ok (.lload 5, 2) := by decide +kernel
theorem dX9_loses_115 : decode cX9_loses 115 = .ok (.lreturn, 1) := by decide +kernel
theorem dX9_stops_0 : decode cX9_stops 0 = .ok (.iload_n 1, 1) := by decide +kernel
theorem dX9_stops_1 : decode cX9_stops 1 = .ok (.invokestatic 100, 3) := by decide +kernel
theorem dX9_stops_4 : decode cX9_stops 4 = .ok (.ifCond .eq 10, 3) := by decide +kernel
theorem dX9_stops_7 : decode cX9_stops 7 = .ok (.iload_n 2, 1) := by decide +kernel
theorem dX9_stops_8 : decode cX9_stops 8 = .ok (.invokestatic 122, 3) := by decide +kernel
theorem dX9_stops_11 : decode cX9_stops 11 = .ok (.ifCond .ne 6, 3) := by decide +kernel
theorem dX9_stops_14 : decode cX9_stops 14 = .ok (.bipush (-2), 2) := by decide +kernel
theorem dX9_stops_16 : decode cX9_stops 16 = .ok (.ireturn, 1) := by decide +kernel
theorem dX9_stops_17 : decode cX9_stops 17 = .ok (.iconst 0, 1) := by decide +kernel
theorem dX9_stops_18 : decode cX9_stops 18 = .ok (.istore_n 3, 1) := by decide +kernel
theorem dX9_stops_19 : decode cX9_stops 19 = .ok (.iconst 0, 1) := by decide +kernel
theorem dX9_stops_20 : decode cX9_stops 20 = .ok (.istore 4, 2) := by decide +kernel
theorem dX9_stops_22 : decode cX9_stops 22 = .ok (.iload 4, 2) := by decide +kernel
theorem dX9_stops_24 : decode cX9_stops 24 = .ok (.aload_n 0, 1) := by decide +kernel
theorem dX9_stops_25 : decode cX9_stops 25 = .ok (.getfield 125, 3) := by decide +kernel
theorem dX9_stops_28 : decode cX9_stops 28 = .ok (.if_icmp .ge 45, 3) := by decide +kernel
theorem dX9_stops_31 : decode cX9_stops 31 = .ok (.aload_n 0, 1) := by decide +kernel
theorem dX9_stops_32 : decode cX9_stops 32 = .ok (.getfield 17, 3) := by decide +kernel
theorem dX9_stops_35 : decode cX9_stops 35 = .ok (.iload 4, 2) := by decide +kernel
theorem dX9_stops_37 : decode cX9_stops 37 = .ok (.aaload, 1) := by decide +kernel
theorem dX9_stops_38 : decode cX9_stops 38 = .ok (.getfield 205, 3) := by decide +kernel
theorem dX9_stops_41 : decode cX9_stops 41 = .ok (.iload_n 1, 1) := by decide +kernel
theorem dX9_stops_42 : decode cX9_stops 42 = .ok (.if_icmp .ne 25, 3) := by decide +kernel
theorem dX9_stops_45 : decode cX9_stops 45 = .ok (.aload_n 0, 1) := by decide +kernel
theorem dX9_stops_46 : decode cX9_stops 46 = .ok (.aload_n 0, 1) := by decide +kernel
theorem dX9_stops_47 : decode cX9_stops 47 = .ok (.getfield 17, 3) := by decide +kernel
theorem dX9_stops_50 : decode cX9_stops 50 = .ok (.iload 4, 2) := by decide +kernel
theorem dX9_stops_52 : decode cX9_stops 52 = .ok (.aaload, 1) := by decide +kernel
theorem dX9_stops_53 : decode cX9_stops 53 = .ok (.iload_n 2, 1) := by decide +kernel
theorem dX9_stops_54 : decode cX9_stops 54 = .ok (.invokevirtual 233, 3) := by decide +kernel
theorem dX9_stops_57 : decode cX9_stops 57 = .ok (.ifCond .eq 10, 3) := by decide +kernel
theorem dX9_stops_60 : decode cX9_stops 60 = .ok (.iload_n 3, 1) := by decide +kernel
theorem dX9_stops_61 : decode cX9_stops 61 = .ok (.iconst 1, 1) := by decide +kernel
theorem dX9_stops_62 : decode cX9_stops 62 = .ok (.iload 4, 2) := by decide +kernel
theorem dX9_stops_64 : decode cX9_stops 64 = .ok (.ishl, 1) := by decide +kernel
theorem dX9_stops_65 : decode cX9_stops 65 = .ok (.ior, 1) := by decide +kernel
theorem dX9_stops_66 : decode cX9_stops 66 = .ok (.istore_n 3, 1) := by decide +kernel
theorem dX9_stops_67 : decode cX9_stops 67 = .ok (.iinc 4 1, 3) := by decide +kernel
theorem dX9_stops_70 : decode cX9_stops 70 = .ok (.goto (-48), 3) := by decide +kernel
theorem dX9_stops_73 : decode cX9_stops 73 = .ok (.iload_n 3, 1) := by decide +kernel
theorem dX9_stops_74 : decode cX9_stops 74 = .ok (.ireturn, 1) := by decide +kernel
theorem dX9_two_0 : decode cX9_two 0 = .ok (.aload_n 0, 1) := by decide +kernel
theorem dX9_two_1 : decode cX9_two 1 = .ok (.iload_n 1, 1) := by decide +kernel
theorem dX9_two_2 : decode cX9_two 2 = .ok (.invokevirtual 131, 3) := by decide +kernel
theorem dX9_two_5 : decode cX9_two 5 = .ok (.astore 4, 2) := by decide +kernel
theorem dX9_two_7 : decode cX9_two 7 = .ok (.iload_n 2, 1) := by decide +kernel
theorem dX9_two_8 : decode cX9_two 8 = .ok (.invokestatic 153, 3) := by decide +kernel
theorem dX9_two_11 : decode cX9_two 11 = .ok (.istore 5, 2) := by decide +kernel
theorem dX9_two_13 : decode cX9_two 13 = .ok (.iload_n 3, 1) := by decide +kernel
theorem dX9_two_14 : decode cX9_two 14 = .ok (.invokestatic 153, 3) := by decide +kernel
theorem dX9_two_17 : decode cX9_two 17 = .ok (.istore 6, 2) := by decide +kernel
theorem dX9_two_19 : decode cX9_two 19 = .ok (.aload 4, 2) := by decide +kernel
theorem dX9_two_21 : decode cX9_two 21 = .ok (.ifnull 26, 3) := by decide +kernel
theorem dX9_two_24 : decode cX9_two 24 = .ok (.iload 5, 2) := by decide +kernel
theorem dX9_two_26 : decode cX9_two 26 = .ok (.invokestatic 100, 3) := by decide +kernel
theorem dX9_two_29 : decode cX9_two 29 = .ok (.ifCond .eq 18, 3) := by decide +kernel
theorem dX9_two_32 : decode cX9_two 32 = .ok (.iload 6, 2) := by decide +kernel
theorem dX9_two_34 : decode cX9_two 34 = .ok (.invokestatic 100, 3) := by decide +kernel
theorem dX9_two_37 : decode cX9_two 37 = .ok (.ifCond .eq 10, 3) := by decide +kernel
theorem dX9_two_40 : decode cX9_two 40 = .ok (.iload 5, 2) := by decide +kernel
theorem dX9_two_42 : decode cX9_two 42 = .ok (.iload 6, 2) := by decide +kernel
theorem dX9_two_44 : decode cX9_two 44 = .ok (.if_icmp .ne 6, 3) := by decide +kernel
theorem dX9_two_47 : decode cX9_two 47 = .ok (.bipush (-2), 2) := by decide +kernel
theorem dX9_two_49 : decode cX9_two 49 = .ok (.ireturn, 1) := by decide +kernel
theorem dX9_two_50 : decode cX9_two 50 = .ok (.aload 4, 2) := by decide +kernel
theorem dX9_two_52 : decode cX9_two 52 = .ok (.getfield 237, 3) := by decide +kernel
theorem dX9_two_55 : decode cX9_two 55 = .ok (.iconst 3, 1) := by decide +kernel
theorem dX9_two_56 : decode cX9_two 56 = .ok (.invokestatic 240, 3) := by decide +kernel
theorem dX9_two_59 : decode cX9_two 59 = .ok (.ifCond .ne 6, 3) := by decide +kernel
theorem dX9_two_62 : decode cX9_two 62 = .ok (.bipush (-13), 2) := by decide +kernel
theorem dX9_two_64 : decode cX9_two 64 = .ok (.ireturn, 1) := by decide +kernel
theorem dX9_two_65 : decode cX9_two 65 = .ok (.iload_n 2, 1) := by decide +kernel
theorem dX9_two_66 : decode cX9_two 66 = .ok (.invokestatic 158, 3) := by decide +kernel
theorem dX9_two_69 : decode cX9_two 69 = .ok (.iload_n 3, 1) := by decide +kernel
theorem dX9_two_70 : decode cX9_two 70 = .ok (.invokestatic 158, 3) := by decide +kernel
theorem dX9_two_73 : decode cX9_two 73 = .ok (.if_icmp .ne 11, 3) := by decide +kernel
theorem dX9_two_76 : decode cX9_two 76 = .ok (.iload 5, 2) := by decide +kernel
theorem dX9_two_78 : decode cX9_two 78 = .ok (.iload 6, 2) := by decide +kernel
theorem dX9_two_80 : decode cX9_two 80 = .ok (.invokestatic 181, 3) := by decide +kernel
theorem dX9_two_83 : decode cX9_two 83 = .ok (.ireturn, 1) := by decide +kernel
theorem dX9_two_84 : decode cX9_two 84 = .ok (.iload_n 2, 1) := by decide +kernel
theorem dX9_two_85 : decode cX9_two 85 = .ok (.invokestatic 158, 3) := by decide +kernel
theorem dX9_two_88 : decode cX9_two 88 = .ok (.iload_n 3, 1) := by decide +kernel
theorem dX9_two_89 : decode cX9_two 89 = .ok (.invokestatic 158, 3) := by decide +kernel
theorem dX9_two_92 : decode cX9_two 92 = .ok (.if_icmp .ge 8, 3) := by decide +kernel
theorem dX9_two_95 : decode cX9_two 95 = .ok (.iload 5, 2) := by decide +kernel
theorem dX9_two_97 : decode cX9_two 97 = .ok (.goto 5, 3) := by decide +kernel
theorem dX9_two_100 : decode cX9_two 100 = .ok (.iload 6, 2) := by decide +kernel
theorem dX9_two_102 : decode cX9_two 102 = .ok (.ireturn, 1) := by decide +kernel
theorem dX9_hangs_0 : decode cX9_hangs 0 = .ok (.aload_n 0, 1) := by decide +kernel
theorem dX9_hangs_1 : decode cX9_hangs 1 = .ok (.iload_n 1, 1) := by decide +kernel
theorem dX9_hangs_2 : decode cX9_hangs 2 = .ok (.invokevirtual 109, 3) := by decide +kernel
theorem dX9_hangs_5 : decode cX9_hangs 5 = .ok (.astore 4, 2) := by decide +kernel
theorem dX9_hangs_7 : decode cX9_hangs 7 = .ok (.aload 4, 2) := by decide +kernel
theorem dX9_hangs_9 : decode cX9_hangs 9 = .ok (.ifnull 19, 3) := by decide +kernel
theorem dX9_hangs_12 : decode cX9_hangs 12 = .ok (.iload_n 2, 1) := by decide +kernel
theorem dX9_hangs_13 : decode cX9_hangs 13 = .ok (.invokestatic 122, 3) := by decide +kernel
theorem dX9_hangs_16 : decode cX9_hangs 16 = .ok (.ifCond .eq 12, 3) := by decide +kernel
theorem dX9_hangs_19 : decode cX9_hangs 19 = .ok (.iload_n 3, 1) := by decide +kernel
theorem dX9_hangs_20 : decode cX9_hangs 20 = .ok (.ifCond .eq 11, 3) := by decide +kernel
theorem dX9_hangs_23 : decode cX9_hangs 23 = .ok (.iload_n 3, 1) := by decide +kernel
theorem dX9_hangs_24 : decode cX9_hangs 24 = .ok (.iconst 1, 1) := by decide +kernel
theorem dX9_hangs_25 : decode cX9_hangs 25 = .ok (.if_icmp .eq 6, 3) := by decide +kernel
theorem dX9_hangs_28 : decode cX9_hangs 28 = .ok (.bipush (-2), 2) := by decide +kernel
theorem dX9_hangs_30 : decode cX9_hangs 30 = .ok (.ireturn, 1) := by decide +kernel
theorem dX9_hangs_31 : decode cX9_hangs 31 = .ok (.aload_n 0, 1) := by decide +kernel
theorem dX9_hangs_32 : decode cX9_hangs 32 = .ok (.aload 4, 2) := by decide +kernel
theorem dX9_hangs_34 : decode cX9_hangs 34 = .ok (.iload_n 2, 1) := by decide +kernel
theorem dX9_hangs_35 : decode cX9_hangs 35 = .ok (.invokevirtual 244, 3) := by decide +kernel
theorem dX9_hangs_38 : decode cX9_hangs 38 = .ok (.aload_n 0, 1) := by decide +kernel
theorem dX9_hangs_39 : decode cX9_hangs 39 = .ok (.aload 4, 2) := by decide +kernel
theorem dX9_hangs_41 : decode cX9_hangs 41 = .ok (.iconst 0, 1) := by decide +kernel
theorem dX9_hangs_42 : decode cX9_hangs 42 = .ok (.iload_n 2, 1) := by decide +kernel
theorem dX9_hangs_43 : decode cX9_hangs 43 = .ok (.invokevirtual 248, 3) := by decide +kernel
theorem dX9_hangs_46 : decode cX9_hangs 46 = .ok (.istore 5, 2) := by decide +kernel
theorem dX9_hangs_48 : decode cX9_hangs 48 = .ok (.aload_n 0, 1) := by decide +kernel
theorem dX9_hangs_49 : decode cX9_hangs 49 = .ok (.aload 4, 2) := by decide +kernel
theorem dX9_hangs_51 : decode cX9_hangs 51 = .ok (.iconst 1, 1) := by decide +kernel
theorem dX9_hangs_52 : decode cX9_hangs 52 = .ok (.iload_n 2, 1) := by decide +kernel
theorem dX9_hangs_53 : decode cX9_hangs 53 = .ok (.invokevirtual 248, 3) := by decide +kernel
theorem dX9_hangs_56 : decode cX9_hangs 56 = .ok (.istore 6, 2) := by decide +kernel
theorem dX9_hangs_58 : decode cX9_hangs 58 = .ok (.iload 5, 2) := by decide +kernel
theorem dX9_hangs_60 : decode cX9_hangs 60 = .ok (.iload 6, 2) := by decide +kernel
theorem dX9_hangs_62 : decode cX9_hangs 62 = .ok (.invokestatic 186, 3) := by decide +kernel
theorem dX9_hangs_65 : decode cX9_hangs 65 = .ok (.istore 7, 2) := by decide +kernel
theorem dX9_hangs_67 : decode cX9_hangs 67 = .ok (.iload 7, 2) := by decide +kernel
theorem dX9_hangs_69 : decode cX9_hangs 69 = .ok (.ifCond .ne 5, 3) := by decide +kernel
theorem dX9_hangs_72 : decode cX9_hangs 72 = .ok (.iconst (-1), 1) := by decide +kernel
theorem dX9_hangs_73 : decode cX9_hangs 73 = .ok (.ireturn, 1) := by decide +kernel
theorem dX9_hangs_74 : decode cX9_hangs 74 = .ok (.iload_n 3, 1) := by decide +kernel
theorem dX9_hangs_75 : decode cX9_hangs 75 = .ok (.iconst 1, 1) := by decide +kernel
theorem dX9_hangs_76 : decode cX9_hangs 76 = .ok (.if_icmp .ne 6, 3) := by decide +kernel
theorem dX9_hangs_79 : decode cX9_hangs 79 = .ok (.iload 7, 2) := by decide +kernel
theorem dX9_hangs_81 : decode cX9_hangs 81 = .ok (.ireturn, 1) := by decide +kernel
theorem dX9_hangs_82 : decode cX9_hangs 82 = .ok (.iload 5, 2) := by decide +kernel
theorem dX9_hangs_84 : decode cX9_hangs 84 = .ok (.iload 7, 2) := by decide +kernel
theorem dX9_hangs_86 : decode cX9_hangs 86 = .ok (.if_icmp .ne 7, 3) := by decide +kernel
theorem dX9_hangs_89 : decode cX9_hangs 89 = .ok (.iconst 0, 1) := by decide +kernel
theorem dX9_hangs_90 : decode cX9_hangs 90 = .ok (.goto 4, 3) := by decide +kernel
theorem dX9_hangs_93 : decode cX9_hangs 93 = .ok (.iconst 1, 1) := by decide +kernel
theorem dX9_hangs_94 : decode cX9_hangs 94 = .ok (.ireturn, 1) := by decide +kernel
theorem dX9_moves_0 : decode cX9_moves 0 = .ok (.aload_n 0, 1) := by decide +kernel
theorem dX9_moves_1 : decode cX9_moves 1 = .ok (.iload_n 1, 1) := by decide +kernel
theorem dX9_moves_2 : decode cX9_moves 2 = .ok (.invokevirtual 131, 3) := by decide +kernel
theorem dX9_moves_5 : decode cX9_moves 5 = .ok (.astore 4, 2) := by decide +kernel
theorem dX9_moves_7 : decode cX9_moves 7 = .ok (.aload 4, 2) := by decide +kernel
theorem dX9_moves_9 : decode cX9_moves 9 = .ok (.ifnull 24, 3) := by decide +kernel
theorem dX9_moves_12 : decode cX9_moves 12 = .ok (.iload_n 2, 1) := by decide +kernel
theorem dX9_moves_13 : decode cX9_moves 13 = .ok (.ifCond .lt 20, 3) := by decide +kernel
theorem dX9_moves_16 : decode cX9_moves 16 = .ok (.iload_n 2, 1) := by decide +kernel
theorem dX9_moves_17 : decode cX9_moves 17 = .ok (.bipush 10, 2) := by decide +kernel
theorem dX9_moves_19 : decode cX9_moves 19 = .ok (.idiv, 1) := by decide +kernel
theorem dX9_moves_20 : decode cX9_moves 20 = .ok (.invokestatic 119, 3) := by decide +kernel
theorem dX9_moves_23 : decode cX9_moves 23 = .ok (.ifCond .eq 10, 3) := by decide +kernel
theorem dX9_moves_26 : decode cX9_moves 26 = .ok (.iload_n 3, 1) := by decide +kernel
theorem dX9_moves_27 : decode cX9_moves 27 = .ok (.invokestatic 122, 3) := by decide +kernel
theorem dX9_moves_30 : decode cX9_moves 30 = .ok (.ifCond .ne 7, 3) := by decide +kernel
theorem dX9_moves_33 : decode cX9_moves 33 = .ok (.ldc2_w 156, 3) := by decide +kernel
theorem dX9_moves_36 : decode cX9_moves 36 = .ok (.lreturn, 1) := by decide +kernel
theorem dX9_moves_37 : decode cX9_moves 37 = .ok (.iload_n 2, 1) := by decide +kernel
theorem dX9_moves_38 : decode cX9_moves 38 = .ok (.bipush 10, 2) := by decide +kernel
theorem dX9_moves_40 : decode cX9_moves 40 = .ok (.irem, 1) := by decide +kernel
theorem dX9_moves_41 : decode cX9_moves 41 = .ok (.istore 5, 2) := by decide +kernel
theorem dX9_moves_43 : decode cX9_moves 43 = .ok (.aload_n 0, 1) := by decide +kernel
theorem dX9_moves_44 : decode cX9_moves 44 = .ok (.aload 4, 2) := by decide +kernel
theorem dX9_moves_46 : decode cX9_moves 46 = .ok (.getfield 252, 3) := by decide +kernel
theorem dX9_moves_49 : decode cX9_moves 49 = .ok (.iload 5, 2) := by decide +kernel
theorem dX9_moves_51 : decode cX9_moves 51 = .ok (.iload_n 3, 1) := by decide +kernel
theorem dX9_moves_52 : decode cX9_moves 52 = .ok (.iconst 1, 1) := by decide +kernel
theorem dX9_moves_53 : decode cX9_moves 53 = .ok (.invokevirtual 149, 3) := by decide +kernel
theorem dX9_moves_56 : decode cX9_moves 56 = .ok (.istore 6, 2) := by decide +kernel
theorem dX9_moves_58 : decode cX9_moves 58 = .ok (.aload 4, 2) := by decide +kernel
theorem dX9_moves_60 : decode cX9_moves 60 = .ok (.getfield 237, 3) := by decide +kernel
theorem dX9_moves_63 : decode cX9_moves 63 = .ok (.istore 7, 2) := by decide +kernel
theorem dX9_moves_65 : decode cX9_moves 65 = .ok (.aload 4, 2) := by decide +kernel
theorem dX9_moves_67 : decode cX9_moves 67 = .ok (.iload_n 2, 1) := by decide +kernel
theorem dX9_moves_68 : decode cX9_moves 68 = .ok (.bipush 10, 2) := by decide +kernel
theorem dX9_moves_70 : decode cX9_moves 70 = .ok (.idiv, 1) := by decide +kernel
theorem dX9_moves_71 : decode cX9_moves 71 = .ok (.putfield 237, 3) := by decide +kernel
theorem dX9_moves_74 : decode cX9_moves 74 = .ok (.aload_n 0, 1) := by decide +kernel
theorem dX9_moves_75 : decode cX9_moves 75 = .ok (.aload 4, 2) := by decide +kernel
theorem dX9_moves_77 : decode cX9_moves 77 = .ok (.getfield 252, 3) := by decide +kernel
theorem dX9_moves_80 : decode cX9_moves 80 = .ok (.iload 5, 2) := by decide +kernel
theorem dX9_moves_82 : decode cX9_moves 82 = .ok (.iload_n 3, 1) := by decide +kernel
theorem dX9_moves_83 : decode cX9_moves 83 = .ok (.iconst 1, 1) := by decide +kernel
theorem dX9_moves_84 : decode cX9_moves 84 = .ok (.invokevirtual 149, 3) := by decide +kernel
theorem dX9_moves_87 : decode cX9_moves 87 = .ok (.istore 8, 2) := by decide +kernel
theorem dX9_moves_89 : decode cX9_moves 89 = .ok (.aload 4, 2) := by decide +kernel
theorem dX9_moves_91 : decode cX9_moves 91 = .ok (.iload 7, 2) := by decide +kernel
theorem dX9_moves_93 : decode cX9_moves 93 = .ok (.putfield 237, 3) := by decide +kernel
theorem dX9_moves_96 : decode cX9_moves 96 = .ok (.iload 8, 2) := by decide +kernel
theorem dX9_moves_98 : decode cX9_moves 98 = .ok (.iload 6, 2) := by decide +kernel
theorem dX9_moves_100 : decode cX9_moves 100 = .ok (.isub, 1) := by decide +kernel
theorem dX9_moves_101 : decode cX9_moves 101 = .ok (.i2l, 1) := by decide +kernel
theorem dX9_moves_102 : decode cX9_moves 102 = .ok (.lreturn, 1) := by decide +kernel
theorem dX9_telegraph_0 : decode cX9_telegraph 0 = .ok (.aload_n 0, 1) := by decide +kernel
theorem dX9_telegraph_1 : decode cX9_telegraph 1 = .ok (.iload_n 1, 1) := by decide +kernel
theorem dX9_telegraph_2 : decode cX9_telegraph 2 = .ok (.invokevirtual 109, 3) := by decide +kernel
theorem dX9_telegraph_5 : decode cX9_telegraph 5 = .ok (.astore_n 3, 1) := by decide +kernel
theorem dX9_telegraph_6 : decode cX9_telegraph 6 = .ok (.aload_n 3, 1) := by decide +kernel
theorem dX9_telegraph_7 : decode cX9_telegraph 7 = .ok (.ifnull 10, 3) := by decide +kernel
theorem dX9_telegraph_10 : decode cX9_telegraph 10 = .ok (.iload_n 2, 1) := by decide +kernel
theorem dX9_telegraph_11 : decode cX9_telegraph 11 = .ok (.invokestatic 122, 3) := by decide +kernel
theorem dX9_telegraph_14 : decode cX9_telegraph 14 = .ok (.ifCond .ne 6, 3) := by decide +kernel
theorem dX9_telegraph_17 : decode cX9_telegraph 17 = .ok (.bipush (-2), 2) := by decide +kernel
theorem dX9_telegraph_19 : decode cX9_telegraph 19 = .ok (.ireturn, 1) := by decide +kernel
theorem dX9_telegraph_20 : decode cX9_telegraph 20 = .ok (.aload_n 0, 1) := by decide +kernel
theorem dX9_telegraph_21 : decode cX9_telegraph 21 = .ok (.getfield 44, 3) := by decide +kernel
theorem dX9_telegraph_24 : decode cX9_telegraph 24 = .ok (.aload_n 3, 1) := by decide +kernel
theorem dX9_telegraph_25 : decode cX9_telegraph 25 = .ok (.aload_n 0, 1) := by decide +kernel
theorem dX9_telegraph_26 : decode cX9_telegraph 26 = .ok (.getfield 17, 3) := by decide +kernel
theorem dX9_telegraph_29 : decode cX9_telegraph 29 = .ok (.aload_n 0, 1) := by decide +kernel
theorem dX9_telegraph_30 : decode cX9_telegraph 30 = .ok (.getfield 125, 3) := by decide +kernel
theorem dX9_telegraph_33 : decode cX9_telegraph 33 = .ok (.iconst 1, 1) := by decide +kernel
theorem dX9_telegraph_34 : decode cX9_telegraph 34 = .ok (.invokevirtual 168, 3) := by decide +kernel
theorem dX9_telegraph_37 : decode cX9_telegraph 37 = .ok (.aload_n 0, 1) := by decide +kernel
theorem dX9_telegraph_38 : decode cX9_telegraph 38 = .ok (.getfield 44, 3) := by decide +kernel
theorem dX9_telegraph_41 : decode cX9_telegraph 41 = .ok (.iload_n 2, 1) := by decide +kernel
theorem dX9_telegraph_42 : decode cX9_telegraph 42 = .ok (.invokevirtual 172, 3) := by decide +kernel
theorem dX9_telegraph_45 : decode cX9_telegraph 45 = .ok (.iconst 0, 1) := by decide +kernel
theorem dX9_telegraph_46 : decode cX9_telegraph 46 = .ok (.istore 4, 2) := by decide +kernel
theorem dX9_telegraph_48 : decode cX9_telegraph 48 = .ok (.iconst 0, 1) := by decide +kernel
theorem dX9_telegraph_49 : decode cX9_telegraph 49 = .ok (.istore 5, 2) := by decide +kernel
theorem dX9_telegraph_51 : decode cX9_telegraph 51 = .ok (.iload 5, 2) := by decide +kernel
theorem dX9_telegraph_53 : decode cX9_telegraph 53 = .ok (.aload_n 0, 1) := by decide +kernel
theorem dX9_telegraph_54 : decode cX9_telegraph 54 = .ok (.getfield 125, 3) := by decide +kernel
theorem dX9_telegraph_57 : decode cX9_telegraph 57 = .ok (.if_icmp .ge 61, 3) := by decide +kernel
theorem dX9_telegraph_60 : decode cX9_telegraph 60 = .ok (.aload_n 0, 1) := by decide +kernel
theorem dX9_telegraph_61 : decode cX9_telegraph 61 = .ok (.getfield 17, 3) := by decide +kernel
theorem dX9_telegraph_64 : decode cX9_telegraph 64 = .ok (.iload 5, 2) := by decide +kernel
theorem dX9_telegraph_66 : decode cX9_telegraph 66 = .ok (.aaload, 1) := by decide +kernel
theorem dX9_telegraph_67 : decode cX9_telegraph 67 = .ok (.astore 6, 2) := by decide +kernel
theorem dX9_telegraph_69 : decode cX9_telegraph 69 = .ok (.aload 6, 2) := by decide +kernel
theorem dX9_telegraph_71 : decode cX9_telegraph 71 = .ok (.getfield 252, 3) := by decide +kernel
theorem dX9_telegraph_74 : decode cX9_telegraph 74 = .ok (.aload_n 3, 1) := by decide +kernel
theorem dX9_telegraph_75 : decode cX9_telegraph 75 = .ok (.if_acmp .ne 37, 3) := by decide +kernel
theorem dX9_telegraph_78 : decode cX9_telegraph 78 = .ok (.aload 6, 2) := by decide +kernel
theorem dX9_telegraph_80 : decode cX9_telegraph 80 = .ok (.getfield 256, 3) := by decide +kernel
theorem dX9_telegraph_83 : decode cX9_telegraph 83 = .ok (.iload_n 2, 1) := by decide +kernel
theorem dX9_telegraph_84 : decode cX9_telegraph 84 = .ok (.if_icmp .le 28, 3) := by decide +kernel
theorem dX9_telegraph_87 : decode cX9_telegraph 87 = .ok (.aload_n 0, 1) := by decide +kernel
theorem dX9_telegraph_88 : decode cX9_telegraph 88 = .ok (.getfield 44, 3) := by decide +kernel
theorem dX9_telegraph_91 : decode cX9_telegraph 91 = .ok (.getfield 175, 3) := by decide +kernel
theorem dX9_telegraph_94 : decode cX9_telegraph 94 = .ok (.aload 6, 2) := by decide +kernel
theorem dX9_telegraph_96 : decode cX9_telegraph 96 = .ok (.getfield 202, 3) := by decide +kernel
theorem dX9_telegraph_99 : decode cX9_telegraph 99 = .ok (.iaload, 1) := by decide +kernel
theorem dX9_telegraph_100 : decode cX9_telegraph 100 = .ok (.ifCond .le 12, 3) := by decide +kernel
theorem dX9_telegraph_103 : decode cX9_telegraph 103 = .ok (.iload 4, 2) := by decide +kernel
theorem dX9_telegraph_105 : decode cX9_telegraph 105 = .ok (.iconst 1, 1) := by decide +kernel
theorem dX9_telegraph_106 : decode cX9_telegraph 106 = .ok (.iload 5, 2) := by decide +kernel
theorem dX9_telegraph_108 : decode cX9_telegraph 108 = .ok (.ishl, 1) := by decide +kernel
theorem dX9_telegraph_109 : decode cX9_telegraph 109 = .ok (.ior, 1) := by decide +kernel
theorem dX9_telegraph_110 : decode cX9_telegraph 110 = .ok (.istore 4, 2) := by decide +kernel
theorem dX9_telegraph_112 : decode cX9_telegraph 112 = .ok (.iinc 5 1, 3) := by decide +kernel
theorem dX9_telegraph_115 : decode cX9_telegraph 115 = .ok (.goto (-64), 3) := by decide +kernel
theorem dX9_telegraph_118 : decode cX9_telegraph 118 = .ok (.iload 4, 2) := by decide +kernel
theorem dX9_telegraph_120 : decode cX9_telegraph 120 = .ok (.ireturn, 1) := by decide +kernel
theorem dX9_image_0 : decode cX9_image 0 = .ok (.iconst 0, 1) := by decide +kernel
theorem dX9_image_1 : decode cX9_image 1 = .ok (.istore_n 1, 1) := by decide +kernel
theorem dX9_image_2 : decode cX9_image 2 = .ok (.iload_n 1, 1) := by decide +kernel
theorem dX9_image_3 : decode cX9_image 3 = .ok (.aload_n 0, 1) := by decide +kernel
theorem dX9_image_4 : decode cX9_image 4 = .ok (.getfield 103, 3) := by decide +kernel
theorem dX9_image_7 : decode cX9_image 7 = .ok (.if_icmp .ge 18, 3) := by decide +kernel
theorem dX9_image_10 : decode cX9_image 10 = .ok (.aload_n 0, 1) := by decide +kernel
theorem dX9_image_11 : decode cX9_image 11 = .ok (.getfield 11, 3) := by decide +kernel
theorem dX9_image_14 : decode cX9_image 14 = .ok (.iload_n 1, 1) := by decide +kernel
theorem dX9_image_15 : decode cX9_image 15 = .ok (.aaload, 1) := by decide +kernel
theorem dX9_image_16 : decode cX9_image 16 = .ok (.invokevirtual 259, 3) := by decide +kernel
theorem dX9_image_19 : decode cX9_image 19 = .ok (.iinc 1 1, 3) := by decide +kernel
theorem dX9_image_22 : decode cX9_image 22 = .ok (.goto (-20), 3) := by decide +kernel
theorem dX9_image_25 : decode cX9_image 25 = .ok (.iconst 0, 1) := by decide +kernel
theorem dX9_image_26 : decode cX9_image 26 = .ok (.istore_n 1, 1) := by decide +kernel
theorem dX9_image_27 : decode cX9_image 27 = .ok (.iload_n 1, 1) := by decide +kernel
theorem dX9_image_28 : decode cX9_image 28 = .ok (.aload_n 0, 1) := by decide +kernel
theorem dX9_image_29 : decode cX9_image 29 = .ok (.getfield 125, 3) := by decide +kernel
theorem dX9_image_32 : decode cX9_image 32 = .ok (.if_icmp .ge 18, 3) := by decide +kernel
theorem dX9_image_35 : decode cX9_image 35 = .ok (.aload_n 0, 1) := by decide +kernel
theorem dX9_image_36 : decode cX9_image 36 = .ok (.getfield 17, 3) := by decide +kernel
theorem dX9_image_39 : decode cX9_image 39 = .ok (.iload_n 1, 1) := by decide +kernel
theorem dX9_image_40 : decode cX9_image 40 = .ok (.aaload, 1) := by decide +kernel
theorem dX9_image_41 : decode cX9_image 41 = .ok (.invokevirtual 262, 3) := by decide +kernel
theorem dX9_image_44 : decode cX9_image 44 = .ok (.iinc 1 1, 3) := by decide +kernel
theorem dX9_image_47 : decode cX9_image 47 = .ok (.goto (-20), 3) := by decide +kernel
theorem dX9_image_50 : decode cX9_image 50 = .ok (.aload_n 0, 1) := by decide +kernel
theorem dX9_image_51 : decode cX9_image 51 = .ok (.iconst 1, 1) := by decide +kernel
theorem dX9_image_52 : decode cX9_image 52 = .ok (.putfield 263, 3) := by decide +kernel
theorem dX9_image_55 : decode cX9_image 55 = .ok (.aload_n 0, 1) := by decide +kernel
theorem dX9_image_56 : decode cX9_image 56 = .ok (.aload_n 0, 1) := by decide +kernel
theorem dX9_image_57 : decode cX9_image 57 = .ok (.getfield 103, 3) := by decide +kernel
theorem dX9_image_60 : decode cX9_image 60 = .ok (.putfield 267, 3) := by decide +kernel
theorem dX9_image_63 : decode cX9_image 63 = .ok (.aload_n 0, 1) := by decide +kernel
theorem dX9_image_64 : decode cX9_image 64 = .ok (.aload_n 0, 1) := by decide +kernel
theorem dX9_image_65 : decode cX9_image 65 = .ok (.getfield 125, 3) := by decide +kernel
theorem dX9_image_68 : decode cX9_image 68 = .ok (.putfield 270, 3) := by decide +kernel
theorem dX9_image_71 : decode cX9_image 71 = .ok (.aload_n 0, 1) := by decide +kernel
theorem dX9_image_72 : decode cX9_image 72 = .ok (.aload_n 0, 1) := by decide +kernel
theorem dX9_image_73 : decode cX9_image 73 = .ok (.getfield 195, 3) := by decide +kernel
theorem dX9_image_76 : decode cX9_image 76 = .ok (.putfield 273, 3) := by decide +kernel
theorem dX9_image_79 : decode cX9_image 79 = .ok (.aload_n 0, 1) := by decide +kernel
theorem dX9_image_80 : decode cX9_image 80 = .ok (.getfield 125, 3) := by decide +kernel
theorem dX9_image_83 : decode cX9_image 83 = .ok (.ireturn, 1) := by decide +kernel
theorem dX9_back_0 : decode cX9_back 0 = .ok (.aload_n 0, 1) := by decide +kernel
theorem dX9_back_1 : decode cX9_back 1 = .ok (.getfield 263, 3) := by decide +kernel
theorem dX9_back_4 : decode cX9_back 4 = .ok (.ifCond .ne 6, 3) := by decide +kernel
theorem dX9_back_7 : decode cX9_back 7 = .ok (.bipush (-3), 2) := by decide +kernel
theorem dX9_back_9 : decode cX9_back 9 = .ok (.ireturn, 1) := by decide +kernel
theorem dX9_back_10 : decode cX9_back 10 = .ok (.iconst 0, 1) := by decide +kernel
theorem dX9_back_11 : decode cX9_back 11 = .ok (.istore_n 1, 1) := by decide +kernel
theorem dX9_back_12 : decode cX9_back 12 = .ok (.iload_n 1, 1) := by decide +kernel
theorem dX9_back_13 : decode cX9_back 13 = .ok (.aload_n 0, 1) := by decide +kernel
theorem dX9_back_14 : decode cX9_back 14 = .ok (.getfield 267, 3) := by decide +kernel
theorem dX9_back_17 : decode cX9_back 17 = .ok (.if_icmp .ge 18, 3) := by decide +kernel
theorem dX9_back_20 : decode cX9_back 20 = .ok (.aload_n 0, 1) := by decide +kernel
theorem dX9_back_21 : decode cX9_back 21 = .ok (.getfield 11, 3) := by decide +kernel
theorem dX9_back_24 : decode cX9_back 24 = .ok (.iload_n 1, 1) := by decide +kernel
theorem dX9_back_25 : decode cX9_back 25 = .ok (.aaload, 1) := by decide +kernel
theorem dX9_back_26 : decode cX9_back 26 = .ok (.invokevirtual 276, 3) := by decide +kernel
theorem dX9_back_29 : decode cX9_back 29 = .ok (.iinc 1 1, 3) := by decide +kernel
theorem dX9_back_32 : decode cX9_back 32 = .ok (.goto (-20), 3) := by decide +kernel
theorem dX9_back_35 : decode cX9_back 35 = .ok (.iconst 0, 1) := by decide +kernel
theorem dX9_back_36 : decode cX9_back 36 = .ok (.istore_n 1, 1) := by decide +kernel
theorem dX9_back_37 : decode cX9_back 37 = .ok (.iload_n 1, 1) := by decide +kernel
theorem dX9_back_38 : decode cX9_back 38 = .ok (.aload_n 0, 1) := by decide +kernel
theorem dX9_back_39 : decode cX9_back 39 = .ok (.getfield 270, 3) := by decide +kernel
theorem dX9_back_42 : decode cX9_back 42 = .ok (.if_icmp .ge 18, 3) := by decide +kernel
theorem dX9_back_45 : decode cX9_back 45 = .ok (.aload_n 0, 1) := by decide +kernel
theorem dX9_back_46 : decode cX9_back 46 = .ok (.getfield 17, 3) := by decide +kernel
theorem dX9_back_49 : decode cX9_back 49 = .ok (.iload_n 1, 1) := by decide +kernel
theorem dX9_back_50 : decode cX9_back 50 = .ok (.aaload, 1) := by decide +kernel
theorem dX9_back_51 : decode cX9_back 51 = .ok (.invokevirtual 279, 3) := by decide +kernel
theorem dX9_back_54 : decode cX9_back 54 = .ok (.iinc 1 1, 3) := by decide +kernel
theorem dX9_back_57 : decode cX9_back 57 = .ok (.goto (-20), 3) := by decide +kernel
theorem dX9_back_60 : decode cX9_back 60 = .ok (.aload_n 0, 1) := by decide +kernel
theorem dX9_back_61 : decode cX9_back 61 = .ok (.aload_n 0, 1) := by decide +kernel
theorem dX9_back_62 : decode cX9_back 62 = .ok (.getfield 273, 3) := by decide +kernel
theorem dX9_back_65 : decode cX9_back 65 = .ok (.putfield 195, 3) := by decide +kernel
theorem dX9_back_68 : decode cX9_back 68 = .ok (.aload_n 0, 1) := by decide +kernel
theorem dX9_back_69 : decode cX9_back 69 = .ok (.getfield 125, 3) := by decide +kernel
theorem dX9_back_72 : decode cX9_back 72 = .ok (.ireturn, 1) := by decide +kernel
theorem dX9_count_0 : decode cX9_count 0 = .ok (.iload_n 1, 1) := by decide +kernel
theorem dX9_count_1 : decode cX9_count 1 = .ok (.tableswitch 81 0 6 #[43, 48, 53, 58, 66, 71, 76], 43) := by decide +kernel
theorem dX9_count_44 : decode cX9_count 44 = .ok (.aload_n 0, 1) := by decide +kernel
theorem dX9_count_45 : decode cX9_count 45 = .ok (.getfield 103, 3) := by decide +kernel
theorem dX9_count_48 : decode cX9_count 48 = .ok (.ireturn, 1) := by decide +kernel
theorem dX9_count_49 : decode cX9_count 49 = .ok (.aload_n 0, 1) := by decide +kernel
theorem dX9_count_50 : decode cX9_count 50 = .ok (.getfield 125, 3) := by decide +kernel
theorem dX9_count_53 : decode cX9_count 53 = .ok (.ireturn, 1) := by decide +kernel
theorem dX9_count_54 : decode cX9_count 54 = .ok (.aload_n 0, 1) := by decide +kernel
theorem dX9_count_55 : decode cX9_count 55 = .ok (.getfield 89, 3) := by decide +kernel
theorem dX9_count_58 : decode cX9_count 58 = .ok (.ireturn, 1) := by decide +kernel
theorem dX9_count_59 : decode cX9_count 59 = .ok (.aload_n 0, 1) := by decide +kernel
theorem dX9_count_60 : decode cX9_count 60 = .ok (.getfield 30, 3) := by decide +kernel
theorem dX9_count_63 : decode cX9_count 63 = .ok (.getfield 192, 3) := by decide +kernel
theorem dX9_count_66 : decode cX9_count 66 = .ok (.ireturn, 1) := by decide +kernel
theorem dX9_count_67 : decode cX9_count 67 = .ok (.aload_n 0, 1) := by decide +kernel
theorem dX9_count_68 : decode cX9_count 68 = .ok (.getfield 195, 3) := by decide +kernel
theorem dX9_count_71 : decode cX9_count 71 = .ok (.ireturn, 1) := by decide +kernel
theorem dX9_count_72 : decode cX9_count 72 = .ok (.aload_n 0, 1) := by decide +kernel
theorem dX9_count_73 : decode cX9_count 73 = .ok (.invokevirtual 280, 3) := by decide +kernel
theorem dX9_count_76 : decode cX9_count 76 = .ok (.ireturn, 1) := by decide +kernel
theorem dX9_count_77 : decode cX9_count 77 = .ok (.aload_n 0, 1) := by decide +kernel
theorem dX9_count_78 : decode cX9_count 78 = .ok (.invokevirtual 283, 3) := by decide +kernel
theorem dX9_count_81 : decode cX9_count 81 = .ok (.ireturn, 1) := by decide +kernel
theorem dX9_count_82 : decode cX9_count 82 = .ok (.bipush (-2), 2) := by decide +kernel
theorem dX9_count_84 : decode cX9_count 84 = .ok (.ireturn, 1) := by decide +kernel
theorem dX9_sheet_0 : decode cX9_sheet 0 = .ok (.aload_n 0, 1) := by decide +kernel
theorem dX9_sheet_1 : decode cX9_sheet 1 = .ok (.iload_n 1, 1) := by decide +kernel
theorem dX9_sheet_2 : decode cX9_sheet 2 = .ok (.invokevirtual 286, 3) := by decide +kernel
theorem dX9_sheet_5 : decode cX9_sheet 5 = .ok (.astore 4, 2) := by decide +kernel
theorem dX9_sheet_7 : decode cX9_sheet 7 = .ok (.aload 4, 2) := by decide +kernel
theorem dX9_sheet_9 : decode cX9_sheet 9 = .ok (.ifnull 24, 3) := by decide +kernel
theorem dX9_sheet_12 : decode cX9_sheet 12 = .ok (.iload_n 2, 1) := by decide +kernel
theorem dX9_sheet_13 : decode cX9_sheet 13 = .ok (.iconst (-1), 1) := by decide +kernel
theorem dX9_sheet_14 : decode cX9_sheet 14 = .ok (.if_icmp .lt 19, 3) := by decide +kernel
theorem dX9_sheet_17 : decode cX9_sheet 17 = .ok (.iload_n 2, 1) := by decide +kernel
theorem dX9_sheet_18 : decode cX9_sheet 18 = .ok (.iconst 3, 1) := by decide +kernel
theorem dX9_sheet_19 : decode cX9_sheet 19 = .ok (.if_icmp .ge 14, 3) := by decide +kernel
theorem dX9_sheet_22 : decode cX9_sheet 22 = .ok (.iload_n 2, 1) := by decide +kernel
theorem dX9_sheet_23 : decode cX9_sheet 23 = .ok (.iconst (-1), 1) := by decide +kernel
theorem dX9_sheet_24 : decode cX9_sheet 24 = .ok (.if_icmp .eq 12, 3) := by decide +kernel
theorem dX9_sheet_27 : decode cX9_sheet 27 = .ok (.iload_n 3, 1) := by decide +kernel
theorem dX9_sheet_28 : decode cX9_sheet 28 = .ok (.bipush 40, 2) := by decide +kernel
theorem dX9_sheet_30 : decode cX9_sheet 30 = .ok (.if_icmp .le 6, 3) := by decide +kernel
theorem dX9_sheet_33 : decode cX9_sheet 33 = .ok (.bipush (-2), 2) := by decide +kernel
theorem dX9_sheet_35 : decode cX9_sheet 35 = .ok (.ireturn, 1) := by decide +kernel
theorem dX9_sheet_36 : decode cX9_sheet 36 = .ok (.iload_n 2, 1) := by decide +kernel
theorem dX9_sheet_37 : decode cX9_sheet 37 = .ok (.iconst (-1), 1) := by decide +kernel
theorem dX9_sheet_38 : decode cX9_sheet 38 = .ok (.if_icmp .eq 10, 3) := by decide +kernel
theorem dX9_sheet_41 : decode cX9_sheet 41 = .ok (.iload_n 3, 1) := by decide +kernel
theorem dX9_sheet_42 : decode cX9_sheet 42 = .ok (.ifCond .ge 6, 3) := by decide +kernel
theorem dX9_sheet_45 : decode cX9_sheet 45 = .ok (.bipush (-14), 2) := by decide +kernel
theorem dX9_sheet_47 : decode cX9_sheet 47 = .ok (.ireturn, 1) := by decide +kernel
theorem dX9_sheet_48 : decode cX9_sheet 48 = .ok (.aload 4, 2) := by decide +kernel
theorem dX9_sheet_50 : decode cX9_sheet 50 = .ok (.iload_n 2, 1) := by decide +kernel
theorem dX9_sheet_51 : decode cX9_sheet 51 = .ok (.iload_n 2, 1) := by decide +kernel
theorem dX9_sheet_52 : decode cX9_sheet 52 = .ok (.iconst (-1), 1) := by decide +kernel
theorem dX9_sheet_53 : decode cX9_sheet 53 = .ok (.if_icmp .ne 7, 3) := by decide +kernel
theorem dX9_sheet_56 : decode cX9_sheet 56 = .ok (.iconst 0, 1) := by decide +kernel
theorem dX9_sheet_57 : decode cX9_sheet 57 = .ok (.goto 4, 3) := by decide +kernel
theorem dX9_sheet_60 : decode cX9_sheet 60 = .ok (.iload_n 3, 1) := by decide +kernel
theorem dX9_sheet_61 : decode cX9_sheet 61 = .ok (.invokevirtual 290, 3) := by decide +kernel
theorem dX9_sheet_64 : decode cX9_sheet 64 = .ok (.iconst 1, 1) := by decide +kernel
theorem dX9_sheet_65 : decode cX9_sheet 65 = .ok (.ireturn, 1) := by decide +kernel
theorem dX9_cell_0 : decode cX9_cell 0 = .ok (.aload_n 0, 1) := by decide +kernel
theorem dX9_cell_1 : decode cX9_cell 1 = .ok (.iload_n 1, 1) := by decide +kernel
theorem dX9_cell_2 : decode cX9_cell 2 = .ok (.invokevirtual 286, 3) := by decide +kernel
theorem dX9_cell_5 : decode cX9_cell 5 = .ok (.astore 4, 2) := by decide +kernel
theorem dX9_cell_7 : decode cX9_cell 7 = .ok (.aload 4, 2) := by decide +kernel
theorem dX9_cell_9 : decode cX9_cell 9 = .ok (.ifnonnull 6, 3) := by decide +kernel
theorem dX9_cell_12 : decode cX9_cell 12 = .ok (.bipush (-2), 2) := by decide +kernel
theorem dX9_cell_14 : decode cX9_cell 14 = .ok (.ireturn, 1) := by decide +kernel
theorem dX9_cell_15 : decode cX9_cell 15 = .ok (.aload 4, 2) := by decide +kernel
theorem dX9_cell_17 : decode cX9_cell 17 = .ok (.getfield 294, 3) := by decide +kernel
theorem dX9_cell_20 : decode cX9_cell 20 = .ok (.iconst (-1), 1) := by decide +kernel
theorem dX9_cell_21 : decode cX9_cell 21 = .ok (.if_icmp .ne 6, 3) := by decide +kernel
theorem dX9_cell_24 : decode cX9_cell 24 = .ok (.bipush (-11), 2) := by decide +kernel
theorem dX9_cell_26 : decode cX9_cell 26 = .ok (.ireturn, 1) := by decide +kernel
theorem dX9_cell_27 : decode cX9_cell 27 = .ok (.iload_n 2, 1) := by decide +kernel
theorem dX9_cell_28 : decode cX9_cell 28 = .ok (.ifCond .lt 12, 3) := by decide +kernel
theorem dX9_cell_31 : decode cX9_cell 31 = .ok (.iload_n 2, 1) := by decide +kernel
theorem dX9_cell_32 : decode cX9_cell 32 = .ok (.aload 4, 2) := by decide +kernel
theorem dX9_cell_34 : decode cX9_cell 34 = .ok (.getfield 297, 3) := by decide +kernel
theorem dX9_cell_37 : decode cX9_cell 37 = .ok (.if_icmp .lt 6, 3) := by decide +kernel
theorem dX9_cell_40 : decode cX9_cell 40 = .ok (.bipush (-12), 2) := by decide +kernel
theorem dX9_cell_42 : decode cX9_cell 42 = .ok (.ireturn, 1) := by decide +kernel
theorem dX9_cell_43 : decode cX9_cell 43 = .ok (.aload 4, 2) := by decide +kernel
theorem dX9_cell_45 : decode cX9_cell 45 = .ok (.iload_n 2, 1) := by decide +kernel
theorem dX9_cell_46 : decode cX9_cell 46 = .ok (.iload_n 3, 1) := by decide +kernel
theorem dX9_cell_47 : decode cX9_cell 47 = .ok (.invokevirtual 298, 3) := by decide +kernel
theorem dX9_cell_50 : decode cX9_cell 50 = .ok (.iconst 1, 1) := by decide +kernel
theorem dX9_cell_51 : decode cX9_cell 51 = .ok (.ireturn, 1) := by decide +kernel
theorem dX9_copy_0 : decode cX9_copy 0 = .ok (.aload_n 0, 1) := by decide +kernel
theorem dX9_copy_1 : decode cX9_copy 1 = .ok (.iload_n 1, 1) := by decide +kernel
theorem dX9_copy_2 : decode cX9_copy 2 = .ok (.invokevirtual 286, 3) := by decide +kernel
theorem dX9_copy_5 : decode cX9_copy 5 = .ok (.astore 6, 2) := by decide +kernel
theorem dX9_copy_7 : decode cX9_copy 7 = .ok (.aload_n 0, 1) := by decide +kernel
theorem dX9_copy_8 : decode cX9_copy 8 = .ok (.iload_n 3, 1) := by decide +kernel
theorem dX9_copy_9 : decode cX9_copy 9 = .ok (.invokevirtual 286, 3) := by decide +kernel
theorem dX9_copy_12 : decode cX9_copy 12 = .ok (.astore 7, 2) := by decide +kernel
theorem dX9_copy_14 : decode cX9_copy 14 = .ok (.aload 6, 2) := by decide +kernel
theorem dX9_copy_16 : decode cX9_copy 16 = .ok (.ifnull 8, 3) := by decide +kernel
theorem dX9_copy_19 : decode cX9_copy 19 = .ok (.aload 7, 2) := by decide +kernel
theorem dX9_copy_21 : decode cX9_copy 21 = .ok (.ifnonnull 6, 3) := by decide +kernel
theorem dX9_copy_24 : decode cX9_copy 24 = .ok (.bipush (-2), 2) := by decide +kernel
theorem dX9_copy_26 : decode cX9_copy 26 = .ok (.ireturn, 1) := by decide +kernel
theorem dX9_copy_27 : decode cX9_copy 27 = .ok (.aload 6, 2) := by decide +kernel
theorem dX9_copy_29 : decode cX9_copy 29 = .ok (.getfield 294, 3) := by decide +kernel
theorem dX9_copy_32 : decode cX9_copy 32 = .ok (.iconst (-1), 1) := by decide +kernel
theorem dX9_copy_33 : decode cX9_copy 33 = .ok (.if_icmp .eq 12, 3) := by decide +kernel
theorem dX9_copy_36 : decode cX9_copy 36 = .ok (.aload 7, 2) := by decide +kernel
theorem dX9_copy_38 : decode cX9_copy 38 = .ok (.getfield 294, 3) := by decide +kernel
theorem dX9_copy_41 : decode cX9_copy 41 = .ok (.iconst (-1), 1) := by decide +kernel
theorem dX9_copy_42 : decode cX9_copy 42 = .ok (.if_icmp .ne 6, 3) := by decide +kernel
theorem dX9_copy_45 : decode cX9_copy 45 = .ok (.bipush (-11), 2) := by decide +kernel
theorem dX9_copy_47 : decode cX9_copy 47 = .ok (.ireturn, 1) := by decide +kernel
theorem dX9_copy_48 : decode cX9_copy 48 = .ok (.aload 6, 2) := by decide +kernel
theorem dX9_copy_50 : decode cX9_copy 50 = .ok (.getfield 294, 3) := by decide +kernel
theorem dX9_copy_53 : decode cX9_copy 53 = .ok (.aload 7, 2) := by decide +kernel
theorem dX9_copy_55 : decode cX9_copy 55 = .ok (.getfield 294, 3) := by decide +kernel
theorem dX9_copy_58 : decode cX9_copy 58 = .ok (.if_icmp .eq 6, 3) := by decide +kernel
theorem dX9_copy_61 : decode cX9_copy 61 = .ok (.bipush (-13), 2) := by decide +kernel
theorem dX9_copy_63 : decode cX9_copy 63 = .ok (.ireturn, 1) := by decide +kernel
theorem dX9_copy_64 : decode cX9_copy 64 = .ok (.aload 6, 2) := by decide +kernel
theorem dX9_copy_66 : decode cX9_copy 66 = .ok (.iload_n 2, 1) := by decide +kernel
theorem dX9_copy_67 : decode cX9_copy 67 = .ok (.iload 5, 2) := by decide +kernel
theorem dX9_copy_69 : decode cX9_copy 69 = .ok (.invokevirtual 300, 3) := by decide +kernel
theorem dX9_copy_72 : decode cX9_copy 72 = .ok (.ifCond .eq 15, 3) := by decide +kernel
theorem dX9_copy_75 : decode cX9_copy 75 = .ok (.aload 7, 2) := by decide +kernel
theorem dX9_copy_77 : decode cX9_copy 77 = .ok (.iload 4, 2) := by decide +kernel
theorem dX9_copy_79 : decode cX9_copy 79 = .ok (.iload 5, 2) := by decide +kernel
theorem dX9_copy_81 : decode cX9_copy 81 = .ok (.invokevirtual 300, 3) := by decide +kernel
theorem dX9_copy_84 : decode cX9_copy 84 = .ok (.ifCond .ne 6, 3) := by decide +kernel
theorem dX9_copy_87 : decode cX9_copy 87 = .ok (.bipush (-12), 2) := by decide +kernel
theorem dX9_copy_89 : decode cX9_copy 89 = .ok (.ireturn, 1) := by decide +kernel
theorem dX9_copy_90 : decode cX9_copy 90 = .ok (.aload 6, 2) := by decide +kernel
theorem dX9_copy_92 : decode cX9_copy 92 = .ok (.getfield 303, 3) := by decide +kernel
theorem dX9_copy_95 : decode cX9_copy 95 = .ok (.iload_n 2, 1) := by decide +kernel
theorem dX9_copy_96 : decode cX9_copy 96 = .ok (.aload 7, 2) := by decide +kernel
theorem dX9_copy_98 : decode cX9_copy 98 = .ok (.getfield 303, 3) := by decide +kernel
theorem dX9_copy_101 : decode cX9_copy 101 = .ok (.iload 4, 2) := by decide +kernel
theorem dX9_copy_103 : decode cX9_copy 103 = .ok (.iload 5, 2) := by decide +kernel
theorem dX9_copy_105 : decode cX9_copy 105 = .ok (.invokestatic 306, 3) := by decide +kernel
theorem dX9_copy_108 : decode cX9_copy 108 = .ok (.iload 5, 2) := by decide +kernel
theorem dX9_copy_110 : decode cX9_copy 110 = .ok (.ireturn, 1) := by decide +kernel
theorem dX9_sales_0 : decode cX9_sales 0 = .ok (.aload_n 0, 1) := by decide +kernel
theorem dX9_sales_1 : decode cX9_sales 1 = .ok (.iload_n 1, 1) := by decide +kernel
theorem dX9_sales_2 : decode cX9_sales 2 = .ok (.invokevirtual 286, 3) := by decide +kernel
theorem dX9_sales_5 : decode cX9_sales 5 = .ok (.astore 5, 2) := by decide +kernel
theorem dX9_sales_7 : decode cX9_sales 7 = .ok (.aload 5, 2) := by decide +kernel
theorem dX9_sales_9 : decode cX9_sales 9 = .ok (.ifnull 24, 3) := by decide +kernel
theorem dX9_sales_12 : decode cX9_sales 12 = .ok (.iload_n 2, 1) := by decide +kernel
theorem dX9_sales_13 : decode cX9_sales 13 = .ok (.ifCond .lt 20, 3) := by decide +kernel
theorem dX9_sales_16 : decode cX9_sales 16 = .ok (.iload_n 2, 1) := by decide +kernel
theorem dX9_sales_17 : decode cX9_sales 17 = .ok (.iconst 3, 1) := by decide +kernel
theorem dX9_sales_18 : decode cX9_sales 18 = .ok (.if_icmp .ge 15, 3) := by decide +kernel
theorem dX9_sales_21 : decode cX9_sales 21 = .ok (.iload 4, 2) := by decide +kernel
theorem dX9_sales_23 : decode cX9_sales 23 = .ok (.ifCond .lt 10, 3) := by decide +kernel
theorem dX9_sales_26 : decode cX9_sales 26 = .ok (.iload 4, 2) := by decide +kernel
theorem dX9_sales_28 : decode cX9_sales 28 = .ok (.bipush 8, 2) := by decide +kernel
theorem dX9_sales_30 : decode cX9_sales 30 = .ok (.if_icmp .le 6, 3) := by decide +kernel
theorem dX9_sales_33 : decode cX9_sales 33 = .ok (.bipush (-2), 2) := by decide +kernel
theorem dX9_sales_35 : decode cX9_sales 35 = .ok (.ireturn, 1) := by decide +kernel
theorem dX9_sales_36 : decode cX9_sales 36 = .ok (.aload 5, 2) := by decide +kernel
theorem dX9_sales_38 : decode cX9_sales 38 = .ok (.getfield 294, 3) := by decide +kernel
theorem dX9_sales_41 : decode cX9_sales 41 = .ok (.iconst (-1), 1) := by decide +kernel
theorem dX9_sales_42 : decode cX9_sales 42 = .ok (.if_icmp .ne 6, 3) := by decide +kernel
theorem dX9_sales_45 : decode cX9_sales 45 = .ok (.bipush (-11), 2) := by decide +kernel
theorem dX9_sales_47 : decode cX9_sales 47 = .ok (.ireturn, 1) := by decide +kernel
theorem dX9_sales_48 : decode cX9_sales 48 = .ok (.aload 5, 2) := by decide +kernel
theorem dX9_sales_50 : decode cX9_sales 50 = .ok (.getfield 294, 3) := by decide +kernel
theorem dX9_sales_53 : decode cX9_sales 53 = .ok (.iload_n 2, 1) := by decide +kernel
theorem dX9_sales_54 : decode cX9_sales 54 = .ok (.if_icmp .eq 6, 3) := by decide +kernel
theorem dX9_sales_57 : decode cX9_sales 57 = .ok (.bipush (-13), 2) := by decide +kernel
theorem dX9_sales_59 : decode cX9_sales 59 = .ok (.ireturn, 1) := by decide +kernel
theorem dX9_sales_60 : decode cX9_sales 60 = .ok (.iconst 0, 1) := by decide +kernel
theorem dX9_sales_61 : decode cX9_sales 61 = .ok (.istore 6, 2) := by decide +kernel
theorem dX9_sales_63 : decode cX9_sales 63 = .ok (.iload_n 3, 1) := by decide +kernel
theorem dX9_sales_64 : decode cX9_sales 64 = .ok (.istore 7, 2) := by decide +kernel
theorem dX9_sales_66 : decode cX9_sales 66 = .ok (.iconst 0, 1) := by decide +kernel
theorem dX9_sales_67 : decode cX9_sales 67 = .ok (.istore 8, 2) := by decide +kernel
theorem dX9_sales_69 : decode cX9_sales 69 = .ok (.iload 8, 2) := by decide +kernel
theorem dX9_sales_71 : decode cX9_sales 71 = .ok (.iload 4, 2) := by decide +kernel
theorem dX9_sales_73 : decode cX9_sales 73 = .ok (.if_icmp .ge 76, 3) := by decide +kernel
theorem dX9_sales_76 : decode cX9_sales 76 = .ok (.aload 5, 2) := by decide +kernel
theorem dX9_sales_78 : decode cX9_sales 78 = .ok (.iload 7, 2) := by decide +kernel
theorem dX9_sales_80 : decode cX9_sales 80 = .ok (.iconst 5, 1) := by decide +kernel
theorem dX9_sales_81 : decode cX9_sales 81 = .ok (.invokevirtual 300, 3) := by decide +kernel
theorem dX9_sales_84 : decode cX9_sales 84 = .ok (.ifCond .ne 6, 3) := by decide +kernel
theorem dX9_sales_87 : decode cX9_sales 87 = .ok (.bipush (-12), 2) := by decide +kernel
theorem dX9_sales_89 : decode cX9_sales 89 = .ok (.ireturn, 1) := by decide +kernel
theorem dX9_sales_90 : decode cX9_sales 90 = .ok (.aload 5, 2) := by decide +kernel
theorem dX9_sales_92 : decode cX9_sales 92 = .ok (.getfield 303, 3) := by decide +kernel
theorem dX9_sales_95 : decode cX9_sales 95 = .ok (.astore 9, 2) := by decide +kernel
theorem dX9_sales_97 : decode cX9_sales 97 = .ok (.aload_n 0, 1) := by decide +kernel
theorem dX9_sales_98 : decode cX9_sales 98 = .ok (.aload 9, 2) := by decide +kernel
theorem dX9_sales_100 : decode cX9_sales 100 = .ok (.iload 7, 2) := by decide +kernel
theorem dX9_sales_102 : decode cX9_sales 102 = .ok (.iaload, 1) := by decide +kernel
theorem dX9_sales_103 : decode cX9_sales 103 = .ok (.aload 9, 2) := by decide +kernel
theorem dX9_sales_105 : decode cX9_sales 105 = .ok (.iload 7, 2) := by decide +kernel
theorem dX9_sales_107 : decode cX9_sales 107 = .ok (.iconst 1, 1) := by decide +kernel
theorem dX9_sales_108 : decode cX9_sales 108 = .ok (.iadd, 1) := by decide +kernel
theorem dX9_sales_109 : decode cX9_sales 109 = .ok (.iaload, 1) := by decide +kernel
theorem dX9_sales_110 : decode cX9_sales 110 = .ok (.aload 9, 2) := by decide +kernel
theorem dX9_sales_112 : decode cX9_sales 112 = .ok (.iload 7, 2) := by decide +kernel
theorem dX9_sales_114 : decode cX9_sales 114 = .ok (.iconst 2, 1) := by decide +kernel
theorem dX9_sales_115 : decode cX9_sales 115 = .ok (.iadd, 1) := by decide +kernel
theorem dX9_sales_116 : decode cX9_sales 116 = .ok (.iaload, 1) := by decide +kernel
theorem dX9_sales_117 : decode cX9_sales 117 = .ok (.aload 9, 2) := by decide +kernel
theorem dX9_sales_119 : decode cX9_sales 119 = .ok (.iload 7, 2) := by decide +kernel
theorem dX9_sales_121 : decode cX9_sales 121 = .ok (.iconst 3, 1) := by decide +kernel
theorem dX9_sales_122 : decode cX9_sales 122 = .ok (.iadd, 1) := by decide +kernel
theorem dX9_sales_123 : decode cX9_sales 123 = .ok (.iaload, 1) := by decide +kernel
theorem dX9_sales_124 : decode cX9_sales 124 = .ok (.aload 9, 2) := by decide +kernel
theorem dX9_sales_126 : decode cX9_sales 126 = .ok (.iload 7, 2) := by decide +kernel
theorem dX9_sales_128 : decode cX9_sales 128 = .ok (.iconst 4, 1) := by decide +kernel
theorem dX9_sales_129 : decode cX9_sales 129 = .ok (.iadd, 1) := by decide +kernel
theorem dX9_sales_130 : decode cX9_sales 130 = .ok (.iaload, 1) := by decide +kernel
theorem dX9_sales_131 : decode cX9_sales 131 = .ok (.invokevirtual 312, 3) := by decide +kernel
theorem dX9_sales_134 : decode cX9_sales 134 = .ok (.ifCond .lt 6, 3) := by decide +kernel
theorem dX9_sales_137 : decode cX9_sales 137 = .ok (.iinc 6 1, 3) := by decide +kernel
theorem dX9_sales_140 : decode cX9_sales 140 = .ok (.iinc 7 5, 3) := by decide +kernel
theorem dX9_sales_143 : decode cX9_sales 143 = .ok (.iinc 8 1, 3) := by decide +kernel
theorem dX9_sales_146 : decode cX9_sales 146 = .ok (.goto (-77), 3) := by decide +kernel
theorem dX9_sales_149 : decode cX9_sales 149 = .ok (.iload 6, 2) := by decide +kernel
theorem dX9_sales_151 : decode cX9_sales 151 = .ok (.ireturn, 1) := by decide +kernel
theorem dX9_taken_0 : decode cX9_taken 0 = .ok (.iload_n 2, 1) := by decide +kernel
theorem dX9_taken_1 : decode cX9_taken 1 = .ok (.invokestatic 119, 3) := by decide +kernel
theorem dX9_taken_4 : decode cX9_taken 4 = .ok (.ifCond .ne 6, 3) := by decide +kernel
theorem dX9_taken_7 : decode cX9_taken 7 = .ok (.bipush (-2), 2) := by decide +kernel
theorem dX9_taken_9 : decode cX9_taken 9 = .ok (.ireturn, 1) := by decide +kernel
theorem dX9_taken_10 : decode cX9_taken 10 = .ok (.aload_n 0, 1) := by decide +kernel
theorem dX9_taken_11 : decode cX9_taken 11 = .ok (.iload_n 1, 1) := by decide +kernel
theorem dX9_taken_12 : decode cX9_taken 12 = .ok (.invokevirtual 131, 3) := by decide +kernel
theorem dX9_taken_15 : decode cX9_taken 15 = .ok (.astore_n 3, 1) := by decide +kernel
theorem dX9_taken_16 : decode cX9_taken 16 = .ok (.aload_n 3, 1) := by decide +kernel
theorem dX9_taken_17 : decode cX9_taken 17 = .ok (.ifnonnull 6, 3) := by decide +kernel
theorem dX9_taken_20 : decode cX9_taken 20 = .ok (.bipush (-11), 2) := by decide +kernel
theorem dX9_taken_22 : decode cX9_taken 22 = .ok (.ireturn, 1) := by decide +kernel
theorem dX9_taken_23 : decode cX9_taken 23 = .ok (.aload_n 3, 1) := by decide +kernel
theorem dX9_taken_24 : decode cX9_taken 24 = .ok (.getfield 237, 3) := by decide +kernel
theorem dX9_taken_27 : decode cX9_taken 27 = .ok (.iload_n 2, 1) := by decide +kernel
theorem dX9_taken_28 : decode cX9_taken 28 = .ok (.invokestatic 240, 3) := by decide +kernel
theorem dX9_taken_31 : decode cX9_taken 31 = .ok (.ifCond .eq 10, 3) := by decide +kernel
theorem dX9_taken_34 : decode cX9_taken 34 = .ok (.aload_n 3, 1) := by decide +kernel
theorem dX9_taken_35 : decode cX9_taken 35 = .ok (.getfield 316, 3) := by decide +kernel
theorem dX9_taken_38 : decode cX9_taken 38 = .ok (.goto 5, 3) := by decide +kernel
theorem dX9_taken_41 : decode cX9_taken 41 = .ok (.bipush (-13), 2) := by decide +kernel
theorem dX9_taken_43 : decode cX9_taken 43 = .ok (.ireturn, 1) := by decide +kernel
theorem dX9_isHand_0 : decode cX9_isHand 0 = .ok (.iload_n 0, 1) := by decide +kernel
theorem dX9_isHand_1 : decode cX9_isHand 1 = .ok (.ifCond .lt 13, 3) := by decide +kernel
theorem dX9_isHand_4 : decode cX9_isHand 4 = .ok (.iload_n 0, 1) := by decide +kernel
theorem dX9_isHand_5 : decode cX9_isHand 5 = .ok (.bipush 10, 2) := by decide +kernel
theorem dX9_isHand_7 : decode cX9_isHand 7 = .ok (.if_icmp .ge 7, 3) := by decide +kernel
theorem dX9_isHand_10 : decode cX9_isHand 10 = .ok (.iconst 1, 1) := by decide +kernel
theorem dX9_isHand_11 : decode cX9_isHand 11 = .ok (.goto 4, 3) := by decide +kernel
theorem dX9_isHand_14 : decode cX9_isHand 14 = .ok (.iconst 0, 1) := by decide +kernel
theorem dX9_isHand_15 : decode cX9_isHand 15 = .ok (.ireturn, 1) := by decide +kernel
theorem dX9_isHour_0 : decode cX9_isHour 0 = .ok (.iload_n 0, 1) := by decide +kernel
theorem dX9_isHour_1 : decode cX9_isHour 1 = .ok (.ifCond .lt 14, 3) := by decide +kernel
theorem dX9_isHour_4 : decode cX9_isHour 4 = .ok (.iload_n 0, 1) := by decide +kernel
theorem dX9_isHour_5 : decode cX9_isHour 5 = .ok (.sipush 999, 3) := by decide +kernel
theorem dX9_isHour_8 : decode cX9_isHour 8 = .ok (.if_icmp .gt 7, 3) := by decide +kernel
theorem dX9_isHour_11 : decode cX9_isHour 11 = .ok (.iconst 1, 1) := by decide +kernel
theorem dX9_isHour_12 : decode cX9_isHour 12 = .ok (.goto 4, 3) := by decide +kernel
theorem dX9_isHour_15 : decode cX9_isHour 15 = .ok (.iconst 0, 1) := by decide +kernel
theorem dX9_isHour_16 : decode cX9_isHour 16 = .ok (.ireturn, 1) := by decide +kernel
theorem dX9_isHourOrNone_0 : decode cX9_isHourOrNone 0 = .ok (.iload_n 0, 1) := by decide +kernel
theorem dX9_isHourOrNone_1 : decode cX9_isHourOrNone 1 = .ok (.iconst (-1), 1) := by decide +kernel
theorem dX9_isHourOrNone_2 : decode cX9_isHourOrNone 2 = .ok (.if_icmp .eq 10, 3) := by decide +kernel
theorem dX9_isHourOrNone_5 : decode cX9_isHourOrNone 5 = .ok (.iload_n 0, 1) := by decide +kernel
theorem dX9_isHourOrNone_6 : decode cX9_isHourOrNone 6 = .ok (.invokestatic 122, 3) := by decide +kernel
theorem dX9_isHourOrNone_9 : decode cX9_isHourOrNone 9 = .ok (.ifCond .eq 7, 3) := by decide +kernel
theorem dX9_isHourOrNone_12 : decode cX9_isHourOrNone 12 = .ok (.iconst 1, 1) := by decide +kernel
theorem dX9_isHourOrNone_13 : decode cX9_isHourOrNone 13 = .ok (.goto 4, 3) := by decide +kernel
theorem dX9_isHourOrNone_16 : decode cX9_isHourOrNone 16 = .ok (.iconst 0, 1) := by decide +kernel
theorem dX9_isHourOrNone_17 : decode cX9_isHourOrNone 17 = .ok (.ireturn, 1) := by decide +kernel
theorem dX9_isAmount_0 : decode cX9_isAmount 0 = .ok (.iload_n 0, 1) := by decide +kernel
theorem dX9_isAmount_1 : decode cX9_isAmount 1 = .ok (.iconst 1, 1) := by decide +kernel
theorem dX9_isAmount_2 : decode cX9_isAmount 2 = .ok (.if_icmp .lt 14, 3) := by decide +kernel
theorem dX9_isAmount_5 : decode cX9_isAmount 5 = .ok (.iload_n 0, 1) := by decide +kernel
theorem dX9_isAmount_6 : decode cX9_isAmount 6 = .ok (.sipush 999, 3) := by decide +kernel
theorem dX9_isAmount_9 : decode cX9_isAmount 9 = .ok (.if_icmp .gt 7, 3) := by decide +kernel
theorem dX9_isAmount_12 : decode cX9_isAmount 12 = .ok (.iconst 1, 1) := by decide +kernel
theorem dX9_isAmount_13 : decode cX9_isAmount 13 = .ok (.goto 4, 3) := by decide +kernel
theorem dX9_isAmount_16 : decode cX9_isAmount 16 = .ok (.iconst 0, 1) := by decide +kernel
theorem dX9_isAmount_17 : decode cX9_isAmount 17 = .ok (.ireturn, 1) := by decide +kernel
theorem dX9_isCoin_0 : decode cX9_isCoin 0 = .ok (.iload_n 0, 1) := by decide +kernel
theorem dX9_isCoin_1 : decode cX9_isCoin 1 = .ok (.ifCond .lt 13, 3) := by decide +kernel
theorem dX9_isCoin_4 : decode cX9_isCoin 4 = .ok (.iload_n 0, 1) := by decide +kernel
theorem dX9_isCoin_5 : decode cX9_isCoin 5 = .ok (.ldc 141, 2) := by decide +kernel
theorem dX9_isCoin_7 : decode cX9_isCoin 7 = .ok (.if_icmp .gt 7, 3) := by decide +kernel
theorem dX9_isCoin_10 : decode cX9_isCoin 10 = .ok (.iconst 1, 1) := by decide +kernel
theorem dX9_isCoin_11 : decode cX9_isCoin 11 = .ok (.goto 4, 3) := by decide +kernel
theorem dX9_isCoin_14 : decode cX9_isCoin 14 = .ok (.iconst 0, 1) := by decide +kernel
theorem dX9_isCoin_15 : decode cX9_isCoin 15 = .ok (.ireturn, 1) := by decide +kernel
theorem dX9_isKind_0 : decode cX9_isKind 0 = .ok (.iload_n 0, 1) := by decide +kernel
theorem dX9_isKind_1 : decode cX9_isKind 1 = .ok (.ifCond .lt 13, 3) := by decide +kernel
theorem dX9_isKind_4 : decode cX9_isKind 4 = .ok (.iload_n 0, 1) := by decide +kernel
theorem dX9_isKind_5 : decode cX9_isKind 5 = .ok (.bipush 6, 2) := by decide +kernel
theorem dX9_isKind_7 : decode cX9_isKind 7 = .ok (.if_icmp .ge 7, 3) := by decide +kernel
theorem dX9_isKind_10 : decode cX9_isKind 10 = .ok (.iconst 1, 1) := by decide +kernel
theorem dX9_isKind_11 : decode cX9_isKind 11 = .ok (.goto 4, 3) := by decide +kernel
theorem dX9_isKind_14 : decode cX9_isKind 14 = .ok (.iconst 0, 1) := by decide +kernel
theorem dX9_isKind_15 : decode cX9_isKind 15 = .ok (.ireturn, 1) := by decide +kernel
theorem dX9_isUnder_0 : decode cX9_isUnder 0 = .ok (.iload_n 0, 1) := by decide +kernel
theorem dX9_isUnder_1 : decode cX9_isUnder 1 = .ok (.istore_n 2, 1) := by decide +kernel
theorem dX9_isUnder_2 : decode cX9_isUnder 2 = .ok (.iconst 0, 1) := by decide +kernel
theorem dX9_isUnder_3 : decode cX9_isUnder 3 = .ok (.istore_n 3, 1) := by decide +kernel
theorem dX9_isUnder_4 : decode cX9_isUnder 4 = .ok (.iload_n 3, 1) := by decide +kernel
theorem dX9_isUnder_5 : decode cX9_isUnder 5 = .ok (.bipush 6, 2) := by decide +kernel
theorem dX9_isUnder_7 : decode cX9_isUnder 7 = .ok (.if_icmp .ge 29, 3) := by decide +kernel
theorem dX9_isUnder_10 : decode cX9_isUnder 10 = .ok (.iload_n 2, 1) := by decide +kernel
theorem dX9_isUnder_11 : decode cX9_isUnder 11 = .ok (.invokestatic 119, 3) := by decide +kernel
theorem dX9_isUnder_14 : decode cX9_isUnder 14 = .ok (.ifCond .eq 22, 3) := by decide +kernel
theorem dX9_isUnder_17 : decode cX9_isUnder 17 = .ok (.iload_n 2, 1) := by decide +kernel
theorem dX9_isUnder_18 : decode cX9_isUnder 18 = .ok (.iload_n 1, 1) := by decide +kernel
theorem dX9_isUnder_19 : decode cX9_isUnder 19 = .ok (.if_icmp .ne 5, 3) := by decide +kernel
theorem dX9_isUnder_22 : decode cX9_isUnder 22 = .ok (.iconst 1, 1) := by decide +kernel
theorem dX9_isUnder_23 : decode cX9_isUnder 23 = .ok (.ireturn, 1) := by decide +kernel
theorem dX9_isUnder_24 : decode cX9_isUnder 24 = .ok (.getstatic 319, 3) := by decide +kernel
theorem dX9_isUnder_27 : decode cX9_isUnder 27 = .ok (.iload_n 2, 1) := by decide +kernel
theorem dX9_isUnder_28 : decode cX9_isUnder 28 = .ok (.iaload, 1) := by decide +kernel
theorem dX9_isUnder_29 : decode cX9_isUnder 29 = .ok (.istore_n 2, 1) := by decide +kernel
theorem dX9_isUnder_30 : decode cX9_isUnder 30 = .ok (.iinc 3 1, 3) := by decide +kernel
theorem dX9_isUnder_33 : decode cX9_isUnder 33 = .ok (.goto (-29), 3) := by decide +kernel
theorem dX9_isUnder_36 : decode cX9_isUnder 36 = .ok (.iconst 0, 1) := by decide +kernel
theorem dX9_isUnder_37 : decode cX9_isUnder 37 = .ok (.ireturn, 1) := by decide +kernel
theorem dX9_upperOf_0 : decode cX9_upperOf 0 = .ok (.iload_n 0, 1) := by decide +kernel
theorem dX9_upperOf_1 : decode cX9_upperOf 1 = .ok (.ifCond .ge 7, 3) := by decide +kernel
theorem dX9_upperOf_4 : decode cX9_upperOf 4 = .ok (.iconst (-1), 1) := by decide +kernel
theorem dX9_upperOf_5 : decode cX9_upperOf 5 = .ok (.goto 8, 3) := by decide +kernel
theorem dX9_upperOf_8 : decode cX9_upperOf 8 = .ok (.iload_n 0, 1) := by decide +kernel
theorem dX9_upperOf_9 : decode cX9_upperOf 9 = .ok (.sipush 1000, 3) := by decide +kernel
theorem dX9_upperOf_12 : decode cX9_upperOf 12 = .ok (.idiv, 1) := by decide +kernel
theorem dX9_upperOf_13 : decode cX9_upperOf 13 = .ok (.ireturn, 1) := by decide +kernel
theorem dX9_lowerOf_0 : decode cX9_lowerOf 0 = .ok (.iload_n 0, 1) := by decide +kernel
theorem dX9_lowerOf_1 : decode cX9_lowerOf 1 = .ok (.ifCond .ge 7, 3) := by decide +kernel
theorem dX9_lowerOf_4 : decode cX9_lowerOf 4 = .ok (.iconst (-1), 1) := by decide +kernel
theorem dX9_lowerOf_5 : decode cX9_lowerOf 5 = .ok (.goto 8, 3) := by decide +kernel
theorem dX9_lowerOf_8 : decode cX9_lowerOf 8 = .ok (.iload_n 0, 1) := by decide +kernel
theorem dX9_lowerOf_9 : decode cX9_lowerOf 9 = .ok (.sipush 1000, 3) := by decide +kernel
theorem dX9_lowerOf_12 : decode cX9_lowerOf 12 = .ok (.irem, 1) := by decide +kernel
theorem dX9_lowerOf_13 : decode cX9_lowerOf 13 = .ok (.ireturn, 1) := by decide +kernel
theorem dX9_cargoAt_0 : decode cX9_cargoAt 0 = .ok (.iload_n 1, 1) := by decide +kernel
theorem dX9_cargoAt_1 : decode cX9_cargoAt 1 = .ok (.ifCond .lt 20, 3) := by decide +kernel
theorem dX9_cargoAt_4 : decode cX9_cargoAt 4 = .ok (.iload_n 1, 1) := by decide +kernel
theorem dX9_cargoAt_5 : decode cX9_cargoAt 5 = .ok (.aload_n 0, 1) := by decide +kernel
theorem dX9_cargoAt_6 : decode cX9_cargoAt 6 = .ok (.getfield 103, 3) := by decide +kernel
theorem dX9_cargoAt_9 : decode cX9_cargoAt 9 = .ok (.if_icmp .ge 12, 3) := by decide +kernel
theorem dX9_cargoAt_12 : decode cX9_cargoAt 12 = .ok (.aload_n 0, 1) := by decide +kernel
theorem dX9_cargoAt_13 : decode cX9_cargoAt 13 = .ok (.getfield 11, 3) := by decide +kernel
theorem dX9_cargoAt_16 : decode cX9_cargoAt 16 = .ok (.iload_n 1, 1) := by decide +kernel
theorem dX9_cargoAt_17 : decode cX9_cargoAt 17 = .ok (.aaload, 1) := by decide +kernel
theorem dX9_cargoAt_18 : decode cX9_cargoAt 18 = .ok (.goto 4, 3) := by decide +kernel
theorem dX9_cargoAt_21 : decode cX9_cargoAt 21 = .ok (.aconst_null, 1) := by decide +kernel
theorem dX9_cargoAt_22 : decode cX9_cargoAt 22 = .ok (.areturn, 1) := by decide +kernel
theorem dX9_saleAt_0 : decode cX9_saleAt 0 = .ok (.iload_n 1, 1) := by decide +kernel
theorem dX9_saleAt_1 : decode cX9_saleAt 1 = .ok (.ifCond .lt 20, 3) := by decide +kernel
theorem dX9_saleAt_4 : decode cX9_saleAt 4 = .ok (.iload_n 1, 1) := by decide +kernel
theorem dX9_saleAt_5 : decode cX9_saleAt 5 = .ok (.aload_n 0, 1) := by decide +kernel
theorem dX9_saleAt_6 : decode cX9_saleAt 6 = .ok (.getfield 125, 3) := by decide +kernel
theorem dX9_saleAt_9 : decode cX9_saleAt 9 = .ok (.if_icmp .ge 12, 3) := by decide +kernel
theorem dX9_saleAt_12 : decode cX9_saleAt 12 = .ok (.aload_n 0, 1) := by decide +kernel
theorem dX9_saleAt_13 : decode cX9_saleAt 13 = .ok (.getfield 17, 3) := by decide +kernel
theorem dX9_saleAt_16 : decode cX9_saleAt 16 = .ok (.iload_n 1, 1) := by decide +kernel
theorem dX9_saleAt_17 : decode cX9_saleAt 17 = .ok (.aaload, 1) := by decide +kernel
theorem dX9_saleAt_18 : decode cX9_saleAt 18 = .ok (.goto 4, 3) := by decide +kernel
theorem dX9_saleAt_21 : decode cX9_saleAt 21 = .ok (.aconst_null, 1) := by decide +kernel
theorem dX9_saleAt_22 : decode cX9_saleAt 22 = .ok (.areturn, 1) := by decide +kernel
theorem dX9_sheetAt_0 : decode cX9_sheetAt 0 = .ok (.iload_n 1, 1) := by decide +kernel
theorem dX9_sheetAt_1 : decode cX9_sheetAt 1 = .ok (.ifCond .lt 17, 3) := by decide +kernel
theorem dX9_sheetAt_4 : decode cX9_sheetAt 4 = .ok (.iload_n 1, 1) := by decide +kernel
theorem dX9_sheetAt_5 : decode cX9_sheetAt 5 = .ok (.iconst 4, 1) := by decide +kernel
theorem dX9_sheetAt_6 : decode cX9_sheetAt 6 = .ok (.if_icmp .ge 12, 3) := by decide +kernel
theorem dX9_sheetAt_9 : decode cX9_sheetAt 9 = .ok (.aload_n 0, 1) := by decide +kernel
theorem dX9_sheetAt_10 : decode cX9_sheetAt 10 = .ok (.getfield 57, 3) := by decide +kernel
theorem dX9_sheetAt_13 : decode cX9_sheetAt 13 = .ok (.iload_n 1, 1) := by decide +kernel
theorem dX9_sheetAt_14 : decode cX9_sheetAt 14 = .ok (.aaload, 1) := by decide +kernel
theorem dX9_sheetAt_15 : decode cX9_sheetAt 15 = .ok (.goto 4, 3) := by decide +kernel
theorem dX9_sheetAt_18 : decode cX9_sheetAt 18 = .ok (.aconst_null, 1) := by decide +kernel
theorem dX9_sheetAt_19 : decode cX9_sheetAt 19 = .ok (.areturn, 1) := by decide +kernel
theorem dX9_areOfOneCargo_0 : decode cX9_areOfOneCargo 0 = .ok (.iload_n 1, 1) := by decide +kernel
theorem dX9_areOfOneCargo_1 : decode cX9_areOfOneCargo 1 = .ok (.ifCond .eq 12, 3) := by decide +kernel
theorem dX9_areOfOneCargo_4 : decode cX9_areOfOneCargo 4 = .ok (.iload_n 1, 1) := by decide +kernel
theorem dX9_areOfOneCargo_5 : decode cX9_areOfOneCargo 5 = .ok (.aload_n 0, 1) := by decide +kernel
theorem dX9_areOfOneCargo_6 : decode cX9_areOfOneCargo 6 = .ok (.getfield 125, 3) := by decide +kernel
theorem dX9_areOfOneCargo_9 : decode cX9_areOfOneCargo 9 = .ok (.iushr, 1) := by decide +kernel
theorem dX9_areOfOneCargo_10 : decode cX9_areOfOneCargo 10 = .ok (.ifCond .eq 5, 3) := by decide +kernel
theorem dX9_areOfOneCargo_13 : decode cX9_areOfOneCargo 13 = .ok (.iconst 0, 1) := by decide +kernel
theorem dX9_areOfOneCargo_14 : decode cX9_areOfOneCargo 14 = .ok (.ireturn, 1) := by decide +kernel
theorem dX9_areOfOneCargo_15 : decode cX9_areOfOneCargo 15 = .ok (.aconst_null, 1) := by decide +kernel
theorem dX9_areOfOneCargo_16 : decode cX9_areOfOneCargo 16 = .ok (.astore_n 2, 1) := by decide +kernel
theorem dX9_areOfOneCargo_17 : decode cX9_areOfOneCargo 17 = .ok (.iconst 0, 1) := by decide +kernel
theorem dX9_areOfOneCargo_18 : decode cX9_areOfOneCargo 18 = .ok (.istore_n 3, 1) := by decide +kernel
theorem dX9_areOfOneCargo_19 : decode cX9_areOfOneCargo 19 = .ok (.iload_n 3, 1) := by decide +kernel
theorem dX9_areOfOneCargo_20 : decode cX9_areOfOneCargo 20 = .ok (.aload_n 0, 1) := by decide +kernel
theorem dX9_areOfOneCargo_21 : decode cX9_areOfOneCargo 21 = .ok (.getfield 125, 3) := by decide +kernel
theorem dX9_areOfOneCargo_24 : decode cX9_areOfOneCargo 24 = .ok (.if_icmp .ge 49, 3) := by decide +kernel
theorem dX9_areOfOneCargo_27 : decode cX9_areOfOneCargo 27 = .ok (.iload_n 1, 1) := by decide +kernel
theorem dX9_areOfOneCargo_28 : decode cX9_areOfOneCargo 28 = .ok (.iload_n 3, 1) := by decide +kernel
theorem dX9_areOfOneCargo_29 : decode cX9_areOfOneCargo 29 = .ok (.iushr, 1) := by decide +kernel
theorem dX9_areOfOneCargo_30 : decode cX9_areOfOneCargo 30 = .ok (.iconst 1, 1) := by decide +kernel
theorem dX9_areOfOneCargo_31 : decode cX9_areOfOneCargo 31 = .ok (.iand, 1) := by decide +kernel
theorem dX9_areOfOneCargo_32 : decode cX9_areOfOneCargo 32 = .ok (.ifCond .ne 6, 3) := by decide +kernel
theorem dX9_areOfOneCargo_35 : decode cX9_areOfOneCargo 35 = .ok (.goto 32, 3) := by decide +kernel
theorem dX9_areOfOneCargo_38 : decode cX9_areOfOneCargo 38 = .ok (.aload_n 2, 1) := by decide +kernel
theorem dX9_areOfOneCargo_39 : decode cX9_areOfOneCargo 39 = .ok (.ifnull 18, 3) := by decide +kernel
theorem dX9_areOfOneCargo_42 : decode cX9_areOfOneCargo 42 = .ok (.aload_n 0, 1) := by decide +kernel
theorem dX9_areOfOneCargo_43 : decode cX9_areOfOneCargo 43 = .ok (.getfield 17, 3) := by decide +kernel
theorem dX9_areOfOneCargo_46 : decode cX9_areOfOneCargo 46 = .ok (.iload_n 3, 1) := by decide +kernel
theorem dX9_areOfOneCargo_47 : decode cX9_areOfOneCargo 47 = .ok (.aaload, 1) := by decide +kernel
theorem dX9_areOfOneCargo_48 : decode cX9_areOfOneCargo 48 = .ok (.getfield 252, 3) := by decide +kernel
theorem dX9_areOfOneCargo_51 : decode cX9_areOfOneCargo 51 = .ok (.aload_n 2, 1) := by decide +kernel
theorem dX9_areOfOneCargo_52 : decode cX9_areOfOneCargo 52 = .ok (.if_acmp .eq 5, 3) := by decide +kernel
theorem dX9_areOfOneCargo_55 : decode cX9_areOfOneCargo 55 = .ok (.iconst 0, 1) := by decide +kernel
theorem dX9_areOfOneCargo_56 : decode cX9_areOfOneCargo 56 = .ok (.ireturn, 1) := by decide +kernel
theorem dX9_areOfOneCargo_57 : decode cX9_areOfOneCargo 57 = .ok (.aload_n 0, 1) := by decide +kernel
theorem dX9_areOfOneCargo_58 : decode cX9_areOfOneCargo 58 = .ok (.getfield 17, 3) := by decide +kernel
theorem dX9_areOfOneCargo_61 : decode cX9_areOfOneCargo 61 = .ok (.iload_n 3, 1) := by decide +kernel
theorem dX9_areOfOneCargo_62 : decode cX9_areOfOneCargo 62 = .ok (.aaload, 1) := by decide +kernel
theorem dX9_areOfOneCargo_63 : decode cX9_areOfOneCargo 63 = .ok (.getfield 252, 3) := by decide +kernel
theorem dX9_areOfOneCargo_66 : decode cX9_areOfOneCargo 66 = .ok (.astore_n 2, 1) := by decide +kernel
theorem dX9_areOfOneCargo_67 : decode cX9_areOfOneCargo 67 = .ok (.iinc 3 1, 3) := by decide +kernel
theorem dX9_areOfOneCargo_70 : decode cX9_areOfOneCargo 70 = .ok (.goto (-51), 3) := by decide +kernel
theorem dX9_areOfOneCargo_73 : decode cX9_areOfOneCargo 73 = .ok (.iconst 1, 1) := by decide +kernel
theorem dX9_areOfOneCargo_74 : decode cX9_areOfOneCargo 74 = .ok (.ireturn, 1) := by decide +kernel
theorem dX9_heldAt_0 : decode cX9_heldAt 0 = .ok (.aload_n 0, 1) := by decide +kernel
theorem dX9_heldAt_1 : decode cX9_heldAt 1 = .ok (.getfield 44, 3) := by decide +kernel
theorem dX9_heldAt_4 : decode cX9_heldAt 4 = .ok (.aload_n 1, 1) := by decide +kernel
theorem dX9_heldAt_5 : decode cX9_heldAt 5 = .ok (.aload_n 0, 1) := by decide +kernel
theorem dX9_heldAt_6 : decode cX9_heldAt 6 = .ok (.getfield 17, 3) := by decide +kernel
theorem dX9_heldAt_9 : decode cX9_heldAt 9 = .ok (.aload_n 0, 1) := by decide +kernel
theorem dX9_heldAt_10 : decode cX9_heldAt 10 = .ok (.getfield 125, 3) := by decide +kernel
theorem dX9_heldAt_13 : decode cX9_heldAt 13 = .ok (.iload 4, 2) := by decide +kernel
theorem dX9_heldAt_15 : decode cX9_heldAt 15 = .ok (.invokevirtual 168, 3) := by decide +kernel
theorem dX9_heldAt_18 : decode cX9_heldAt 18 = .ok (.aload_n 0, 1) := by decide +kernel
theorem dX9_heldAt_19 : decode cX9_heldAt 19 = .ok (.getfield 44, 3) := by decide +kernel
theorem dX9_heldAt_22 : decode cX9_heldAt 22 = .ok (.iload_n 3, 1) := by decide +kernel
theorem dX9_heldAt_23 : decode cX9_heldAt 23 = .ok (.invokevirtual 172, 3) := by decide +kernel
theorem dX9_heldAt_26 : decode cX9_heldAt 26 = .ok (.aload_n 0, 1) := by decide +kernel
theorem dX9_heldAt_27 : decode cX9_heldAt 27 = .ok (.getfield 44, 3) := by decide +kernel
theorem dX9_heldAt_30 : decode cX9_heldAt 30 = .ok (.getfield 175, 3) := by decide +kernel
theorem dX9_heldAt_33 : decode cX9_heldAt 33 = .ok (.iload_n 2, 1) := by decide +kernel
theorem dX9_heldAt_34 : decode cX9_heldAt 34 = .ok (.iaload, 1) := by decide +kernel
theorem dX9_heldAt_35 : decode cX9_heldAt 35 = .ok (.ireturn, 1) := by decide +kernel
theorem dX9_keepRisk_0 : decode cX9_keepRisk 0 = .ok (.aload_n 0, 1) := by decide +kernel
theorem dX9_keepRisk_1 : decode cX9_keepRisk 1 = .ok (.getfield 44, 3) := by decide +kernel
theorem dX9_keepRisk_4 : decode cX9_keepRisk 4 = .ok (.aload_n 1, 1) := by decide +kernel
theorem dX9_keepRisk_5 : decode cX9_keepRisk 5 = .ok (.aload_n 0, 1) := by decide +kernel
theorem dX9_keepRisk_6 : decode cX9_keepRisk 6 = .ok (.getfield 17, 3) := by decide +kernel
theorem dX9_keepRisk_9 : decode cX9_keepRisk 9 = .ok (.aload_n 0, 1) := by decide +kernel
theorem dX9_keepRisk_10 : decode cX9_keepRisk 10 = .ok (.getfield 125, 3) := by decide +kernel
theorem dX9_keepRisk_13 : decode cX9_keepRisk 13 = .ok (.iconst 1, 1) := by decide +kernel
theorem dX9_keepRisk_14 : decode cX9_keepRisk 14 = .ok (.invokevirtual 168, 3) := by decide +kernel
theorem dX9_keepRisk_17 : decode cX9_keepRisk 17 = .ok (.aload_n 0, 1) := by decide +kernel
theorem dX9_keepRisk_18 : decode cX9_keepRisk 18 = .ok (.getfield 44, 3) := by decide +kernel
theorem dX9_keepRisk_21 : decode cX9_keepRisk 21 = .ok (.iload_n 2, 1) := by decide +kernel
theorem dX9_keepRisk_22 : decode cX9_keepRisk 22 = .ok (.invokevirtual 172, 3) := by decide +kernel
theorem dX9_keepRisk_25 : decode cX9_keepRisk 25 = .ok (.aload_n 0, 1) := by decide +kernel
theorem dX9_keepRisk_26 : decode cX9_keepRisk 26 = .ok (.getfield 44, 3) := by decide +kernel
theorem dX9_keepRisk_29 : decode cX9_keepRisk 29 = .ok (.getfield 175, 3) := by decide +kernel
theorem dX9_keepRisk_32 : decode cX9_keepRisk 32 = .ok (.iconst 0, 1) := by decide +kernel
theorem dX9_keepRisk_33 : decode cX9_keepRisk 33 = .ok (.aload_n 0, 1) := by decide +kernel
theorem dX9_keepRisk_34 : decode cX9_keepRisk 34 = .ok (.getfield 61, 3) := by decide +kernel
theorem dX9_keepRisk_37 : decode cX9_keepRisk 37 = .ok (.iconst 0, 1) := by decide +kernel
theorem dX9_keepRisk_38 : decode cX9_keepRisk 38 = .ok (.bipush 10, 2) := by decide +kernel
theorem dX9_keepRisk_40 : decode cX9_keepRisk 40 = .ok (.invokestatic 306, 3) := by decide +kernel
theorem dX9_keepRisk_43 : decode cX9_keepRisk 43 = .ok (.return_, 1) := by decide +kernel
theorem dX9_changeWithout_0 : decode cX9_changeWithout 0 = .ok (.aload_n 1, 1) := by decide +kernel
theorem dX9_changeWithout_1 : decode cX9_changeWithout 1 = .ok (.getfield 116, 3) := by decide +kernel
theorem dX9_changeWithout_4 : decode cX9_changeWithout 4 = .ok (.iload_n 2, 1) := by decide +kernel
theorem dX9_changeWithout_5 : decode cX9_changeWithout 5 = .ok (.iaload, 1) := by decide +kernel
theorem dX9_changeWithout_6 : decode cX9_changeWithout 6 = .ok (.istore 4, 2) := by decide +kernel
theorem dX9_changeWithout_8 : decode cX9_changeWithout 8 = .ok (.aload_n 1, 1) := by decide +kernel
theorem dX9_changeWithout_9 : decode cX9_changeWithout 9 = .ok (.getfield 116, 3) := by decide +kernel
theorem dX9_changeWithout_12 : decode cX9_changeWithout 12 = .ok (.iload_n 2, 1) := by decide +kernel
theorem dX9_changeWithout_13 : decode cX9_changeWithout 13 = .ok (.iconst (-1), 1) := by decide +kernel
theorem dX9_changeWithout_14 : decode cX9_changeWithout 14 = .ok (.iastore, 1) := by decide +kernel
theorem dX9_changeWithout_15 : decode cX9_changeWithout 15 = .ok (.aload_n 0, 1) := by decide +kernel
theorem dX9_changeWithout_16 : decode cX9_changeWithout 16 = .ok (.getfield 44, 3) := by decide +kernel
theorem dX9_changeWithout_19 : decode cX9_changeWithout 19 = .ok (.aload_n 1, 1) := by decide +kernel
theorem dX9_changeWithout_20 : decode cX9_changeWithout 20 = .ok (.aload_n 0, 1) := by decide +kernel
theorem dX9_changeWithout_21 : decode cX9_changeWithout 21 = .ok (.getfield 17, 3) := by decide +kernel
theorem dX9_changeWithout_24 : decode cX9_changeWithout 24 = .ok (.aload_n 0, 1) := by decide +kernel
theorem dX9_changeWithout_25 : decode cX9_changeWithout 25 = .ok (.getfield 125, 3) := by decide +kernel
theorem dX9_changeWithout_28 : decode cX9_changeWithout 28 = .ok (.iconst 1, 1) := by decide +kernel
theorem dX9_changeWithout_29 : decode cX9_changeWithout 29 = .ok (.invokevirtual 168, 3) := by decide +kernel
theorem dX9_changeWithout_32 : decode cX9_changeWithout 32 = .ok (.aload_n 0, 1) := by decide +kernel
theorem dX9_changeWithout_33 : decode cX9_changeWithout 33 = .ok (.getfield 44, 3) := by decide +kernel
theorem dX9_changeWithout_36 : decode cX9_changeWithout 36 = .ok (.iload_n 3, 1) := by decide +kernel
theorem dX9_changeWithout_37 : decode cX9_changeWithout 37 = .ok (.invokevirtual 172, 3) := by decide +kernel
theorem dX9_changeWithout_40 : decode cX9_changeWithout 40 = .ok (.aload_n 1, 1) := by decide +kernel
theorem dX9_changeWithout_41 : decode cX9_changeWithout 41 = .ok (.getfield 116, 3) := by decide +kernel
theorem dX9_changeWithout_44 : decode cX9_changeWithout 44 = .ok (.iload_n 2, 1) := by decide +kernel
theorem dX9_changeWithout_45 : decode cX9_changeWithout 45 = .ok (.iload 4, 2) := by decide +kernel
theorem dX9_changeWithout_47 : decode cX9_changeWithout 47 = .ok (.iastore, 1) := by decide +kernel
theorem dX9_changeWithout_48 : decode cX9_changeWithout 48 = .ok (.iconst 0, 1) := by decide +kernel
theorem dX9_changeWithout_49 : decode cX9_changeWithout 49 = .ok (.istore 5, 2) := by decide +kernel
theorem dX9_changeWithout_51 : decode cX9_changeWithout 51 = .ok (.iconst 0, 1) := by decide +kernel
theorem dX9_changeWithout_52 : decode cX9_changeWithout 52 = .ok (.istore 6, 2) := by decide +kernel
theorem dX9_changeWithout_54 : decode cX9_changeWithout 54 = .ok (.iload 6, 2) := by decide +kernel
theorem dX9_changeWithout_56 : decode cX9_changeWithout 56 = .ok (.bipush 10, 2) := by decide +kernel
theorem dX9_changeWithout_58 : decode cX9_changeWithout 58 = .ok (.if_icmp .ge 35, 3) := by decide +kernel
theorem dX9_changeWithout_61 : decode cX9_changeWithout 61 = .ok (.iload 5, 2) := by decide +kernel
theorem dX9_changeWithout_63 : decode cX9_changeWithout 63 = .ok (.aload_n 0, 1) := by decide +kernel
theorem dX9_changeWithout_64 : decode cX9_changeWithout 64 = .ok (.getfield 44, 3) := by decide +kernel
theorem dX9_changeWithout_67 : decode cX9_changeWithout 67 = .ok (.getfield 175, 3) := by decide +kernel
theorem dX9_changeWithout_70 : decode cX9_changeWithout 70 = .ok (.iload 6, 2) := by decide +kernel
theorem dX9_changeWithout_72 : decode cX9_changeWithout 72 = .ok (.iaload, 1) := by decide +kernel
theorem dX9_changeWithout_73 : decode cX9_changeWithout 73 = .ok (.aload_n 0, 1) := by decide +kernel
theorem dX9_changeWithout_74 : decode cX9_changeWithout 74 = .ok (.getfield 61, 3) := by decide +kernel
theorem dX9_changeWithout_77 : decode cX9_changeWithout 77 = .ok (.iload 6, 2) := by decide +kernel
theorem dX9_changeWithout_79 : decode cX9_changeWithout 79 = .ok (.iaload, 1) := by decide +kernel
theorem dX9_changeWithout_80 : decode cX9_changeWithout 80 = .ok (.isub, 1) := by decide +kernel
theorem dX9_changeWithout_81 : decode cX9_changeWithout 81 = .ok (.invokestatic 322, 3) := by decide +kernel
theorem dX9_changeWithout_84 : decode cX9_changeWithout 84 = .ok (.iadd, 1) := by decide +kernel
theorem dX9_changeWithout_85 : decode cX9_changeWithout 85 = .ok (.istore 5, 2) := by decide +kernel
theorem dX9_changeWithout_87 : decode cX9_changeWithout 87 = .ok (.iinc 6 1, 3) := by decide +kernel
theorem dX9_changeWithout_90 : decode cX9_changeWithout 90 = .ok (.goto (-36), 3) := by decide +kernel
theorem dX9_changeWithout_93 : decode cX9_changeWithout 93 = .ok (.iload 5, 2) := by decide +kernel
theorem dX9_changeWithout_95 : decode cX9_changeWithout 95 = .ok (.ireturn, 1) := by decide +kernel
theorem dX9_commonDivisor_0 : decode cX9_commonDivisor 0 = .ok (.iload_n 1, 1) := by decide +kernel
theorem dX9_commonDivisor_1 : decode cX9_commonDivisor 1 = .ok (.istore_n 2, 1) := by decide +kernel
theorem dX9_commonDivisor_2 : decode cX9_commonDivisor 2 = .ok (.iload_n 0, 1) := by decide +kernel
theorem dX9_commonDivisor_3 : decode cX9_commonDivisor 3 = .ok (.istore_n 3, 1) := by decide +kernel
theorem dX9_commonDivisor_4 : decode cX9_commonDivisor 4 = .ok (.iconst 0, 1) := by decide +kernel
theorem dX9_commonDivisor_5 : decode cX9_commonDivisor 5 = .ok (.istore 4, 2) := by decide +kernel
theorem dX9_commonDivisor_7 : decode cX9_commonDivisor 7 = .ok (.iload 4, 2) := by decide +kernel
theorem dX9_commonDivisor_9 : decode cX9_commonDivisor 9 = .ok (.bipush 64, 2) := by decide +kernel
theorem dX9_commonDivisor_11 : decode cX9_commonDivisor 11 = .ok (.if_icmp .ge 23, 3) := by decide +kernel
theorem dX9_commonDivisor_14 : decode cX9_commonDivisor 14 = .ok (.iload_n 3, 1) := by decide +kernel
theorem dX9_commonDivisor_15 : decode cX9_commonDivisor 15 = .ok (.ifCond .eq 19, 3) := by decide +kernel
theorem dX9_commonDivisor_18 : decode cX9_commonDivisor 18 = .ok (.iload_n 2, 1) := by decide +kernel
theorem dX9_commonDivisor_19 : decode cX9_commonDivisor 19 = .ok (.iload_n 3, 1) := by decide +kernel
theorem dX9_commonDivisor_20 : decode cX9_commonDivisor 20 = .ok (.irem, 1) := by decide +kernel
theorem dX9_commonDivisor_21 : decode cX9_commonDivisor 21 = .ok (.istore 5, 2) := by decide +kernel
theorem dX9_commonDivisor_23 : decode cX9_commonDivisor 23 = .ok (.iload_n 3, 1) := by decide +kernel
theorem dX9_commonDivisor_24 : decode cX9_commonDivisor 24 = .ok (.istore_n 2, 1) := by decide +kernel
theorem dX9_commonDivisor_25 : decode cX9_commonDivisor 25 = .ok (.iload 5, 2) := by decide +kernel
theorem dX9_commonDivisor_27 : decode cX9_commonDivisor 27 = .ok (.istore_n 3, 1) := by decide +kernel
theorem dX9_commonDivisor_28 : decode cX9_commonDivisor 28 = .ok (.iinc 4 1, 3) := by decide +kernel
theorem dX9_commonDivisor_31 : decode cX9_commonDivisor 31 = .ok (.goto (-24), 3) := by decide +kernel
theorem dX9_commonDivisor_34 : decode cX9_commonDivisor 34 = .ok (.iconst 1, 1) := by decide +kernel
theorem dX9_commonDivisor_35 : decode cX9_commonDivisor 35 = .ok (.iload_n 2, 1) := by decide +kernel
theorem dX9_commonDivisor_36 : decode cX9_commonDivisor 36 = .ok (.invokestatic 186, 3) := by decide +kernel
theorem dX9_commonDivisor_39 : decode cX9_commonDivisor 39 = .ok (.ireturn, 1) := by decide +kernel
theorem dX9_ruled_0 : decode cX9_ruled 0 = .ok (.aload_n 0, 1) := by decide +kernel
theorem dX9_ruled_1 : decode cX9_ruled 1 = .ok (.getfield 37, 3) := by decide +kernel
theorem dX9_ruled_4 : decode cX9_ruled 4 = .ok (.aload_n 0, 1) := by decide +kernel
theorem dX9_ruled_5 : decode cX9_ruled 5 = .ok (.getfield 23, 3) := by decide +kernel
theorem dX9_ruled_8 : decode cX9_ruled 8 = .ok (.aload_n 0, 1) := by decide +kernel
theorem dX9_ruled_9 : decode cX9_ruled 9 = .ok (.getfield 195, 3) := by decide +kernel
theorem dX9_ruled_12 : decode cX9_ruled 12 = .ok (.aaload, 1) := by decide +kernel
theorem dX9_ruled_13 : decode cX9_ruled 13 = .ok (.iload_n 1, 1) := by decide +kernel
theorem dX9_ruled_14 : decode cX9_ruled 14 = .ok (.aload_n 2, 1) := by decide +kernel
theorem dX9_ruled_15 : decode cX9_ruled 15 = .ok (.iload_n 3, 1) := by decide +kernel
theorem dX9_ruled_16 : decode cX9_ruled 16 = .ok (.invokevirtual 325, 3) := by decide +kernel
theorem dX9_ruled_19 : decode cX9_ruled 19 = .ok (.ireturn, 1) := by decide +kernel
theorem dX9_bounded_0 : decode cX9_bounded 0 = .ok (.iconst 0, 1) := by decide +kernel
theorem dX9_bounded_1 : decode cX9_bounded 1 = .ok (.iload_n 0, 1) := by decide +kernel
theorem dX9_bounded_2 : decode cX9_bounded 2 = .ok (.iload_n 1, 1) := by decide +kernel
theorem dX9_bounded_3 : decode cX9_bounded 3 = .ok (.invokestatic 181, 3) := by decide +kernel
theorem dX9_bounded_6 : decode cX9_bounded 6 = .ok (.invokestatic 186, 3) := by decide +kernel
theorem dX9_bounded_9 : decode cX9_bounded 9 = .ok (.ireturn, 1) := by decide +kernel
theorem dX9_owedFor_0 : decode cX9_owedFor 0 = .ok (.iload_n 2, 1) := by decide +kernel
theorem dX9_owedFor_1 : decode cX9_owedFor 1 = .ok (.aload_n 1, 1) := by decide +kernel
theorem dX9_owedFor_2 : decode cX9_owedFor 2 = .ok (.getfield 256, 3) := by decide +kernel
theorem dX9_owedFor_5 : decode cX9_owedFor 5 = .ok (.if_icmp .ge 5, 3) := by decide +kernel
theorem dX9_owedFor_8 : decode cX9_owedFor 8 = .ok (.lconst 0, 1) := by decide +kernel
theorem dX9_owedFor_9 : decode cX9_owedFor 9 = .ok (.lreturn, 1) := by decide +kernel
theorem dX9_owedFor_10 : decode cX9_owedFor 10 = .ok (.aload_n 0, 1) := by decide +kernel
theorem dX9_owedFor_11 : decode cX9_owedFor 11 = .ok (.iconst 0, 1) := by decide +kernel
theorem dX9_owedFor_12 : decode cX9_owedFor 12 = .ok (.aload_n 1, 1) := by decide +kernel
theorem dX9_owedFor_13 : decode cX9_owedFor 13 = .ok (.iload_n 2, 1) := by decide +kernel
theorem dX9_owedFor_14 : decode cX9_owedFor 14 = .ok (.invokevirtual 329, 3) := by decide +kernel
theorem dX9_owedFor_17 : decode cX9_owedFor 17 = .ok (.sipush 9999, 3) := by decide +kernel
theorem dX9_owedFor_20 : decode cX9_owedFor 20 = .ok (.invokestatic 333, 3) := by decide +kernel
theorem dX9_owedFor_23 : decode cX9_owedFor 23 = .ok (.istore_n 3, 1) := by decide +kernel
theorem dX9_owedFor_24 : decode cX9_owedFor 24 = .ok (.aload_n 0, 1) := by decide +kernel
theorem dX9_owedFor_25 : decode cX9_owedFor 25 = .ok (.iconst 1, 1) := by decide +kernel
theorem dX9_owedFor_26 : decode cX9_owedFor 26 = .ok (.aload_n 1, 1) := by decide +kernel
theorem dX9_owedFor_27 : decode cX9_owedFor 27 = .ok (.iload_n 2, 1) := by decide +kernel
theorem dX9_owedFor_28 : decode cX9_owedFor 28 = .ok (.invokevirtual 329, 3) := by decide +kernel
theorem dX9_owedFor_31 : decode cX9_owedFor 31 = .ok (.aload_n 1, 1) := by decide +kernel
theorem dX9_owedFor_32 : decode cX9_owedFor 32 = .ok (.invokevirtual 336, 3) := by decide +kernel
theorem dX9_owedFor_35 : decode cX9_owedFor 35 = .ok (.invokestatic 333, 3) := by decide +kernel
theorem dX9_owedFor_38 : decode cX9_owedFor 38 = .ok (.istore 4, 2) := by decide +kernel
theorem dX9_owedFor_40 : decode cX9_owedFor 40 = .ok (.aload_n 1, 1) := by decide +kernel
theorem dX9_owedFor_41 : decode cX9_owedFor 41 = .ok (.invokevirtual 336, 3) := by decide +kernel
theorem dX9_owedFor_44 : decode cX9_owedFor 44 = .ok (.iload_n 3, 1) := by decide +kernel
theorem dX9_owedFor_45 : decode cX9_owedFor 45 = .ok (.iadd, 1) := by decide +kernel
theorem dX9_owedFor_46 : decode cX9_owedFor 46 = .ok (.iload 4, 2) := by decide +kernel
theorem dX9_owedFor_48 : decode cX9_owedFor 48 = .ok (.isub, 1) := by decide +kernel
theorem dX9_owedFor_49 : decode cX9_owedFor 49 = .ok (.aload_n 1, 1) := by decide +kernel
theorem dX9_owedFor_50 : decode cX9_owedFor 50 = .ok (.getfield 142, 3) := by decide +kernel
theorem dX9_owedFor_53 : decode cX9_owedFor 53 = .ok (.isub, 1) := by decide +kernel
theorem dX9_owedFor_54 : decode cX9_owedFor 54 = .ok (.i2l, 1) := by decide +kernel
theorem dX9_owedFor_55 : decode cX9_owedFor 55 = .ok (.lreturn, 1) := by decide +kernel
theorem dX9_canBeStopped_0 : decode cX9_canBeStopped 0 = .ok (.aload_n 1, 1) := by decide +kernel
theorem dX9_canBeStopped_1 : decode cX9_canBeStopped 1 = .ok (.getfield 135, 3) := by decide +kernel
theorem dX9_canBeStopped_4 : decode cX9_canBeStopped 4 = .ok (.iconst (-1), 1) := by decide +kernel
theorem dX9_canBeStopped_5 : decode cX9_canBeStopped 5 = .ok (.if_icmp .eq 15, 3) := by decide +kernel
theorem dX9_canBeStopped_8 : decode cX9_canBeStopped 8 = .ok (.aload_n 1, 1) := by decide +kernel
theorem dX9_canBeStopped_9 : decode cX9_canBeStopped 9 = .ok (.getfield 135, 3) := by decide +kernel
theorem dX9_canBeStopped_12 : decode cX9_canBeStopped 12 = .ok (.iload_n 2, 1) := by decide +kernel
theorem dX9_canBeStopped_13 : decode cX9_canBeStopped 13 = .ok (.if_icmp .gt 7, 3) := by decide +kernel
theorem dX9_canBeStopped_16 : decode cX9_canBeStopped 16 = .ok (.iconst 1, 1) := by decide +kernel
theorem dX9_canBeStopped_17 : decode cX9_canBeStopped 17 = .ok (.goto 4, 3) := by decide +kernel
theorem dX9_canBeStopped_20 : decode cX9_canBeStopped 20 = .ok (.iconst 0, 1) := by decide +kernel
theorem dX9_canBeStopped_21 : decode cX9_canBeStopped 21 = .ok (.istore_n 3, 1) := by decide +kernel
theorem dX9_canBeStopped_22 : decode cX9_canBeStopped 22 = .ok (.iload_n 3, 1) := by decide +kernel
theorem dX9_canBeStopped_23 : decode cX9_canBeStopped 23 = .ok (.ifCond .ne 25, 3) := by decide +kernel
theorem dX9_canBeStopped_26 : decode cX9_canBeStopped 26 = .ok (.aload_n 1, 1) := by decide +kernel
theorem dX9_canBeStopped_27 : decode cX9_canBeStopped 27 = .ok (.invokevirtual 227, 3) := by decide +kernel
theorem dX9_canBeStopped_30 : decode cX9_canBeStopped 30 = .ok (.iload_n 2, 1) := by decide +kernel
theorem dX9_canBeStopped_31 : decode cX9_canBeStopped 31 = .ok (.if_icmp .le 17, 3) := by decide +kernel
theorem dX9_canBeStopped_34 : decode cX9_canBeStopped 34 = .ok (.aload_n 0, 1) := by decide +kernel
theorem dX9_canBeStopped_35 : decode cX9_canBeStopped 35 = .ok (.iconst 2, 1) := by decide +kernel
theorem dX9_canBeStopped_36 : decode cX9_canBeStopped 36 = .ok (.aload_n 1, 1) := by decide +kernel
theorem dX9_canBeStopped_37 : decode cX9_canBeStopped 37 = .ok (.iload_n 2, 1) := by decide +kernel
theorem dX9_canBeStopped_38 : decode cX9_canBeStopped 38 = .ok (.invokevirtual 329, 3) := by decide +kernel
theorem dX9_canBeStopped_41 : decode cX9_canBeStopped 41 = .ok (.ifCond .eq 7, 3) := by decide +kernel
theorem dX9_canBeStopped_44 : decode cX9_canBeStopped 44 = .ok (.iconst 1, 1) := by decide +kernel
theorem dX9_canBeStopped_45 : decode cX9_canBeStopped 45 = .ok (.goto 4, 3) := by decide +kernel
theorem dX9_canBeStopped_48 : decode cX9_canBeStopped 48 = .ok (.iconst 0, 1) := by decide +kernel
theorem dX9_canBeStopped_49 : decode cX9_canBeStopped 49 = .ok (.ireturn, 1) := by decide +kernel
theorem dX9_differenceOf_0 : decode cX9_differenceOf 0 = .ok (.lconst 0, 1) := by decide +kernel
theorem dX9_differenceOf_1 : decode cX9_differenceOf 1 = .ok (.lstore_n 3, 1) := by decide +kernel
theorem dX9_differenceOf_2 : decode cX9_differenceOf 2 = .ok (.iconst 0, 1) := by decide +kernel
theorem dX9_differenceOf_3 : decode cX9_differenceOf 3 = .ok (.istore 5, 2) := by decide +kernel
theorem dX9_differenceOf_5 : decode cX9_differenceOf 5 = .ok (.iload 5, 2) := by decide +kernel
theorem dX9_differenceOf_7 : decode cX9_differenceOf 7 = .ok (.aload_n 0, 1) := by decide +kernel
theorem dX9_differenceOf_8 : decode cX9_differenceOf 8 = .ok (.getfield 125, 3) := by decide +kernel
theorem dX9_differenceOf_11 : decode cX9_differenceOf 11 = .ok (.if_icmp .ge 80, 3) := by decide +kernel
theorem dX9_differenceOf_14 : decode cX9_differenceOf 14 = .ok (.iload_n 2, 1) := by decide +kernel
theorem dX9_differenceOf_15 : decode cX9_differenceOf 15 = .ok (.iload 5, 2) := by decide +kernel
theorem dX9_differenceOf_17 : decode cX9_differenceOf 17 = .ok (.iushr, 1) := by decide +kernel
theorem dX9_differenceOf_18 : decode cX9_differenceOf 18 = .ok (.iconst 1, 1) := by decide +kernel
theorem dX9_differenceOf_19 : decode cX9_differenceOf 19 = .ok (.iand, 1) := by decide +kernel
theorem dX9_differenceOf_20 : decode cX9_differenceOf 20 = .ok (.ifCond .ne 6, 3) := by decide +kernel
theorem dX9_differenceOf_23 : decode cX9_differenceOf 23 = .ok (.goto 62, 3) := by decide +kernel
theorem dX9_differenceOf_26 : decode cX9_differenceOf 26 = .ok (.aload_n 0, 1) := by decide +kernel
theorem dX9_differenceOf_27 : decode cX9_differenceOf 27 = .ok (.getfield 17, 3) := by decide +kernel
theorem dX9_differenceOf_30 : decode cX9_differenceOf 30 = .ok (.iload 5, 2) := by decide +kernel
theorem dX9_differenceOf_32 : decode cX9_differenceOf 32 = .ok (.aaload, 1) := by decide +kernel
theorem dX9_differenceOf_33 : decode cX9_differenceOf 33 = .ok (.getfield 202, 3) := by decide +kernel
theorem dX9_differenceOf_36 : decode cX9_differenceOf 36 = .ok (.iload_n 1, 1) := by decide +kernel
theorem dX9_differenceOf_37 : decode cX9_differenceOf 37 = .ok (.if_icmp .ne 20, 3) := by decide +kernel
theorem dX9_differenceOf_40 : decode cX9_differenceOf 40 = .ok (.lload_n 3, 1) := by decide +kernel
theorem dX9_differenceOf_41 : decode cX9_differenceOf 41 = .ok (.aload_n 0, 1) := by decide +kernel
theorem dX9_differenceOf_42 : decode cX9_differenceOf 42 = .ok (.getfield 17, 3) := by decide +kernel
theorem dX9_differenceOf_45 : decode cX9_differenceOf 45 = .ok (.iload 5, 2) := by decide +kernel
theorem dX9_differenceOf_47 : decode cX9_differenceOf 47 = .ok (.aaload, 1) := by decide +kernel
theorem dX9_differenceOf_48 : decode cX9_differenceOf 48 = .ok (.invokevirtual 336, 3) := by decide +kernel
theorem dX9_differenceOf_51 : decode cX9_differenceOf 51 = .ok (.i2l, 1) := by decide +kernel
theorem dX9_differenceOf_52 : decode cX9_differenceOf 52 = .ok (.ladd, 1) := by decide +kernel
theorem dX9_differenceOf_53 : decode cX9_differenceOf 53 = .ok (.lstore_n 3, 1) := by decide +kernel
theorem dX9_differenceOf_54 : decode cX9_differenceOf 54 = .ok (.goto 31, 3) := by decide +kernel
theorem dX9_differenceOf_57 : decode cX9_differenceOf 57 = .ok (.aload_n 0, 1) := by decide +kernel
theorem dX9_differenceOf_58 : decode cX9_differenceOf 58 = .ok (.getfield 17, 3) := by decide +kernel
theorem dX9_differenceOf_61 : decode cX9_differenceOf 61 = .ok (.iload 5, 2) := by decide +kernel
theorem dX9_differenceOf_63 : decode cX9_differenceOf 63 = .ok (.aaload, 1) := by decide +kernel
theorem dX9_differenceOf_64 : decode cX9_differenceOf 64 = .ok (.getfield 205, 3) := by decide +kernel
theorem dX9_differenceOf_67 : decode cX9_differenceOf 67 = .ok (.iload_n 1, 1) := by decide +kernel
theorem dX9_differenceOf_68 : decode cX9_differenceOf 68 = .ok (.if_icmp .ne 17, 3) := by decide +kernel
theorem dX9_differenceOf_71 : decode cX9_differenceOf 71 = .ok (.lload_n 3, 1) := by decide +kernel
theorem dX9_differenceOf_72 : decode cX9_differenceOf 72 = .ok (.aload_n 0, 1) := by decide +kernel
theorem dX9_differenceOf_73 : decode cX9_differenceOf 73 = .ok (.getfield 17, 3) := by decide +kernel
theorem dX9_differenceOf_76 : decode cX9_differenceOf 76 = .ok (.iload 5, 2) := by decide +kernel
theorem dX9_differenceOf_78 : decode cX9_differenceOf 78 = .ok (.aaload, 1) := by decide +kernel
theorem dX9_differenceOf_79 : decode cX9_differenceOf 79 = .ok (.invokevirtual 336, 3) := by decide +kernel
theorem dX9_differenceOf_82 : decode cX9_differenceOf 82 = .ok (.i2l, 1) := by decide +kernel
theorem dX9_differenceOf_83 : decode cX9_differenceOf 83 = .ok (.lsub, 1) := by decide +kernel
theorem dX9_differenceOf_84 : decode cX9_differenceOf 84 = .ok (.lstore_n 3, 1) := by decide +kernel
theorem dX9_differenceOf_85 : decode cX9_differenceOf 85 = .ok (.iinc 5 1, 3) := by decide +kernel
theorem dX9_differenceOf_88 : decode cX9_differenceOf 88 = .ok (.goto (-83), 3) := by decide +kernel
theorem dX9_differenceOf_91 : decode cX9_differenceOf 91 = .ok (.lload_n 3, 1) := by decide +kernel
theorem dX9_differenceOf_92 : decode cX9_differenceOf 92 = .ok (.lreturn, 1) := by decide +kernel
theorem dX9_papersHandedOn_0 : decode cX9_papersHandedOn 0 = .ok (.iconst 0, 1) := by decide +kernel
theorem dX9_papersHandedOn_1 : decode cX9_papersHandedOn 1 = .ok (.istore_n 1, 1) := by decide +kernel
theorem dX9_papersHandedOn_2 : decode cX9_papersHandedOn 2 = .ok (.iconst 0, 1) := by decide +kernel
theorem dX9_papersHandedOn_3 : decode cX9_papersHandedOn 3 = .ok (.istore_n 2, 1) := by decide +kernel
theorem dX9_papersHandedOn_4 : decode cX9_papersHandedOn 4 = .ok (.iload_n 2, 1) := by decide +kernel
theorem dX9_papersHandedOn_5 : decode cX9_papersHandedOn 5 = .ok (.aload_n 0, 1) := by decide +kernel
theorem dX9_papersHandedOn_6 : decode cX9_papersHandedOn 6 = .ok (.getfield 125, 3) := by decide +kernel
theorem dX9_papersHandedOn_9 : decode cX9_papersHandedOn 9 = .ok (.if_icmp .ge 25, 3) := by decide +kernel
theorem dX9_papersHandedOn_12 : decode cX9_papersHandedOn 12 = .ok (.aload_n 0, 1) := by decide +kernel
theorem dX9_papersHandedOn_13 : decode cX9_papersHandedOn 13 = .ok (.getfield 17, 3) := by decide +kernel
theorem dX9_papersHandedOn_16 : decode cX9_papersHandedOn 16 = .ok (.iload_n 2, 1) := by decide +kernel
theorem dX9_papersHandedOn_17 : decode cX9_papersHandedOn 17 = .ok (.aaload, 1) := by decide +kernel
theorem dX9_papersHandedOn_18 : decode cX9_papersHandedOn 18 = .ok (.getfield 135, 3) := by decide +kernel
theorem dX9_papersHandedOn_21 : decode cX9_papersHandedOn 21 = .ok (.iconst (-1), 1) := by decide +kernel
theorem dX9_papersHandedOn_22 : decode cX9_papersHandedOn 22 = .ok (.if_icmp .eq 6, 3) := by decide +kernel
theorem dX9_papersHandedOn_25 : decode cX9_papersHandedOn 25 = .ok (.iinc 1 1, 3) := by decide +kernel
theorem dX9_papersHandedOn_28 : decode cX9_papersHandedOn 28 = .ok (.iinc 2 1, 3) := by decide +kernel
theorem dX9_papersHandedOn_31 : decode cX9_papersHandedOn 31 = .ok (.goto (-27), 3) := by decide +kernel
theorem dX9_papersHandedOn_34 : decode cX9_papersHandedOn 34 = .ok (.iload_n 1, 1) := by decide +kernel
theorem dX9_papersHandedOn_35 : decode cX9_papersHandedOn 35 = .ok (.ireturn, 1) := by decide +kernel
theorem dX9_paidInAll_0 : decode cX9_paidInAll 0 = .ok (.iconst 0, 1) := by decide +kernel
theorem dX9_paidInAll_1 : decode cX9_paidInAll 1 = .ok (.istore_n 1, 1) := by decide +kernel
theorem dX9_paidInAll_2 : decode cX9_paidInAll 2 = .ok (.iconst 0, 1) := by decide +kernel
theorem dX9_paidInAll_3 : decode cX9_paidInAll 3 = .ok (.istore_n 2, 1) := by decide +kernel
theorem dX9_paidInAll_4 : decode cX9_paidInAll 4 = .ok (.iload_n 2, 1) := by decide +kernel
theorem dX9_paidInAll_5 : decode cX9_paidInAll 5 = .ok (.aload_n 0, 1) := by decide +kernel
theorem dX9_paidInAll_6 : decode cX9_paidInAll 6 = .ok (.getfield 125, 3) := by decide +kernel
theorem dX9_paidInAll_9 : decode cX9_paidInAll 9 = .ok (.if_icmp .ge 21, 3) := by decide +kernel
theorem dX9_paidInAll_12 : decode cX9_paidInAll 12 = .ok (.iload_n 1, 1) := by decide +kernel
theorem dX9_paidInAll_13 : decode cX9_paidInAll 13 = .ok (.aload_n 0, 1) := by decide +kernel
theorem dX9_paidInAll_14 : decode cX9_paidInAll 14 = .ok (.getfield 17, 3) := by decide +kernel
theorem dX9_paidInAll_17 : decode cX9_paidInAll 17 = .ok (.iload_n 2, 1) := by decide +kernel
theorem dX9_paidInAll_18 : decode cX9_paidInAll 18 = .ok (.aaload, 1) := by decide +kernel
theorem dX9_paidInAll_19 : decode cX9_paidInAll 19 = .ok (.getfield 142, 3) := by decide +kernel
theorem dX9_paidInAll_22 : decode cX9_paidInAll 22 = .ok (.iadd, 1) := by decide +kernel
theorem dX9_paidInAll_23 : decode cX9_paidInAll 23 = .ok (.istore_n 1, 1) := by decide +kernel
theorem dX9_paidInAll_24 : decode cX9_paidInAll 24 = .ok (.iinc 2 1, 3) := by decide +kernel
theorem dX9_paidInAll_27 : decode cX9_paidInAll 27 = .ok (.goto (-23), 3) := by decide +kernel
theorem dX9_paidInAll_30 : decode cX9_paidInAll 30 = .ok (.iload_n 1, 1) := by decide +kernel
theorem dX9_paidInAll_31 : decode cX9_paidInAll 31 = .ok (.ireturn, 1) := by decide +kernel
