theorem dX2_token_16 : decode cX2_token 16 = .ok (.iaload, 1) := by decide +kernel
theorem dX2_token_17 : decode cX2_token 17 = .ok (.goto 5, 3) := by decide +kernel
theorem dX2_token_20 : decode cX2_token 20 = .ok (.bipush 21, 2) := by decide +kernel
theorem dX2_token_22 : decode cX2_token 22 = .ok (.ireturn, 1) := by decide +kernel
theorem dX2_fail_0 : decode cX2_fail 0 = .ok (.aload_n 0, 1) := by decide +kernel
theorem dX2_fail_1 : decode cX2_fail 1 = .ok (.getfield 37, 3) := by decide +kernel
theorem dX2_fail_4 : decode cX2_fail 4 = .ok (.iconst (-1), 1) := by decide +kernel
theorem dX2_fail_5 : decode cX2_fail 5 = .ok (.if_icmp .ne 16, 3) := by decide +kernel
theorem dX2_fail_8 : decode cX2_fail 8 = .ok (.aload_n 0, 1) := by decide +kernel
theorem dX2_fail_9 : decode cX2_fail 9 = .ok (.aload_n 0, 1) := by decide +kernel
theorem dX2_fail_10 : decode cX2_fail 10 = .ok (.getfield 18, 3) := by decide +kernel
theorem dX2_fail_13 : decode cX2_fail 13 = .ok (.aload_n 0, 1) := by decide +kernel
theorem dX2_fail_14 : decode cX2_fail 14 = .ok (.getfield 34, 3) := by decide +kernel
theorem dX2_fail_17 : decode cX2_fail 17 = .ok (.iaload, 1) := by decide +kernel
theorem dX2_fail_18 : decode cX2_fail 18 = .ok (.putfield 37, 3) := by decide +kernel
theorem dX2_fail_21 : decode cX2_fail 21 = .ok (.return_, 1) := by decide +kernel
theorem dX2_next_0 : decode cX2_next 0 = .ok (.aload_n 0, 1) := by decide +kernel
theorem dX2_next_1 : decode cX2_next 1 = .ok (.getfield 34, 3) := by decide +kernel
theorem dX2_next_4 : decode cX2_next 4 = .ok (.aload_n 0, 1) := by decide +kernel
theorem dX2_next_5 : decode cX2_next 5 = .ok (.getfield 71, 3) := by decide +kernel
theorem dX2_next_8 : decode cX2_next 8 = .ok (.if_icmp .ge 13, 3) := by decide +kernel
theorem dX2_next_11 : decode cX2_next 11 = .ok (.aload_n 0, 1) := by decide +kernel
theorem dX2_next_12 : decode cX2_next 12 = .ok (.dup, 1) := by decide +kernel
theorem dX2_next_13 : decode cX2_next 13 = .ok (.getfield 34, 3) := by decide +kernel
theorem dX2_next_16 : decode cX2_next 16 = .ok (.iconst 1, 1) := by decide +kernel
theorem dX2_next_17 : decode cX2_next 17 = .ok (.iadd, 1) := by decide +kernel
theorem dX2_next_18 : decode cX2_next 18 = .ok (.putfield 34, 3) := by decide +kernel
theorem dX2_next_21 : decode cX2_next 21 = .ok (.return_, 1) := by decide +kernel
theorem dX2_take_0 : decode cX2_take 0 = .ok (.aload_n 0, 1) := by decide +kernel
theorem dX2_take_1 : decode cX2_take 1 = .ok (.invokevirtual 53, 3) := by decide +kernel
theorem dX2_take_4 : decode cX2_take 4 = .ok (.iload_n 1, 1) := by decide +kernel
theorem dX2_take_5 : decode cX2_take 5 = .ok (.if_icmp .ne 10, 3) := by decide +kernel
theorem dX2_take_8 : decode cX2_take 8 = .ok (.aload_n 0, 1) := by decide +kernel
theorem dX2_take_9 : decode cX2_take 9 = .ok (.invokevirtual 118, 3) := by decide +kernel
theorem dX2_take_12 : decode cX2_take 12 = .ok (.goto 7, 3) := by decide +kernel
theorem dX2_take_15 : decode cX2_take 15 = .ok (.aload_n 0, 1) := by decide +kernel
theorem dX2_take_16 : decode cX2_take 16 = .ok (.invokevirtual 57, 3) := by decide +kernel
theorem dX2_take_19 : decode cX2_take 19 = .ok (.return_, 1) := by decide +kernel
theorem dX2_emit_0 : decode cX2_emit 0 = .ok (.aload_n 0, 1) := by decide +kernel
theorem dX2_emit_1 : decode cX2_emit 1 = .ok (.getfield 40, 3) := by decide +kernel
theorem dX2_emit_4 : decode cX2_emit 4 = .ok (.aload_n 0, 1) := by decide +kernel
theorem dX2_emit_5 : decode cX2_emit 5 = .ok (.getfield 21, 3) := by decide +kernel
theorem dX2_emit_8 : decode cX2_emit 8 = .ok (.arraylength, 1) := by decide +kernel
theorem dX2_emit_9 : decode cX2_emit 9 = .ok (.if_icmp .ge 23, 3) := by decide +kernel
theorem dX2_emit_12 : decode cX2_emit 12 = .ok (.aload_n 0, 1) := by decide +kernel
theorem dX2_emit_13 : decode cX2_emit 13 = .ok (.getfield 21, 3) := by decide +kernel
theorem dX2_emit_16 : decode cX2_emit 16 = .ok (.aload_n 0, 1) := by decide +kernel
theorem dX2_emit_17 : decode cX2_emit 17 = .ok (.getfield 40, 3) := by decide +kernel
theorem dX2_emit_20 : decode cX2_emit 20 = .ok (.iload_n 1, 1) := by decide +kernel
theorem dX2_emit_21 : decode cX2_emit 21 = .ok (.iastore, 1) := by decide +kernel
theorem dX2_emit_22 : decode cX2_emit 22 = .ok (.aload_n 0, 1) := by decide +kernel
theorem dX2_emit_23 : decode cX2_emit 23 = .ok (.dup, 1) := by decide +kernel
theorem dX2_emit_24 : decode cX2_emit 24 = .ok (.getfield 40, 3) := by decide +kernel
theorem dX2_emit_27 : decode cX2_emit 27 = .ok (.iconst 1, 1) := by decide +kernel
theorem dX2_emit_28 : decode cX2_emit 28 = .ok (.iadd, 1) := by decide +kernel
theorem dX2_emit_29 : decode cX2_emit 29 = .ok (.putfield 40, 3) := by decide +kernel
theorem dX2_emit_32 : decode cX2_emit 32 = .ok (.return_, 1) := by decide +kernel
theorem dX2_phrase_0 : decode cX2_phrase 0 = .ok (.iload_n 1, 1) := by decide +kernel
theorem dX2_phrase_1 : decode cX2_phrase 1 = .ok (.iconst 2, 1) := by decide +kernel
theorem dX2_phrase_2 : decode cX2_phrase 2 = .ok (.if_icmp .ne 9, 3) := by decide +kernel
theorem dX2_phrase_5 : decode cX2_phrase 5 = .ok (.aload_n 0, 1) := by decide +kernel
theorem dX2_phrase_6 : decode cX2_phrase 6 = .ok (.iload_n 2, 1) := by decide +kernel
theorem dX2_phrase_7 : decode cX2_phrase 7 = .ok (.invokevirtual 121, 3) := by decide +kernel
theorem dX2_phrase_10 : decode cX2_phrase 10 = .ok (.return_, 1) := by decide +kernel
theorem dX2_phrase_11 : decode cX2_phrase 11 = .ok (.iload_n 1, 1) := by decide +kernel
theorem dX2_phrase_12 : decode cX2_phrase 12 = .ok (.iconst 5, 1) := by decide +kernel
theorem dX2_phrase_13 : decode cX2_phrase 13 = .ok (.if_icmp .lt 9, 3) := by decide +kernel
theorem dX2_phrase_16 : decode cX2_phrase 16 = .ok (.aload_n 0, 1) := by decide +kernel
theorem dX2_phrase_17 : decode cX2_phrase 17 = .ok (.iload_n 2, 1) := by decide +kernel
theorem dX2_phrase_18 : decode cX2_phrase 18 = .ok (.invokevirtual 124, 3) := by decide +kernel
theorem dX2_phrase_21 : decode cX2_phrase 21 = .ok (.return_, 1) := by decide +kernel
theorem dX2_phrase_22 : decode cX2_phrase 22 = .ok (.aload_n 0, 1) := by decide +kernel
theorem dX2_phrase_23 : decode cX2_phrase 23 = .ok (.iload_n 1, 1) := by decide +kernel
theorem dX2_phrase_24 : decode cX2_phrase 24 = .ok (.iconst 1, 1) := by decide +kernel
theorem dX2_phrase_25 : decode cX2_phrase 25 = .ok (.iadd, 1) := by decide +kernel
theorem dX2_phrase_26 : decode cX2_phrase 26 = .ok (.iload_n 2, 1) := by decide +kernel
theorem dX2_phrase_27 : decode cX2_phrase 27 = .ok (.invokevirtual 49, 3) := by decide +kernel
theorem dX2_phrase_30 : decode cX2_phrase 30 = .ok (.iconst 0, 1) := by decide +kernel
theorem dX2_phrase_31 : decode cX2_phrase 31 = .ok (.istore_n 3, 1) := by decide +kernel
theorem dX2_phrase_32 : decode cX2_phrase 32 = .ok (.iload_n 3, 1) := by decide +kernel
theorem dX2_phrase_33 : decode cX2_phrase 33 = .ok (.sipush 160, 3) := by decide +kernel
theorem dX2_phrase_36 : decode cX2_phrase 36 = .ok (.if_icmp .ge 44, 3) := by decide +kernel
theorem dX2_phrase_39 : decode cX2_phrase 39 = .ok (.aload_n 0, 1) := by decide +kernel
theorem dX2_phrase_40 : decode cX2_phrase 40 = .ok (.invokevirtual 53, 3) := by decide +kernel
theorem dX2_phrase_43 : decode cX2_phrase 43 = .ok (.iload_n 1, 1) := by decide +kernel
theorem dX2_phrase_44 : decode cX2_phrase 44 = .ok (.invokestatic 127, 3) := by decide +kernel
theorem dX2_phrase_47 : decode cX2_phrase 47 = .ok (.ifCond .eq 33, 3) := by decide +kernel
theorem dX2_phrase_50 : decode cX2_phrase 50 = .ok (.aload_n 0, 1) := by decide +kernel
theorem dX2_phrase_51 : decode cX2_phrase 51 = .ok (.invokevirtual 53, 3) := by decide +kernel
theorem dX2_phrase_54 : decode cX2_phrase 54 = .ok (.istore 4, 2) := by decide +kernel
theorem dX2_phrase_56 : decode cX2_phrase 56 = .ok (.aload_n 0, 1) := by decide +kernel
theorem dX2_phrase_57 : decode cX2_phrase 57 = .ok (.invokevirtual 118, 3) := by decide +kernel
theorem dX2_phrase_60 : decode cX2_phrase 60 = .ok (.aload_n 0, 1) := by decide +kernel
theorem dX2_phrase_61 : decode cX2_phrase 61 = .ok (.iload_n 1, 1) := by decide +kernel
theorem dX2_phrase_62 : decode cX2_phrase 62 = .ok (.iconst 1, 1) := by decide +kernel
theorem dX2_phrase_63 : decode cX2_phrase 63 = .ok (.iadd, 1) := by decide +kernel
theorem dX2_phrase_64 : decode cX2_phrase 64 = .ok (.iload_n 2, 1) := by decide +kernel
theorem dX2_phrase_65 : decode cX2_phrase 65 = .ok (.invokevirtual 49, 3) := by decide +kernel
theorem dX2_phrase_68 : decode cX2_phrase 68 = .ok (.aload_n 0, 1) := by decide +kernel
theorem dX2_phrase_69 : decode cX2_phrase 69 = .ok (.iload 4, 2) := by decide +kernel
theorem dX2_phrase_71 : decode cX2_phrase 71 = .ok (.invokevirtual 131, 3) := by decide +kernel
theorem dX2_phrase_74 : decode cX2_phrase 74 = .ok (.iinc 3 1, 3) := by decide +kernel
theorem dX2_phrase_77 : decode cX2_phrase 77 = .ok (.goto (-45), 3) := by decide +kernel
theorem dX2_phrase_80 : decode cX2_phrase 80 = .ok (.return_, 1) := by decide +kernel
theorem dX2_joins_0 : decode cX2_joins 0 = .ok (.iload_n 1, 1) := by decide +kernel
theorem dX2_joins_1 : decode cX2_joins 1 = .ok (.tableswitch 89 0 4 #[35, 47, 89, 59, 77], 35) := by decide +kernel
theorem dX2_joins_36 : decode cX2_joins 36 = .ok (.iload_n 0, 1) := by decide +kernel
theorem dX2_joins_37 : decode cX2_joins 37 = .ok (.bipush 6, 2) := by decide +kernel
theorem dX2_joins_39 : decode cX2_joins 39 = .ok (.if_icmp .ne 7, 3) := by decide +kernel
theorem dX2_joins_42 : decode cX2_joins 42 = .ok (.iconst 1, 1) := by decide +kernel
theorem dX2_joins_43 : decode cX2_joins 43 = .ok (.goto 4, 3) := by decide +kernel
theorem dX2_joins_46 : decode cX2_joins 46 = .ok (.iconst 0, 1) := by decide +kernel
theorem dX2_joins_47 : decode cX2_joins 47 = .ok (.ireturn, 1) := by decide +kernel
theorem dX2_joins_48 : decode cX2_joins 48 = .ok (.iload_n 0, 1) := by decide +kernel
theorem dX2_joins_49 : decode cX2_joins 49 = .ok (.bipush 7, 2) := by decide +kernel
theorem dX2_joins_51 : decode cX2_joins 51 = .ok (.if_icmp .ne 7, 3) := by decide +kernel
theorem dX2_joins_54 : decode cX2_joins 54 = .ok (.iconst 1, 1) := by decide +kernel
theorem dX2_joins_55 : decode cX2_joins 55 = .ok (.goto 4, 3) := by decide +kernel
theorem dX2_joins_58 : decode cX2_joins 58 = .ok (.iconst 0, 1) := by decide +kernel
theorem dX2_joins_59 : decode cX2_joins 59 = .ok (.ireturn, 1) := by decide +kernel
theorem dX2_joins_60 : decode cX2_joins 60 = .ok (.iload_n 0, 1) := by decide +kernel
theorem dX2_joins_61 : decode cX2_joins 61 = .ok (.bipush 43, 2) := by decide +kernel
theorem dX2_joins_63 : decode cX2_joins 63 = .ok (.if_icmp .eq 9, 3) := by decide +kernel
theorem dX2_joins_66 : decode cX2_joins 66 = .ok (.iload_n 0, 1) := by decide +kernel
theorem dX2_joins_67 : decode cX2_joins 67 = .ok (.bipush 45, 2) := by decide +kernel
theorem dX2_joins_69 : decode cX2_joins 69 = .ok (.if_icmp .ne 7, 3) := by decide +kernel
theorem dX2_joins_72 : decode cX2_joins 72 = .ok (.iconst 1, 1) := by decide +kernel
theorem dX2_joins_73 : decode cX2_joins 73 = .ok (.goto 4, 3) := by decide +kernel
theorem dX2_joins_76 : decode cX2_joins 76 = .ok (.iconst 0, 1) := by decide +kernel
theorem dX2_joins_77 : decode cX2_joins 77 = .ok (.ireturn, 1) := by decide +kernel
theorem dX2_joins_78 : decode cX2_joins 78 = .ok (.iload_n 0, 1) := by decide +kernel
theorem dX2_joins_79 : decode cX2_joins 79 = .ok (.bipush 42, 2) := by decide +kernel
theorem dX2_joins_81 : decode cX2_joins 81 = .ok (.if_icmp .ne 7, 3) := by decide +kernel
theorem dX2_joins_84 : decode cX2_joins 84 = .ok (.iconst 1, 1) := by decide +kernel
theorem dX2_joins_85 : decode cX2_joins 85 = .ok (.goto 4, 3) := by decide +kernel
theorem dX2_joins_88 : decode cX2_joins 88 = .ok (.iconst 0, 1) := by decide +kernel
theorem dX2_joins_89 : decode cX2_joins 89 = .ok (.ireturn, 1) := by decide +kernel
theorem dX2_joins_90 : decode cX2_joins 90 = .ok (.iconst 0, 1) := by decide +kernel
theorem dX2_joins_91 : decode cX2_joins 91 = .ok (.ireturn, 1) := by decide +kernel
theorem dX2_denial_0 : decode cX2_denial 0 = .ok (.aload_n 0, 1) := by decide +kernel
theorem dX2_denial_1 : decode cX2_denial 1 = .ok (.invokevirtual 53, 3) := by decide +kernel
theorem dX2_denial_4 : decode cX2_denial 4 = .ok (.bipush 8, 2) := by decide +kernel
theorem dX2_denial_6 : decode cX2_denial 6 = .ok (.if_icmp .ne 25, 3) := by decide +kernel
theorem dX2_denial_9 : decode cX2_denial 9 = .ok (.aload_n 0, 1) := by decide +kernel
theorem dX2_denial_10 : decode cX2_denial 10 = .ok (.iload_n 1, 1) := by decide +kernel
theorem dX2_denial_11 : decode cX2_denial 11 = .ok (.invokevirtual 134, 3) := by decide +kernel
theorem dX2_denial_14 : decode cX2_denial 14 = .ok (.ifCond .eq 16, 3) := by decide +kernel
theorem dX2_denial_17 : decode cX2_denial 17 = .ok (.aload_n 0, 1) := by decide +kernel
theorem dX2_denial_18 : decode cX2_denial 18 = .ok (.iload_n 1, 1) := by decide +kernel
theorem dX2_denial_19 : decode cX2_denial 19 = .ok (.iconst 1, 1) := by decide +kernel
theorem dX2_denial_20 : decode cX2_denial 20 = .ok (.iadd, 1) := by decide +kernel
theorem dX2_denial_21 : decode cX2_denial 21 = .ok (.invokevirtual 121, 3) := by decide +kernel
theorem dX2_denial_24 : decode cX2_denial 24 = .ok (.aload_n 0, 1) := by decide +kernel
theorem dX2_denial_25 : decode cX2_denial 25 = .ok (.bipush 8, 2) := by decide +kernel
theorem dX2_denial_27 : decode cX2_denial 27 = .ok (.invokevirtual 131, 3) := by decide +kernel
theorem dX2_denial_30 : decode cX2_denial 30 = .ok (.return_, 1) := by decide +kernel
theorem dX2_denial_31 : decode cX2_denial 31 = .ok (.aload_n 0, 1) := by decide +kernel
theorem dX2_denial_32 : decode cX2_denial 32 = .ok (.iconst 3, 1) := by decide +kernel
theorem dX2_denial_33 : decode cX2_denial 33 = .ok (.iload_n 1, 1) := by decide +kernel
theorem dX2_denial_34 : decode cX2_denial 34 = .ok (.invokevirtual 49, 3) := by decide +kernel
theorem dX2_denial_37 : decode cX2_denial 37 = .ok (.aload_n 0, 1) := by decide +kernel
theorem dX2_denial_38 : decode cX2_denial 38 = .ok (.invokevirtual 53, 3) := by decide +kernel
theorem dX2_denial_41 : decode cX2_denial 41 = .ok (.istore_n 2, 1) := by decide +kernel
theorem dX2_denial_42 : decode cX2_denial 42 = .ok (.iload_n 2, 1) := by decide +kernel
theorem dX2_denial_43 : decode cX2_denial 43 = .ok (.bipush 60, 2) := by decide +kernel
theorem dX2_denial_45 : decode cX2_denial 45 = .ok (.if_icmp .eq 9, 3) := by decide +kernel
theorem dX2_denial_48 : decode cX2_denial 48 = .ok (.iload_n 2, 1) := by decide +kernel
theorem dX2_denial_49 : decode cX2_denial 49 = .ok (.bipush 61, 2) := by decide +kernel
theorem dX2_denial_51 : decode cX2_denial 51 = .ok (.if_icmp .ne 18, 3) := by decide +kernel
theorem dX2_denial_54 : decode cX2_denial 54 = .ok (.aload_n 0, 1) := by decide +kernel
theorem dX2_denial_55 : decode cX2_denial 55 = .ok (.invokevirtual 118, 3) := by decide +kernel
theorem dX2_denial_58 : decode cX2_denial 58 = .ok (.aload_n 0, 1) := by decide +kernel
theorem dX2_denial_59 : decode cX2_denial 59 = .ok (.iconst 3, 1) := by decide +kernel
theorem dX2_denial_60 : decode cX2_denial 60 = .ok (.iload_n 1, 1) := by decide +kernel
theorem dX2_denial_61 : decode cX2_denial 61 = .ok (.invokevirtual 49, 3) := by decide +kernel
theorem dX2_denial_64 : decode cX2_denial 64 = .ok (.aload_n 0, 1) := by decide +kernel
theorem dX2_denial_65 : decode cX2_denial 65 = .ok (.iload_n 2, 1) := by decide +kernel
theorem dX2_denial_66 : decode cX2_denial 66 = .ok (.invokevirtual 131, 3) := by decide +kernel
theorem dX2_denial_69 : decode cX2_denial 69 = .ok (.return_, 1) := by decide +kernel
theorem dX2_one_0 : decode cX2_one 0 = .ok (.aload_n 0, 1) := by decide +kernel
theorem dX2_one_1 : decode cX2_one 1 = .ok (.invokevirtual 53, 3) := by decide +kernel
theorem dX2_one_4 : decode cX2_one 4 = .ok (.istore_n 2, 1) := by decide +kernel
theorem dX2_one_5 : decode cX2_one 5 = .ok (.iload_n 2, 1) := by decide +kernel
theorem dX2_one_6 : decode cX2_one 6 = .ok (.bipush 6, 2) := by decide +kernel
theorem dX2_one_8 : decode cX2_one 8 = .ok (.if_icmp .lt 9, 3) := by decide +kernel
theorem dX2_one_11 : decode cX2_one 11 = .ok (.iload_n 2, 1) := by decide +kernel
theorem dX2_one_12 : decode cX2_one 12 = .ok (.bipush 100, 2) := by decide +kernel
theorem dX2_one_14 : decode cX2_one 14 = .ok (.if_icmp .lt 15, 3) := by decide +kernel
theorem dX2_one_17 : decode cX2_one 17 = .ok (.aload_n 0, 1) := by decide +kernel
theorem dX2_one_18 : decode cX2_one 18 = .ok (.invokevirtual 118, 3) := by decide +kernel
theorem dX2_one_21 : decode cX2_one 21 = .ok (.aload_n 0, 1) := by decide +kernel
theorem dX2_one_22 : decode cX2_one 22 = .ok (.iload_n 2, 1) := by decide +kernel
theorem dX2_one_23 : decode cX2_one 23 = .ok (.invokevirtual 131, 3) := by decide +kernel
theorem dX2_one_26 : decode cX2_one 26 = .ok (.goto 68, 3) := by decide +kernel
theorem dX2_one_29 : decode cX2_one 29 = .ok (.iload_n 2, 1) := by decide +kernel
theorem dX2_one_30 : decode cX2_one 30 = .ok (.bipush 45, 2) := by decide +kernel
theorem dX2_one_32 : decode cX2_one 32 = .ok (.if_icmp .ne 27, 3) := by decide +kernel
theorem dX2_one_35 : decode cX2_one 35 = .ok (.aload_n 0, 1) := by decide +kernel
theorem dX2_one_36 : decode cX2_one 36 = .ok (.iload_n 1, 1) := by decide +kernel
theorem dX2_one_37 : decode cX2_one 37 = .ok (.invokevirtual 134, 3) := by decide +kernel
theorem dX2_one_40 : decode cX2_one 40 = .ok (.ifCond .eq 19, 3) := by decide +kernel
theorem dX2_one_43 : decode cX2_one 43 = .ok (.aload_n 0, 1) := by decide +kernel
theorem dX2_one_44 : decode cX2_one 44 = .ok (.iload_n 1, 1) := by decide +kernel
theorem dX2_one_45 : decode cX2_one 45 = .ok (.iconst 1, 1) := by decide +kernel
theorem dX2_one_46 : decode cX2_one 46 = .ok (.iadd, 1) := by decide +kernel
theorem dX2_one_47 : decode cX2_one 47 = .ok (.invokevirtual 124, 3) := by decide +kernel
theorem dX2_one_50 : decode cX2_one 50 = .ok (.aload_n 0, 1) := by decide +kernel
theorem dX2_one_51 : decode cX2_one 51 = .ok (.bipush 22, 2) := by decide +kernel
theorem dX2_one_53 : decode cX2_one 53 = .ok (.invokevirtual 131, 3) := by decide +kernel
theorem dX2_one_56 : decode cX2_one 56 = .ok (.goto 38, 3) := by decide +kernel
theorem dX2_one_59 : decode cX2_one 59 = .ok (.iload_n 2, 1) := by decide +kernel
theorem dX2_one_60 : decode cX2_one 60 = .ok (.bipush 40, 2) := by decide +kernel
theorem dX2_one_62 : decode cX2_one 62 = .ok (.if_icmp .ne 28, 3) := by decide +kernel
theorem dX2_one_65 : decode cX2_one 65 = .ok (.aload_n 0, 1) := by decide +kernel
theorem dX2_one_66 : decode cX2_one 66 = .ok (.iload_n 1, 1) := by decide +kernel
theorem dX2_one_67 : decode cX2_one 67 = .ok (.invokevirtual 134, 3) := by decide +kernel
theorem dX2_one_70 : decode cX2_one 70 = .ok (.ifCond .eq 20, 3) := by decide +kernel
theorem dX2_one_73 : decode cX2_one 73 = .ok (.aload_n 0, 1) := by decide +kernel
theorem dX2_one_74 : decode cX2_one 74 = .ok (.iconst 0, 1) := by decide +kernel
theorem dX2_one_75 : decode cX2_one 75 = .ok (.iload_n 1, 1) := by decide +kernel
theorem dX2_one_76 : decode cX2_one 76 = .ok (.iconst 1, 1) := by decide +kernel
theorem dX2_one_77 : decode cX2_one 77 = .ok (.iadd, 1) := by decide +kernel
theorem dX2_one_78 : decode cX2_one 78 = .ok (.invokevirtual 49, 3) := by decide +kernel
theorem dX2_one_81 : decode cX2_one 81 = .ok (.aload_n 0, 1) := by decide +kernel
theorem dX2_one_82 : decode cX2_one 82 = .ok (.bipush 41, 2) := by decide +kernel
theorem dX2_one_84 : decode cX2_one 84 = .ok (.invokevirtual 45, 3) := by decide +kernel
theorem dX2_one_87 : decode cX2_one 87 = .ok (.goto 7, 3) := by decide +kernel
theorem dX2_one_90 : decode cX2_one 90 = .ok (.aload_n 0, 1) := by decide +kernel
theorem dX2_one_91 : decode cX2_one 91 = .ok (.invokevirtual 57, 3) := by decide +kernel
theorem dX2_one_94 : decode cX2_one 94 = .ok (.return_, 1) := by decide +kernel
theorem dX2_opens_0 : decode cX2_opens 0 = .ok (.iload_n 1, 1) := by decide +kernel
theorem dX2_opens_1 : decode cX2_opens 1 = .ok (.iconst 5, 1) := by decide +kernel
theorem dX2_opens_2 : decode cX2_opens 2 = .ok (.if_icmp .lt 9, 3) := by decide +kernel
theorem dX2_opens_5 : decode cX2_opens 5 = .ok (.aload_n 0, 1) := by decide +kernel
theorem dX2_opens_6 : decode cX2_opens 6 = .ok (.invokevirtual 57, 3) := by decide +kernel
theorem dX2_opens_9 : decode cX2_opens 9 = .ok (.iconst 0, 1) := by decide +kernel
theorem dX2_opens_10 : decode cX2_opens 10 = .ok (.ireturn, 1) := by decide +kernel
theorem dX2_opens_11 : decode cX2_opens 11 = .ok (.aload_n 0, 1) := by decide +kernel
theorem dX2_opens_12 : decode cX2_opens 12 = .ok (.invokevirtual 118, 3) := by decide +kernel
theorem dX2_opens_15 : decode cX2_opens 15 = .ok (.iconst 1, 1) := by decide +kernel
theorem dX2_opens_16 : decode cX2_opens 16 = .ok (.ireturn, 1) := by decide +kernel
theorem dX3_init_0 : decode cX3_init 0 = .ok (.aload_n 0, 1) := by decide +kernel
theorem dX3_init_1 : decode cX3_init 1 = .ok (.invokespecial 1, 3) := by decide +kernel
theorem dX3_init_4 : decode cX3_init 4 = .ok (.aload_n 0, 1) := by decide +kernel
theorem dX3_init_5 : decode cX3_init 5 = .ok (.sipush 160, 3) := by decide +kernel
theorem dX3_init_8 : decode cX3_init 8 = .ok (.newarray .int, 2) := by decide +kernel
theorem dX3_init_10 : decode cX3_init 10 = .ok (.putfield 9, 3) := by decide +kernel
theorem dX3_init_13 : decode cX3_init 13 = .ok (.return_, 1) := by decide +kernel
theorem dX3_value_0 : decode cX3_value 0 = .ok (.aload_n 0, 1) := by decide +kernel
theorem dX3_value_1 : decode cX3_value 1 = .ok (.iconst 0, 1) := by decide +kernel
theorem dX3_value_2 : decode cX3_value 2 = .ok (.putfield 13, 3) := by decide +kernel
theorem dX3_value_5 : decode cX3_value 5 = .ok (.aload_n 1, 1) := by decide +kernel
theorem dX3_value_6 : decode cX3_value 6 = .ok (.iload_n 2, 1) := by decide +kernel
theorem dX3_value_7 : decode cX3_value 7 = .ok (.invokevirtual 17, 3) := by decide +kernel
theorem dX3_value_10 : decode cX3_value 10 = .ok (.istore 5, 2) := by decide +kernel
theorem dX3_value_12 : decode cX3_value 12 = .ok (.aload_n 1, 1) := by decide +kernel
theorem dX3_value_13 : decode cX3_value 13 = .ok (.iload_n 2, 1) := by decide +kernel
theorem dX3_value_14 : decode cX3_value 14 = .ok (.invokevirtual 23, 3) := by decide +kernel
theorem dX3_value_17 : decode cX3_value 17 = .ok (.istore 6, 2) := by decide +kernel
theorem dX3_value_19 : decode cX3_value 19 = .ok (.iload 6, 2) := by decide +kernel
theorem dX3_value_21 : decode cX3_value 21 = .ok (.iload 5, 2) := by decide +kernel
theorem dX3_value_23 : decode cX3_value 23 = .ok (.if_icmp .ge 22, 3) := by decide +kernel
theorem dX3_value_26 : decode cX3_value 26 = .ok (.aload_n 0, 1) := by decide +kernel
theorem dX3_value_27 : decode cX3_value 27 = .ok (.aload_n 1, 1) := by decide +kernel
theorem dX3_value_28 : decode cX3_value 28 = .ok (.iload 6, 2) := by decide +kernel
theorem dX3_value_30 : decode cX3_value 30 = .ok (.invokevirtual 26, 3) := by decide +kernel
theorem dX3_value_33 : decode cX3_value 33 = .ok (.aload_n 3, 1) := by decide +kernel
theorem dX3_value_34 : decode cX3_value 34 = .ok (.iload 4, 2) := by decide +kernel
theorem dX3_value_36 : decode cX3_value 36 = .ok (.invokevirtual 29, 3) := by decide +kernel
theorem dX3_value_39 : decode cX3_value 39 = .ok (.iinc 6 1, 3) := by decide +kernel
theorem dX3_value_42 : decode cX3_value 42 = .ok (.goto (-23), 3) := by decide +kernel
theorem dX3_value_45 : decode cX3_value 45 = .ok (.aload_n 0, 1) := by decide +kernel
theorem dX3_value_46 : decode cX3_value 46 = .ok (.invokevirtual 33, 3) := by decide +kernel
theorem dX3_value_49 : decode cX3_value 49 = .ok (.ireturn, 1) := by decide +kernel
theorem dX3_step_0 : decode cX3_step 0 = .ok (.iload_n 1, 1) := by decide +kernel
theorem dX3_step_1 : decode cX3_step 1 = .ok (.bipush 100, 2) := by decide +kernel
theorem dX3_step_3 : decode cX3_step 3 = .ok (.if_icmp .lt 14, 3) := by decide +kernel
theorem dX3_step_6 : decode cX3_step 6 = .ok (.aload_n 0, 1) := by decide +kernel
theorem dX3_step_7 : decode cX3_step 7 = .ok (.iload_n 1, 1) := by decide +kernel
theorem dX3_step_8 : decode cX3_step 8 = .ok (.bipush 100, 2) := by decide +kernel
theorem dX3_step_10 : decode cX3_step 10 = .ok (.isub, 1) := by decide +kernel
theorem dX3_step_11 : decode cX3_step 11 = .ok (.invokevirtual 39, 3) := by decide +kernel
theorem dX3_step_14 : decode cX3_step 14 = .ok (.goto 92, 3) := by decide +kernel
theorem dX3_step_17 : decode cX3_step 17 = .ok (.iload_n 1, 1) := by decide +kernel
theorem dX3_step_18 : decode cX3_step 18 = .ok (.bipush 6, 2) := by decide +kernel
theorem dX3_step_20 : decode cX3_step 20 = .ok (.if_icmp .ge 16, 3) := by decide +kernel
theorem dX3_step_23 : decode cX3_step 23 = .ok (.aload_n 0, 1) := by decide +kernel
theorem dX3_step_24 : decode cX3_step 24 = .ok (.iload_n 1, 1) := by decide +kernel
theorem dX3_step_25 : decode cX3_step 25 = .ok (.aload_n 2, 1) := by decide +kernel
theorem dX3_step_26 : decode cX3_step 26 = .ok (.iload_n 3, 1) := by decide +kernel
theorem dX3_step_27 : decode cX3_step 27 = .ok (.invokestatic 43, 3) := by decide +kernel
theorem dX3_step_30 : decode cX3_step 30 = .ok (.invokevirtual 39, 3) := by decide +kernel
theorem dX3_step_33 : decode cX3_step 33 = .ok (.goto 73, 3) := by decide +kernel
theorem dX3_step_36 : decode cX3_step 36 = .ok (.iload_n 1, 1) := by decide +kernel
theorem dX3_step_37 : decode cX3_step 37 = .ok (.bipush 8, 2) := by decide +kernel
theorem dX3_step_39 : decode cX3_step 39 = .ok (.if_icmp .ne 25, 3) := by decide +kernel
theorem dX3_step_42 : decode cX3_step 42 = .ok (.aload_n 0, 1) := by decide +kernel
theorem dX3_step_43 : decode cX3_step 43 = .ok (.aload_n 0, 1) := by decide +kernel
theorem dX3_step_44 : decode cX3_step 44 = .ok (.invokevirtual 33, 3) := by decide +kernel
theorem dX3_step_47 : decode cX3_step 47 = .ok (.ifCond .ne 7, 3) := by decide +kernel
theorem dX3_step_50 : decode cX3_step 50 = .ok (.iconst 1, 1) := by decide +kernel
theorem dX3_step_51 : decode cX3_step 51 = .ok (.goto 4, 3) := by decide +kernel
theorem dX3_step_54 : decode cX3_step 54 = .ok (.iconst 0, 1) := by decide +kernel
theorem dX3_step_55 : decode cX3_step 55 = .ok (.invokestatic 47, 3) := by decide +kernel
theorem dX3_step_58 : decode cX3_step 58 = .ok (.invokevirtual 39, 3) := by decide +kernel
theorem dX3_step_61 : decode cX3_step 61 = .ok (.goto 45, 3) := by decide +kernel
theorem dX3_step_64 : decode cX3_step 64 = .ok (.iload_n 1, 1) := by decide +kernel
theorem dX3_step_65 : decode cX3_step 65 = .ok (.bipush 22, 2) := by decide +kernel
theorem dX3_step_67 : decode cX3_step 67 = .ok (.if_icmp .ne 15, 3) := by decide +kernel
theorem dX3_step_70 : decode cX3_step 70 = .ok (.aload_n 0, 1) := by decide +kernel
theorem dX3_step_71 : decode cX3_step 71 = .ok (.aload_n 0, 1) := by decide +kernel
theorem dX3_step_72 : decode cX3_step 72 = .ok (.invokevirtual 33, 3) := by decide +kernel
theorem dX3_step_75 : decode cX3_step 75 = .ok (.ineg, 1) := by decide +kernel
theorem dX3_step_76 : decode cX3_step 76 = .ok (.invokevirtual 39, 3) := by decide +kernel
theorem dX3_step_79 : decode cX3_step 79 = .ok (.goto 27, 3) := by decide +kernel
theorem dX3_step_82 : decode cX3_step 82 = .ok (.aload_n 0, 1) := by decide +kernel
theorem dX3_step_83 : decode cX3_step 83 = .ok (.invokevirtual 33, 3) := by decide +kernel
theorem dX3_step_86 : decode cX3_step 86 = .ok (.istore 4, 2) := by decide +kernel
theorem dX3_step_88 : decode cX3_step 88 = .ok (.aload_n 0, 1) := by decide +kernel
theorem dX3_step_89 : decode cX3_step 89 = .ok (.invokevirtual 33, 3) := by decide +kernel
theorem dX3_step_92 : decode cX3_step 92 = .ok (.istore 5, 2) := by decide +kernel
theorem dX3_step_94 : decode cX3_step 94 = .ok (.aload_n 0, 1) := by decide +kernel
theorem dX3_step_95 : decode cX3_step 95 = .ok (.iload_n 1, 1) := by decide +kernel
theorem dX3_step_96 : decode cX3_step 96 = .ok (.iload 5, 2) := by decide +kernel
theorem dX3_step_98 : decode cX3_step 98 = .ok (.iload 4, 2) := by decide +kernel
theorem dX3_step_100 : decode cX3_step 100 = .ok (.invokestatic 51, 3) := by decide +kernel
theorem dX3_step_103 : decode cX3_step 103 = .ok (.invokevirtual 39, 3) := by decide +kernel
theorem dX3_step_106 : decode cX3_step 106 = .ok (.return_, 1) := by decide +kernel
theorem dX3_push_0 : decode cX3_push 0 = .ok (.aload_n 0, 1) := by decide +kernel
theorem dX3_push_1 : decode cX3_push 1 = .ok (.getfield 13, 3) := by decide +kernel
theorem dX3_push_4 : decode cX3_push 4 = .ok (.sipush 160, 3) := by decide +kernel
theorem dX3_push_7 : decode cX3_push 7 = .ok (.if_icmp .ge 23, 3) := by decide +kernel
theorem dX3_push_10 : decode cX3_push 10 = .ok (.aload_n 0, 1) := by decide +kernel
theorem dX3_push_11 : decode cX3_push 11 = .ok (.getfield 9, 3) := by decide +kernel
theorem dX3_push_14 : decode cX3_push 14 = .ok (.aload_n 0, 1) := by decide +kernel
theorem dX3_push_15 : decode cX3_push 15 = .ok (.getfield 13, 3) := by decide +kernel
theorem dX3_push_18 : decode cX3_push 18 = .ok (.iload_n 1, 1) := by decide +kernel
theorem dX3_push_19 : decode cX3_push 19 = .ok (.iastore, 1) := by decide +kernel
theorem dX3_push_20 : decode cX3_push 20 = .ok (.aload_n 0, 1) := by decide +kernel
theorem dX3_push_21 : decode cX3_push 21 = .ok (.dup, 1) := by decide +kernel
theorem dX3_push_22 : decode cX3_push 22 = .ok (.getfield 13, 3) := by decide +kernel
theorem dX3_push_25 : decode cX3_push 25 = .ok (.iconst 1, 1) := by decide +kernel
theorem dX3_push_26 : decode cX3_push 26 = .ok (.iadd, 1) := by decide +kernel
theorem dX3_push_27 : decode cX3_push 27 = .ok (.putfield 13, 3) := by decide +kernel
theorem dX3_push_30 : decode cX3_push 30 = .ok (.return_, 1) := by decide +kernel
theorem dX3_pop_0 : decode cX3_pop 0 = .ok (.aload_n 0, 1) := by decide +kernel
theorem dX3_pop_1 : decode cX3_pop 1 = .ok (.getfield 13, 3) := by decide +kernel
theorem dX3_pop_4 : decode cX3_pop 4 = .ok (.ifCond .gt 5, 3) := by decide +kernel
theorem dX3_pop_7 : decode cX3_pop 7 = .ok (.iconst 0, 1) := by decide +kernel
theorem dX3_pop_8 : decode cX3_pop 8 = .ok (.ireturn, 1) := by decide +kernel
theorem dX3_pop_9 : decode cX3_pop 9 = .ok (.aload_n 0, 1) := by decide +kernel
theorem dX3_pop_10 : decode cX3_pop 10 = .ok (.dup, 1) := by decide +kernel
theorem dX3_pop_11 : decode cX3_pop 11 = .ok (.getfield 13, 3) := by decide +kernel
theorem dX3_pop_14 : decode cX3_pop 14 = .ok (.iconst 1, 1) := by decide +kernel
theorem dX3_pop_15 : decode cX3_pop 15 = .ok (.isub, 1) := by decide +kernel
theorem dX3_pop_16 : decode cX3_pop 16 = .ok (.putfield 13, 3) := by decide +kernel
theorem dX3_pop_19 : decode cX3_pop 19 = .ok (.aload_n 0, 1) := by decide +kernel
theorem dX3_pop_20 : decode cX3_pop 20 = .ok (.getfield 9, 3) := by decide +kernel
theorem dX3_pop_23 : decode cX3_pop 23 = .ok (.aload_n 0, 1) := by decide +kernel
theorem dX3_pop_24 : decode cX3_pop 24 = .ok (.getfield 13, 3) := by decide +kernel
theorem dX3_pop_27 : decode cX3_pop 27 = .ok (.iaload, 1) := by decide +kernel
theorem dX3_pop_28 : decode cX3_pop 28 = .ok (.ireturn, 1) := by decide +kernel
theorem dX3_truth_0 : decode cX3_truth 0 = .ok (.iload_n 0, 1) := by decide +kernel
theorem dX3_truth_1 : decode cX3_truth 1 = .ok (.ifCond .eq 7, 3) := by decide +kernel
theorem dX3_truth_4 : decode cX3_truth 4 = .ok (.iconst 1, 1) := by decide +kernel
theorem dX3_truth_5 : decode cX3_truth 5 = .ok (.goto 4, 3) := by decide +kernel
theorem dX3_truth_8 : decode cX3_truth 8 = .ok (.iconst 0, 1) := by decide +kernel
theorem dX3_truth_9 : decode cX3_truth 9 = .ok (.ireturn, 1) := by decide +kernel
theorem dX3_named_0 : decode cX3_named 0 = .ok (.iload_n 0, 1) := by decide +kernel
theorem dX3_named_1 : decode cX3_named 1 = .ok (.tableswitch 62 0 4 #[35, 40, 47, 52, 57], 35) := by decide +kernel
theorem dX3_named_36 : decode cX3_named 36 = .ok (.aload_n 1, 1) := by decide +kernel
theorem dX3_named_37 : decode cX3_named 37 = .ok (.getfield 55, 3) := by decide +kernel
theorem dX3_named_40 : decode cX3_named 40 = .ok (.ireturn, 1) := by decide +kernel
theorem dX3_named_41 : decode cX3_named 41 = .ok (.iload_n 2, 1) := by decide +kernel
theorem dX3_named_42 : decode cX3_named 42 = .ok (.aload_n 1, 1) := by decide +kernel
theorem dX3_named_43 : decode cX3_named 43 = .ok (.getfield 60, 3) := by decide +kernel
theorem dX3_named_46 : decode cX3_named 46 = .ok (.isub, 1) := by decide +kernel
theorem dX3_named_47 : decode cX3_named 47 = .ok (.ireturn, 1) := by decide +kernel
theorem dX3_named_48 : decode cX3_named 48 = .ok (.aload_n 1, 1) := by decide +kernel
theorem dX3_named_49 : decode cX3_named 49 = .ok (.getfield 63, 3) := by decide +kernel
theorem dX3_named_52 : decode cX3_named 52 = .ok (.ireturn, 1) := by decide +kernel
theorem dX3_named_53 : decode cX3_named 53 = .ok (.aload_n 1, 1) := by decide +kernel
theorem dX3_named_54 : decode cX3_named 54 = .ok (.getfield 66, 3) := by decide +kernel
theorem dX3_named_57 : decode cX3_named 57 = .ok (.ireturn, 1) := by decide +kernel
theorem dX3_named_58 : decode cX3_named 58 = .ok (.aload_n 1, 1) := by decide +kernel
theorem dX3_named_59 : decode cX3_named 59 = .ok (.getfield 69, 3) := by decide +kernel
theorem dX3_named_62 : decode cX3_named 62 = .ok (.ireturn, 1) := by decide +kernel
theorem dX3_named_63 : decode cX3_named 63 = .ok (.aload_n 1, 1) := by decide +kernel
theorem dX3_named_64 : decode cX3_named 64 = .ok (.invokevirtual 72, 3) := by decide +kernel
theorem dX3_named_67 : decode cX3_named 67 = .ok (.ireturn, 1) := by decide +kernel
theorem dX3_joined_0 : decode cX3_joined 0 = .ok (.iload_n 0, 1) := by decide +kernel
theorem dX3_joined_1 : decode cX3_joined 1 = .ok (.lookupswitch 129 #[(6, 59), (7, 76), (43, 121), (45, 125), (60, 93), (61, 107)], 59) := by decide +kernel
theorem dX3_joined_60 : decode cX3_joined 60 = .ok (.iload_n 1, 1) := by decide +kernel
theorem dX3_joined_61 : decode cX3_joined 61 = .ok (.ifCond .ne 7, 3) := by decide +kernel
theorem dX3_joined_64 : decode cX3_joined 64 = .ok (.iload_n 2, 1) := by decide +kernel
theorem dX3_joined_65 : decode cX3_joined 65 = .ok (.ifCond .eq 7, 3) := by decide +kernel
theorem dX3_joined_68 : decode cX3_joined 68 = .ok (.iconst 1, 1) := by decide +kernel
theorem dX3_joined_69 : decode cX3_joined 69 = .ok (.goto 4, 3) := by decide +kernel
theorem dX3_joined_72 : decode cX3_joined 72 = .ok (.iconst 0, 1) := by decide +kernel
theorem dX3_joined_73 : decode cX3_joined 73 = .ok (.invokestatic 47, 3) := by decide +kernel
theorem dX3_joined_76 : decode cX3_joined 76 = .ok (.ireturn, 1) := by decide +kernel
theorem dX3_joined_77 : decode cX3_joined 77 = .ok (.iload_n 1, 1) := by decide +kernel
theorem dX3_joined_78 : decode cX3_joined 78 = .ok (.ifCond .eq 11, 3) := by decide +kernel
theorem dX3_joined_81 : decode cX3_joined 81 = .ok (.iload_n 2, 1) := by decide +kernel
theorem dX3_joined_82 : decode cX3_joined 82 = .ok (.ifCond .eq 7, 3) := by decide +kernel
theorem dX3_joined_85 : decode cX3_joined 85 = .ok (.iconst 1, 1) := by decide +kernel
theorem dX3_joined_86 : decode cX3_joined 86 = .ok (.goto 4, 3) := by decide +kernel
theorem dX3_joined_89 : decode cX3_joined 89 = .ok (.iconst 0, 1) := by decide +kernel
theorem dX3_joined_90 : decode cX3_joined 90 = .ok (.invokestatic 47, 3) := by decide +kernel
theorem dX3_joined_93 : decode cX3_joined 93 = .ok (.ireturn, 1) := by decide +kernel
theorem dX3_joined_94 : decode cX3_joined 94 = .ok (.iload_n 1, 1) := by decide +kernel
theorem dX3_joined_95 : decode cX3_joined 95 = .ok (.iload_n 2, 1) := by decide +kernel
theorem dX3_joined_96 : decode cX3_joined 96 = .ok (.if_icmp .ge 7, 3) := by decide +kernel
theorem dX3_joined_99 : decode cX3_joined 99 = .ok (.iconst 1, 1) := by decide +kernel
theorem dX3_joined_100 : decode cX3_joined 100 = .ok (.goto 4, 3) := by decide +kernel
theorem dX3_joined_103 : decode cX3_joined 103 = .ok (.iconst 0, 1) := by decide +kernel
theorem dX3_joined_104 : decode cX3_joined 104 = .ok (.invokestatic 47, 3) := by decide +kernel
theorem dX3_joined_107 : decode cX3_joined 107 = .ok (.ireturn, 1) := by decide +kernel
theorem dX3_joined_108 : decode cX3_joined 108 = .ok (.iload_n 1, 1) := by decide +kernel
theorem dX3_joined_109 : decode cX3_joined 109 = .ok (.iload_n 2, 1) := by decide +kernel
theorem dX3_joined_110 : decode cX3_joined 110 = .ok (.if_icmp .ne 7, 3) := by decide +kernel
theorem dX3_joined_113 : decode cX3_joined 113 = .ok (.iconst 1, 1) := by decide +kernel
theorem dX3_joined_114 : decode cX3_joined 114 = .ok (.goto 4, 3) := by decide +kernel
theorem dX3_joined_117 : decode cX3_joined 117 = .ok (.iconst 0, 1) := by decide +kernel
theorem dX3_joined_118 : decode cX3_joined 118 = .ok (.invokestatic 47, 3) := by decide +kernel
theorem dX3_joined_121 : decode cX3_joined 121 = .ok (.ireturn, 1) := by decide +kernel
theorem dX3_joined_122 : decode cX3_joined 122 = .ok (.iload_n 1, 1) := by decide +kernel
theorem dX3_joined_123 : decode cX3_joined 123 = .ok (.iload_n 2, 1) := by decide +kernel
theorem dX3_joined_124 : decode cX3_joined 124 = .ok (.iadd, 1) := by decide +kernel
theorem dX3_joined_125 : decode cX3_joined 125 = .ok (.ireturn, 1) := by decide +kernel
theorem dX3_joined_126 : decode cX3_joined 126 = .ok (.iload_n 1, 1) := by decide +kernel
theorem dX3_joined_127 : decode cX3_joined 127 = .ok (.iload_n 2, 1) := by decide +kernel
theorem dX3_joined_128 : decode cX3_joined 128 = .ok (.isub, 1) := by decide +kernel
theorem dX3_joined_129 : decode cX3_joined 129 = .ok (.ireturn, 1) := by decide +kernel
theorem dX3_joined_130 : decode cX3_joined 130 = .ok (.iload_n 1, 1) := by decide +kernel
theorem dX3_joined_131 : decode cX3_joined 131 = .ok (.iload_n 2, 1) := by decide +kernel
theorem dX3_joined_132 : decode cX3_joined 132 = .ok (.imul, 1) := by decide +kernel
theorem dX3_joined_133 : decode cX3_joined 133 = .ok (.ireturn, 1) := by decide +kernel
theorem dX4_init_0 : decode cX4_init 0 = .ok (.aload_n 0, 1) := by decide +kernel
theorem dX4_init_1 : decode cX4_init 1 = .ok (.invokespecial 3, 3) := by decide +kernel
theorem dX4_init_4 : decode cX4_init 4 = .ok (.aload_n 0, 1) := by decide +kernel
theorem dX4_init_5 : decode cX4_init 5 = .ok (.bipush 10, 2) := by decide +kernel
theorem dX4_init_7 : decode cX4_init 7 = .ok (.newarray .int, 2) := by decide +kernel
theorem dX4_init_9 : decode cX4_init 9 = .ok (.putfield 9, 3) := by decide +kernel
theorem dX4_init_12 : decode cX4_init 12 = .ok (.return_, 1) := by decide +kernel
theorem dX4_isRing_0 : decode cX4_isRing 0 = .ok (.aload_n 0, 1) := by decide +kernel
theorem dX4_isRing_1 : decode cX4_isRing 1 = .ok (.aload_n 1, 1) := by decide +kernel
theorem dX4_isRing_2 : decode cX4_isRing 2 = .ok (.putfield 15, 3) := by decide +kernel
theorem dX4_isRing_5 : decode cX4_isRing 5 = .ok (.aload_n 0, 1) := by decide +kernel
theorem dX4_isRing_6 : decode cX4_isRing 6 = .ok (.iload_n 2, 1) := by decide +kernel
theorem dX4_isRing_7 : decode cX4_isRing 7 = .ok (.putfield 19, 3) := by decide +kernel
theorem dX4_isRing_10 : decode cX4_isRing 10 = .ok (.aload_n 0, 1) := by decide +kernel
theorem dX4_isRing_11 : decode cX4_isRing 11 = .ok (.iload_n 3, 1) := by decide +kernel
theorem dX4_isRing_12 : decode cX4_isRing 12 = .ok (.invokevirtual 23, 3) := by decide +kernel
theorem dX4_isRing_15 : decode cX4_isRing 15 = .ok (.ifCond .eq 28, 3) := by decide +kernel
theorem dX4_isRing_18 : decode cX4_isRing 18 = .ok (.aload_n 0, 1) := by decide +kernel
theorem dX4_isRing_19 : decode cX4_isRing 19 = .ok (.iload_n 3, 1) := by decide +kernel
theorem dX4_isRing_20 : decode cX4_isRing 20 = .ok (.invokevirtual 27, 3) := by decide +kernel
theorem dX4_isRing_23 : decode cX4_isRing 23 = .ok (.ifCond .eq 20, 3) := by decide +kernel
theorem dX4_isRing_26 : decode cX4_isRing 26 = .ok (.aload_n 0, 1) := by decide +kernel
theorem dX4_isRing_27 : decode cX4_isRing 27 = .ok (.iload_n 3, 1) := by decide +kernel
theorem dX4_isRing_28 : decode cX4_isRing 28 = .ok (.invokevirtual 30, 3) := by decide +kernel
theorem dX4_isRing_31 : decode cX4_isRing 31 = .ok (.aload_n 0, 1) := by decide +kernel
theorem dX4_isRing_32 : decode cX4_isRing 32 = .ok (.iload_n 3, 1) := by decide +kernel
theorem dX4_isRing_33 : decode cX4_isRing 33 = .ok (.invokevirtual 34, 3) := by decide +kernel
theorem dX4_isRing_36 : decode cX4_isRing 36 = .ok (.if_icmp .ne 7, 3) := by decide +kernel
theorem dX4_isRing_39 : decode cX4_isRing 39 = .ok (.iconst 1, 1) := by decide +kernel
theorem dX4_isRing_40 : decode cX4_isRing 40 = .ok (.goto 4, 3) := by decide +kernel
theorem dX4_isRing_43 : decode cX4_isRing 43 = .ok (.iconst 0, 1) := by decide +kernel
theorem dX4_isRing_44 : decode cX4_isRing 44 = .ok (.ireturn, 1) := by decide +kernel
theorem dX4_has_0 : decode cX4_has 0 = .ok (.iload_n 1, 1) := by decide +kernel
theorem dX4_has_1 : decode cX4_has 1 = .ok (.iload_n 2, 1) := by decide +kernel
theorem dX4_has_2 : decode cX4_has 2 = .ok (.iushr, 1) := by decide +kernel
theorem dX4_has_3 : decode cX4_has 3 = .ok (.iconst 1, 1) := by decide +kernel
theorem dX4_has_4 : decode cX4_has 4 = .ok (.iand, 1) := by decide +kernel
theorem dX4_has_5 : decode cX4_has 5 = .ok (.ifCond .eq 7, 3) := by decide +kernel
theorem dX4_has_8 : decode cX4_has 8 = .ok (.iconst 1, 1) := by decide +kernel
theorem dX4_has_9 : decode cX4_has 9 = .ok (.goto 4, 3) := by decide +kernel
theorem dX4_has_12 : decode cX4_has 12 = .ok (.iconst 0, 1) := by decide +kernel
theorem dX4_has_13 : decode cX4_has 13 = .ok (.ireturn, 1) := by decide +kernel
theorem dX4_amountsAlike_0 : decode cX4_amountsAlike 0 = .ok (.iconst (-1), 1) := by decide +kernel
theorem dX4_amountsAlike_1 : decode cX4_amountsAlike 1 = .ok (.istore_n 2, 1) := by decide +kernel
theorem dX4_amountsAlike_2 : decode cX4_amountsAlike 2 = .ok (.iconst 0, 1) := by decide +kernel
theorem dX4_amountsAlike_3 : decode cX4_amountsAlike 3 = .ok (.istore_n 3, 1) := by decide +kernel
theorem dX4_amountsAlike_4 : decode cX4_amountsAlike 4 = .ok (.iload_n 3, 1) := by decide +kernel
theorem dX4_amountsAlike_5 : decode cX4_amountsAlike 5 = .ok (.aload_n 0, 1) := by decide +kernel
theorem dX4_amountsAlike_6 : decode cX4_amountsAlike 6 = .ok (.getfield 19, 3) := by decide +kernel
theorem dX4_amountsAlike_9 : decode cX4_amountsAlike 9 = .ok (.if_icmp .ge 48, 3) := by decide +kernel
theorem dX4_amountsAlike_12 : decode cX4_amountsAlike 12 = .ok (.aload_n 0, 1) := by decide +kernel
theorem dX4_amountsAlike_13 : decode cX4_amountsAlike 13 = .ok (.iload_n 1, 1) := by decide +kernel
theorem dX4_amountsAlike_14 : decode cX4_amountsAlike 14 = .ok (.iload_n 3, 1) := by decide +kernel
theorem dX4_amountsAlike_15 : decode cX4_amountsAlike 15 = .ok (.invokevirtual 37, 3) := by decide +kernel
theorem dX4_amountsAlike_18 : decode cX4_amountsAlike 18 = .ok (.ifCond .eq 33, 3) := by decide +kernel
theorem dX4_amountsAlike_21 : decode cX4_amountsAlike 21 = .ok (.iload_n 2, 1) := by decide +kernel
theorem dX4_amountsAlike_22 : decode cX4_amountsAlike 22 = .ok (.iconst (-1), 1) := by decide +kernel
theorem dX4_amountsAlike_23 : decode cX4_amountsAlike 23 = .ok (.if_icmp .eq 18, 3) := by decide +kernel
theorem dX4_amountsAlike_26 : decode cX4_amountsAlike 26 = .ok (.iload_n 2, 1) := by decide +kernel
theorem dX4_amountsAlike_27 : decode cX4_amountsAlike 27 = .ok (.aload_n 0, 1) := by decide +kernel
theorem dX4_amountsAlike_28 : decode cX4_amountsAlike 28 = .ok (.getfield 15, 3) := by decide +kernel
theorem dX4_amountsAlike_31 : decode cX4_amountsAlike 31 = .ok (.iload_n 3, 1) := by decide +kernel
theorem dX4_amountsAlike_32 : decode cX4_amountsAlike 32 = .ok (.aaload, 1) := by decide +kernel
theorem dX4_amountsAlike_33 : decode cX4_amountsAlike 33 = .ok (.getfield 41, 3) := by decide +kernel
theorem dX4_amountsAlike_36 : decode cX4_amountsAlike 36 = .ok (.if_icmp .eq 5, 3) := by decide +kernel
theorem dX4_amountsAlike_39 : decode cX4_amountsAlike 39 = .ok (.iconst 0, 1) := by decide +kernel
theorem dX4_amountsAlike_40 : decode cX4_amountsAlike 40 = .ok (.ireturn, 1) := by decide +kernel
theorem dX4_amountsAlike_41 : decode cX4_amountsAlike 41 = .ok (.aload_n 0, 1) := by decide +kernel
theorem dX4_amountsAlike_42 : decode cX4_amountsAlike 42 = .ok (.getfield 15, 3) := by decide +kernel
theorem dX4_amountsAlike_45 : decode cX4_amountsAlike 45 = .ok (.iload_n 3, 1) := by decide +kernel
theorem dX4_amountsAlike_46 : decode cX4_amountsAlike 46 = .ok (.aaload, 1) := by decide +kernel
theorem dX4_amountsAlike_47 : decode cX4_amountsAlike 47 = .ok (.getfield 41, 3) := by decide +kernel
theorem dX4_amountsAlike_50 : decode cX4_amountsAlike 50 = .ok (.istore_n 2, 1) := by decide +kernel
theorem dX4_amountsAlike_51 : decode cX4_amountsAlike 51 = .ok (.iinc 3 1, 3) := by decide +kernel
theorem dX4_amountsAlike_54 : decode cX4_amountsAlike 54 = .ok (.goto (-50), 3) := by decide +kernel
theorem dX4_amountsAlike_57 : decode cX4_amountsAlike 57 = .ok (.iconst 1, 1) := by decide +kernel
theorem dX4_amountsAlike_58 : decode cX4_amountsAlike 58 = .ok (.ireturn, 1) := by decide +kernel
theorem dX4_allSellAsTheyBuy_0 : decode cX4_allSellAsTheyBuy 0 = .ok (.aload_n 0, 1) := by decide +kernel
theorem dX4_allSellAsTheyBuy_1 : decode cX4_allSellAsTheyBuy 1 = .ok (.getfield 9, 3) := by decide +kernel
theorem dX4_allSellAsTheyBuy_4 : decode cX4_allSellAsTheyBuy 4 = .ok (.iconst 0, 1) := by decide +kernel
theorem dX4_allSellAsTheyBuy_5 : decode cX4_allSellAsTheyBuy 5 = .ok (.invokestatic 46, 3) := by decide +kernel
theorem dX4_allSellAsTheyBuy_8 : decode cX4_allSellAsTheyBuy 8 = .ok (.iconst 0, 1) := by decide +kernel
theorem dX4_allSellAsTheyBuy_9 : decode cX4_allSellAsTheyBuy 9 = .ok (.istore_n 2, 1) := by decide +kernel
theorem dX4_allSellAsTheyBuy_10 : decode cX4_allSellAsTheyBuy 10 = .ok (.iload_n 2, 1) := by decide +kernel
theorem dX4_allSellAsTheyBuy_11 : decode cX4_allSellAsTheyBuy 11 = .ok (.aload_n 0, 1) := by decide +kernel
theorem dX4_allSellAsTheyBuy_12 : decode cX4_allSellAsTheyBuy 12 = .ok (.getfield 19, 3) := by decide +kernel
theorem dX4_allSellAsTheyBuy_15 : decode cX4_allSellAsTheyBuy 15 = .ok (.if_icmp .ge 54, 3) := by decide +kernel
theorem dX4_allSellAsTheyBuy_18 : decode cX4_allSellAsTheyBuy 18 = .ok (.aload_n 0, 1) := by decide +kernel
theorem dX4_allSellAsTheyBuy_19 : decode cX4_allSellAsTheyBuy 19 = .ok (.iload_n 1, 1) := by decide +kernel
theorem dX4_allSellAsTheyBuy_20 : decode cX4_allSellAsTheyBuy 20 = .ok (.iload_n 2, 1) := by decide +kernel
theorem dX4_allSellAsTheyBuy_21 : decode cX4_allSellAsTheyBuy 21 = .ok (.invokevirtual 37, 3) := by decide +kernel
theorem dX4_allSellAsTheyBuy_24 : decode cX4_allSellAsTheyBuy 24 = .ok (.ifCond .eq 39, 3) := by decide +kernel
theorem dX4_allSellAsTheyBuy_27 : decode cX4_allSellAsTheyBuy 27 = .ok (.aload_n 0, 1) := by decide +kernel
theorem dX4_allSellAsTheyBuy_28 : decode cX4_allSellAsTheyBuy 28 = .ok (.getfield 9, 3) := by decide +kernel
theorem dX4_allSellAsTheyBuy_31 : decode cX4_allSellAsTheyBuy 31 = .ok (.aload_n 0, 1) := by decide +kernel
theorem dX4_allSellAsTheyBuy_32 : decode cX4_allSellAsTheyBuy 32 = .ok (.getfield 15, 3) := by decide +kernel
theorem dX4_allSellAsTheyBuy_35 : decode cX4_allSellAsTheyBuy 35 = .ok (.iload_n 2, 1) := by decide +kernel
theorem dX4_allSellAsTheyBuy_36 : decode cX4_allSellAsTheyBuy 36 = .ok (.aaload, 1) := by decide +kernel
theorem dX4_allSellAsTheyBuy_37 : decode cX4_allSellAsTheyBuy 37 = .ok (.getfield 52, 3) := by decide +kernel
theorem dX4_allSellAsTheyBuy_40 : decode cX4_allSellAsTheyBuy 40 = .ok (.dup2, 1) := by decide +kernel
theorem dX4_allSellAsTheyBuy_41 : decode cX4_allSellAsTheyBuy 41 = .ok (.iaload, 1) := by decide +kernel
theorem dX4_allSellAsTheyBuy_42 : decode cX4_allSellAsTheyBuy 42 = .ok (.iconst 1, 1) := by decide +kernel
theorem dX4_allSellAsTheyBuy_43 : decode cX4_allSellAsTheyBuy 43 = .ok (.iadd, 1) := by decide +kernel
theorem dX4_allSellAsTheyBuy_44 : decode cX4_allSellAsTheyBuy 44 = .ok (.iastore, 1) := by decide +kernel
theorem dX4_allSellAsTheyBuy_45 : decode cX4_allSellAsTheyBuy 45 = .ok (.aload_n 0, 1) := by decide +kernel
theorem dX4_allSellAsTheyBuy_46 : decode cX4_allSellAsTheyBuy 46 = .ok (.getfield 9, 3) := by decide +kernel
theorem dX4_allSellAsTheyBuy_49 : decode cX4_allSellAsTheyBuy 49 = .ok (.aload_n 0, 1) := by decide +kernel
theorem dX4_allSellAsTheyBuy_50 : decode cX4_allSellAsTheyBuy 50 = .ok (.getfield 15, 3) := by decide +kernel
theorem dX4_allSellAsTheyBuy_53 : decode cX4_allSellAsTheyBuy 53 = .ok (.iload_n 2, 1) := by decide +kernel
theorem dX4_allSellAsTheyBuy_54 : decode cX4_allSellAsTheyBuy 54 = .ok (.aaload, 1) := by decide +kernel
theorem dX4_allSellAsTheyBuy_55 : decode cX4_allSellAsTheyBuy 55 = .ok (.getfield 55, 3) := by decide +kernel
theorem dX4_allSellAsTheyBuy_58 : decode cX4_allSellAsTheyBuy 58 = .ok (.dup2, 1) := by decide +kernel
theorem dX4_allSellAsTheyBuy_59 : decode cX4_allSellAsTheyBuy 59 = .ok (.iaload, 1) := by decide +kernel
theorem dX4_allSellAsTheyBuy_60 : decode cX4_allSellAsTheyBuy 60 = .ok (.iconst 1, 1) := by decide +kernel
theorem dX4_allSellAsTheyBuy_61 : decode cX4_allSellAsTheyBuy 61 = .ok (.isub, 1) := by decide +kernel
theorem dX4_allSellAsTheyBuy_62 : decode cX4_allSellAsTheyBuy 62 = .ok (.iastore, 1) := by decide +kernel
theorem dX4_allSellAsTheyBuy_63 : decode cX4_allSellAsTheyBuy 63 = .ok (.iinc 2 1, 3) := by decide +kernel
theorem dX4_allSellAsTheyBuy_66 : decode cX4_allSellAsTheyBuy 66 = .ok (.goto (-56), 3) := by decide +kernel
theorem dX4_allSellAsTheyBuy_69 : decode cX4_allSellAsTheyBuy 69 = .ok (.iconst 0, 1) := by decide +kernel
theorem dX4_allSellAsTheyBuy_70 : decode cX4_allSellAsTheyBuy 70 = .ok (.istore_n 2, 1) := by decide +kernel
theorem dX4_allSellAsTheyBuy_71 : decode cX4_allSellAsTheyBuy 71 = .ok (.iload_n 2, 1) := by decide +kernel
theorem dX4_allSellAsTheyBuy_72 : decode cX4_allSellAsTheyBuy 72 = .ok (.bipush 10, 2) := by decide +kernel
theorem dX4_allSellAsTheyBuy_74 : decode cX4_allSellAsTheyBuy 74 = .ok (.if_icmp .ge 20, 3) := by decide +kernel
theorem dX4_allSellAsTheyBuy_77 : decode cX4_allSellAsTheyBuy 77 = .ok (.aload_n 0, 1) := by decide +kernel
theorem dX4_allSellAsTheyBuy_78 : decode cX4_allSellAsTheyBuy 78 = .ok (.getfield 9, 3) := by decide +kernel
theorem dX4_allSellAsTheyBuy_81 : decode cX4_allSellAsTheyBuy 81 = .ok (.iload_n 2, 1) := by decide +kernel
theorem dX4_allSellAsTheyBuy_82 : decode cX4_allSellAsTheyBuy 82 = .ok (.iaload, 1) := by decide +kernel
theorem dX4_allSellAsTheyBuy_83 : decode cX4_allSellAsTheyBuy 83 = .ok (.ifCond .eq 5, 3) := by decide +kernel
theorem dX4_allSellAsTheyBuy_86 : decode cX4_allSellAsTheyBuy 86 = .ok (.iconst 0, 1) := by decide +kernel
theorem dX4_allSellAsTheyBuy_87 : decode cX4_allSellAsTheyBuy 87 = .ok (.ireturn, 1) := by decide +kernel
theorem dX4_allSellAsTheyBuy_88 : decode cX4_allSellAsTheyBuy 88 = .ok (.iinc 2 1, 3) := by decide +kernel
theorem dX4_allSellAsTheyBuy_91 : decode cX4_allSellAsTheyBuy 91 = .ok (.goto (-20), 3) := by decide +kernel
theorem dX4_allSellAsTheyBuy_94 : decode cX4_allSellAsTheyBuy 94 = .ok (.iconst 1, 1) := by decide +kernel
theorem dX4_allSellAsTheyBuy_95 : decode cX4_allSellAsTheyBuy 95 = .ok (.ireturn, 1) := by decide +kernel
theorem dX4_handsIn_0 : decode cX4_handsIn 0 = .ok (.iconst 0, 1) := by decide +kernel
theorem dX4_handsIn_1 : decode cX4_handsIn 1 = .ok (.istore_n 2, 1) := by decide +kernel
theorem dX4_handsIn_2 : decode cX4_handsIn 2 = .ok (.iconst 0, 1) := by decide +kernel
theorem dX4_handsIn_3 : decode cX4_handsIn 3 = .ok (.istore_n 3, 1) := by decide +kernel
theorem dX4_handsIn_4 : decode cX4_handsIn 4 = .ok (.iload_n 3, 1) := by decide +kernel
theorem dX4_handsIn_5 : decode cX4_handsIn 5 = .ok (.aload_n 0, 1) := by decide +kernel
theorem dX4_handsIn_6 : decode cX4_handsIn 6 = .ok (.getfield 19, 3) := by decide +kernel
theorem dX4_handsIn_9 : decode cX4_handsIn 9 = .ok (.if_icmp .ge 44, 3) := by decide +kernel
theorem dX4_handsIn_12 : decode cX4_handsIn 12 = .ok (.aload_n 0, 1) := by decide +kernel
theorem dX4_handsIn_13 : decode cX4_handsIn 13 = .ok (.iload_n 1, 1) := by decide +kernel
theorem dX4_handsIn_14 : decode cX4_handsIn 14 = .ok (.iload_n 3, 1) := by decide +kernel
theorem dX4_handsIn_15 : decode cX4_handsIn 15 = .ok (.invokevirtual 37, 3) := by decide +kernel
theorem dX4_handsIn_18 : decode cX4_handsIn 18 = .ok (.ifCond .eq 29, 3) := by decide +kernel
theorem dX4_handsIn_21 : decode cX4_handsIn 21 = .ok (.iload_n 2, 1) := by decide +kernel
theorem dX4_handsIn_22 : decode cX4_handsIn 22 = .ok (.iconst 1, 1) := by decide +kernel
theorem dX4_handsIn_23 : decode cX4_handsIn 23 = .ok (.aload_n 0, 1) := by decide +kernel
theorem dX4_handsIn_24 : decode cX4_handsIn 24 = .ok (.getfield 15, 3) := by decide +kernel
theorem dX4_handsIn_27 : decode cX4_handsIn 27 = .ok (.iload_n 3, 1) := by decide +kernel
theorem dX4_handsIn_28 : decode cX4_handsIn 28 = .ok (.aaload, 1) := by decide +kernel
theorem dX4_handsIn_29 : decode cX4_handsIn 29 = .ok (.getfield 52, 3) := by decide +kernel
theorem dX4_handsIn_32 : decode cX4_handsIn 32 = .ok (.ishl, 1) := by decide +kernel
theorem dX4_handsIn_33 : decode cX4_handsIn 33 = .ok (.iconst 1, 1) := by decide +kernel
theorem dX4_handsIn_34 : decode cX4_handsIn 34 = .ok (.aload_n 0, 1) := by decide +kernel
theorem dX4_handsIn_35 : decode cX4_handsIn 35 = .ok (.getfield 15, 3) := by decide +kernel
theorem dX4_handsIn_38 : decode cX4_handsIn 38 = .ok (.iload_n 3, 1) := by decide +kernel
theorem dX4_handsIn_39 : decode cX4_handsIn 39 = .ok (.aaload, 1) := by decide +kernel
theorem dX4_handsIn_40 : decode cX4_handsIn 40 = .ok (.getfield 55, 3) := by decide +kernel
theorem dX4_handsIn_43 : decode cX4_handsIn 43 = .ok (.ishl, 1) := by decide +kernel
theorem dX4_handsIn_44 : decode cX4_handsIn 44 = .ok (.ior, 1) := by decide +kernel
theorem dX4_handsIn_45 : decode cX4_handsIn 45 = .ok (.ior, 1) := by decide +kernel
theorem dX4_handsIn_46 : decode cX4_handsIn 46 = .ok (.istore_n 2, 1) := by decide +kernel
theorem dX4_handsIn_47 : decode cX4_handsIn 47 = .ok (.iinc 3 1, 3) := by decide +kernel
theorem dX4_handsIn_50 : decode cX4_handsIn 50 = .ok (.goto (-46), 3) := by decide +kernel
theorem dX4_handsIn_53 : decode cX4_handsIn 53 = .ok (.iload_n 2, 1) := by decide +kernel
theorem dX4_handsIn_54 : decode cX4_handsIn 54 = .ok (.ireturn, 1) := by decide +kernel
theorem dX4_handsReached_0 : decode cX4_handsReached 0 = .ok (.iconst 0, 1) := by decide +kernel
theorem dX4_handsReached_1 : decode cX4_handsReached 1 = .ok (.istore_n 2, 1) := by decide +kernel
theorem dX4_handsReached_2 : decode cX4_handsReached 2 = .ok (.iconst 0, 1) := by decide +kernel
theorem dX4_handsReached_3 : decode cX4_handsReached 3 = .ok (.istore_n 3, 1) := by decide +kernel
theorem dX4_handsReached_4 : decode cX4_handsReached 4 = .ok (.iload_n 3, 1) := by decide +kernel
theorem dX4_handsReached_5 : decode cX4_handsReached 5 = .ok (.bipush 10, 2) := by decide +kernel
theorem dX4_handsReached_7 : decode cX4_handsReached 7 = .ok (.if_icmp .ge 87, 3) := by decide +kernel
theorem dX4_handsReached_10 : decode cX4_handsReached 10 = .ok (.iconst 0, 1) := by decide +kernel
theorem dX4_handsReached_11 : decode cX4_handsReached 11 = .ok (.istore 4, 2) := by decide +kernel
theorem dX4_handsReached_13 : decode cX4_handsReached 13 = .ok (.iload 4, 2) := by decide +kernel
theorem dX4_handsReached_15 : decode cX4_handsReached 15 = .ok (.aload_n 0, 1) := by decide +kernel
theorem dX4_handsReached_16 : decode cX4_handsReached 16 = .ok (.getfield 19, 3) := by decide +kernel
theorem dX4_handsReached_19 : decode cX4_handsReached 19 = .ok (.if_icmp .ge 69, 3) := by decide +kernel
theorem dX4_handsReached_22 : decode cX4_handsReached 22 = .ok (.aload_n 0, 1) := by decide +kernel
theorem dX4_handsReached_23 : decode cX4_handsReached 23 = .ok (.iload_n 1, 1) := by decide +kernel
theorem dX4_handsReached_24 : decode cX4_handsReached 24 = .ok (.iload 4, 2) := by decide +kernel
theorem dX4_handsReached_26 : decode cX4_handsReached 26 = .ok (.invokevirtual 37, 3) := by decide +kernel
theorem dX4_handsReached_29 : decode cX4_handsReached 29 = .ok (.ifCond .eq 53, 3) := by decide +kernel
theorem dX4_handsReached_32 : decode cX4_handsReached 32 = .ok (.iload_n 2, 1) := by decide +kernel
theorem dX4_handsReached_33 : decode cX4_handsReached 33 = .ok (.ifCond .eq 21, 3) := by decide +kernel
theorem dX4_handsReached_36 : decode cX4_handsReached 36 = .ok (.aload_n 0, 1) := by decide +kernel
theorem dX4_handsReached_37 : decode cX4_handsReached 37 = .ok (.iload_n 2, 1) := by decide +kernel
theorem dX4_handsReached_38 : decode cX4_handsReached 38 = .ok (.aload_n 0, 1) := by decide +kernel
theorem dX4_handsReached_39 : decode cX4_handsReached 39 = .ok (.getfield 15, 3) := by decide +kernel
theorem dX4_handsReached_42 : decode cX4_handsReached 42 = .ok (.iload 4, 2) := by decide +kernel
theorem dX4_handsReached_44 : decode cX4_handsReached 44 = .ok (.aaload, 1) := by decide +kernel
theorem dX4_handsReached_45 : decode cX4_handsReached 45 = .ok (.getfield 52, 3) := by decide +kernel
theorem dX4_handsReached_48 : decode cX4_handsReached 48 = .ok (.invokevirtual 37, 3) := by decide +kernel
theorem dX4_handsReached_51 : decode cX4_handsReached 51 = .ok (.ifCond .eq 31, 3) := by decide +kernel
theorem dX4_handsReached_54 : decode cX4_handsReached 54 = .ok (.iload_n 2, 1) := by decide +kernel
theorem dX4_handsReached_55 : decode cX4_handsReached 55 = .ok (.iconst 1, 1) := by decide +kernel
theorem dX4_handsReached_56 : decode cX4_handsReached 56 = .ok (.aload_n 0, 1) := by decide +kernel
theorem dX4_handsReached_57 : decode cX4_handsReached 57 = .ok (.getfield 15, 3) := by decide +kernel
theorem dX4_handsReached_60 : decode cX4_handsReached 60 = .ok (.iload 4, 2) := by decide +kernel
theorem dX4_handsReached_62 : decode cX4_handsReached 62 = .ok (.aaload, 1) := by decide +kernel
theorem dX4_handsReached_63 : decode cX4_handsReached 63 = .ok (.getfield 52, 3) := by decide +kernel
theorem dX4_handsReached_66 : decode cX4_handsReached 66 = .ok (.ishl, 1) := by decide +kernel
theorem dX4_handsReached_67 : decode cX4_handsReached 67 = .ok (.iconst 1, 1) := by decide +kernel
theorem dX4_handsReached_68 : decode cX4_handsReached 68 = .ok (.aload_n 0, 1) := by decide +kernel
theorem dX4_handsReached_69 : decode cX4_handsReached 69 = .ok (.getfield 15, 3) := by decide +kernel
theorem dX4_handsReached_72 : decode cX4_handsReached 72 = .ok (.iload 4, 2) := by decide +kernel
theorem dX4_handsReached_74 : decode cX4_handsReached 74 = .ok (.aaload, 1) := by decide +kernel
theorem dX4_handsReached_75 : decode cX4_handsReached 75 = .ok (.getfield 55, 3) := by decide +kernel
theorem dX4_handsReached_78 : decode cX4_handsReached 78 = .ok (.ishl, 1) := by decide +kernel
theorem dX4_handsReached_79 : decode cX4_handsReached 79 = .ok (.ior, 1) := by decide +kernel
theorem dX4_handsReached_80 : decode cX4_handsReached 80 = .ok (.ior, 1) := by decide +kernel
theorem dX4_handsReached_81 : decode cX4_handsReached 81 = .ok (.istore_n 2, 1) := by decide +kernel
theorem dX4_handsReached_82 : decode cX4_handsReached 82 = .ok (.iinc 4 1, 3) := by decide +kernel
theorem dX4_handsReached_85 : decode cX4_handsReached 85 = .ok (.goto (-72), 3) := by decide +kernel
theorem dX4_handsReached_88 : decode cX4_handsReached 88 = .ok (.iinc 3 1, 3) := by decide +kernel
theorem dX4_handsReached_91 : decode cX4_handsReached 91 = .ok (.goto (-87), 3) := by decide +kernel
theorem dX4_handsReached_94 : decode cX4_handsReached 94 = .ok (.iload_n 2, 1) := by decide +kernel
theorem dX4_handsReached_95 : decode cX4_handsReached 95 = .ok (.ireturn, 1) := by decide +kernel
theorem dX4_least_0 : decode cX4_least 0 = .ok (.aload_n 0, 1) := by decide +kernel
theorem dX4_least_1 : decode cX4_least 1 = .ok (.aload_n 1, 1) := by decide +kernel
theorem dX4_least_2 : decode cX4_least 2 = .ok (.putfield 15, 3) := by decide +kernel
theorem dX4_least_5 : decode cX4_least 5 = .ok (.aload_n 0, 1) := by decide +kernel
theorem dX4_least_6 : decode cX4_least 6 = .ok (.iload_n 2, 1) := by decide +kernel
theorem dX4_least_7 : decode cX4_least 7 = .ok (.bipush 12, 2) := by decide +kernel
theorem dX4_least_9 : decode cX4_least 9 = .ok (.invokestatic 58, 3) := by decide +kernel
theorem dX4_least_12 : decode cX4_least 12 = .ok (.putfield 19, 3) := by decide +kernel
theorem dX4_least_15 : decode cX4_least 15 = .ok (.aload_n 0, 1) := by decide +kernel
theorem dX4_least_16 : decode cX4_least 16 = .ok (.iconst (-1), 1) := by decide +kernel
theorem dX4_least_17 : decode cX4_least 17 = .ok (.putfield 64, 3) := by decide +kernel
theorem dX4_least_20 : decode cX4_least 20 = .ok (.iconst 0, 1) := by decide +kernel
theorem dX4_least_21 : decode cX4_least 21 = .ok (.istore 4, 2) := by decide +kernel
theorem dX4_least_23 : decode cX4_least 23 = .ok (.iload 4, 2) := by decide +kernel
theorem dX4_least_25 : decode cX4_least 25 = .ok (.aload_n 0, 1) := by decide +kernel
theorem dX4_least_26 : decode cX4_least 26 = .ok (.getfield 19, 3) := by decide +kernel
theorem dX4_least_29 : decode cX4_least 29 = .ok (.if_icmp .ge 46, 3) := by decide +kernel
theorem dX4_least_32 : decode cX4_least 32 = .ok (.aload_n 1, 1) := by decide +kernel
theorem dX4_least_33 : decode cX4_least 33 = .ok (.iload 4, 2) := by decide +kernel
theorem dX4_least_35 : decode cX4_least 35 = .ok (.aaload, 1) := by decide +kernel
theorem dX4_least_36 : decode cX4_least 36 = .ok (.getfield 67, 3) := by decide +kernel
theorem dX4_least_39 : decode cX4_least 39 = .ok (.aload_n 3, 1) := by decide +kernel
theorem dX4_least_40 : decode cX4_least 40 = .ok (.if_acmp .ne 29, 3) := by decide +kernel
theorem dX4_least_43 : decode cX4_least 43 = .ok (.aload_n 0, 1) := by decide +kernel
theorem dX4_least_44 : decode cX4_least 44 = .ok (.iload 4, 2) := by decide +kernel
theorem dX4_least_46 : decode cX4_least 46 = .ok (.aload_n 1, 1) := by decide +kernel
theorem dX4_least_47 : decode cX4_least 47 = .ok (.iload 4, 2) := by decide +kernel
theorem dX4_least_49 : decode cX4_least 49 = .ok (.aaload, 1) := by decide +kernel
theorem dX4_least_50 : decode cX4_least 50 = .ok (.getfield 55, 3) := by decide +kernel
theorem dX4_least_53 : decode cX4_least 53 = .ok (.iconst 1, 1) := by decide +kernel
theorem dX4_least_54 : decode cX4_least 54 = .ok (.iload 4, 2) := by decide +kernel
theorem dX4_least_56 : decode cX4_least 56 = .ok (.ishl, 1) := by decide +kernel
theorem dX4_least_57 : decode cX4_least 57 = .ok (.iconst 1, 1) := by decide +kernel
theorem dX4_least_58 : decode cX4_least 58 = .ok (.aload_n 1, 1) := by decide +kernel
theorem dX4_least_59 : decode cX4_least 59 = .ok (.iload 4, 2) := by decide +kernel
theorem dX4_least_61 : decode cX4_least 61 = .ok (.aaload, 1) := by decide +kernel
theorem dX4_least_62 : decode cX4_least 62 = .ok (.getfield 55, 3) := by decide +kernel
theorem dX4_least_65 : decode cX4_least 65 = .ok (.ishl, 1) := by decide +kernel
theorem dX4_least_66 : decode cX4_least 66 = .ok (.invokevirtual 71, 3) := by decide +kernel
theorem dX4_least_69 : decode cX4_least 69 = .ok (.iinc 4 1, 3) := by decide +kernel
theorem dX4_least_72 : decode cX4_least 72 = .ok (.goto (-49), 3) := by decide +kernel
theorem dX4_least_75 : decode cX4_least 75 = .ok (.aload_n 0, 1) := by decide +kernel
theorem dX4_least_76 : decode cX4_least 76 = .ok (.getfield 64, 3) := by decide +kernel
theorem dX4_least_79 : decode cX4_least 79 = .ok (.ireturn, 1) := by decide +kernel
theorem dX4_walk_0 : decode cX4_walk 0 = .ok (.iload_n 3, 1) := by decide +kernel
theorem dX4_walk_1 : decode cX4_walk 1 = .ok (.invokestatic 75, 3) := by decide +kernel
theorem dX4_walk_4 : decode cX4_walk 4 = .ok (.bipush 10, 2) := by decide +kernel
theorem dX4_walk_6 : decode cX4_walk 6 = .ok (.if_icmp .lt 4, 3) := by decide +kernel
theorem dX4_walk_9 : decode cX4_walk 9 = .ok (.return_, 1) := by decide +kernel
theorem dX4_walk_10 : decode cX4_walk 10 = .ok (.iload_n 1, 1) := by decide +kernel
theorem dX4_walk_11 : decode cX4_walk 11 = .ok (.iconst 1, 1) := by decide +kernel
theorem dX4_walk_12 : decode cX4_walk 12 = .ok (.iadd, 1) := by decide +kernel
theorem dX4_walk_13 : decode cX4_walk 13 = .ok (.istore 5, 2) := by decide +kernel
theorem dX4_walk_15 : decode cX4_walk 15 = .ok (.iload 5, 2) := by decide +kernel
theorem dX4_walk_17 : decode cX4_walk 17 = .ok (.aload_n 0, 1) := by decide +kernel
theorem dX4_walk_18 : decode cX4_walk 18 = .ok (.getfield 19, 3) := by decide +kernel
theorem dX4_walk_21 : decode cX4_walk 21 = .ok (.if_icmp .ge 93, 3) := by decide +kernel
theorem dX4_walk_24 : decode cX4_walk 24 = .ok (.aload_n 0, 1) := by decide +kernel
theorem dX4_walk_25 : decode cX4_walk 25 = .ok (.iload_n 1, 1) := by decide +kernel
theorem dX4_walk_26 : decode cX4_walk 26 = .ok (.iload 5, 2) := by decide +kernel
theorem dX4_walk_28 : decode cX4_walk 28 = .ok (.iload_n 2, 1) := by decide +kernel
theorem dX4_walk_29 : decode cX4_walk 29 = .ok (.invokevirtual 80, 3) := by decide +kernel
theorem dX4_walk_32 : decode cX4_walk 32 = .ok (.ifCond .ne 6, 3) := by decide +kernel
theorem dX4_walk_35 : decode cX4_walk 35 = .ok (.goto 73, 3) := by decide +kernel
theorem dX4_walk_38 : decode cX4_walk 38 = .ok (.aload_n 0, 1) := by decide +kernel
theorem dX4_walk_39 : decode cX4_walk 39 = .ok (.getfield 15, 3) := by decide +kernel
theorem dX4_walk_42 : decode cX4_walk 42 = .ok (.iload 5, 2) := by decide +kernel
theorem dX4_walk_44 : decode cX4_walk 44 = .ok (.aaload, 1) := by decide +kernel
theorem dX4_walk_45 : decode cX4_walk 45 = .ok (.getfield 55, 3) := by decide +kernel
theorem dX4_walk_48 : decode cX4_walk 48 = .ok (.istore 6, 2) := by decide +kernel
theorem dX4_walk_50 : decode cX4_walk 50 = .ok (.iload 6, 2) := by decide +kernel
theorem dX4_walk_52 : decode cX4_walk 52 = .ok (.aload_n 0, 1) := by decide +kernel
theorem dX4_walk_53 : decode cX4_walk 53 = .ok (.getfield 15, 3) := by decide +kernel
theorem dX4_walk_56 : decode cX4_walk 56 = .ok (.iload_n 1, 1) := by decide +kernel
theorem dX4_walk_57 : decode cX4_walk 57 = .ok (.aaload, 1) := by decide +kernel
theorem dX4_walk_58 : decode cX4_walk 58 = .ok (.getfield 52, 3) := by decide +kernel
theorem dX4_walk_61 : decode cX4_walk 61 = .ok (.if_icmp .ne 16, 3) := by decide +kernel
theorem dX4_walk_64 : decode cX4_walk 64 = .ok (.aload_n 0, 1) := by decide +kernel
theorem dX4_walk_65 : decode cX4_walk 65 = .ok (.iload_n 3, 1) := by decide +kernel
theorem dX4_walk_66 : decode cX4_walk 66 = .ok (.iconst 1, 1) := by decide +kernel
theorem dX4_walk_67 : decode cX4_walk 67 = .ok (.iload 5, 2) := by decide +kernel
theorem dX4_walk_69 : decode cX4_walk 69 = .ok (.ishl, 1) := by decide +kernel
theorem dX4_walk_70 : decode cX4_walk 70 = .ok (.ior, 1) := by decide +kernel
theorem dX4_walk_71 : decode cX4_walk 71 = .ok (.invokevirtual 84, 3) := by decide +kernel
theorem dX4_walk_74 : decode cX4_walk 74 = .ok (.goto 34, 3) := by decide +kernel
theorem dX4_walk_77 : decode cX4_walk 77 = .ok (.aload_n 0, 1) := by decide +kernel
theorem dX4_walk_78 : decode cX4_walk 78 = .ok (.iload 4, 2) := by decide +kernel
theorem dX4_walk_80 : decode cX4_walk 80 = .ok (.iload 6, 2) := by decide +kernel
theorem dX4_walk_82 : decode cX4_walk 82 = .ok (.invokevirtual 37, 3) := by decide +kernel
theorem dX4_walk_85 : decode cX4_walk 85 = .ok (.ifCond .ne 23, 3) := by decide +kernel
theorem dX4_walk_88 : decode cX4_walk 88 = .ok (.aload_n 0, 1) := by decide +kernel
theorem dX4_walk_89 : decode cX4_walk 89 = .ok (.iload_n 1, 1) := by decide +kernel
theorem dX4_walk_90 : decode cX4_walk 90 = .ok (.iload 6, 2) := by decide +kernel
theorem dX4_walk_92 : decode cX4_walk 92 = .ok (.iload_n 3, 1) := by decide +kernel
theorem dX4_walk_93 : decode cX4_walk 93 = .ok (.iconst 1, 1) := by decide +kernel
theorem dX4_walk_94 : decode cX4_walk 94 = .ok (.iload 5, 2) := by decide +kernel
theorem dX4_walk_96 : decode cX4_walk 96 = .ok (.ishl, 1) := by decide +kernel
theorem dX4_walk_97 : decode cX4_walk 97 = .ok (.ior, 1) := by decide +kernel
theorem dX4_walk_98 : decode cX4_walk 98 = .ok (.iload 4, 2) := by decide +kernel
theorem dX4_walk_100 : decode cX4_walk 100 = .ok (.iconst 1, 1) := by decide +kernel
theorem dX4_walk_101 : decode cX4_walk 101 = .ok (.iload 6, 2) := by decide +kernel
theorem dX4_walk_103 : decode cX4_walk 103 = .ok (.ishl, 1) := by decide +kernel
theorem dX4_walk_104 : decode cX4_walk 104 = .ok (.ior, 1) := by decide +kernel
theorem dX4_walk_105 : decode cX4_walk 105 = .ok (.invokevirtual 71, 3) := by decide +kernel
theorem dX4_walk_108 : decode cX4_walk 108 = .ok (.iinc 5 1, 3) := by decide +kernel
theorem dX4_walk_111 : decode cX4_walk 111 = .ok (.goto (-96), 3) := by decide +kernel
theorem dX4_walk_114 : decode cX4_walk 114 = .ok (.return_, 1) := by decide +kernel
theorem dX4_follows_0 : decode cX4_follows 0 = .ok (.aload_n 0, 1) := by decide +kernel
theorem dX4_follows_1 : decode cX4_follows 1 = .ok (.getfield 15, 3) := by decide +kernel
theorem dX4_follows_4 : decode cX4_follows 4 = .ok (.iload_n 2, 1) := by decide +kernel
theorem dX4_follows_5 : decode cX4_follows 5 = .ok (.aaload, 1) := by decide +kernel
theorem dX4_follows_6 : decode cX4_follows 6 = .ok (.getfield 52, 3) := by decide +kernel
theorem dX4_follows_9 : decode cX4_follows 9 = .ok (.iload_n 3, 1) := by decide +kernel
theorem dX4_follows_10 : decode cX4_follows 10 = .ok (.if_icmp .ne 49, 3) := by decide +kernel
theorem dX4_follows_13 : decode cX4_follows 13 = .ok (.aload_n 0, 1) := by decide +kernel
theorem dX4_follows_14 : decode cX4_follows 14 = .ok (.getfield 15, 3) := by decide +kernel
theorem dX4_follows_17 : decode cX4_follows 17 = .ok (.iload_n 2, 1) := by decide +kernel
theorem dX4_follows_18 : decode cX4_follows 18 = .ok (.aaload, 1) := by decide +kernel
theorem dX4_follows_19 : decode cX4_follows 19 = .ok (.getfield 67, 3) := by decide +kernel
theorem dX4_follows_22 : decode cX4_follows 22 = .ok (.aload_n 0, 1) := by decide +kernel
theorem dX4_follows_23 : decode cX4_follows 23 = .ok (.getfield 15, 3) := by decide +kernel
theorem dX4_follows_26 : decode cX4_follows 26 = .ok (.iload_n 1, 1) := by decide +kernel
theorem dX4_follows_27 : decode cX4_follows 27 = .ok (.aaload, 1) := by decide +kernel
theorem dX4_follows_28 : decode cX4_follows 28 = .ok (.getfield 67, 3) := by decide +kernel
theorem dX4_follows_31 : decode cX4_follows 31 = .ok (.if_acmp .ne 28, 3) := by decide +kernel
theorem dX4_follows_34 : decode cX4_follows 34 = .ok (.aload_n 0, 1) := by decide +kernel
theorem dX4_follows_35 : decode cX4_follows 35 = .ok (.getfield 15, 3) := by decide +kernel
theorem dX4_follows_38 : decode cX4_follows 38 = .ok (.iload_n 2, 1) := by decide +kernel
theorem dX4_follows_39 : decode cX4_follows 39 = .ok (.aaload, 1) := by decide +kernel
theorem dX4_follows_40 : decode cX4_follows 40 = .ok (.getfield 41, 3) := by decide +kernel
theorem dX4_follows_43 : decode cX4_follows 43 = .ok (.aload_n 0, 1) := by decide +kernel
theorem dX4_follows_44 : decode cX4_follows 44 = .ok (.getfield 15, 3) := by decide +kernel
theorem dX4_follows_47 : decode cX4_follows 47 = .ok (.iload_n 1, 1) := by decide +kernel
theorem dX4_follows_48 : decode cX4_follows 48 = .ok (.aaload, 1) := by decide +kernel
theorem dX4_follows_49 : decode cX4_follows 49 = .ok (.getfield 41, 3) := by decide +kernel
theorem dX4_follows_52 : decode cX4_follows 52 = .ok (.if_icmp .ne 7, 3) := by decide +kernel
theorem dX4_follows_55 : decode cX4_follows 55 = .ok (.iconst 1, 1) := by decide +kernel
theorem dX4_follows_56 : decode cX4_follows 56 = .ok (.goto 4, 3) := by decide +kernel
theorem dX4_follows_59 : decode cX4_follows 59 = .ok (.iconst 0, 1) := by decide +kernel
theorem dX4_follows_60 : decode cX4_follows 60 = .ok (.ireturn, 1) := by decide +kernel
theorem dX4_offer_0 : decode cX4_offer 0 = .ok (.aload_n 0, 1) := by decide +kernel
theorem dX4_offer_1 : decode cX4_offer 1 = .ok (.getfield 64, 3) := by decide +kernel
theorem dX4_offer_4 : decode cX4_offer 4 = .ok (.iconst (-1), 1) := by decide +kernel
theorem dX4_offer_5 : decode cX4_offer 5 = .ok (.if_icmp .ne 7, 3) := by decide +kernel
theorem dX4_offer_8 : decode cX4_offer 8 = .ok (.iconst (-1), 1) := by decide +kernel
theorem dX4_offer_9 : decode cX4_offer 9 = .ok (.goto 15, 3) := by decide +kernel
theorem dX4_offer_12 : decode cX4_offer 12 = .ok (.iload_n 1, 1) := by decide +kernel
theorem dX4_offer_13 : decode cX4_offer 13 = .ok (.invokestatic 75, 3) := by decide +kernel
theorem dX4_offer_16 : decode cX4_offer 16 = .ok (.aload_n 0, 1) := by decide +kernel
theorem dX4_offer_17 : decode cX4_offer 17 = .ok (.getfield 64, 3) := by decide +kernel
theorem dX4_offer_20 : decode cX4_offer 20 = .ok (.invokestatic 75, 3) := by decide +kernel
theorem dX4_offer_23 : decode cX4_offer 23 = .ok (.isub, 1) := by decide +kernel
theorem dX4_offer_24 : decode cX4_offer 24 = .ok (.istore_n 2, 1) := by decide +kernel
theorem dX4_offer_25 : decode cX4_offer 25 = .ok (.iload_n 2, 1) := by decide +kernel
theorem dX4_offer_26 : decode cX4_offer 26 = .ok (.ifCond .lt 15, 3) := by decide +kernel
theorem dX4_offer_29 : decode cX4_offer 29 = .ok (.iload_n 2, 1) := by decide +kernel
theorem dX4_offer_30 : decode cX4_offer 30 = .ok (.ifCond .ne 16, 3) := by decide +kernel
theorem dX4_offer_33 : decode cX4_offer 33 = .ok (.iload_n 1, 1) := by decide +kernel
theorem dX4_offer_34 : decode cX4_offer 34 = .ok (.aload_n 0, 1) := by decide +kernel
theorem dX4_offer_35 : decode cX4_offer 35 = .ok (.getfield 64, 3) := by decide +kernel
theorem dX4_offer_38 : decode cX4_offer 38 = .ok (.if_icmp .ge 8, 3) := by decide +kernel
theorem dX4_offer_41 : decode cX4_offer 41 = .ok (.aload_n 0, 1) := by decide +kernel
theorem dX4_offer_42 : decode cX4_offer 42 = .ok (.iload_n 1, 1) := by decide +kernel
theorem dX4_offer_43 : decode cX4_offer 43 = .ok (.putfield 64, 3) := by decide +kernel
theorem dX4_offer_46 : decode cX4_offer 46 = .ok (.return_, 1) := by decide +kernel
theorem dX5_init_0 : decode cX5_init 0 = .ok (.aload_n 0, 1) := by decide +kernel
theorem dX5_init_1 : decode cX5_init 1 = .ok (.invokespecial 3, 3) := by decide +kernel
theorem dX5_init_4 : decode cX5_init 4 = .ok (.aload_n 0, 1) := by decide +kernel
theorem dX5_init_5 : decode cX5_init 5 = .ok (.iconst (-1), 1) := by decide +kernel
theorem dX5_init_6 : decode cX5_init 6 = .ok (.putfield 9, 3) := by decide +kernel
theorem dX5_init_9 : decode cX5_init 9 = .ok (.aload_n 0, 1) := by decide +kernel
theorem dX5_init_10 : decode cX5_init 10 = .ok (.iconst (-1), 1) := by decide +kernel
theorem dX5_init_11 : decode cX5_init 11 = .ok (.putfield 15, 3) := by decide +kernel
theorem dX5_init_14 : decode cX5_init 14 = .ok (.aload_n 0, 1) := by decide +kernel
theorem dX5_init_15 : decode cX5_init 15 = .ok (.iload_n 1, 1) := by decide +kernel
theorem dX5_init_16 : decode cX5_init 16 = .ok (.putfield 18, 3) := by decide +kernel
theorem dX5_init_19 : decode cX5_init 19 = .ok (.aload_n 0, 1) := by decide +kernel
theorem dX5_init_20 : decode cX5_init 20 = .ok (.aload_n 2, 1) := by decide +kernel
theorem dX5_init_21 : decode cX5_init 21 = .ok (.putfield 21, 3) := by decide +kernel
theorem dX5_init_24 : decode cX5_init 24 = .ok (.aload_n 0, 1) := by decide +kernel
theorem dX5_init_25 : decode cX5_init 25 = .ok (.iload_n 3, 1) := by decide +kernel
theorem dX5_init_26 : decode cX5_init 26 = .ok (.putfield 25, 3) := by decide +kernel
theorem dX5_init_29 : decode cX5_init 29 = .ok (.aload_n 0, 1) := by decide +kernel
theorem dX5_init_30 : decode cX5_init 30 = .ok (.iload 4, 2) := by decide +kernel
theorem dX5_init_32 : decode cX5_init 32 = .ok (.putfield 28, 3) := by decide +kernel
theorem dX5_init_35 : decode cX5_init 35 = .ok (.aload_n 0, 1) := by decide +kernel
theorem dX5_init_36 : decode cX5_init 36 = .ok (.iload 5, 2) := by decide +kernel
theorem dX5_init_38 : decode cX5_init 38 = .ok (.putfield 31, 3) := by decide +kernel
theorem dX5_init_41 : decode cX5_init 41 = .ok (.aload_n 0, 1) := by decide +kernel
theorem dX5_init_42 : decode cX5_init 42 = .ok (.iload 6, 2) := by decide +kernel
theorem dX5_init_44 : decode cX5_init 44 = .ok (.putfield 34, 3) := by decide +kernel
theorem dX5_init_47 : decode cX5_init 47 = .ok (.aload_n 0, 1) := by decide +kernel
theorem dX5_init_48 : decode cX5_init 48 = .ok (.iload 7, 2) := by decide +kernel
theorem dX5_init_50 : decode cX5_init 50 = .ok (.putfield 37, 3) := by decide +kernel
theorem dX5_init_53 : decode cX5_init 53 = .ok (.return_, 1) := by decide +kernel
theorem dX5_due_0 : decode cX5_due 0 = .ok (.aload_n 0, 1) := by decide +kernel
theorem dX5_due_1 : decode cX5_due 1 = .ok (.getfield 34, 3) := by decide +kernel
theorem dX5_due_4 : decode cX5_due 4 = .ok (.aload_n 0, 1) := by decide +kernel
theorem dX5_due_5 : decode cX5_due 5 = .ok (.getfield 31, 3) := by decide +kernel
theorem dX5_due_8 : decode cX5_due 8 = .ok (.imul, 1) := by decide +kernel
theorem dX5_due_9 : decode cX5_due 9 = .ok (.ireturn, 1) := by decide +kernel
theorem dX5_passHour_0 : decode cX5_passHour 0 = .ok (.iload_n 1, 1) := by decide +kernel
theorem dX5_passHour_1 : decode cX5_passHour 1 = .ok (.ifCond .ne 10, 3) := by decide +kernel
theorem dX5_passHour_4 : decode cX5_passHour 4 = .ok (.aload_n 0, 1) := by decide +kernel
theorem dX5_passHour_5 : decode cX5_passHour 5 = .ok (.invokevirtual 40, 3) := by decide +kernel
theorem dX5_passHour_8 : decode cX5_passHour 8 = .ok (.goto 7, 3) := by decide +kernel
theorem dX5_passHour_11 : decode cX5_passHour 11 = .ok (.aload_n 0, 1) := by decide +kernel
theorem dX5_passHour_12 : decode cX5_passHour 12 = .ok (.invokevirtual 44, 3) := by decide +kernel
theorem dX5_passHour_15 : decode cX5_passHour 15 = .ok (.ireturn, 1) := by decide +kernel
theorem dX5_thingHour_0 : decode cX5_thingHour 0 = .ok (.aload_n 0, 1) := by decide +kernel
theorem dX5_thingHour_1 : decode cX5_thingHour 1 = .ok (.getfield 18, 3) := by decide +kernel
theorem dX5_thingHour_4 : decode cX5_thingHour 4 = .ok (.tableswitch 111 1 5 #[36, 53, 99, 70, 99], 36) := by decide +kernel
theorem dX5_thingHour_40 : decode cX5_thingHour 40 = .ok (.aload_n 0, 1) := by decide +kernel
theorem dX5_thingHour_41 : decode cX5_thingHour 41 = .ok (.getfield 21, 3) := by decide +kernel
theorem dX5_thingHour_44 : decode cX5_thingHour 44 = .ok (.getfield 47, 3) := by decide +kernel
theorem dX5_thingHour_47 : decode cX5_thingHour 47 = .ok (.iconst 0, 1) := by decide +kernel
theorem dX5_thingHour_48 : decode cX5_thingHour 48 = .ok (.iaload, 1) := by decide +kernel
theorem dX5_thingHour_49 : decode cX5_thingHour 49 = .ok (.aload_n 0, 1) := by decide +kernel
theorem dX5_thingHour_50 : decode cX5_thingHour 50 = .ok (.getfield 37, 3) := by decide +kernel
theorem dX5_thingHour_53 : decode cX5_thingHour 53 = .ok (.invokestatic 53, 3) := by decide +kernel
theorem dX5_thingHour_56 : decode cX5_thingHour 56 = .ok (.ireturn, 1) := by decide +kernel
theorem dX5_thingHour_57 : decode cX5_thingHour 57 = .ok (.aload_n 0, 1) := by decide +kernel
theorem dX5_thingHour_58 : decode cX5_thingHour 58 = .ok (.getfield 21, 3) := by decide +kernel
theorem dX5_thingHour_61 : decode cX5_thingHour 61 = .ok (.getfield 47, 3) := by decide +kernel
theorem dX5_thingHour_64 : decode cX5_thingHour 64 = .ok (.iconst 1, 1) := by decide +kernel
theorem dX5_thingHour_65 : decode cX5_thingHour 65 = .ok (.iaload, 1) := by decide +kernel
theorem dX5_thingHour_66 : decode cX5_thingHour 66 = .ok (.aload_n 0, 1) := by decide +kernel
theorem dX5_thingHour_67 : decode cX5_thingHour 67 = .ok (.getfield 37, 3) := by decide +kernel
theorem dX5_thingHour_70 : decode cX5_thingHour 70 = .ok (.invokestatic 53, 3) := by decide +kernel
theorem dX5_thingHour_73 : decode cX5_thingHour 73 = .ok (.ireturn, 1) := by decide +kernel
theorem dX5_thingHour_74 : decode cX5_thingHour 74 = .ok (.aload_n 0, 1) := by decide +kernel
theorem dX5_thingHour_75 : decode cX5_thingHour 75 = .ok (.getfield 21, 3) := by decide +kernel
theorem dX5_thingHour_78 : decode cX5_thingHour 78 = .ok (.getfield 47, 3) := by decide +kernel
theorem dX5_thingHour_81 : decode cX5_thingHour 81 = .ok (.iconst 2, 1) := by decide +kernel
theorem dX5_thingHour_82 : decode cX5_thingHour 82 = .ok (.iaload, 1) := by decide +kernel
theorem dX5_thingHour_83 : decode cX5_thingHour 83 = .ok (.aload_n 0, 1) := by decide +kernel
theorem dX5_thingHour_84 : decode cX5_thingHour 84 = .ok (.getfield 21, 3) := by decide +kernel
theorem dX5_thingHour_87 : decode cX5_thingHour 87 = .ok (.getfield 47, 3) := by decide +kernel
theorem dX5_thingHour_90 : decode cX5_thingHour 90 = .ok (.iconst 1, 1) := by decide +kernel
theorem dX5_thingHour_91 : decode cX5_thingHour 91 = .ok (.iaload, 1) := by decide +kernel
theorem dX5_thingHour_92 : decode cX5_thingHour 92 = .ok (.aload_n 0, 1) := by decide +kernel
theorem dX5_thingHour_93 : decode cX5_thingHour 93 = .ok (.getfield 37, 3) := by decide +kernel
theorem dX5_thingHour_96 : decode cX5_thingHour 96 = .ok (.invokestatic 53, 3) := by decide +kernel
theorem dX5_thingHour_99 : decode cX5_thingHour 99 = .ok (.invokestatic 53, 3) := by decide +kernel
theorem dX5_thingHour_102 : decode cX5_thingHour 102 = .ok (.ireturn, 1) := by decide +kernel
theorem dX5_thingHour_103 : decode cX5_thingHour 103 = .ok (.aload_n 0, 1) := by decide +kernel
theorem dX5_thingHour_104 : decode cX5_thingHour 104 = .ok (.getfield 9, 3) := by decide +kernel
theorem dX5_thingHour_107 : decode cX5_thingHour 107 = .ok (.aload_n 0, 1) := by decide +kernel
theorem dX5_thingHour_108 : decode cX5_thingHour 108 = .ok (.getfield 37, 3) := by decide +kernel
theorem dX5_thingHour_111 : decode cX5_thingHour 111 = .ok (.invokestatic 53, 3) := by decide +kernel
theorem dX5_thingHour_114 : decode cX5_thingHour 114 = .ok (.ireturn, 1) := by decide +kernel
theorem dX5_thingHour_115 : decode cX5_thingHour 115 = .ok (.aload_n 0, 1) := by decide +kernel
theorem dX5_thingHour_116 : decode cX5_thingHour 116 = .ok (.getfield 37, 3) := by decide +kernel
theorem dX5_thingHour_119 : decode cX5_thingHour 119 = .ok (.ireturn, 1) := by decide +kernel
theorem dX5_lossHour_0 : decode cX5_lossHour 0 = .ok (.aload_n 0, 1) := by decide +kernel
theorem dX5_lossHour_1 : decode cX5_lossHour 1 = .ok (.getfield 18, 3) := by decide +kernel
theorem dX5_lossHour_4 : decode cX5_lossHour 4 = .ok (.tableswitch 91 1 5 #[36, 53, 36, 53, 70], 36) := by decide +kernel
theorem dX5_lossHour_40 : decode cX5_lossHour 40 = .ok (.aload_n 0, 1) := by decide +kernel
theorem dX5_lossHour_41 : decode cX5_lossHour 41 = .ok (.getfield 21, 3) := by decide +kernel
theorem dX5_lossHour_44 : decode cX5_lossHour 44 = .ok (.getfield 47, 3) := by decide +kernel
theorem dX5_lossHour_47 : decode cX5_lossHour 47 = .ok (.iconst 0, 1) := by decide +kernel
theorem dX5_lossHour_48 : decode cX5_lossHour 48 = .ok (.iaload, 1) := by decide +kernel
theorem dX5_lossHour_49 : decode cX5_lossHour 49 = .ok (.aload_n 0, 1) := by decide +kernel
theorem dX5_lossHour_50 : decode cX5_lossHour 50 = .ok (.getfield 37, 3) := by decide +kernel
theorem dX5_lossHour_53 : decode cX5_lossHour 53 = .ok (.invokestatic 53, 3) := by decide +kernel
theorem dX5_lossHour_56 : decode cX5_lossHour 56 = .ok (.ireturn, 1) := by decide +kernel
theorem dX5_lossHour_57 : decode cX5_lossHour 57 = .ok (.aload_n 0, 1) := by decide +kernel
theorem dX5_lossHour_58 : decode cX5_lossHour 58 = .ok (.getfield 21, 3) := by decide +kernel
theorem dX5_lossHour_61 : decode cX5_lossHour 61 = .ok (.getfield 47, 3) := by decide +kernel
theorem dX5_lossHour_64 : decode cX5_lossHour 64 = .ok (.iconst 1, 1) := by decide +kernel
theorem dX5_lossHour_65 : decode cX5_lossHour 65 = .ok (.iaload, 1) := by decide +kernel
theorem dX5_lossHour_66 : decode cX5_lossHour 66 = .ok (.aload_n 0, 1) := by decide +kernel
theorem dX5_lossHour_67 : decode cX5_lossHour 67 = .ok (.getfield 37, 3) := by decide +kernel
theorem dX5_lossHour_70 : decode cX5_lossHour 70 = .ok (.invokestatic 53, 3) := by decide +kernel
theorem dX5_lossHour_73 : decode cX5_lossHour 73 = .ok (.ireturn, 1) := by decide +kernel
theorem dX5_lossHour_74 : decode cX5_lossHour 74 = .ok (.aload_n 0, 1) := by decide +kernel
theorem dX5_lossHour_75 : decode cX5_lossHour 75 = .ok (.aload_n 0, 1) := by decide +kernel
theorem dX5_lossHour_76 : decode cX5_lossHour 76 = .ok (.getfield 21, 3) := by decide +kernel
theorem dX5_lossHour_79 : decode cX5_lossHour 79 = .ok (.getfield 47, 3) := by decide +kernel
theorem dX5_lossHour_82 : decode cX5_lossHour 82 = .ok (.iconst 0, 1) := by decide +kernel
theorem dX5_lossHour_83 : decode cX5_lossHour 83 = .ok (.iaload, 1) := by decide +kernel
theorem dX5_lossHour_84 : decode cX5_lossHour 84 = .ok (.aload_n 0, 1) := by decide +kernel
theorem dX5_lossHour_85 : decode cX5_lossHour 85 = .ok (.getfield 37, 3) := by decide +kernel
theorem dX5_lossHour_88 : decode cX5_lossHour 88 = .ok (.invokestatic 53, 3) := by decide +kernel
theorem dX5_lossHour_91 : decode cX5_lossHour 91 = .ok (.invokevirtual 57, 3) := by decide +kernel
theorem dX5_lossHour_94 : decode cX5_lossHour 94 = .ok (.ireturn, 1) := by decide +kernel
theorem dX5_lossHour_95 : decode cX5_lossHour 95 = .ok (.aload_n 0, 1) := by decide +kernel
theorem dX5_lossHour_96 : decode cX5_lossHour 96 = .ok (.getfield 37, 3) := by decide +kernel
theorem dX5_lossHour_99 : decode cX5_lossHour 99 = .ok (.ireturn, 1) := by decide +kernel
theorem dX5_laterOf_0 : decode cX5_laterOf 0 = .ok (.iload_n 0, 1) := by decide +kernel
theorem dX5_laterOf_1 : decode cX5_laterOf 1 = .ok (.iconst (-1), 1) := by decide +kernel
theorem dX5_laterOf_2 : decode cX5_laterOf 2 = .ok (.if_icmp .ne 9, 3) := by decide +kernel
theorem dX5_laterOf_5 : decode cX5_laterOf 5 = .ok (.sipush 1000, 3) := by decide +kernel
theorem dX5_laterOf_8 : decode cX5_laterOf 8 = .ok (.goto 8, 3) := by decide +kernel
theorem dX5_laterOf_11 : decode cX5_laterOf 11 = .ok (.iload_n 0, 1) := by decide +kernel
theorem dX5_laterOf_12 : decode cX5_laterOf 12 = .ok (.iload_n 1, 1) := by decide +kernel
theorem dX5_laterOf_13 : decode cX5_laterOf 13 = .ok (.invokestatic 61, 3) := by decide +kernel
theorem dX5_laterOf_16 : decode cX5_laterOf 16 = .ok (.ireturn, 1) := by decide +kernel
theorem dX5_halfWayTo_0 : decode cX5_halfWayTo 0 = .ok (.iload_n 1, 1) := by decide +kernel
theorem dX5_halfWayTo_1 : decode cX5_halfWayTo 1 = .ok (.sipush 1000, 3) := by decide +kernel
theorem dX5_halfWayTo_4 : decode cX5_halfWayTo 4 = .ok (.if_icmp .ne 9, 3) := by decide +kernel
theorem dX5_halfWayTo_7 : decode cX5_halfWayTo 7 = .ok (.sipush 1000, 3) := by decide +kernel
theorem dX5_halfWayTo_10 : decode cX5_halfWayTo 10 = .ok (.goto 16, 3) := by decide +kernel
theorem dX5_halfWayTo_13 : decode cX5_halfWayTo 13 = .ok (.aload_n 0, 1) := by decide +kernel
theorem dX5_halfWayTo_14 : decode cX5_halfWayTo 14 = .ok (.getfield 37, 3) := by decide +kernel
theorem dX5_halfWayTo_17 : decode cX5_halfWayTo 17 = .ok (.iload_n 1, 1) := by decide +kernel
theorem dX5_halfWayTo_18 : decode cX5_halfWayTo 18 = .ok (.aload_n 0, 1) := by decide +kernel
theorem dX5_halfWayTo_19 : decode cX5_halfWayTo 19 = .ok (.getfield 37, 3) := by decide +kernel
theorem dX5_halfWayTo_22 : decode cX5_halfWayTo 22 = .ok (.isub, 1) := by decide +kernel
theorem dX5_halfWayTo_23 : decode cX5_halfWayTo 23 = .ok (.iconst 2, 1) := by decide +kernel
theorem dX5_halfWayTo_24 : decode cX5_halfWayTo 24 = .ok (.idiv, 1) := by decide +kernel
theorem dX5_halfWayTo_25 : decode cX5_halfWayTo 25 = .ok (.iadd, 1) := by decide +kernel
theorem dX5_halfWayTo_26 : decode cX5_halfWayTo 26 = .ok (.ireturn, 1) := by decide +kernel
theorem dX5_tell_0 : decode cX5_tell 0 = .ok (.iload_n 1, 1) := by decide +kernel
theorem dX5_tell_1 : decode cX5_tell 1 = .ok (.tableswitch 117 0 10 #[59, 64, 72, 77, 82, 87, 92, 97, 102, 107, 112], 59) := by decide +kernel
theorem dX5_tell_60 : decode cX5_tell 60 = .ok (.aload_n 0, 1) := by decide +kernel
theorem dX5_tell_61 : decode cX5_tell 61 = .ok (.getfield 18, 3) := by decide +kernel
theorem dX5_tell_64 : decode cX5_tell 64 = .ok (.ireturn, 1) := by decide +kernel
theorem dX5_tell_65 : decode cX5_tell 65 = .ok (.aload_n 0, 1) := by decide +kernel
theorem dX5_tell_66 : decode cX5_tell 66 = .ok (.getfield 21, 3) := by decide +kernel
theorem dX5_tell_69 : decode cX5_tell 69 = .ok (.getfield 66, 3) := by decide +kernel
theorem dX5_tell_72 : decode cX5_tell 72 = .ok (.ireturn, 1) := by decide +kernel
theorem dX5_tell_73 : decode cX5_tell 73 = .ok (.aload_n 0, 1) := by decide +kernel
theorem dX5_tell_74 : decode cX5_tell 74 = .ok (.getfield 25, 3) := by decide +kernel
theorem dX5_tell_77 : decode cX5_tell 77 = .ok (.ireturn, 1) := by decide +kernel
theorem dX5_tell_78 : decode cX5_tell 78 = .ok (.aload_n 0, 1) := by decide +kernel
theorem dX5_tell_79 : decode cX5_tell 79 = .ok (.getfield 28, 3) := by decide +kernel
theorem dX5_tell_82 : decode cX5_tell 82 = .ok (.ireturn, 1) := by decide +kernel
theorem dX5_tell_83 : decode cX5_tell 83 = .ok (.aload_n 0, 1) := by decide +kernel
theorem dX5_tell_84 : decode cX5_tell 84 = .ok (.getfield 31, 3) := by decide +kernel
theorem dX5_tell_87 : decode cX5_tell 87 = .ok (.ireturn, 1) := by decide +kernel
theorem dX5_tell_88 : decode cX5_tell 88 = .ok (.aload_n 0, 1) := by decide +kernel
theorem dX5_tell_89 : decode cX5_tell 89 = .ok (.getfield 34, 3) := by decide +kernel
theorem dX5_tell_92 : decode cX5_tell 92 = .ok (.ireturn, 1) := by decide +kernel
theorem dX5_tell_93 : decode cX5_tell 93 = .ok (.aload_n 0, 1) := by decide +kernel
theorem dX5_tell_94 : decode cX5_tell 94 = .ok (.getfield 37, 3) := by decide +kernel
theorem dX5_tell_97 : decode cX5_tell 97 = .ok (.ireturn, 1) := by decide +kernel
theorem dX5_tell_98 : decode cX5_tell 98 = .ok (.aload_n 0, 1) := by decide +kernel
theorem dX5_tell_99 : decode cX5_tell 99 = .ok (.getfield 9, 3) := by decide +kernel
theorem dX5_tell_102 : decode cX5_tell 102 = .ok (.ireturn, 1) := by decide +kernel
theorem dX5_tell_103 : decode cX5_tell 103 = .ok (.aload_n 0, 1) := by decide +kernel
theorem dX5_tell_104 : decode cX5_tell 104 = .ok (.getfield 69, 3) := by decide +kernel
theorem dX5_tell_107 : decode cX5_tell 107 = .ok (.ireturn, 1) := by decide +kernel
theorem dX5_tell_108 : decode cX5_tell 108 = .ok (.aload_n 0, 1) := by decide +kernel
theorem dX5_tell_109 : decode cX5_tell 109 = .ok (.invokevirtual 40, 3) := by decide +kernel
theorem dX5_tell_112 : decode cX5_tell 112 = .ok (.ireturn, 1) := by decide +kernel
theorem dX5_tell_113 : decode cX5_tell 113 = .ok (.aload_n 0, 1) := by decide +kernel
theorem dX5_tell_114 : decode cX5_tell 114 = .ok (.invokevirtual 44, 3) := by decide +kernel
theorem dX5_tell_117 : decode cX5_tell 117 = .ok (.ireturn, 1) := by decide +kernel
theorem dX5_tell_118 : decode cX5_tell 118 = .ok (.bipush (-5), 2) := by decide +kernel
theorem dX5_tell_120 : decode cX5_tell 120 = .ok (.ireturn, 1) := by decide +kernel
theorem dX5_keep_0 : decode cX5_keep 0 = .ok (.aload_n 0, 1) := by decide +kernel
theorem dX5_keep_1 : decode cX5_keep 1 = .ok (.aload_n 0, 1) := by decide +kernel
theorem dX5_keep_2 : decode cX5_keep 2 = .ok (.getfield 9, 3) := by decide +kernel
theorem dX5_keep_5 : decode cX5_keep 5 = .ok (.putfield 15, 3) := by decide +kernel
theorem dX5_keep_8 : decode cX5_keep 8 = .ok (.aload_n 0, 1) := by decide +kernel
theorem dX5_keep_9 : decode cX5_keep 9 = .ok (.aload_n 0, 1) := by decide +kernel
theorem dX5_keep_10 : decode cX5_keep 10 = .ok (.getfield 69, 3) := by decide +kernel
theorem dX5_keep_13 : decode cX5_keep 13 = .ok (.putfield 72, 3) := by decide +kernel
theorem dX5_keep_16 : decode cX5_keep 16 = .ok (.return_, 1) := by decide +kernel
theorem dX5_layBack_0 : decode cX5_layBack 0 = .ok (.aload_n 0, 1) := by decide +kernel
theorem dX5_layBack_1 : decode cX5_layBack 1 = .ok (.aload_n 0, 1) := by decide +kernel
theorem dX5_layBack_2 : decode cX5_layBack 2 = .ok (.getfield 15, 3) := by decide +kernel
theorem dX5_layBack_5 : decode cX5_layBack 5 = .ok (.putfield 9, 3) := by decide +kernel
theorem dX5_layBack_8 : decode cX5_layBack 8 = .ok (.aload_n 0, 1) := by decide +kernel
theorem dX5_layBack_9 : decode cX5_layBack 9 = .ok (.aload_n 0, 1) := by decide +kernel
theorem dX5_layBack_10 : decode cX5_layBack 10 = .ok (.getfield 72, 3) := by decide +kernel
theorem dX5_layBack_13 : decode cX5_layBack 13 = .ok (.putfield 69, 3) := by decide +kernel
theorem dX5_layBack_16 : decode cX5_layBack 16 = .ok (.return_, 1) := by decide +kernel
theorem dX6_init_0 : decode cX6_init 0 = .ok (.aload_n 0, 1) := by decide +kernel
theorem dX6_init_1 : decode cX6_init 1 = .ok (.invokespecial 3, 3) := by decide +kernel
theorem dX6_init_4 : decode cX6_init 4 = .ok (.aload_n 0, 1) := by decide +kernel
theorem dX6_init_5 : decode cX6_init 5 = .ok (.bipush 40, 2) := by decide +kernel
theorem dX6_init_7 : decode cX6_init 7 = .ok (.newarray .int, 2) := by decide +kernel
theorem dX6_init_9 : decode cX6_init 9 = .ok (.putfield 9, 3) := by decide +kernel
theorem dX6_init_12 : decode cX6_init 12 = .ok (.aload_n 0, 1) := by decide +kernel
theorem dX6_init_13 : decode cX6_init 13 = .ok (.iconst (-1), 1) := by decide +kernel
theorem dX6_init_14 : decode cX6_init 14 = .ok (.putfield 15, 3) := by decide +kernel
theorem dX6_init_17 : decode cX6_init 17 = .ok (.return_, 1) := by decide +kernel
theorem dX6_become_0 : decode cX6_become 0 = .ok (.aload_n 0, 1) := by decide +kernel
theorem dX6_become_1 : decode cX6_become 1 = .ok (.iload_n 1, 1) := by decide +kernel
theorem dX6_become_2 : decode cX6_become 2 = .ok (.putfield 15, 3) := by decide +kernel
theorem dX6_become_5 : decode cX6_become 5 = .ok (.aload_n 0, 1) := by decide +kernel
theorem dX6_become_6 : decode cX6_become 6 = .ok (.iload_n 2, 1) := by decide +kernel
theorem dX6_become_7 : decode cX6_become 7 = .ok (.putfield 19, 3) := by decide +kernel
theorem dX6_become_10 : decode cX6_become 10 = .ok (.aload_n 0, 1) := by decide +kernel
theorem dX6_become_11 : decode cX6_become 11 = .ok (.getfield 9, 3) := by decide +kernel
theorem dX6_become_14 : decode cX6_become 14 = .ok (.iconst 0, 1) := by decide +kernel
theorem dX6_become_15 : decode cX6_become 15 = .ok (.invokestatic 22, 3) := by decide +kernel
theorem dX6_become_18 : decode cX6_become 18 = .ok (.return_, 1) := by decide +kernel
theorem dX6_put_0 : decode cX6_put 0 = .ok (.aload_n 0, 1) := by decide +kernel
theorem dX6_put_1 : decode cX6_put 1 = .ok (.getfield 9, 3) := by decide +kernel
theorem dX6_put_4 : decode cX6_put 4 = .ok (.iload_n 1, 1) := by decide +kernel
theorem dX6_put_5 : decode cX6_put 5 = .ok (.aload_n 0, 1) := by decide +kernel
theorem dX6_put_6 : decode cX6_put 6 = .ok (.getfield 15, 3) := by decide +kernel
theorem dX6_put_9 : decode cX6_put 9 = .ok (.ifCond .ne 8, 3) := by decide +kernel
theorem dX6_put_12 : decode cX6_put 12 = .ok (.iload_n 2, 1) := by decide +kernel
theorem dX6_put_13 : decode cX6_put 13 = .ok (.i2b, 1) := by decide +kernel
theorem dX6_put_14 : decode cX6_put 14 = .ok (.goto 17, 3) := by decide +kernel
theorem dX6_put_17 : decode cX6_put 17 = .ok (.aload_n 0, 1) := by decide +kernel
theorem dX6_put_18 : decode cX6_put 18 = .ok (.getfield 15, 3) := by decide +kernel
theorem dX6_put_21 : decode cX6_put 21 = .ok (.iconst 1, 1) := by decide +kernel
theorem dX6_put_22 : decode cX6_put 22 = .ok (.if_icmp .ne 8, 3) := by decide +kernel
theorem dX6_put_25 : decode cX6_put 25 = .ok (.iload_n 2, 1) := by decide +kernel
theorem dX6_put_26 : decode cX6_put 26 = .ok (.i2s, 1) := by decide +kernel
theorem dX6_put_27 : decode cX6_put 27 = .ok (.goto 4, 3) := by decide +kernel
theorem dX6_put_30 : decode cX6_put 30 = .ok (.iload_n 2, 1) := by decide +kernel
theorem dX6_put_31 : decode cX6_put 31 = .ok (.iastore, 1) := by decide +kernel
theorem dX6_put_32 : decode cX6_put 32 = .ok (.return_, 1) := by decide +kernel
theorem dX6_has_0 : decode cX6_has 0 = .ok (.iload_n 2, 1) := by decide +kernel
theorem dX6_has_1 : decode cX6_has 1 = .ok (.ifCond .lt 21, 3) := by decide +kernel
theorem dX6_has_4 : decode cX6_has 4 = .ok (.iload_n 1, 1) := by decide +kernel
theorem dX6_has_5 : decode cX6_has 5 = .ok (.ifCond .lt 17, 3) := by decide +kernel
theorem dX6_has_8 : decode cX6_has 8 = .ok (.iload_n 1, 1) := by decide +kernel
theorem dX6_has_9 : decode cX6_has 9 = .ok (.aload_n 0, 1) := by decide +kernel
theorem dX6_has_10 : decode cX6_has 10 = .ok (.getfield 19, 3) := by decide +kernel
theorem dX6_has_13 : decode cX6_has 13 = .ok (.iload_n 2, 1) := by decide +kernel
theorem dX6_has_14 : decode cX6_has 14 = .ok (.isub, 1) := by decide +kernel
theorem dX6_has_15 : decode cX6_has 15 = .ok (.if_icmp .gt 7, 3) := by decide +kernel
theorem dX6_has_18 : decode cX6_has 18 = .ok (.iconst 1, 1) := by decide +kernel
theorem dX6_has_19 : decode cX6_has 19 = .ok (.goto 4, 3) := by decide +kernel
theorem dX6_has_22 : decode cX6_has 22 = .ok (.iconst 0, 1) := by decide +kernel
theorem dX6_has_23 : decode cX6_has 23 = .ok (.ireturn, 1) := by decide +kernel
theorem dX7_init_0 : decode cX7_init 0 = .ok (.aload_n 0, 1) := by decide +kernel
theorem dX7_init_1 : decode cX7_init 1 = .ok (.invokespecial 3, 3) := by decide +kernel
theorem dX7_init_4 : decode cX7_init 4 = .ok (.aload_n 0, 1) := by decide +kernel
theorem dX7_init_5 : decode cX7_init 5 = .ok (.aload_n 1, 1) := by decide +kernel
theorem dX7_init_6 : decode cX7_init 6 = .ok (.putfield 9, 3) := by decide +kernel
theorem dX7_init_9 : decode cX7_init 9 = .ok (.aload_n 0, 1) := by decide +kernel
theorem dX7_init_10 : decode cX7_init 10 = .ok (.aload_n 2, 1) := by decide +kernel
theorem dX7_init_11 : decode cX7_init 11 = .ok (.putfield 15, 3) := by decide +kernel
theorem dX7_init_14 : decode cX7_init 14 = .ok (.return_, 1) := by decide +kernel
theorem dX7_startOf_0 : decode cX7_startOf 0 = .ok (.iload_n 1, 1) := by decide +kernel
theorem dX7_startOf_1 : decode cX7_startOf 1 = .ok (.ifCond .ne 7, 3) := by decide +kernel
theorem dX7_startOf_4 : decode cX7_startOf 4 = .ok (.iconst 0, 1) := by decide +kernel
theorem dX7_startOf_5 : decode cX7_startOf 5 = .ok (.goto 11, 3) := by decide +kernel
theorem dX7_startOf_8 : decode cX7_startOf 8 = .ok (.aload_n 0, 1) := by decide +kernel
theorem dX7_startOf_9 : decode cX7_startOf 9 = .ok (.getfield 15, 3) := by decide +kernel
theorem dX7_startOf_12 : decode cX7_startOf 12 = .ok (.iload_n 1, 1) := by decide +kernel
theorem dX7_startOf_13 : decode cX7_startOf 13 = .ok (.iconst 1, 1) := by decide +kernel
theorem dX7_startOf_14 : decode cX7_startOf 14 = .ok (.isub, 1) := by decide +kernel
theorem dX7_startOf_15 : decode cX7_startOf 15 = .ok (.iaload, 1) := by decide +kernel
theorem dX7_startOf_16 : decode cX7_startOf 16 = .ok (.ireturn, 1) := by decide +kernel
theorem dX7_endOf_0 : decode cX7_endOf 0 = .ok (.aload_n 0, 1) := by decide +kernel
theorem dX7_endOf_1 : decode cX7_endOf 1 = .ok (.getfield 15, 3) := by decide +kernel
theorem dX7_endOf_4 : decode cX7_endOf 4 = .ok (.iload_n 1, 1) := by decide +kernel
theorem dX7_endOf_5 : decode cX7_endOf 5 = .ok (.iaload, 1) := by decide +kernel
theorem dX7_endOf_6 : decode cX7_endOf 6 = .ok (.ireturn, 1) := by decide +kernel
theorem dX7_codeAt_0 : decode cX7_codeAt 0 = .ok (.aload_n 0, 1) := by decide +kernel
theorem dX7_codeAt_1 : decode cX7_codeAt 1 = .ok (.getfield 9, 3) := by decide +kernel
theorem dX7_codeAt_4 : decode cX7_codeAt 4 = .ok (.iload_n 1, 1) := by decide +kernel
theorem dX7_codeAt_5 : decode cX7_codeAt 5 = .ok (.iaload, 1) := by decide +kernel
theorem dX7_codeAt_6 : decode cX7_codeAt 6 = .ok (.ireturn, 1) := by decide +kernel
theorem dX9_init_0 : decode cX9_init 0 = .ok (.aload_n 0, 1) := by decide +kernel
theorem dX9_init_1 : decode cX9_init 1 = .ok (.invokespecial 1, 3) := by decide +kernel
theorem dX9_init_4 : decode cX9_init 4 = .ok (.aload_n 0, 1) := by decide +kernel
theorem dX9_init_5 : decode cX9_init 5 = .ok (.iconst 4, 1) := by decide +kernel
theorem dX9_init_6 : decode cX9_init 6 = .ok (.anewarray 9, 3) := by decide +kernel
theorem dX9_init_9 : decode cX9_init 9 = .ok (.putfield 11, 3) := by decide +kernel
theorem dX9_init_12 : decode cX9_init 12 = .ok (.aload_n 0, 1) := by decide +kernel
theorem dX9_init_13 : decode cX9_init 13 = .ok (.bipush 24, 2) := by decide +kernel
theorem dX9_init_15 : decode cX9_init 15 = .ok (.anewarray 15, 3) := by decide +kernel
theorem dX9_init_18 : decode cX9_init 18 = .ok (.putfield 17, 3) := by decide +kernel
theorem dX9_init_21 : decode cX9_init 21 = .ok (.aload_n 0, 1) := by decide +kernel
theorem dX9_init_22 : decode cX9_init 22 = .ok (.bipush 6, 2) := by decide +kernel
theorem dX9_init_24 : decode cX9_init 24 = .ok (.anewarray 21, 3) := by decide +kernel
theorem dX9_init_27 : decode cX9_init 27 = .ok (.putfield 23, 3) := by decide +kernel
theorem dX9_init_30 : decode cX9_init 30 = .ok (.aload_n 0, 1) := by decide +kernel
theorem dX9_init_31 : decode cX9_init 31 = .ok (.new 27, 3) := by decide +kernel
theorem dX9_init_34 : decode cX9_init 34 = .ok (.dup, 1) := by decide +kernel
theorem dX9_init_35 : decode cX9_init 35 = .ok (.invokespecial 29, 3) := by decide +kernel
theorem dX9_init_38 : decode cX9_init 38 = .ok (.putfield 30, 3) := by decide +kernel
theorem dX9_init_41 : decode cX9_init 41 = .ok (.aload_n 0, 1) := by decide +kernel
theorem dX9_init_42 : decode cX9_init 42 = .ok (.new 34, 3) := by decide +kernel
theorem dX9_init_45 : decode cX9_init 45 = .ok (.dup, 1) := by decide +kernel
theorem dX9_init_46 : decode cX9_init 46 = .ok (.invokespecial 36, 3) := by decide +kernel
theorem dX9_init_49 : decode cX9_init 49 = .ok (.putfield 37, 3) := by decide +kernel
theorem dX9_init_52 : decode cX9_init 52 = .ok (.aload_n 0, 1) := by decide +kernel
theorem dX9_init_53 : decode cX9_init 53 = .ok (.new 41, 3) := by decide +kernel
theorem dX9_init_56 : decode cX9_init 56 = .ok (.dup, 1) := by decide +kernel
theorem dX9_init_57 : decode cX9_init 57 = .ok (.invokespecial 43, 3) := by decide +kernel
theorem dX9_init_60 : decode cX9_init 60 = .ok (.putfield 44, 3) := by decide +kernel
theorem dX9_init_63 : decode cX9_init 63 = .ok (.aload_n 0, 1) := by decide +kernel
theorem dX9_init_64 : decode cX9_init 64 = .ok (.new 48, 3) := by decide +kernel
theorem dX9_init_67 : decode cX9_init 67 = .ok (.dup, 1) := by decide +kernel
theorem dX9_init_68 : decode cX9_init 68 = .ok (.invokespecial 50, 3) := by decide +kernel
theorem dX9_init_71 : decode cX9_init 71 = .ok (.putfield 51, 3) := by decide +kernel
theorem dX9_init_74 : decode cX9_init 74 = .ok (.aload_n 0, 1) := by decide +kernel
theorem dX9_init_75 : decode cX9_init 75 = .ok (.iconst 4, 1) := by decide +kernel
theorem dX9_init_76 : decode cX9_init 76 = .ok (.anewarray 55, 3) := by decide +kernel
theorem dX9_init_79 : decode cX9_init 79 = .ok (.putfield 57, 3) := by decide +kernel
theorem dX9_init_82 : decode cX9_init 82 = .ok (.aload_n 0, 1) := by decide +kernel
theorem dX9_init_83 : decode cX9_init 83 = .ok (.bipush 10, 2) := by decide +kernel
theorem dX9_init_85 : decode cX9_init 85 = .ok (.newarray .int, 2) := by decide +kernel
theorem dX9_init_87 : decode cX9_init 87 = .ok (.putfield 61, 3) := by decide +kernel
theorem dX9_init_90 : decode cX9_init 90 = .ok (.iconst 0, 1) := by decide +kernel
theorem dX9_init_91 : decode cX9_init 91 = .ok (.istore_n 1, 1) := by decide +kernel
theorem dX9_init_92 : decode cX9_init 92 = .ok (.iload_n 1, 1) := by decide +kernel
theorem dX9_init_93 : decode cX9_init 93 = .ok (.iconst 4, 1) := by decide +kernel
theorem dX9_init_94 : decode cX9_init 94 = .ok (.if_icmp .ge 22, 3) := by decide +kernel
theorem dX9_init_97 : decode cX9_init 97 = .ok (.aload_n 0, 1) := by decide +kernel
theorem dX9_init_98 : decode cX9_init 98 = .ok (.getfield 57, 3) := by decide +kernel
theorem dX9_init_101 : decode cX9_init 101 = .ok (.iload_n 1, 1) := by decide +kernel
theorem dX9_init_102 : decode cX9_init 102 = .ok (.new 55, 3) := by decide +kernel
theorem dX9_init_105 : decode cX9_init 105 = .ok (.dup, 1) := by decide +kernel
theorem dX9_init_106 : decode cX9_init 106 = .ok (.invokespecial 65, 3) := by decide +kernel
theorem dX9_init_109 : decode cX9_init 109 = .ok (.aastore, 1) := by decide +kernel
theorem dX9_init_110 : decode cX9_init 110 = .ok (.iinc 1 1, 3) := by decide +kernel
theorem dX9_init_113 : decode cX9_init 113 = .ok (.goto (-21), 3) := by decide +kernel
theorem dX9_init_116 : decode cX9_init 116 = .ok (.iconst 0, 1) := by decide +kernel
theorem dX9_init_117 : decode cX9_init 117 = .ok (.istore_n 1, 1) := by decide +kernel
theorem dX9_init_118 : decode cX9_init 118 = .ok (.iload_n 1, 1) := by decide +kernel
theorem dX9_init_119 : decode cX9_init 119 = .ok (.ldc 66, 2) := by decide +kernel
theorem dX9_init_121 : decode cX9_init 121 = .ok (.invokevirtual 68, 3) := by decide +kernel
theorem dX9_init_124 : decode cX9_init 124 = .ok (.if_icmp .ge 22, 3) := by decide +kernel
theorem dX9_init_127 : decode cX9_init 127 = .ok (.aload_n 0, 1) := by decide +kernel
theorem dX9_init_128 : decode cX9_init 128 = .ok (.getfield 30, 3) := by decide +kernel
theorem dX9_init_131 : decode cX9_init 131 = .ok (.ldc 66, 2) := by decide +kernel
theorem dX9_init_133 : decode cX9_init 133 = .ok (.iload_n 1, 1) := by decide +kernel
theorem dX9_init_134 : decode cX9_init 134 = .ok (.invokevirtual 74, 3) := by decide +kernel
theorem dX9_init_137 : decode cX9_init 137 = .ok (.invokevirtual 78, 3) := by decide +kernel
theorem dX9_init_140 : decode cX9_init 140 = .ok (.iinc 1 1, 3) := by decide +kernel
theorem dX9_init_143 : decode cX9_init 143 = .ok (.goto (-25), 3) := by decide +kernel
theorem dX9_init_146 : decode cX9_init 146 = .ok (.aload_n 0, 1) := by decide +kernel
theorem dX9_init_147 : decode cX9_init 147 = .ok (.getfield 30, 3) := by decide +kernel
theorem dX9_init_150 : decode cX9_init 150 = .ok (.invokevirtual 82, 3) := by decide +kernel
theorem dX9_init_153 : decode cX9_init 153 = .ok (.pop, 1) := by decide +kernel
theorem dX9_init_154 : decode cX9_init 154 = .ok (.aload_n 0, 1) := by decide +kernel
theorem dX9_init_155 : decode cX9_init 155 = .ok (.getfield 23, 3) := by decide +kernel
theorem dX9_init_158 : decode cX9_init 158 = .ok (.iconst 0, 1) := by decide +kernel
theorem dX9_init_159 : decode cX9_init 159 = .ok (.aload_n 0, 1) := by decide +kernel
theorem dX9_init_160 : decode cX9_init 160 = .ok (.getfield 30, 3) := by decide +kernel
theorem dX9_init_163 : decode cX9_init 163 = .ok (.invokevirtual 85, 3) := by decide +kernel
theorem dX9_init_166 : decode cX9_init 166 = .ok (.aastore, 1) := by decide +kernel
theorem dX9_init_167 : decode cX9_init 167 = .ok (.aload_n 0, 1) := by decide +kernel
theorem dX9_init_168 : decode cX9_init 168 = .ok (.iconst 1, 1) := by decide +kernel
theorem dX9_init_169 : decode cX9_init 169 = .ok (.putfield 89, 3) := by decide +kernel
theorem dX9_init_172 : decode cX9_init 172 = .ok (.aload_n 0, 1) := by decide +kernel
theorem dX9_init_173 : decode cX9_init 173 = .ok (.getfield 30, 3) := by decide +kernel
theorem dX9_init_176 : decode cX9_init 176 = .ok (.invokevirtual 93, 3) := by decide +kernel
theorem dX9_init_179 : decode cX9_init 179 = .ok (.return_, 1) := by decide +kernel
theorem dX9_cargo_0 : decode cX9_cargo 0 = .ok (.iload_n 1, 1) := by decide +kernel
theorem dX9_cargo_1 : decode cX9_cargo 1 = .ok (.invokestatic 96, 3) := by decide +kernel
theorem dX9_cargo_4 : decode cX9_cargo 4 = .ok (.ifCond .eq 10, 3) := by decide +kernel
theorem dX9_cargo_7 : decode cX9_cargo 7 = .ok (.iload_n 2, 1) := by decide +kernel
theorem dX9_cargo_8 : decode cX9_cargo 8 = .ok (.invokestatic 100, 3) := by decide +kernel
theorem dX9_cargo_11 : decode cX9_cargo 11 = .ok (.ifCond .ne 6, 3) := by decide +kernel
theorem dX9_cargo_14 : decode cX9_cargo 14 = .ok (.bipush (-2), 2) := by decide +kernel
theorem dX9_cargo_16 : decode cX9_cargo 16 = .ok (.ireturn, 1) := by decide +kernel
theorem dX9_cargo_17 : decode cX9_cargo 17 = .ok (.aload_n 0, 1) := by decide +kernel
theorem dX9_cargo_18 : decode cX9_cargo 18 = .ok (.getfield 103, 3) := by decide +kernel
theorem dX9_cargo_21 : decode cX9_cargo 21 = .ok (.iconst 4, 1) := by decide +kernel
theorem dX9_cargo_22 : decode cX9_cargo 22 = .ok (.if_icmp .lt 6, 3) := by decide +kernel
theorem dX9_cargo_25 : decode cX9_cargo 25 = .ok (.bipush (-4), 2) := by decide +kernel
theorem dX9_cargo_27 : decode cX9_cargo 27 = .ok (.ireturn, 1) := by decide +kernel
theorem dX9_cargo_28 : decode cX9_cargo 28 = .ok (.aload_n 0, 1) := by decide +kernel
theorem dX9_cargo_29 : decode cX9_cargo 29 = .ok (.getfield 11, 3) := by decide +kernel
theorem dX9_cargo_32 : decode cX9_cargo 32 = .ok (.aload_n 0, 1) := by decide +kernel
theorem dX9_cargo_33 : decode cX9_cargo 33 = .ok (.getfield 103, 3) := by decide +kernel
theorem dX9_cargo_36 : decode cX9_cargo 36 = .ok (.new 9, 3) := by decide +kernel
theorem dX9_cargo_39 : decode cX9_cargo 39 = .ok (.dup, 1) := by decide +kernel
theorem dX9_cargo_40 : decode cX9_cargo 40 = .ok (.aload_n 0, 1) := by decide +kernel
theorem dX9_cargo_41 : decode cX9_cargo 41 = .ok (.getfield 103, 3) := by decide +kernel
theorem dX9_cargo_44 : decode cX9_cargo 44 = .ok (.iload_n 1, 1) := by decide +kernel
theorem dX9_cargo_45 : decode cX9_cargo 45 = .ok (.iload_n 2, 1) := by decide +kernel
theorem dX9_cargo_46 : decode cX9_cargo 46 = .ok (.invokespecial 106, 3) := by decide +kernel
theorem dX9_cargo_49 : decode cX9_cargo 49 = .ok (.aastore, 1) := by decide +kernel
theorem dX9_cargo_50 : decode cX9_cargo 50 = .ok (.aload_n 0, 1) := by decide +kernel
theorem dX9_cargo_51 : decode cX9_cargo 51 = .ok (.dup, 1) := by decide +kernel
theorem dX9_cargo_52 : decode cX9_cargo 52 = .ok (.getfield 103, 3) := by decide +kernel
theorem dX9_cargo_55 : decode cX9_cargo 55 = .ok (.iconst 1, 1) := by decide +kernel
theorem dX9_cargo_56 : decode cX9_cargo 56 = .ok (.iadd, 1) := by decide +kernel
theorem dX9_cargo_57 : decode cX9_cargo 57 = .ok (.putfield 103, 3) := by decide +kernel
theorem dX9_cargo_60 : decode cX9_cargo 60 = .ok (.aload_n 0, 1) := by decide +kernel
theorem dX9_cargo_61 : decode cX9_cargo 61 = .ok (.getfield 103, 3) := by decide +kernel
theorem dX9_cargo_64 : decode cX9_cargo 64 = .ok (.iconst 1, 1) := by decide +kernel
theorem dX9_cargo_65 : decode cX9_cargo 65 = .ok (.isub, 1) := by decide +kernel
theorem dX9_cargo_66 : decode cX9_cargo 66 = .ok (.ireturn, 1) := by decide +kernel
theorem dX9_hour_0 : decode cX9_hour 0 = .ok (.aload_n 0, 1) := by decide +kernel
theorem dX9_hour_1 : decode cX9_hour 1 = .ok (.iload_n 1, 1) := by decide +kernel
theorem dX9_hour_2 : decode cX9_hour 2 = .ok (.invokevirtual 109, 3) := by decide +kernel
theorem dX9_hour_5 : decode cX9_hour 5 = .ok (.astore 4, 2) := by decide +kernel
theorem dX9_hour_7 : decode cX9_hour 7 = .ok (.aload 4, 2) := by decide +kernel
theorem dX9_hour_9 : decode cX9_hour 9 = .ok (.ifnull 19, 3) := by decide +kernel
theorem dX9_hour_12 : decode cX9_hour 12 = .ok (.iload_n 2, 1) := by decide +kernel
theorem dX9_hour_13 : decode cX9_hour 13 = .ok (.ifCond .lt 15, 3) := by decide +kernel
theorem dX9_hour_16 : decode cX9_hour 16 = .ok (.iload_n 2, 1) := by decide +kernel
theorem dX9_hour_17 : decode cX9_hour 17 = .ok (.iconst 3, 1) := by decide +kernel
theorem dX9_hour_18 : decode cX9_hour 18 = .ok (.if_icmp .ge 10, 3) := by decide +kernel
theorem dX9_hour_21 : decode cX9_hour 21 = .ok (.iload_n 3, 1) := by decide +kernel
theorem dX9_hour_22 : decode cX9_hour 22 = .ok (.invokestatic 113, 3) := by decide +kernel
theorem dX9_hour_25 : decode cX9_hour 25 = .ok (.ifCond .ne 6, 3) := by decide +kernel
theorem dX9_hour_28 : decode cX9_hour 28 = .ok (.bipush (-2), 2) := by decide +kernel
theorem dX9_hour_30 : decode cX9_hour 30 = .ok (.ireturn, 1) := by decide +kernel
theorem dX9_hour_31 : decode cX9_hour 31 = .ok (.aload 4, 2) := by decide +kernel
theorem dX9_hour_33 : decode cX9_hour 33 = .ok (.getfield 116, 3) := by decide +kernel
theorem dX9_hour_36 : decode cX9_hour 36 = .ok (.iload_n 2, 1) := by decide +kernel
theorem dX9_hour_37 : decode cX9_hour 37 = .ok (.iaload, 1) := by decide +kernel
theorem dX9_hour_38 : decode cX9_hour 38 = .ok (.istore 5, 2) := by decide +kernel
theorem dX9_hour_40 : decode cX9_hour 40 = .ok (.aload 4, 2) := by decide +kernel
theorem dX9_hour_42 : decode cX9_hour 42 = .ok (.getfield 116, 3) := by decide +kernel
theorem dX9_hour_45 : decode cX9_hour 45 = .ok (.iload_n 2, 1) := by decide +kernel
theorem dX9_hour_46 : decode cX9_hour 46 = .ok (.iload_n 3, 1) := by decide +kernel
theorem dX9_hour_47 : decode cX9_hour 47 = .ok (.iastore, 1) := by decide +kernel
theorem dX9_hour_48 : decode cX9_hour 48 = .ok (.iload 5, 2) := by decide +kernel
theorem dX9_hour_50 : decode cX9_hour 50 = .ok (.ireturn, 1) := by decide +kernel
theorem dX9_sale_0 : decode cX9_sale 0 = .ok (.iload_n 2, 1) := by decide +kernel
theorem dX9_sale_1 : decode cX9_sale 1 = .ok (.ifCond .ge 7, 3) := by decide +kernel
theorem dX9_sale_4 : decode cX9_sale 4 = .ok (.aconst_null, 1) := by decide +kernel
theorem dX9_sale_5 : decode cX9_sale 5 = .ok (.goto 11, 3) := by decide +kernel
theorem dX9_sale_8 : decode cX9_sale 8 = .ok (.aload_n 0, 1) := by decide +kernel
theorem dX9_sale_9 : decode cX9_sale 9 = .ok (.iload_n 2, 1) := by decide +kernel
theorem dX9_sale_10 : decode cX9_sale 10 = .ok (.bipush 100, 2) := by decide +kernel
theorem dX9_sale_12 : decode cX9_sale 12 = .ok (.idiv, 1) := by decide +kernel
theorem dX9_sale_13 : decode cX9_sale 13 = .ok (.invokevirtual 109, 3) := by decide +kernel
theorem dX9_sale_16 : decode cX9_sale 16 = .ok (.astore 6, 2) := by decide +kernel
theorem dX9_sale_18 : decode cX9_sale 18 = .ok (.iload_n 1, 1) := by decide +kernel
theorem dX9_sale_19 : decode cX9_sale 19 = .ok (.invokestatic 119, 3) := by decide +kernel
theorem dX9_sale_22 : decode cX9_sale 22 = .ok (.ifCond .eq 36, 3) := by decide +kernel
theorem dX9_sale_25 : decode cX9_sale 25 = .ok (.aload 6, 2) := by decide +kernel
theorem dX9_sale_27 : decode cX9_sale 27 = .ok (.ifnull 31, 3) := by decide +kernel
theorem dX9_sale_30 : decode cX9_sale 30 = .ok (.iload_n 3, 1) := by decide +kernel
theorem dX9_sale_31 : decode cX9_sale 31 = .ok (.invokestatic 96, 3) := by decide +kernel
theorem dX9_sale_34 : decode cX9_sale 34 = .ok (.ifCond .eq 24, 3) := by decide +kernel
theorem dX9_sale_37 : decode cX9_sale 37 = .ok (.iload 4, 2) := by decide +kernel
theorem dX9_sale_39 : decode cX9_sale 39 = .ok (.ifCond .lt 19, 3) := by decide +kernel
theorem dX9_sale_42 : decode cX9_sale 42 = .ok (.iload 4, 2) := by decide +kernel
theorem dX9_sale_44 : decode cX9_sale 44 = .ok (.sipush 999, 3) := by decide +kernel
theorem dX9_sale_47 : decode cX9_sale 47 = .ok (.if_icmp .gt 11, 3) := by decide +kernel
theorem dX9_sale_50 : decode cX9_sale 50 = .ok (.iload 5, 2) := by decide +kernel
theorem dX9_sale_52 : decode cX9_sale 52 = .ok (.invokestatic 122, 3) := by decide +kernel
theorem dX9_sale_55 : decode cX9_sale 55 = .ok (.ifCond .ne 6, 3) := by decide +kernel
theorem dX9_sale_58 : decode cX9_sale 58 = .ok (.bipush (-2), 2) := by decide +kernel
theorem dX9_sale_60 : decode cX9_sale 60 = .ok (.ireturn, 1) := by decide +kernel
theorem dX9_sale_61 : decode cX9_sale 61 = .ok (.iload_n 2, 1) := by decide +kernel
theorem dX9_sale_62 : decode cX9_sale 62 = .ok (.bipush 10, 2) := by decide +kernel
theorem dX9_sale_64 : decode cX9_sale 64 = .ok (.idiv, 1) := by decide +kernel
theorem dX9_sale_65 : decode cX9_sale 65 = .ok (.bipush 10, 2) := by decide +kernel
theorem dX9_sale_67 : decode cX9_sale 67 = .ok (.irem, 1) := by decide +kernel
theorem dX9_sale_68 : decode cX9_sale 68 = .ok (.istore 7, 2) := by decide +kernel
theorem dX9_sale_70 : decode cX9_sale 70 = .ok (.iload_n 2, 1) := by decide +kernel
theorem dX9_sale_71 : decode cX9_sale 71 = .ok (.bipush 10, 2) := by decide +kernel
theorem dX9_sale_73 : decode cX9_sale 73 = .ok (.irem, 1) := by decide +kernel
theorem dX9_sale_74 : decode cX9_sale 74 = .ok (.istore 8, 2) := by decide +kernel
theorem dX9_sale_76 : decode cX9_sale 76 = .ok (.iload 7, 2) := by decide +kernel
theorem dX9_sale_78 : decode cX9_sale 78 = .ok (.iload 8, 2) := by decide +kernel
theorem dX9_sale_80 : decode cX9_sale 80 = .ok (.if_icmp .ne 6, 3) := by decide +kernel
theorem dX9_sale_83 : decode cX9_sale 83 = .ok (.bipush (-2), 2) := by decide +kernel
theorem dX9_sale_85 : decode cX9_sale 85 = .ok (.ireturn, 1) := by decide +kernel
theorem dX9_sale_86 : decode cX9_sale 86 = .ok (.aload_n 0, 1) := by decide +kernel
theorem dX9_sale_87 : decode cX9_sale 87 = .ok (.getfield 125, 3) := by decide +kernel
theorem dX9_sale_90 : decode cX9_sale 90 = .ok (.bipush 24, 2) := by decide +kernel
theorem dX9_sale_92 : decode cX9_sale 92 = .ok (.if_icmp .lt 6, 3) := by decide +kernel
theorem dX9_sale_95 : decode cX9_sale 95 = .ok (.bipush (-4), 2) := by decide +kernel
theorem dX9_sale_97 : decode cX9_sale 97 = .ok (.ireturn, 1) := by decide +kernel
theorem dX9_sale_98 : decode cX9_sale 98 = .ok (.aload_n 0, 1) := by decide +kernel
theorem dX9_sale_99 : decode cX9_sale 99 = .ok (.getfield 17, 3) := by decide +kernel
theorem dX9_sale_102 : decode cX9_sale 102 = .ok (.aload_n 0, 1) := by decide +kernel
theorem dX9_sale_103 : decode cX9_sale 103 = .ok (.getfield 125, 3) := by decide +kernel
theorem dX9_sale_106 : decode cX9_sale 106 = .ok (.new 15, 3) := by decide +kernel
theorem dX9_sale_109 : decode cX9_sale 109 = .ok (.dup, 1) := by decide +kernel
theorem dX9_sale_110 : decode cX9_sale 110 = .ok (.iload_n 1, 1) := by decide +kernel
theorem dX9_sale_111 : decode cX9_sale 111 = .ok (.aload 6, 2) := by decide +kernel
theorem dX9_sale_113 : decode cX9_sale 113 = .ok (.iload 7, 2) := by decide +kernel
theorem dX9_sale_115 : decode cX9_sale 115 = .ok (.iload 8, 2) := by decide +kernel
theorem dX9_sale_117 : decode cX9_sale 117 = .ok (.iload_n 3, 1) := by decide +kernel
theorem dX9_sale_118 : decode cX9_sale 118 = .ok (.iload 4, 2) := by decide +kernel
theorem dX9_sale_120 : decode cX9_sale 120 = .ok (.iload 5, 2) := by decide +kernel
theorem dX9_sale_122 : decode cX9_sale 122 = .ok (.invokespecial 128, 3) := by decide +kernel
theorem dX9_sale_125 : decode cX9_sale 125 = .ok (.aastore, 1) := by decide +kernel
theorem dX9_sale_126 : decode cX9_sale 126 = .ok (.aload_n 0, 1) := by decide +kernel
theorem dX9_sale_127 : decode cX9_sale 127 = .ok (.dup, 1) := by decide +kernel
theorem dX9_sale_128 : decode cX9_sale 128 = .ok (.getfield 125, 3) := by decide +kernel
theorem dX9_sale_131 : decode cX9_sale 131 = .ok (.iconst 1, 1) := by decide +kernel
theorem dX9_sale_132 : decode cX9_sale 132 = .ok (.iadd, 1) := by decide +kernel
theorem dX9_sale_133 : decode cX9_sale 133 = .ok (.putfield 125, 3) := by decide +kernel
theorem dX9_sale_136 : decode cX9_sale 136 = .ok (.aload_n 0, 1) := by decide +kernel
theorem dX9_sale_137 : decode cX9_sale 137 = .ok (.getfield 125, 3) := by decide +kernel
theorem dX9_sale_140 : decode cX9_sale 140 = .ok (.iconst 1, 1) := by decide +kernel
theorem dX9_sale_141 : decode cX9_sale 141 = .ok (.isub, 1) := by decide +kernel
theorem dX9_sale_142 : decode cX9_sale 142 = .ok (.ireturn, 1) := by decide +kernel
theorem dX9_paper_0 : decode cX9_paper 0 = .ok (.aload_n 0, 1) := by decide +kernel
theorem dX9_paper_1 : decode cX9_paper 1 = .ok (.iload_n 1, 1) := by decide +kernel
theorem dX9_paper_2 : decode cX9_paper 2 = .ok (.invokevirtual 131, 3) := by decide +kernel
theorem dX9_paper_5 : decode cX9_paper 5 = .ok (.astore_n 3, 1) := by decide +kernel
theorem dX9_paper_6 : decode cX9_paper 6 = .ok (.aload_n 3, 1) := by decide +kernel
theorem dX9_paper_7 : decode cX9_paper 7 = .ok (.ifnull 10, 3) := by decide +kernel
theorem dX9_paper_10 : decode cX9_paper 10 = .ok (.iload_n 2, 1) := by decide +kernel
theorem dX9_paper_11 : decode cX9_paper 11 = .ok (.invokestatic 113, 3) := by decide +kernel
theorem dX9_paper_14 : decode cX9_paper 14 = .ok (.ifCond .ne 6, 3) := by decide +kernel
theorem dX9_paper_17 : decode cX9_paper 17 = .ok (.bipush (-2), 2) := by decide +kernel
theorem dX9_paper_19 : decode cX9_paper 19 = .ok (.ireturn, 1) := by decide +kernel
theorem dX9_paper_20 : decode cX9_paper 20 = .ok (.aload_n 3, 1) := by decide +kernel
theorem dX9_paper_21 : decode cX9_paper 21 = .ok (.getfield 135, 3) := by decide +kernel
theorem dX9_paper_24 : decode cX9_paper 24 = .ok (.istore 4, 2) := by decide +kernel
theorem dX9_paper_26 : decode cX9_paper 26 = .ok (.aload_n 3, 1) := by decide +kernel
theorem dX9_paper_27 : decode cX9_paper 27 = .ok (.iload_n 2, 1) := by decide +kernel
theorem dX9_paper_28 : decode cX9_paper 28 = .ok (.putfield 135, 3) := by decide +kernel
theorem dX9_paper_31 : decode cX9_paper 31 = .ok (.iload 4, 2) := by decide +kernel
theorem dX9_paper_33 : decode cX9_paper 33 = .ok (.ireturn, 1) := by decide +kernel
theorem dX9_pay_0 : decode cX9_pay 0 = .ok (.aload_n 0, 1) := by decide +kernel
theorem dX9_pay_1 : decode cX9_pay 1 = .ok (.iload_n 1, 1) := by decide +kernel
theorem dX9_pay_2 : decode cX9_pay 2 = .ok (.invokevirtual 131, 3) := by decide +kernel
theorem dX9_pay_5 : decode cX9_pay 5 = .ok (.astore_n 3, 1) := by decide +kernel
theorem dX9_pay_6 : decode cX9_pay 6 = .ok (.aload_n 3, 1) := by decide +kernel
theorem dX9_pay_7 : decode cX9_pay 7 = .ok (.ifnull 10, 3) := by decide +kernel
theorem dX9_pay_10 : decode cX9_pay 10 = .ok (.iload_n 2, 1) := by decide +kernel
theorem dX9_pay_11 : decode cX9_pay 11 = .ok (.invokestatic 138, 3) := by decide +kernel
theorem dX9_pay_14 : decode cX9_pay 14 = .ok (.ifCond .ne 6, 3) := by decide +kernel
theorem dX9_pay_17 : decode cX9_pay 17 = .ok (.bipush (-2), 2) := by decide +kernel
theorem dX9_pay_19 : decode cX9_pay 19 = .ok (.ireturn, 1) := by decide +kernel
theorem dX9_pay_20 : decode cX9_pay 20 = .ok (.iload_n 2, 1) := by decide +kernel
theorem dX9_pay_21 : decode cX9_pay 21 = .ok (.ldc 141, 2) := by decide +kernel
theorem dX9_pay_23 : decode cX9_pay 23 = .ok (.aload_n 3, 1) := by decide +kernel
theorem dX9_pay_24 : decode cX9_pay 24 = .ok (.getfield 142, 3) := by decide +kernel
theorem dX9_pay_27 : decode cX9_pay 27 = .ok (.isub, 1) := by decide +kernel
theorem dX9_pay_28 : decode cX9_pay 28 = .ok (.if_icmp .le 6, 3) := by decide +kernel
theorem dX9_pay_31 : decode cX9_pay 31 = .ok (.bipush (-4), 2) := by decide +kernel
theorem dX9_pay_33 : decode cX9_pay 33 = .ok (.ireturn, 1) := by decide +kernel
theorem dX9_pay_34 : decode cX9_pay 34 = .ok (.aload_n 3, 1) := by decide +kernel
theorem dX9_pay_35 : decode cX9_pay 35 = .ok (.dup, 1) := by decide +kernel
theorem dX9_pay_36 : decode cX9_pay 36 = .ok (.getfield 142, 3) := by decide +kernel
theorem dX9_pay_39 : decode cX9_pay 39 = .ok (.iload_n 2, 1) := by decide +kernel
theorem dX9_pay_40 : decode cX9_pay 40 = .ok (.iadd, 1) := by decide +kernel
theorem dX9_pay_41 : decode cX9_pay 41 = .ok (.putfield 142, 3) := by decide +kernel
theorem dX9_pay_44 : decode cX9_pay 44 = .ok (.aload_n 3, 1) := by decide +kernel
theorem dX9_pay_45 : decode cX9_pay 45 = .ok (.getfield 142, 3) := by decide +kernel
theorem dX9_pay_48 : decode cX9_pay 48 = .ok (.ireturn, 1) := by decide +kernel
theorem dX9_told_0 : decode cX9_told 0 = .ok (.aload_n 0, 1) := by decide +kernel
theorem dX9_told_1 : decode cX9_told 1 = .ok (.iload_n 1, 1) := by decide +kernel
theorem dX9_told_2 : decode cX9_told 2 = .ok (.invokevirtual 131, 3) := by decide +kernel
theorem dX9_told_5 : decode cX9_told 5 = .ok (.astore_n 3, 1) := by decide +kernel
theorem dX9_told_6 : decode cX9_told 6 = .ok (.aload_n 3, 1) := by decide +kernel
theorem dX9_told_7 : decode cX9_told 7 = .ok (.ifnonnull 8, 3) := by decide +kernel
theorem dX9_told_10 : decode cX9_told 10 = .ok (.bipush (-5), 2) := by decide +kernel
theorem dX9_told_12 : decode cX9_told 12 = .ok (.goto 8, 3) := by decide +kernel
theorem dX9_told_15 : decode cX9_told 15 = .ok (.aload_n 3, 1) := by decide +kernel
theorem dX9_told_16 : decode cX9_told 16 = .ok (.iload_n 2, 1) := by decide +kernel
theorem dX9_told_17 : decode cX9_told 17 = .ok (.invokevirtual 145, 3) := by decide +kernel
theorem dX9_told_20 : decode cX9_told 20 = .ok (.ireturn, 1) := by decide +kernel
theorem dX9_whose_0 : decode cX9_whose 0 = .ok (.aload_n 0, 1) := by decide +kernel
theorem dX9_whose_1 : decode cX9_whose 1 = .ok (.iload_n 1, 1) := by decide +kernel
theorem dX9_whose_2 : decode cX9_whose 2 = .ok (.invokevirtual 109, 3) := by decide +kernel
theorem dX9_whose_5 : decode cX9_whose 5 = .ok (.astore 5, 2) := by decide +kernel
theorem dX9_whose_7 : decode cX9_whose 7 = .ok (.aload 5, 2) := by decide +kernel
theorem dX9_whose_9 : decode cX9_whose 9 = .ok (.ifnull 28, 3) := by decide +kernel
theorem dX9_whose_12 : decode cX9_whose 12 = .ok (.iload_n 2, 1) := by decide +kernel
theorem dX9_whose_13 : decode cX9_whose 13 = .ok (.invokestatic 100, 3) := by decide +kernel
theorem dX9_whose_16 : decode cX9_whose 16 = .ok (.ifCond .eq 21, 3) := by decide +kernel
theorem dX9_whose_19 : decode cX9_whose 19 = .ok (.iload_n 3, 1) := by decide +kernel
theorem dX9_whose_20 : decode cX9_whose 20 = .ok (.invokestatic 122, 3) := by decide +kernel
theorem dX9_whose_23 : decode cX9_whose 23 = .ok (.ifCond .eq 14, 3) := by decide +kernel
theorem dX9_whose_26 : decode cX9_whose 26 = .ok (.iload 4, 2) := by decide +kernel
theorem dX9_whose_28 : decode cX9_whose 28 = .ok (.ifCond .eq 12, 3) := by decide +kernel
theorem dX9_whose_31 : decode cX9_whose 31 = .ok (.iload 4, 2) := by decide +kernel
theorem dX9_whose_33 : decode cX9_whose 33 = .ok (.iconst 1, 1) := by decide +kernel
theorem dX9_whose_34 : decode cX9_whose 34 = .ok (.if_icmp .eq 6, 3) := by decide +kernel
theorem dX9_whose_37 : decode cX9_whose 37 = .ok (.bipush (-2), 2) := by decide +kernel
theorem dX9_whose_39 : decode cX9_whose 39 = .ok (.ireturn, 1) := by decide +kernel
theorem dX9_whose_40 : decode cX9_whose 40 = .ok (.aload_n 0, 1) := by decide +kernel
theorem dX9_whose_41 : decode cX9_whose 41 = .ok (.aload 5, 2) := by decide +kernel
theorem dX9_whose_43 : decode cX9_whose 43 = .ok (.iload_n 2, 1) := by decide +kernel
theorem dX9_whose_44 : decode cX9_whose 44 = .ok (.iload_n 3, 1) := by decide +kernel
theorem dX9_whose_45 : decode cX9_whose 45 = .ok (.iload 4, 2) := by decide +kernel
theorem dX9_whose_47 : decode cX9_whose 47 = .ok (.invokevirtual 149, 3) := by decide +kernel
theorem dX9_whose_50 : decode cX9_whose 50 = .ok (.ireturn, 1) := by decide +kernel
theorem dX9_falls_0 : decode cX9_falls 0 = .ok (.aload_n 0, 1) := by decide +kernel
theorem dX9_falls_1 : decode cX9_falls 1 = .ok (.iload_n 1, 1) := by decide +kernel
theorem dX9_falls_2 : decode cX9_falls 2 = .ok (.invokevirtual 109, 3) := by decide +kernel
theorem dX9_falls_5 : decode cX9_falls 5 = .ok (.astore 5, 2) := by decide +kernel
theorem dX9_falls_7 : decode cX9_falls 7 = .ok (.aload 5, 2) := by decide +kernel
theorem dX9_falls_9 : decode cX9_falls 9 = .ok (.ifnull 31, 3) := by decide +kernel
theorem dX9_falls_12 : decode cX9_falls 12 = .ok (.iload_n 2, 1) := by decide +kernel
theorem dX9_falls_13 : decode cX9_falls 13 = .ok (.invokestatic 100, 3) := by decide +kernel
theorem dX9_falls_16 : decode cX9_falls 16 = .ok (.ifCond .eq 24, 3) := by decide +kernel
theorem dX9_falls_19 : decode cX9_falls 19 = .ok (.iload_n 3, 1) := by decide +kernel
theorem dX9_falls_20 : decode cX9_falls 20 = .ok (.invokestatic 153, 3) := by decide +kernel
theorem dX9_falls_23 : decode cX9_falls 23 = .ok (.invokestatic 122, 3) := by decide +kernel
theorem dX9_falls_26 : decode cX9_falls 26 = .ok (.ifCond .eq 14, 3) := by decide +kernel
theorem dX9_falls_29 : decode cX9_falls 29 = .ok (.iload 4, 2) := by decide +kernel
theorem dX9_falls_31 : decode cX9_falls 31 = .ok (.ifCond .eq 13, 3) := by decide +kernel
theorem dX9_falls_34 : decode cX9_falls 34 = .ok (.iload 4, 2) := by decide +kernel
theorem dX9_falls_36 : decode cX9_falls 36 = .ok (.iconst 1, 1) := by decide +kernel
theorem dX9_falls_37 : decode cX9_falls 37 = .ok (.if_icmp .eq 7, 3) := by decide +kernel
theorem dX9_falls_40 : decode cX9_falls 40 = .ok (.ldc2_w 156, 3) := by decide +kernel
theorem dX9_falls_43 : decode cX9_falls 43 = .ok (.lreturn, 1) := by decide +kernel
theorem dX9_falls_44 : decode cX9_falls 44 = .ok (.iload_n 3, 1) := by decide +kernel
theorem dX9_falls_45 : decode cX9_falls 45 = .ok (.invokestatic 158, 3) := by decide +kernel
theorem dX9_falls_48 : decode cX9_falls 48 = .ok (.istore 6, 2) := by decide +kernel
theorem dX9_falls_50 : decode cX9_falls 50 = .ok (.iload 6, 2) := by decide +kernel
theorem dX9_falls_52 : decode cX9_falls 52 = .ok (.aload 5, 2) := by decide +kernel
theorem dX9_falls_54 : decode cX9_falls 54 = .ok (.getfield 161, 3) := by decide +kernel
theorem dX9_falls_57 : decode cX9_falls 57 = .ok (.if_icmp .le 7, 3) := by decide +kernel
theorem dX9_falls_60 : decode cX9_falls 60 = .ok (.ldc2_w 156, 3) := by decide +kernel
theorem dX9_falls_63 : decode cX9_falls 63 = .ok (.lreturn, 1) := by decide +kernel
theorem dX9_falls_64 : decode cX9_falls 64 = .ok (.iload 6, 2) := by decide +kernel
theorem dX9_falls_66 : decode cX9_falls 66 = .ok (.aload_n 0, 1) := by decide +kernel
theorem dX9_falls_67 : decode cX9_falls 67 = .ok (.aload 5, 2) := by decide +kernel
theorem dX9_falls_69 : decode cX9_falls 69 = .ok (.iload_n 2, 1) := by decide +kernel
theorem dX9_falls_70 : decode cX9_falls 70 = .ok (.iload_n 3, 1) := by decide +kernel
theorem dX9_falls_71 : decode cX9_falls 71 = .ok (.invokestatic 153, 3) := by decide +kernel
theorem dX9_falls_74 : decode cX9_falls 74 = .ok (.iconst 1, 1) := by decide +kernel
theorem dX9_falls_75 : decode cX9_falls 75 = .ok (.invokevirtual 149, 3) := by decide +kernel
theorem dX9_falls_78 : decode cX9_falls 78 = .ok (.imul, 1) := by decide +kernel
theorem dX9_falls_79 : decode cX9_falls 79 = .ok (.istore 7, 2) := by decide +kernel
theorem dX9_falls_81 : decode cX9_falls 81 = .ok (.iload 7, 2) := by decide +kernel
theorem dX9_falls_83 : decode cX9_falls 83 = .ok (.aload 5, 2) := by decide +kernel
theorem dX9_falls_85 : decode cX9_falls 85 = .ok (.getfield 161, 3) := by decide +kernel
theorem dX9_falls_88 : decode cX9_falls 88 = .ok (.invokestatic 164, 3) := by decide +kernel
theorem dX9_falls_91 : decode cX9_falls 91 = .ok (.istore 8, 2) := by decide +kernel
theorem dX9_falls_93 : decode cX9_falls 93 = .ok (.iload 4, 2) := by decide +kernel
theorem dX9_falls_95 : decode cX9_falls 95 = .ok (.ifCond .ne 8, 3) := by decide +kernel
theorem dX9_falls_98 : decode cX9_falls 98 = .ok (.iload 7, 2) := by decide +kernel
theorem dX9_falls_100 : decode cX9_falls 100 = .ok (.goto 8, 3) := by decide +kernel
theorem dX9_falls_103 : decode cX9_falls 103 = .ok (.aload 5, 2) := by decide +kernel
theorem dX9_falls_105 : decode cX9_falls 105 = .ok (.getfield 161, 3) := by decide +kernel
theorem dX9_falls_108 : decode cX9_falls 108 = .ok (.iload 8, 2) := by decide +kernel
theorem dX9_falls_110 : decode cX9_falls 110 = .ok (.idiv, 1) := by decide +kernel
theorem dX9_falls_111 : decode cX9_falls 111 = .ok (.i2l, 1) := by decide +kernel
theorem dX9_falls_112 : decode cX9_falls 112 = .ok (.lreturn, 1) := by decide +kernel
theorem dX9_between_0 : decode cX9_between 0 = .ok (.aload_n 0, 1) := by decide +kernel
theorem dX9_between_1 : decode cX9_between 1 = .ok (.iload_n 1, 1) := by decide +kernel
theorem dX9_between_2 : decode cX9_between 2 = .ok (.invokevirtual 109, 3) := by decide +kernel
theorem dX9_between_5 : decode cX9_between 5 = .ok (.astore 5, 2) := by decide +kernel
theorem dX9_between_7 : decode cX9_between 7 = .ok (.iload_n 3, 1) := by decide +kernel
theorem dX9_between_8 : decode cX9_between 8 = .ok (.invokestatic 153, 3) := by decide +kernel
theorem dX9_between_11 : decode cX9_between 11 = .ok (.istore 6, 2) := by decide +kernel
theorem dX9_between_13 : decode cX9_between 13 = .ok (.iload_n 3, 1) := by decide +kernel
theorem dX9_between_14 : decode cX9_between 14 = .ok (.invokestatic 158, 3) := by decide +kernel
theorem dX9_between_17 : decode cX9_between 17 = .ok (.istore 7, 2) := by decide +kernel
theorem dX9_between_19 : decode cX9_between 19 = .ok (.aload 5, 2) := by decide +kernel
theorem dX9_between_21 : decode cX9_between 21 = .ok (.ifnull 36, 3) := by decide +kernel
theorem dX9_between_24 : decode cX9_between 24 = .ok (.iload_n 2, 1) := by decide +kernel
theorem dX9_between_25 : decode cX9_between 25 = .ok (.invokestatic 100, 3) := by decide +kernel
theorem dX9_between_28 : decode cX9_between 28 = .ok (.ifCond .eq 29, 3) := by decide +kernel
theorem dX9_between_31 : decode cX9_between 31 = .ok (.iload 6, 2) := by decide +kernel
theorem dX9_between_33 : decode cX9_between 33 = .ok (.invokestatic 122, 3) := by decide +kernel
theorem dX9_between_36 : decode cX9_between 36 = .ok (.ifCond .eq 21, 3) := by decide +kernel
theorem dX9_between_39 : decode cX9_between 39 = .ok (.iload 7, 2) := by decide +kernel
theorem dX9_between_41 : decode cX9_between 41 = .ok (.iload 6, 2) := by decide +kernel
