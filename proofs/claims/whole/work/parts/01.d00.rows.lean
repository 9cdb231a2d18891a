theorem dJ0_length_8abf5_0 : decode cJ0_length_8abf5 0 = .ok (.aload_n 0, 1) := by decide +kernel
theorem dJ0_length_8abf5_1 : decode cJ0_length_8abf5 1 = .ok (.getfield 9, 3) := by decide +kernel
theorem dJ0_length_8abf5_4 : decode cJ0_length_8abf5 4 = .ok (.arraylength, 1) := by decide +kernel
theorem dJ0_length_8abf5_5 : decode cJ0_length_8abf5 5 = .ok (.aload_n 0, 1) := by decide +kernel
theorem dJ0_length_8abf5_6 : decode cJ0_length_8abf5 6 = .ok (.invokevirtual 335, 3) := by decide +kernel
theorem dJ0_length_8abf5_9 : decode cJ0_length_8abf5 9 = .ok (.ishr, 1) := by decide +kernel
theorem dJ0_length_8abf5_10 : decode cJ0_length_8abf5 10 = .ok (.ireturn, 1) := by decide +kernel
theorem dJ0_charAt_5068e_0 : decode cJ0_charAt_5068e 0 = .ok (.aload_n 0, 1) := by decide +kernel
theorem dJ0_charAt_5068e_1 : decode cJ0_charAt_5068e 1 = .ok (.invokevirtual 492, 3) := by decide +kernel
theorem dJ0_charAt_5068e_4 : decode cJ0_charAt_5068e 4 = .ok (.ifCond .eq 12, 3) := by decide +kernel
theorem dJ0_charAt_5068e_7 : decode cJ0_charAt_5068e 7 = .ok (.aload_n 0, 1) := by decide +kernel
theorem dJ0_charAt_5068e_8 : decode cJ0_charAt_5068e 8 = .ok (.getfield 9, 3) := by decide +kernel
theorem dJ0_charAt_5068e_11 : decode cJ0_charAt_5068e 11 = .ok (.iload_n 1, 1) := by decide +kernel
theorem dJ0_charAt_5068e_12 : decode cJ0_charAt_5068e 12 = .ok (.invokestatic 495, 3) := by decide +kernel
theorem dJ0_charAt_5068e_15 : decode cJ0_charAt_5068e 15 = .ok (.ireturn, 1) := by decide +kernel
theorem dJ0_charAt_5068e_16 : decode cJ0_charAt_5068e 16 = .ok (.aload_n 0, 1) := by decide +kernel
theorem dJ0_charAt_5068e_17 : decode cJ0_charAt_5068e 17 = .ok (.getfield 9, 3) := by decide +kernel
theorem dJ0_charAt_5068e_20 : decode cJ0_charAt_5068e 20 = .ok (.iload_n 1, 1) := by decide +kernel
theorem dJ0_charAt_5068e_21 : decode cJ0_charAt_5068e 21 = .ok (.invokestatic 498, 3) := by decide +kernel
theorem dJ0_charAt_5068e_24 : decode cJ0_charAt_5068e 24 = .ok (.ireturn, 1) := by decide +kernel
theorem dJ0_indexOf_0f7a4_0 : decode cJ0_indexOf_0f7a4 0 = .ok (.aload_n 0, 1) := by decide +kernel
theorem dJ0_indexOf_0f7a4_1 : decode cJ0_indexOf_0f7a4 1 = .ok (.iload_n 1, 1) := by decide +kernel
theorem dJ0_indexOf_0f7a4_2 : decode cJ0_indexOf_0f7a4 2 = .ok (.iconst 0, 1) := by decide +kernel
theorem dJ0_indexOf_0f7a4_3 : decode cJ0_indexOf_0f7a4 3 = .ok (.invokevirtual 633, 3) := by decide +kernel
theorem dJ0_indexOf_0f7a4_6 : decode cJ0_indexOf_0f7a4 6 = .ok (.ireturn, 1) := by decide +kernel
theorem dJ0_indexOf_7cf53_0 : decode cJ0_indexOf_7cf53 0 = .ok (.aload_n 0, 1) := by decide +kernel
theorem dJ0_indexOf_7cf53_1 : decode cJ0_indexOf_7cf53 1 = .ok (.invokevirtual 492, 3) := by decide +kernel
theorem dJ0_indexOf_7cf53_4 : decode cJ0_indexOf_7cf53 4 = .ok (.ifCond .eq 19, 3) := by decide +kernel
theorem dJ0_indexOf_7cf53_7 : decode cJ0_indexOf_7cf53 7 = .ok (.aload_n 0, 1) := by decide +kernel
theorem dJ0_indexOf_7cf53_8 : decode cJ0_indexOf_7cf53 8 = .ok (.getfield 9, 3) := by decide +kernel
theorem dJ0_indexOf_7cf53_11 : decode cJ0_indexOf_7cf53 11 = .ok (.iload_n 1, 1) := by decide +kernel
theorem dJ0_indexOf_7cf53_12 : decode cJ0_indexOf_7cf53 12 = .ok (.iload_n 2, 1) := by decide +kernel
theorem dJ0_indexOf_7cf53_13 : decode cJ0_indexOf_7cf53 13 = .ok (.aload_n 0, 1) := by decide +kernel
theorem dJ0_indexOf_7cf53_14 : decode cJ0_indexOf_7cf53 14 = .ok (.invokevirtual 505, 3) := by decide +kernel
theorem dJ0_indexOf_7cf53_17 : decode cJ0_indexOf_7cf53 17 = .ok (.invokestatic 637, 3) := by decide +kernel
theorem dJ0_indexOf_7cf53_20 : decode cJ0_indexOf_7cf53 20 = .ok (.goto 16, 3) := by decide +kernel
theorem dJ0_indexOf_7cf53_23 : decode cJ0_indexOf_7cf53 23 = .ok (.aload_n 0, 1) := by decide +kernel
theorem dJ0_indexOf_7cf53_24 : decode cJ0_indexOf_7cf53 24 = .ok (.getfield 9, 3) := by decide +kernel
theorem dJ0_indexOf_7cf53_27 : decode cJ0_indexOf_7cf53 27 = .ok (.iload_n 1, 1) := by decide +kernel
theorem dJ0_indexOf_7cf53_28 : decode cJ0_indexOf_7cf53 28 = .ok (.iload_n 2, 1) := by decide +kernel
theorem dJ0_indexOf_7cf53_29 : decode cJ0_indexOf_7cf53 29 = .ok (.aload_n 0, 1) := by decide +kernel
theorem dJ0_indexOf_7cf53_30 : decode cJ0_indexOf_7cf53 30 = .ok (.invokevirtual 505, 3) := by decide +kernel
theorem dJ0_indexOf_7cf53_33 : decode cJ0_indexOf_7cf53 33 = .ok (.invokestatic 640, 3) := by decide +kernel
theorem dJ0_indexOf_7cf53_36 : decode cJ0_indexOf_7cf53 36 = .ok (.ireturn, 1) := by decide +kernel
theorem dJ0_coder_7d493_0 : decode cJ0_coder_7d493 0 = .ok (.getstatic 38, 3) := by decide +kernel
theorem dJ0_coder_7d493_3 : decode cJ0_coder_7d493 3 = .ok (.ifCond .eq 10, 3) := by decide +kernel
theorem dJ0_coder_7d493_6 : decode cJ0_coder_7d493 6 = .ok (.aload_n 0, 1) := by decide +kernel
theorem dJ0_coder_7d493_7 : decode cJ0_coder_7d493 7 = .ok (.getfield 15, 3) := by decide +kernel
theorem dJ0_coder_7d493_10 : decode cJ0_coder_7d493 10 = .ok (.goto 4, 3) := by decide +kernel
theorem dJ0_coder_7d493_13 : decode cJ0_coder_7d493 13 = .ok (.iconst 1, 1) := by decide +kernel
theorem dJ0_coder_7d493_14 : decode cJ0_coder_7d493 14 = .ok (.ireturn, 1) := by decide +kernel
theorem dJ0_isLatin1_aae02_0 : decode cJ0_isLatin1_aae02 0 = .ok (.getstatic 38, 3) := by decide +kernel
theorem dJ0_isLatin1_aae02_3 : decode cJ0_isLatin1_aae02 3 = .ok (.ifCond .eq 14, 3) := by decide +kernel
theorem dJ0_isLatin1_aae02_6 : decode cJ0_isLatin1_aae02 6 = .ok (.aload_n 0, 1) := by decide +kernel
theorem dJ0_isLatin1_aae02_7 : decode cJ0_isLatin1_aae02 7 = .ok (.getfield 15, 3) := by decide +kernel
theorem dJ0_isLatin1_aae02_10 : decode cJ0_isLatin1_aae02 10 = .ok (.ifCond .ne 7, 3) := by decide +kernel
theorem dJ0_isLatin1_aae02_13 : decode cJ0_isLatin1_aae02 13 = .ok (.iconst 1, 1) := by decide +kernel
theorem dJ0_isLatin1_aae02_14 : decode cJ0_isLatin1_aae02 14 = .ok (.goto 4, 3) := by decide +kernel
theorem dJ0_isLatin1_aae02_17 : decode cJ0_isLatin1_aae02 17 = .ok (.iconst 0, 1) := by decide +kernel
theorem dJ0_isLatin1_aae02_18 : decode cJ0_isLatin1_aae02 18 = .ok (.ireturn, 1) := by decide +kernel
theorem dJ0_checkIndex_df160_0 : decode cJ0_checkIndex_df160 0 = .ok (.iload_n 0, 1) := by decide +kernel
theorem dJ0_checkIndex_df160_1 : decode cJ0_checkIndex_df160 1 = .ok (.iload_n 1, 1) := by decide +kernel
theorem dJ0_checkIndex_df160_2 : decode cJ0_checkIndex_df160 2 = .ok (.getstatic 1053, 3) := by decide +kernel
theorem dJ0_checkIndex_df160_5 : decode cJ0_checkIndex_df160 5 = .ok (.invokestatic 1059, 3) := by decide +kernel
theorem dJ0_checkIndex_df160_8 : decode cJ0_checkIndex_df160 8 = .ok (.pop, 1) := by decide +kernel
theorem dJ0_checkIndex_df160_9 : decode cJ0_checkIndex_df160 9 = .ok (.return_, 1) := by decide +kernel
theorem dJ0_checkBoundsBeginEnd_23922_0 : decode cJ0_checkBoundsBeginEnd_23922 0 = .ok (.iload_n 0, 1) := by decide +kernel
theorem dJ0_checkBoundsBeginEnd_23922_1 : decode cJ0_checkBoundsBeginEnd_23922 1 = .ok (.iload_n 1, 1) := by decide +kernel
theorem dJ0_checkBoundsBeginEnd_23922_2 : decode cJ0_checkBoundsBeginEnd_23922 2 = .ok (.iload_n 2, 1) := by decide +kernel
theorem dJ0_checkBoundsBeginEnd_23922_3 : decode cJ0_checkBoundsBeginEnd_23922 3 = .ok (.getstatic 1053, 3) := by decide +kernel
theorem dJ0_checkBoundsBeginEnd_23922_6 : decode cJ0_checkBoundsBeginEnd_23922 6 = .ok (.invokestatic 1062, 3) := by decide +kernel
theorem dJ0_checkBoundsBeginEnd_23922_9 : decode cJ0_checkBoundsBeginEnd_23922 9 = .ok (.pop, 1) := by decide +kernel
theorem dJ0_checkBoundsBeginEnd_23922_10 : decode cJ0_checkBoundsBeginEnd_23922 10 = .ok (.return_, 1) := by decide +kernel
theorem dJ11_isValidCodePoint_9a6ad_0 : decode cJ11_isValidCodePoint_9a6ad 0 = .ok (.iload_n 0, 1) := by decide +kernel
theorem dJ11_isValidCodePoint_9a6ad_1 : decode cJ11_isValidCodePoint_9a6ad 1 = .ok (.bipush 16, 2) := by decide +kernel
theorem dJ11_isValidCodePoint_9a6ad_3 : decode cJ11_isValidCodePoint_9a6ad 3 = .ok (.iushr, 1) := by decide +kernel
theorem dJ11_isValidCodePoint_9a6ad_4 : decode cJ11_isValidCodePoint_9a6ad 4 = .ok (.istore_n 1, 1) := by decide +kernel
theorem dJ11_isValidCodePoint_9a6ad_5 : decode cJ11_isValidCodePoint_9a6ad 5 = .ok (.iload_n 1, 1) := by decide +kernel
theorem dJ11_isValidCodePoint_9a6ad_6 : decode cJ11_isValidCodePoint_9a6ad 6 = .ok (.bipush 17, 2) := by decide +kernel
theorem dJ11_isValidCodePoint_9a6ad_8 : decode cJ11_isValidCodePoint_9a6ad 8 = .ok (.if_icmp .ge 7, 3) := by decide +kernel
theorem dJ11_isValidCodePoint_9a6ad_11 : decode cJ11_isValidCodePoint_9a6ad 11 = .ok (.iconst 1, 1) := by decide +kernel
theorem dJ11_isValidCodePoint_9a6ad_12 : decode cJ11_isValidCodePoint_9a6ad 12 = .ok (.goto 4, 3) := by decide +kernel
theorem dJ11_isValidCodePoint_9a6ad_15 : decode cJ11_isValidCodePoint_9a6ad 15 = .ok (.iconst 0, 1) := by decide +kernel
theorem dJ11_isValidCodePoint_9a6ad_16 : decode cJ11_isValidCodePoint_9a6ad 16 = .ok (.ireturn, 1) := by decide +kernel
theorem dJ11_highSurrogate_5068e_0 : decode cJ11_highSurrogate_5068e 0 = .ok (.iload_n 0, 1) := by decide +kernel
theorem dJ11_highSurrogate_5068e_1 : decode cJ11_highSurrogate_5068e 1 = .ok (.bipush 10, 2) := by decide +kernel
theorem dJ11_highSurrogate_5068e_3 : decode cJ11_highSurrogate_5068e 3 = .ok (.iushr, 1) := by decide +kernel
theorem dJ11_highSurrogate_5068e_4 : decode cJ11_highSurrogate_5068e 4 = .ok (.ldc 110, 2) := by decide +kernel
theorem dJ11_highSurrogate_5068e_6 : decode cJ11_highSurrogate_5068e 6 = .ok (.iadd, 1) := by decide +kernel
theorem dJ11_highSurrogate_5068e_7 : decode cJ11_highSurrogate_5068e 7 = .ok (.i2c, 1) := by decide +kernel
theorem dJ11_highSurrogate_5068e_8 : decode cJ11_highSurrogate_5068e 8 = .ok (.ireturn, 1) := by decide +kernel
theorem dJ11_lowSurrogate_5068e_0 : decode cJ11_lowSurrogate_5068e 0 = .ok (.iload_n 0, 1) := by decide +kernel
theorem dJ11_lowSurrogate_5068e_1 : decode cJ11_lowSurrogate_5068e 1 = .ok (.sipush 1023, 3) := by decide +kernel
theorem dJ11_lowSurrogate_5068e_4 : decode cJ11_lowSurrogate_5068e 4 = .ok (.iand, 1) := by decide +kernel
theorem dJ11_lowSurrogate_5068e_5 : decode cJ11_lowSurrogate_5068e 5 = .ok (.ldc 76, 2) := by decide +kernel
theorem dJ11_lowSurrogate_5068e_7 : decode cJ11_lowSurrogate_5068e 7 = .ok (.iadd, 1) := by decide +kernel
theorem dJ11_lowSurrogate_5068e_8 : decode cJ11_lowSurrogate_5068e 8 = .ok (.i2c, 1) := by decide +kernel
theorem dJ11_lowSurrogate_5068e_9 : decode cJ11_lowSurrogate_5068e 9 = .ok (.ireturn, 1) := by decide +kernel
theorem dJ1_charAt_3b067_0 : decode cJ1_charAt_3b067 0 = .ok (.iload_n 1, 1) := by decide +kernel
theorem dJ1_charAt_3b067_1 : decode cJ1_charAt_3b067 1 = .ok (.aload_n 0, 1) := by decide +kernel
theorem dJ1_charAt_3b067_2 : decode cJ1_charAt_3b067 2 = .ok (.arraylength, 1) := by decide +kernel
theorem dJ1_charAt_3b067_3 : decode cJ1_charAt_3b067 3 = .ok (.invokestatic 9, 3) := by decide +kernel
theorem dJ1_charAt_3b067_6 : decode cJ1_charAt_3b067 6 = .ok (.aload_n 0, 1) := by decide +kernel
theorem dJ1_charAt_3b067_7 : decode cJ1_charAt_3b067 7 = .ok (.iload_n 1, 1) := by decide +kernel
theorem dJ1_charAt_3b067_8 : decode cJ1_charAt_3b067 8 = .ok (.baload, 1) := by decide +kernel
theorem dJ1_charAt_3b067_9 : decode cJ1_charAt_3b067 9 = .ok (.sipush 255, 3) := by decide +kernel
theorem dJ1_charAt_3b067_12 : decode cJ1_charAt_3b067 12 = .ok (.iand, 1) := by decide +kernel
theorem dJ1_charAt_3b067_13 : decode cJ1_charAt_3b067 13 = .ok (.i2c, 1) := by decide +kernel
theorem dJ1_charAt_3b067_14 : decode cJ1_charAt_3b067 14 = .ok (.ireturn, 1) := by decide +kernel
theorem dJ1_canEncode_9a6ad_0 : decode cJ1_canEncode_9a6ad 0 = .ok (.iload_n 0, 1) := by decide +kernel
theorem dJ1_canEncode_9a6ad_1 : decode cJ1_canEncode_9a6ad 1 = .ok (.ifCond .lt 14, 3) := by decide +kernel
theorem dJ1_canEncode_9a6ad_4 : decode cJ1_canEncode_9a6ad 4 = .ok (.iload_n 0, 1) := by decide +kernel
theorem dJ1_canEncode_9a6ad_5 : decode cJ1_canEncode_9a6ad 5 = .ok (.sipush 255, 3) := by decide +kernel
theorem dJ1_canEncode_9a6ad_8 : decode cJ1_canEncode_9a6ad 8 = .ok (.if_icmp .gt 7, 3) := by decide +kernel
theorem dJ1_canEncode_9a6ad_11 : decode cJ1_canEncode_9a6ad 11 = .ok (.iconst 1, 1) := by decide +kernel
theorem dJ1_canEncode_9a6ad_12 : decode cJ1_canEncode_9a6ad 12 = .ok (.goto 4, 3) := by decide +kernel
theorem dJ1_canEncode_9a6ad_15 : decode cJ1_canEncode_9a6ad 15 = .ok (.iconst 0, 1) := by decide +kernel
theorem dJ1_canEncode_9a6ad_16 : decode cJ1_canEncode_9a6ad 16 = .ok (.ireturn, 1) := by decide +kernel
theorem dJ1_indexOf_4cfef_0 : decode cJ1_indexOf_4cfef 0 = .ok (.iload_n 1, 1) := by decide +kernel
theorem dJ1_indexOf_4cfef_1 : decode cJ1_indexOf_4cfef 1 = .ok (.invokestatic 88, 3) := by decide +kernel
theorem dJ1_indexOf_4cfef_4 : decode cJ1_indexOf_4cfef 4 = .ok (.ifCond .ne 5, 3) := by decide +kernel
theorem dJ1_indexOf_4cfef_7 : decode cJ1_indexOf_4cfef 7 = .ok (.iconst (-1), 1) := by decide +kernel
theorem dJ1_indexOf_4cfef_8 : decode cJ1_indexOf_4cfef 8 = .ok (.ireturn, 1) := by decide +kernel
theorem dJ1_indexOf_4cfef_9 : decode cJ1_indexOf_4cfef 9 = .ok (.iload_n 2, 1) := by decide +kernel
theorem dJ1_indexOf_4cfef_10 : decode cJ1_indexOf_4cfef 10 = .ok (.iconst 0, 1) := by decide +kernel
theorem dJ1_indexOf_4cfef_11 : decode cJ1_indexOf_4cfef 11 = .ok (.invokestatic 92, 3) := by decide +kernel
theorem dJ1_indexOf_4cfef_14 : decode cJ1_indexOf_4cfef 14 = .ok (.istore_n 2, 1) := by decide +kernel
theorem dJ1_indexOf_4cfef_15 : decode cJ1_indexOf_4cfef 15 = .ok (.iload_n 3, 1) := by decide +kernel
theorem dJ1_indexOf_4cfef_16 : decode cJ1_indexOf_4cfef 16 = .ok (.aload_n 0, 1) := by decide +kernel
theorem dJ1_indexOf_4cfef_17 : decode cJ1_indexOf_4cfef 17 = .ok (.arraylength, 1) := by decide +kernel
theorem dJ1_indexOf_4cfef_18 : decode cJ1_indexOf_4cfef 18 = .ok (.invokestatic 38, 3) := by decide +kernel
theorem dJ1_indexOf_4cfef_21 : decode cJ1_indexOf_4cfef 21 = .ok (.istore_n 3, 1) := by decide +kernel
theorem dJ1_indexOf_4cfef_22 : decode cJ1_indexOf_4cfef 22 = .ok (.iload_n 2, 1) := by decide +kernel
theorem dJ1_indexOf_4cfef_23 : decode cJ1_indexOf_4cfef 23 = .ok (.iload_n 3, 1) := by decide +kernel
theorem dJ1_indexOf_4cfef_24 : decode cJ1_indexOf_4cfef 24 = .ok (.if_icmp .lt 5, 3) := by decide +kernel
theorem dJ1_indexOf_4cfef_27 : decode cJ1_indexOf_4cfef 27 = .ok (.iconst (-1), 1) := by decide +kernel
theorem dJ1_indexOf_4cfef_28 : decode cJ1_indexOf_4cfef 28 = .ok (.ireturn, 1) := by decide +kernel
theorem dJ1_indexOf_4cfef_29 : decode cJ1_indexOf_4cfef 29 = .ok (.aload_n 0, 1) := by decide +kernel
theorem dJ1_indexOf_4cfef_30 : decode cJ1_indexOf_4cfef 30 = .ok (.iload_n 1, 1) := by decide +kernel
theorem dJ1_indexOf_4cfef_31 : decode cJ1_indexOf_4cfef 31 = .ok (.iload_n 2, 1) := by decide +kernel
theorem dJ1_indexOf_4cfef_32 : decode cJ1_indexOf_4cfef 32 = .ok (.iload_n 3, 1) := by decide +kernel
theorem dJ1_indexOf_4cfef_33 : decode cJ1_indexOf_4cfef 33 = .ok (.invokestatic 95, 3) := by decide +kernel
theorem dJ1_indexOf_4cfef_36 : decode cJ1_indexOf_4cfef 36 = .ok (.ireturn, 1) := by decide +kernel
theorem dJ1_indexOfChar_4cfef_0 : decode cJ1_indexOfChar_4cfef 0 = .ok (.iload_n 1, 1) := by decide +kernel
theorem dJ1_indexOfChar_4cfef_1 : decode cJ1_indexOfChar_4cfef 1 = .ok (.i2b, 1) := by decide +kernel
theorem dJ1_indexOfChar_4cfef_2 : decode cJ1_indexOfChar_4cfef 2 = .ok (.istore 4, 2) := by decide +kernel
theorem dJ1_indexOfChar_4cfef_4 : decode cJ1_indexOfChar_4cfef 4 = .ok (.iload_n 2, 1) := by decide +kernel
theorem dJ1_indexOfChar_4cfef_5 : decode cJ1_indexOfChar_4cfef 5 = .ok (.istore 5, 2) := by decide +kernel
theorem dJ1_indexOfChar_4cfef_7 : decode cJ1_indexOfChar_4cfef 7 = .ok (.iload 5, 2) := by decide +kernel
theorem dJ1_indexOfChar_4cfef_9 : decode cJ1_indexOfChar_4cfef 9 = .ok (.iload_n 3, 1) := by decide +kernel
theorem dJ1_indexOfChar_4cfef_10 : decode cJ1_indexOfChar_4cfef 10 = .ok (.if_icmp .ge 21, 3) := by decide +kernel
theorem dJ1_indexOfChar_4cfef_13 : decode cJ1_indexOfChar_4cfef 13 = .ok (.aload_n 0, 1) := by decide +kernel
theorem dJ1_indexOfChar_4cfef_14 : decode cJ1_indexOfChar_4cfef 14 = .ok (.iload 5, 2) := by decide +kernel
theorem dJ1_indexOfChar_4cfef_16 : decode cJ1_indexOfChar_4cfef 16 = .ok (.baload, 1) := by decide +kernel
theorem dJ1_indexOfChar_4cfef_17 : decode cJ1_indexOfChar_4cfef 17 = .ok (.iload 4, 2) := by decide +kernel
theorem dJ1_indexOfChar_4cfef_19 : decode cJ1_indexOfChar_4cfef 19 = .ok (.if_icmp .ne 6, 3) := by decide +kernel
theorem dJ1_indexOfChar_4cfef_22 : decode cJ1_indexOfChar_4cfef 22 = .ok (.iload 5, 2) := by decide +kernel
theorem dJ1_indexOfChar_4cfef_24 : decode cJ1_indexOfChar_4cfef 24 = .ok (.ireturn, 1) := by decide +kernel
theorem dJ1_indexOfChar_4cfef_25 : decode cJ1_indexOfChar_4cfef 25 = .ok (.iinc 5 1, 3) := by decide +kernel
theorem dJ1_indexOfChar_4cfef_28 : decode cJ1_indexOfChar_4cfef 28 = .ok (.goto (-21), 3) := by decide +kernel
theorem dJ1_indexOfChar_4cfef_31 : decode cJ1_indexOfChar_4cfef 31 = .ok (.iconst (-1), 1) := by decide +kernel
theorem dJ1_indexOfChar_4cfef_32 : decode cJ1_indexOfChar_4cfef 32 = .ok (.ireturn, 1) := by decide +kernel
theorem dJ2_getChar_3b067_0 : decode cJ2_getChar_3b067 0 = .ok (.getstatic 44, 3) := by decide +kernel
theorem dJ2_getChar_3b067_3 : decode cJ2_getChar_3b067 3 = .ok (.ifCond .ne 25, 3) := by decide +kernel
theorem dJ2_getChar_3b067_6 : decode cJ2_getChar_3b067 6 = .ok (.iload_n 1, 1) := by decide +kernel
theorem dJ2_getChar_3b067_7 : decode cJ2_getChar_3b067 7 = .ok (.ifCond .lt 11, 3) := by decide +kernel
theorem dJ2_getChar_3b067_10 : decode cJ2_getChar_3b067 10 = .ok (.iload_n 1, 1) := by decide +kernel
theorem dJ2_getChar_3b067_11 : decode cJ2_getChar_3b067 11 = .ok (.aload_n 0, 1) := by decide +kernel
theorem dJ2_getChar_3b067_12 : decode cJ2_getChar_3b067 12 = .ok (.invokestatic 48, 3) := by decide +kernel
theorem dJ2_getChar_3b067_15 : decode cJ2_getChar_3b067 15 = .ok (.if_icmp .lt 13, 3) := by decide +kernel
theorem dJ2_getChar_3b067_18 : decode cJ2_getChar_3b067 18 = .ok (.new 52, 3) := by decide +kernel
theorem dJ2_getChar_3b067_21 : decode cJ2_getChar_3b067 21 = .ok (.dup, 1) := by decide +kernel
theorem dJ2_getChar_3b067_22 : decode cJ2_getChar_3b067 22 = .ok (.ldc 54, 2) := by decide +kernel
theorem dJ2_getChar_3b067_24 : decode cJ2_getChar_3b067 24 = .ok (.invokespecial 56, 3) := by decide +kernel
theorem dJ2_getChar_3b067_27 : decode cJ2_getChar_3b067 27 = .ok (.athrow, 1) := by decide +kernel
theorem dJ2_getChar_3b067_28 : decode cJ2_getChar_3b067 28 = .ok (.iload_n 1, 1) := by decide +kernel
theorem dJ2_getChar_3b067_29 : decode cJ2_getChar_3b067 29 = .ok (.iconst 1, 1) := by decide +kernel
theorem dJ2_getChar_3b067_30 : decode cJ2_getChar_3b067 30 = .ok (.ishl, 1) := by decide +kernel
theorem dJ2_getChar_3b067_31 : decode cJ2_getChar_3b067 31 = .ok (.istore_n 1, 1) := by decide +kernel
theorem dJ2_getChar_3b067_32 : decode cJ2_getChar_3b067 32 = .ok (.aload_n 0, 1) := by decide +kernel
theorem dJ2_getChar_3b067_33 : decode cJ2_getChar_3b067 33 = .ok (.iload_n 1, 1) := by decide +kernel
theorem dJ2_getChar_3b067_34 : decode cJ2_getChar_3b067 34 = .ok (.iinc 1 1, 3) := by decide +kernel
theorem dJ2_getChar_3b067_37 : decode cJ2_getChar_3b067 37 = .ok (.baload, 1) := by decide +kernel
theorem dJ2_getChar_3b067_38 : decode cJ2_getChar_3b067 38 = .ok (.sipush 255, 3) := by decide +kernel
theorem dJ2_getChar_3b067_41 : decode cJ2_getChar_3b067 41 = .ok (.iand, 1) := by decide +kernel
theorem dJ2_getChar_3b067_42 : decode cJ2_getChar_3b067 42 = .ok (.getstatic 59, 3) := by decide +kernel
theorem dJ2_getChar_3b067_45 : decode cJ2_getChar_3b067 45 = .ok (.ishl, 1) := by decide +kernel
theorem dJ2_getChar_3b067_46 : decode cJ2_getChar_3b067 46 = .ok (.aload_n 0, 1) := by decide +kernel
theorem dJ2_getChar_3b067_47 : decode cJ2_getChar_3b067 47 = .ok (.iload_n 1, 1) := by decide +kernel
theorem dJ2_getChar_3b067_48 : decode cJ2_getChar_3b067 48 = .ok (.baload, 1) := by decide +kernel
theorem dJ2_getChar_3b067_49 : decode cJ2_getChar_3b067 49 = .ok (.sipush 255, 3) := by decide +kernel
theorem dJ2_getChar_3b067_52 : decode cJ2_getChar_3b067 52 = .ok (.iand, 1) := by decide +kernel
theorem dJ2_getChar_3b067_53 : decode cJ2_getChar_3b067 53 = .ok (.getstatic 63, 3) := by decide +kernel
theorem dJ2_getChar_3b067_56 : decode cJ2_getChar_3b067 56 = .ok (.ishl, 1) := by decide +kernel
theorem dJ2_getChar_3b067_57 : decode cJ2_getChar_3b067 57 = .ok (.ior, 1) := by decide +kernel
theorem dJ2_getChar_3b067_58 : decode cJ2_getChar_3b067 58 = .ok (.i2c, 1) := by decide +kernel
theorem dJ2_getChar_3b067_59 : decode cJ2_getChar_3b067 59 = .ok (.ireturn, 1) := by decide +kernel
theorem dJ2_length_9d52b_0 : decode cJ2_length_9d52b 0 = .ok (.aload_n 0, 1) := by decide +kernel
theorem dJ2_length_9d52b_1 : decode cJ2_length_9d52b 1 = .ok (.arraylength, 1) := by decide +kernel
theorem dJ2_length_9d52b_2 : decode cJ2_length_9d52b 2 = .ok (.iconst 1, 1) := by decide +kernel
theorem dJ2_length_9d52b_3 : decode cJ2_length_9d52b 3 = .ok (.ishr, 1) := by decide +kernel
theorem dJ2_length_9d52b_4 : decode cJ2_length_9d52b 4 = .ok (.ireturn, 1) := by decide +kernel
theorem dJ2_indexOf_4cfef_0 : decode cJ2_indexOf_4cfef 0 = .ok (.iload_n 2, 1) := by decide +kernel
theorem dJ2_indexOf_4cfef_1 : decode cJ2_indexOf_4cfef 1 = .ok (.iconst 0, 1) := by decide +kernel
theorem dJ2_indexOf_4cfef_2 : decode cJ2_indexOf_4cfef 2 = .ok (.invokestatic 224, 3) := by decide +kernel
theorem dJ2_indexOf_4cfef_5 : decode cJ2_indexOf_4cfef 5 = .ok (.istore_n 2, 1) := by decide +kernel
theorem dJ2_indexOf_4cfef_6 : decode cJ2_indexOf_4cfef 6 = .ok (.iload_n 3, 1) := by decide +kernel
theorem dJ2_indexOf_4cfef_7 : decode cJ2_indexOf_4cfef 7 = .ok (.aload_n 0, 1) := by decide +kernel
theorem dJ2_indexOf_4cfef_8 : decode cJ2_indexOf_4cfef 8 = .ok (.arraylength, 1) := by decide +kernel
theorem dJ2_indexOf_4cfef_9 : decode cJ2_indexOf_4cfef 9 = .ok (.iconst 1, 1) := by decide +kernel
theorem dJ2_indexOf_4cfef_10 : decode cJ2_indexOf_4cfef 10 = .ok (.ishr, 1) := by decide +kernel
theorem dJ2_indexOf_4cfef_11 : decode cJ2_indexOf_4cfef 11 = .ok (.invokestatic 183, 3) := by decide +kernel
theorem dJ2_indexOf_4cfef_14 : decode cJ2_indexOf_4cfef 14 = .ok (.istore_n 3, 1) := by decide +kernel
theorem dJ2_indexOf_4cfef_15 : decode cJ2_indexOf_4cfef 15 = .ok (.iload_n 2, 1) := by decide +kernel
theorem dJ2_indexOf_4cfef_16 : decode cJ2_indexOf_4cfef 16 = .ok (.iload_n 3, 1) := by decide +kernel
theorem dJ2_indexOf_4cfef_17 : decode cJ2_indexOf_4cfef 17 = .ok (.if_icmp .lt 5, 3) := by decide +kernel
theorem dJ2_indexOf_4cfef_20 : decode cJ2_indexOf_4cfef 20 = .ok (.iconst (-1), 1) := by decide +kernel
theorem dJ2_indexOf_4cfef_21 : decode cJ2_indexOf_4cfef 21 = .ok (.ireturn, 1) := by decide +kernel
theorem dJ2_indexOf_4cfef_22 : decode cJ2_indexOf_4cfef 22 = .ok (.iload_n 1, 1) := by decide +kernel
theorem dJ2_indexOf_4cfef_23 : decode cJ2_indexOf_4cfef 23 = .ok (.ldc 227, 2) := by decide +kernel
theorem dJ2_indexOf_4cfef_25 : decode cJ2_indexOf_4cfef 25 = .ok (.if_icmp .ge 11, 3) := by decide +kernel
theorem dJ2_indexOf_4cfef_28 : decode cJ2_indexOf_4cfef 28 = .ok (.aload_n 0, 1) := by decide +kernel
theorem dJ2_indexOf_4cfef_29 : decode cJ2_indexOf_4cfef 29 = .ok (.iload_n 1, 1) := by decide +kernel
theorem dJ2_indexOf_4cfef_30 : decode cJ2_indexOf_4cfef 30 = .ok (.iload_n 2, 1) := by decide +kernel
theorem dJ2_indexOf_4cfef_31 : decode cJ2_indexOf_4cfef 31 = .ok (.iload_n 3, 1) := by decide +kernel
theorem dJ2_indexOf_4cfef_32 : decode cJ2_indexOf_4cfef 32 = .ok (.invokestatic 228, 3) := by decide +kernel
theorem dJ2_indexOf_4cfef_35 : decode cJ2_indexOf_4cfef 35 = .ok (.ireturn, 1) := by decide +kernel
theorem dJ2_indexOf_4cfef_36 : decode cJ2_indexOf_4cfef 36 = .ok (.aload_n 0, 1) := by decide +kernel
theorem dJ2_indexOf_4cfef_37 : decode cJ2_indexOf_4cfef 37 = .ok (.iload_n 1, 1) := by decide +kernel
theorem dJ2_indexOf_4cfef_38 : decode cJ2_indexOf_4cfef 38 = .ok (.iload_n 2, 1) := by decide +kernel
theorem dJ2_indexOf_4cfef_39 : decode cJ2_indexOf_4cfef 39 = .ok (.iload_n 3, 1) := by decide +kernel
theorem dJ2_indexOf_4cfef_40 : decode cJ2_indexOf_4cfef 40 = .ok (.invokestatic 232, 3) := by decide +kernel
theorem dJ2_indexOf_4cfef_43 : decode cJ2_indexOf_4cfef 43 = .ok (.ireturn, 1) := by decide +kernel
theorem dJ2_indexOfChar_4cfef_0 : decode cJ2_indexOfChar_4cfef 0 = .ok (.iload_n 2, 1) := by decide +kernel
theorem dJ2_indexOfChar_4cfef_1 : decode cJ2_indexOfChar_4cfef 1 = .ok (.iload_n 3, 1) := by decide +kernel
theorem dJ2_indexOfChar_4cfef_2 : decode cJ2_indexOfChar_4cfef 2 = .ok (.aload_n 0, 1) := by decide +kernel
theorem dJ2_indexOfChar_4cfef_3 : decode cJ2_indexOfChar_4cfef 3 = .ok (.invokestatic 96, 3) := by decide +kernel
theorem dJ2_indexOfChar_4cfef_6 : decode cJ2_indexOfChar_4cfef 6 = .ok (.aload_n 0, 1) := by decide +kernel
theorem dJ2_indexOfChar_4cfef_7 : decode cJ2_indexOfChar_4cfef 7 = .ok (.iload_n 1, 1) := by decide +kernel
theorem dJ2_indexOfChar_4cfef_8 : decode cJ2_indexOfChar_4cfef 8 = .ok (.iload_n 2, 1) := by decide +kernel
theorem dJ2_indexOfChar_4cfef_9 : decode cJ2_indexOfChar_4cfef 9 = .ok (.iload_n 3, 1) := by decide +kernel
theorem dJ2_indexOfChar_4cfef_10 : decode cJ2_indexOfChar_4cfef 10 = .ok (.invokestatic 244, 3) := by decide +kernel
theorem dJ2_indexOfChar_4cfef_13 : decode cJ2_indexOfChar_4cfef 13 = .ok (.ireturn, 1) := by decide +kernel
theorem dJ2_indexOfCharUnsafe_4cfef_0 : decode cJ2_indexOfCharUnsafe_4cfef 0 = .ok (.iload_n 2, 1) := by decide +kernel
theorem dJ2_indexOfCharUnsafe_4cfef_1 : decode cJ2_indexOfCharUnsafe_4cfef 1 = .ok (.istore 4, 2) := by decide +kernel
theorem dJ2_indexOfCharUnsafe_4cfef_3 : decode cJ2_indexOfCharUnsafe_4cfef 3 = .ok (.iload 4, 2) := by decide +kernel
theorem dJ2_indexOfCharUnsafe_4cfef_5 : decode cJ2_indexOfCharUnsafe_4cfef 5 = .ok (.iload_n 3, 1) := by decide +kernel
theorem dJ2_indexOfCharUnsafe_4cfef_6 : decode cJ2_indexOfCharUnsafe_4cfef 6 = .ok (.if_icmp .ge 22, 3) := by decide +kernel
theorem dJ2_indexOfCharUnsafe_4cfef_9 : decode cJ2_indexOfCharUnsafe_4cfef 9 = .ok (.aload_n 0, 1) := by decide +kernel
theorem dJ2_indexOfCharUnsafe_4cfef_10 : decode cJ2_indexOfCharUnsafe_4cfef 10 = .ok (.iload 4, 2) := by decide +kernel
theorem dJ2_indexOfCharUnsafe_4cfef_12 : decode cJ2_indexOfCharUnsafe_4cfef 12 = .ok (.invokestatic 71, 3) := by decide +kernel
theorem dJ2_indexOfCharUnsafe_4cfef_15 : decode cJ2_indexOfCharUnsafe_4cfef 15 = .ok (.iload_n 1, 1) := by decide +kernel
theorem dJ2_indexOfCharUnsafe_4cfef_16 : decode cJ2_indexOfCharUnsafe_4cfef 16 = .ok (.if_icmp .ne 6, 3) := by decide +kernel
theorem dJ2_indexOfCharUnsafe_4cfef_19 : decode cJ2_indexOfCharUnsafe_4cfef 19 = .ok (.iload 4, 2) := by decide +kernel
theorem dJ2_indexOfCharUnsafe_4cfef_21 : decode cJ2_indexOfCharUnsafe_4cfef 21 = .ok (.ireturn, 1) := by decide +kernel
theorem dJ2_indexOfCharUnsafe_4cfef_22 : decode cJ2_indexOfCharUnsafe_4cfef 22 = .ok (.iinc 4 1, 3) := by decide +kernel
theorem dJ2_indexOfCharUnsafe_4cfef_25 : decode cJ2_indexOfCharUnsafe_4cfef 25 = .ok (.goto (-22), 3) := by decide +kernel
theorem dJ2_indexOfCharUnsafe_4cfef_28 : decode cJ2_indexOfCharUnsafe_4cfef 28 = .ok (.iconst (-1), 1) := by decide +kernel
theorem dJ2_indexOfCharUnsafe_4cfef_29 : decode cJ2_indexOfCharUnsafe_4cfef 29 = .ok (.ireturn, 1) := by decide +kernel
theorem dJ2_indexOfSupplementary_4cfef_0 : decode cJ2_indexOfSupplementary_4cfef 0 = .ok (.iload_n 1, 1) := by decide +kernel
theorem dJ2_indexOfSupplementary_4cfef_1 : decode cJ2_indexOfSupplementary_4cfef 1 = .ok (.invokestatic 164, 3) := by decide +kernel
theorem dJ2_indexOfSupplementary_4cfef_4 : decode cJ2_indexOfSupplementary_4cfef 4 = .ok (.ifCond .eq 65, 3) := by decide +kernel
theorem dJ2_indexOfSupplementary_4cfef_7 : decode cJ2_indexOfSupplementary_4cfef 7 = .ok (.iload_n 1, 1) := by decide +kernel
theorem dJ2_indexOfSupplementary_4cfef_8 : decode cJ2_indexOfSupplementary_4cfef 8 = .ok (.invokestatic 157, 3) := by decide +kernel
theorem dJ2_indexOfSupplementary_4cfef_11 : decode cJ2_indexOfSupplementary_4cfef 11 = .ok (.istore 4, 2) := by decide +kernel
theorem dJ2_indexOfSupplementary_4cfef_13 : decode cJ2_indexOfSupplementary_4cfef 13 = .ok (.iload_n 1, 1) := by decide +kernel
theorem dJ2_indexOfSupplementary_4cfef_14 : decode cJ2_indexOfSupplementary_4cfef 14 = .ok (.invokestatic 161, 3) := by decide +kernel
theorem dJ2_indexOfSupplementary_4cfef_17 : decode cJ2_indexOfSupplementary_4cfef 17 = .ok (.istore 5, 2) := by decide +kernel
theorem dJ2_indexOfSupplementary_4cfef_19 : decode cJ2_indexOfSupplementary_4cfef 19 = .ok (.iload_n 2, 1) := by decide +kernel
theorem dJ2_indexOfSupplementary_4cfef_20 : decode cJ2_indexOfSupplementary_4cfef 20 = .ok (.iload_n 3, 1) := by decide +kernel
theorem dJ2_indexOfSupplementary_4cfef_21 : decode cJ2_indexOfSupplementary_4cfef 21 = .ok (.aload_n 0, 1) := by decide +kernel
theorem dJ2_indexOfSupplementary_4cfef_22 : decode cJ2_indexOfSupplementary_4cfef 22 = .ok (.invokestatic 96, 3) := by decide +kernel
theorem dJ2_indexOfSupplementary_4cfef_25 : decode cJ2_indexOfSupplementary_4cfef 25 = .ok (.iload_n 2, 1) := by decide +kernel
theorem dJ2_indexOfSupplementary_4cfef_26 : decode cJ2_indexOfSupplementary_4cfef 26 = .ok (.istore 6, 2) := by decide +kernel
theorem dJ2_indexOfSupplementary_4cfef_28 : decode cJ2_indexOfSupplementary_4cfef 28 = .ok (.iload 6, 2) := by decide +kernel
theorem dJ2_indexOfSupplementary_4cfef_30 : decode cJ2_indexOfSupplementary_4cfef 30 = .ok (.iload_n 3, 1) := by decide +kernel
theorem dJ2_indexOfSupplementary_4cfef_31 : decode cJ2_indexOfSupplementary_4cfef 31 = .ok (.iconst 1, 1) := by decide +kernel
theorem dJ2_indexOfSupplementary_4cfef_32 : decode cJ2_indexOfSupplementary_4cfef 32 = .ok (.isub, 1) := by decide +kernel
theorem dJ2_indexOfSupplementary_4cfef_33 : decode cJ2_indexOfSupplementary_4cfef 33 = .ok (.if_icmp .ge 36, 3) := by decide +kernel
theorem dJ2_indexOfSupplementary_4cfef_36 : decode cJ2_indexOfSupplementary_4cfef 36 = .ok (.aload_n 0, 1) := by decide +kernel
theorem dJ2_indexOfSupplementary_4cfef_37 : decode cJ2_indexOfSupplementary_4cfef 37 = .ok (.iload 6, 2) := by decide +kernel
theorem dJ2_indexOfSupplementary_4cfef_39 : decode cJ2_indexOfSupplementary_4cfef 39 = .ok (.invokestatic 71, 3) := by decide +kernel
theorem dJ2_indexOfSupplementary_4cfef_42 : decode cJ2_indexOfSupplementary_4cfef 42 = .ok (.iload 4, 2) := by decide +kernel
theorem dJ2_indexOfSupplementary_4cfef_44 : decode cJ2_indexOfSupplementary_4cfef 44 = .ok (.if_icmp .ne 19, 3) := by decide +kernel
theorem dJ2_indexOfSupplementary_4cfef_47 : decode cJ2_indexOfSupplementary_4cfef 47 = .ok (.aload_n 0, 1) := by decide +kernel
theorem dJ2_indexOfSupplementary_4cfef_48 : decode cJ2_indexOfSupplementary_4cfef 48 = .ok (.iload 6, 2) := by decide +kernel
theorem dJ2_indexOfSupplementary_4cfef_50 : decode cJ2_indexOfSupplementary_4cfef 50 = .ok (.iconst 1, 1) := by decide +kernel
theorem dJ2_indexOfSupplementary_4cfef_51 : decode cJ2_indexOfSupplementary_4cfef 51 = .ok (.iadd, 1) := by decide +kernel
theorem dJ2_indexOfSupplementary_4cfef_52 : decode cJ2_indexOfSupplementary_4cfef 52 = .ok (.invokestatic 71, 3) := by decide +kernel
theorem dJ2_indexOfSupplementary_4cfef_55 : decode cJ2_indexOfSupplementary_4cfef 55 = .ok (.iload 5, 2) := by decide +kernel
theorem dJ2_indexOfSupplementary_4cfef_57 : decode cJ2_indexOfSupplementary_4cfef 57 = .ok (.if_icmp .ne 6, 3) := by decide +kernel
theorem dJ2_indexOfSupplementary_4cfef_60 : decode cJ2_indexOfSupplementary_4cfef 60 = .ok (.iload 6, 2) := by decide +kernel
theorem dJ2_indexOfSupplementary_4cfef_62 : decode cJ2_indexOfSupplementary_4cfef 62 = .ok (.ireturn, 1) := by decide +kernel
theorem dJ2_indexOfSupplementary_4cfef_63 : decode cJ2_indexOfSupplementary_4cfef 63 = .ok (.iinc 6 1, 3) := by decide +kernel
theorem dJ2_indexOfSupplementary_4cfef_66 : decode cJ2_indexOfSupplementary_4cfef 66 = .ok (.goto (-38), 3) := by decide +kernel
theorem dJ2_indexOfSupplementary_4cfef_69 : decode cJ2_indexOfSupplementary_4cfef 69 = .ok (.iconst (-1), 1) := by decide +kernel
theorem dJ2_indexOfSupplementary_4cfef_70 : decode cJ2_indexOfSupplementary_4cfef 70 = .ok (.ireturn, 1) := by decide +kernel
theorem dJ2_charAt_3b067_0 : decode cJ2_charAt_3b067 0 = .ok (.iload_n 1, 1) := by decide +kernel
theorem dJ2_charAt_3b067_1 : decode cJ2_charAt_3b067 1 = .ok (.aload_n 0, 1) := by decide +kernel
theorem dJ2_charAt_3b067_2 : decode cJ2_charAt_3b067 2 = .ok (.invokestatic 67, 3) := by decide +kernel
theorem dJ2_charAt_3b067_5 : decode cJ2_charAt_3b067 5 = .ok (.aload_n 0, 1) := by decide +kernel
theorem dJ2_charAt_3b067_6 : decode cJ2_charAt_3b067 6 = .ok (.iload_n 1, 1) := by decide +kernel
theorem dJ2_charAt_3b067_7 : decode cJ2_charAt_3b067 7 = .ok (.invokestatic 71, 3) := by decide +kernel
theorem dJ2_charAt_3b067_10 : decode cJ2_charAt_3b067 10 = .ok (.ireturn, 1) := by decide +kernel
theorem dJ2_checkIndex_2214a_0 : decode cJ2_checkIndex_2214a 0 = .ok (.iload_n 0, 1) := by decide +kernel
theorem dJ2_checkIndex_2214a_1 : decode cJ2_checkIndex_2214a 1 = .ok (.aload_n 1, 1) := by decide +kernel
theorem dJ2_checkIndex_2214a_2 : decode cJ2_checkIndex_2214a 2 = .ok (.invokestatic 48, 3) := by decide +kernel
theorem dJ2_checkIndex_2214a_5 : decode cJ2_checkIndex_2214a 5 = .ok (.invokestatic 414, 3) := by decide +kernel
theorem dJ2_checkIndex_2214a_8 : decode cJ2_checkIndex_2214a 8 = .ok (.return_, 1) := by decide +kernel
theorem dJ2_checkBoundsBeginEnd_d044e_0 : decode cJ2_checkBoundsBeginEnd_d044e 0 = .ok (.iload_n 0, 1) := by decide +kernel
theorem dJ2_checkBoundsBeginEnd_d044e_1 : decode cJ2_checkBoundsBeginEnd_d044e 1 = .ok (.iload_n 1, 1) := by decide +kernel
theorem dJ2_checkBoundsBeginEnd_d044e_2 : decode cJ2_checkBoundsBeginEnd_d044e 2 = .ok (.aload_n 2, 1) := by decide +kernel
theorem dJ2_checkBoundsBeginEnd_d044e_3 : decode cJ2_checkBoundsBeginEnd_d044e 3 = .ok (.invokestatic 48, 3) := by decide +kernel
theorem dJ2_checkBoundsBeginEnd_d044e_6 : decode cJ2_checkBoundsBeginEnd_d044e 6 = .ok (.invokestatic 241, 3) := by decide +kernel
theorem dJ2_checkBoundsBeginEnd_d044e_9 : decode cJ2_checkBoundsBeginEnd_d044e 9 = .ok (.return_, 1) := by decide +kernel
theorem dJ3_checkIndex_8e157_0 : decode cJ3_checkIndex_8e157 0 = .ok (.iload_n 0, 1) := by decide +kernel
theorem dJ3_checkIndex_8e157_1 : decode cJ3_checkIndex_8e157 1 = .ok (.ifCond .lt 8, 3) := by decide +kernel
theorem dJ3_checkIndex_8e157_4 : decode cJ3_checkIndex_8e157 4 = .ok (.iload_n 0, 1) := by decide +kernel
theorem dJ3_checkIndex_8e157_5 : decode cJ3_checkIndex_8e157 5 = .ok (.iload_n 1, 1) := by decide +kernel
theorem dJ3_checkIndex_8e157_6 : decode cJ3_checkIndex_8e157 6 = .ok (.if_icmp .lt 10, 3) := by decide +kernel
theorem dJ3_checkIndex_8e157_9 : decode cJ3_checkIndex_8e157 9 = .ok (.aload_n 2, 1) := by decide +kernel
theorem dJ3_checkIndex_8e157_10 : decode cJ3_checkIndex_8e157 10 = .ok (.iload_n 0, 1) := by decide +kernel
theorem dJ3_checkIndex_8e157_11 : decode cJ3_checkIndex_8e157 11 = .ok (.iload_n 1, 1) := by decide +kernel
theorem dJ3_checkIndex_8e157_12 : decode cJ3_checkIndex_8e157 12 = .ok (.invokestatic 95, 3) := by decide +kernel
theorem dJ3_checkIndex_8e157_15 : decode cJ3_checkIndex_8e157 15 = .ok (.athrow, 1) := by decide +kernel
theorem dJ3_checkIndex_8e157_16 : decode cJ3_checkIndex_8e157 16 = .ok (.iload_n 0, 1) := by decide +kernel
theorem dJ3_checkIndex_8e157_17 : decode cJ3_checkIndex_8e157 17 = .ok (.ireturn, 1) := by decide +kernel
theorem dJ3_checkFromToIndex_8c36e_0 : decode cJ3_checkFromToIndex_8c36e 0 = .ok (.iload_n 0, 1) := by decide +kernel
theorem dJ3_checkFromToIndex_8c36e_1 : decode cJ3_checkFromToIndex_8c36e 1 = .ok (.ifCond .lt 13, 3) := by decide +kernel
theorem dJ3_checkFromToIndex_8c36e_4 : decode cJ3_checkFromToIndex_8c36e 4 = .ok (.iload_n 0, 1) := by decide +kernel
theorem dJ3_checkFromToIndex_8c36e_5 : decode cJ3_checkFromToIndex_8c36e 5 = .ok (.iload_n 1, 1) := by decide +kernel
theorem dJ3_checkFromToIndex_8c36e_6 : decode cJ3_checkFromToIndex_8c36e 6 = .ok (.if_icmp .gt 8, 3) := by decide +kernel
theorem dJ3_checkFromToIndex_8c36e_9 : decode cJ3_checkFromToIndex_8c36e 9 = .ok (.iload_n 1, 1) := by decide +kernel
theorem dJ3_checkFromToIndex_8c36e_10 : decode cJ3_checkFromToIndex_8c36e 10 = .ok (.iload_n 2, 1) := by decide +kernel
theorem dJ3_checkFromToIndex_8c36e_11 : decode cJ3_checkFromToIndex_8c36e 11 = .ok (.if_icmp .le 11, 3) := by decide +kernel
theorem dJ3_checkFromToIndex_8c36e_14 : decode cJ3_checkFromToIndex_8c36e 14 = .ok (.aload_n 3, 1) := by decide +kernel
theorem dJ3_checkFromToIndex_8c36e_15 : decode cJ3_checkFromToIndex_8c36e 15 = .ok (.iload_n 0, 1) := by decide +kernel
theorem dJ3_checkFromToIndex_8c36e_16 : decode cJ3_checkFromToIndex_8c36e 16 = .ok (.iload_n 1, 1) := by decide +kernel
theorem dJ3_checkFromToIndex_8c36e_17 : decode cJ3_checkFromToIndex_8c36e 17 = .ok (.iload_n 2, 1) := by decide +kernel
theorem dJ3_checkFromToIndex_8c36e_18 : decode cJ3_checkFromToIndex_8c36e 18 = .ok (.invokestatic 99, 3) := by decide +kernel
theorem dJ3_checkFromToIndex_8c36e_21 : decode cJ3_checkFromToIndex_8c36e 21 = .ok (.athrow, 1) := by decide +kernel
theorem dJ3_checkFromToIndex_8c36e_22 : decode cJ3_checkFromToIndex_8c36e 22 = .ok (.iload_n 0, 1) := by decide +kernel
theorem dJ3_checkFromToIndex_8c36e_23 : decode cJ3_checkFromToIndex_8c36e 23 = .ok (.ireturn, 1) := by decide +kernel
theorem dJ6_bitCount_0f7a4_0 : decode cJ6_bitCount_0f7a4 0 = .ok (.iload_n 0, 1) := by decide +kernel
theorem dJ6_bitCount_0f7a4_1 : decode cJ6_bitCount_0f7a4 1 = .ok (.iload_n 0, 1) := by decide +kernel
theorem dJ6_bitCount_0f7a4_2 : decode cJ6_bitCount_0f7a4 2 = .ok (.iconst 1, 1) := by decide +kernel
theorem dJ6_bitCount_0f7a4_3 : decode cJ6_bitCount_0f7a4 3 = .ok (.iushr, 1) := by decide +kernel
theorem dJ6_bitCount_0f7a4_4 : decode cJ6_bitCount_0f7a4 4 = .ok (.ldc_w 265, 3) := by decide +kernel
theorem dJ6_bitCount_0f7a4_7 : decode cJ6_bitCount_0f7a4 7 = .ok (.iand, 1) := by decide +kernel
theorem dJ6_bitCount_0f7a4_8 : decode cJ6_bitCount_0f7a4 8 = .ok (.isub, 1) := by decide +kernel
theorem dJ6_bitCount_0f7a4_9 : decode cJ6_bitCount_0f7a4 9 = .ok (.istore_n 0, 1) := by decide +kernel
theorem dJ6_bitCount_0f7a4_10 : decode cJ6_bitCount_0f7a4 10 = .ok (.iload_n 0, 1) := by decide +kernel
theorem dJ6_bitCount_0f7a4_11 : decode cJ6_bitCount_0f7a4 11 = .ok (.ldc_w 266, 3) := by decide +kernel
theorem dJ6_bitCount_0f7a4_14 : decode cJ6_bitCount_0f7a4 14 = .ok (.iand, 1) := by decide +kernel
theorem dJ6_bitCount_0f7a4_15 : decode cJ6_bitCount_0f7a4 15 = .ok (.iload_n 0, 1) := by decide +kernel
theorem dJ6_bitCount_0f7a4_16 : decode cJ6_bitCount_0f7a4 16 = .ok (.iconst 2, 1) := by decide +kernel
theorem dJ6_bitCount_0f7a4_17 : decode cJ6_bitCount_0f7a4 17 = .ok (.iushr, 1) := by decide +kernel
theorem dJ6_bitCount_0f7a4_18 : decode cJ6_bitCount_0f7a4 18 = .ok (.ldc_w 266, 3) := by decide +kernel
theorem dJ6_bitCount_0f7a4_21 : decode cJ6_bitCount_0f7a4 21 = .ok (.iand, 1) := by decide +kernel
theorem dJ6_bitCount_0f7a4_22 : decode cJ6_bitCount_0f7a4 22 = .ok (.iadd, 1) := by decide +kernel
theorem dJ6_bitCount_0f7a4_23 : decode cJ6_bitCount_0f7a4 23 = .ok (.istore_n 0, 1) := by decide +kernel
theorem dJ6_bitCount_0f7a4_24 : decode cJ6_bitCount_0f7a4 24 = .ok (.iload_n 0, 1) := by decide +kernel
theorem dJ6_bitCount_0f7a4_25 : decode cJ6_bitCount_0f7a4 25 = .ok (.iload_n 0, 1) := by decide +kernel
theorem dJ6_bitCount_0f7a4_26 : decode cJ6_bitCount_0f7a4 26 = .ok (.iconst 4, 1) := by decide +kernel
theorem dJ6_bitCount_0f7a4_27 : decode cJ6_bitCount_0f7a4 27 = .ok (.iushr, 1) := by decide +kernel
theorem dJ6_bitCount_0f7a4_28 : decode cJ6_bitCount_0f7a4 28 = .ok (.iadd, 1) := by decide +kernel
theorem dJ6_bitCount_0f7a4_29 : decode cJ6_bitCount_0f7a4 29 = .ok (.ldc_w 267, 3) := by decide +kernel
theorem dJ6_bitCount_0f7a4_32 : decode cJ6_bitCount_0f7a4 32 = .ok (.iand, 1) := by decide +kernel
theorem dJ6_bitCount_0f7a4_33 : decode cJ6_bitCount_0f7a4 33 = .ok (.istore_n 0, 1) := by decide +kernel
theorem dJ6_bitCount_0f7a4_34 : decode cJ6_bitCount_0f7a4 34 = .ok (.iload_n 0, 1) := by decide +kernel
theorem dJ6_bitCount_0f7a4_35 : decode cJ6_bitCount_0f7a4 35 = .ok (.iload_n 0, 1) := by decide +kernel
theorem dJ6_bitCount_0f7a4_36 : decode cJ6_bitCount_0f7a4 36 = .ok (.bipush 8, 2) := by decide +kernel
theorem dJ6_bitCount_0f7a4_38 : decode cJ6_bitCount_0f7a4 38 = .ok (.iushr, 1) := by decide +kernel
theorem dJ6_bitCount_0f7a4_39 : decode cJ6_bitCount_0f7a4 39 = .ok (.iadd, 1) := by decide +kernel
theorem dJ6_bitCount_0f7a4_40 : decode cJ6_bitCount_0f7a4 40 = .ok (.istore_n 0, 1) := by decide +kernel
theorem dJ6_bitCount_0f7a4_41 : decode cJ6_bitCount_0f7a4 41 = .ok (.iload_n 0, 1) := by decide +kernel
theorem dJ6_bitCount_0f7a4_42 : decode cJ6_bitCount_0f7a4 42 = .ok (.iload_n 0, 1) := by decide +kernel
theorem dJ6_bitCount_0f7a4_43 : decode cJ6_bitCount_0f7a4 43 = .ok (.bipush 16, 2) := by decide +kernel
theorem dJ6_bitCount_0f7a4_45 : decode cJ6_bitCount_0f7a4 45 = .ok (.iushr, 1) := by decide +kernel
theorem dJ6_bitCount_0f7a4_46 : decode cJ6_bitCount_0f7a4 46 = .ok (.iadd, 1) := by decide +kernel
theorem dJ6_bitCount_0f7a4_47 : decode cJ6_bitCount_0f7a4 47 = .ok (.istore_n 0, 1) := by decide +kernel
theorem dJ6_bitCount_0f7a4_48 : decode cJ6_bitCount_0f7a4 48 = .ok (.iload_n 0, 1) := by decide +kernel
theorem dJ6_bitCount_0f7a4_49 : decode cJ6_bitCount_0f7a4 49 = .ok (.bipush 63, 2) := by decide +kernel
theorem dJ6_bitCount_0f7a4_51 : decode cJ6_bitCount_0f7a4 51 = .ok (.iand, 1) := by decide +kernel
theorem dJ6_bitCount_0f7a4_52 : decode cJ6_bitCount_0f7a4 52 = .ok (.ireturn, 1) := by decide +kernel
theorem dJ7_fill_53178_0 : decode cJ7_fill_53178 0 = .ok (.iconst 0, 1) := by decide +kernel
theorem dJ7_fill_53178_1 : decode cJ7_fill_53178 1 = .ok (.istore_n 2, 1) := by decide +kernel
theorem dJ7_fill_53178_2 : decode cJ7_fill_53178 2 = .ok (.aload_n 0, 1) := by decide +kernel
theorem dJ7_fill_53178_3 : decode cJ7_fill_53178 3 = .ok (.arraylength, 1) := by decide +kernel
theorem dJ7_fill_53178_4 : decode cJ7_fill_53178 4 = .ok (.istore_n 3, 1) := by decide +kernel
theorem dJ7_fill_53178_5 : decode cJ7_fill_53178 5 = .ok (.iload_n 2, 1) := by decide +kernel
theorem dJ7_fill_53178_6 : decode cJ7_fill_53178 6 = .ok (.iload_n 3, 1) := by decide +kernel
theorem dJ7_fill_53178_7 : decode cJ7_fill_53178 7 = .ok (.if_icmp .ge 13, 3) := by decide +kernel
theorem dJ7_fill_53178_10 : decode cJ7_fill_53178 10 = .ok (.aload_n 0, 1) := by decide +kernel
theorem dJ7_fill_53178_11 : decode cJ7_fill_53178 11 = .ok (.iload_n 2, 1) := by decide +kernel
theorem dJ7_fill_53178_12 : decode cJ7_fill_53178 12 = .ok (.iload_n 1, 1) := by decide +kernel
theorem dJ7_fill_53178_13 : decode cJ7_fill_53178 13 = .ok (.iastore, 1) := by decide +kernel
theorem dJ7_fill_53178_14 : decode cJ7_fill_53178 14 = .ok (.iinc 2 1, 3) := by decide +kernel
theorem dJ7_fill_53178_17 : decode cJ7_fill_53178 17 = .ok (.goto (-12), 3) := by decide +kernel
theorem dJ7_fill_53178_20 : decode cJ7_fill_53178 20 = .ok (.return_, 1) := by decide +kernel
theorem dJ7_copyOf_59c91_0 : decode cJ7_copyOf_59c91 0 = .ok (.iload_n 1, 1) := by decide +kernel
theorem dJ7_copyOf_59c91_1 : decode cJ7_copyOf_59c91 1 = .ok (.aload_n 0, 1) := by decide +kernel
theorem dJ7_copyOf_59c91_2 : decode cJ7_copyOf_59c91 2 = .ok (.arraylength, 1) := by decide +kernel
theorem dJ7_copyOf_59c91_3 : decode cJ7_copyOf_59c91 3 = .ok (.if_icmp .ne 11, 3) := by decide +kernel
theorem dJ7_copyOf_59c91_6 : decode cJ7_copyOf_59c91 6 = .ok (.aload_n 0, 1) := by decide +kernel
theorem dJ7_copyOf_59c91_7 : decode cJ7_copyOf_59c91 7 = .ok (.invokevirtual 316, 3) := by decide +kernel
theorem dJ7_copyOf_59c91_10 : decode cJ7_copyOf_59c91 10 = .ok (.checkcast 317, 3) := by decide +kernel
theorem dJ7_copyOf_59c91_13 : decode cJ7_copyOf_59c91 13 = .ok (.areturn, 1) := by decide +kernel
theorem dJ7_copyOf_59c91_14 : decode cJ7_copyOf_59c91 14 = .ok (.iload_n 1, 1) := by decide +kernel
theorem dJ7_copyOf_59c91_15 : decode cJ7_copyOf_59c91 15 = .ok (.newarray .int, 2) := by decide +kernel
theorem dJ7_copyOf_59c91_17 : decode cJ7_copyOf_59c91 17 = .ok (.astore_n 2, 1) := by decide +kernel
theorem dJ7_copyOf_59c91_18 : decode cJ7_copyOf_59c91 18 = .ok (.aload_n 0, 1) := by decide +kernel
theorem dJ7_copyOf_59c91_19 : decode cJ7_copyOf_59c91 19 = .ok (.iconst 0, 1) := by decide +kernel
theorem dJ7_copyOf_59c91_20 : decode cJ7_copyOf_59c91 20 = .ok (.aload_n 2, 1) := by decide +kernel
theorem dJ7_copyOf_59c91_21 : decode cJ7_copyOf_59c91 21 = .ok (.iconst 0, 1) := by decide +kernel
theorem dJ7_copyOf_59c91_22 : decode cJ7_copyOf_59c91 22 = .ok (.aload_n 0, 1) := by decide +kernel
theorem dJ7_copyOf_59c91_23 : decode cJ7_copyOf_59c91 23 = .ok (.arraylength, 1) := by decide +kernel
theorem dJ7_copyOf_59c91_24 : decode cJ7_copyOf_59c91 24 = .ok (.iload_n 1, 1) := by decide +kernel
theorem dJ7_copyOf_59c91_25 : decode cJ7_copyOf_59c91 25 = .ok (.invokestatic 304, 3) := by decide +kernel
theorem dJ7_copyOf_59c91_28 : decode cJ7_copyOf_59c91 28 = .ok (.invokestatic 150, 3) := by decide +kernel
theorem dJ7_copyOf_59c91_31 : decode cJ7_copyOf_59c91 31 = .ok (.aload_n 2, 1) := by decide +kernel
theorem dJ7_copyOf_59c91_32 : decode cJ7_copyOf_59c91 32 = .ok (.areturn, 1) := by decide +kernel
theorem dJ9_abs_0f7a4_0 : decode cJ9_abs_0f7a4 0 = .ok (.iload_n 0, 1) := by decide +kernel
theorem dJ9_abs_0f7a4_1 : decode cJ9_abs_0f7a4 1 = .ok (.ifCond .ge 8, 3) := by decide +kernel
theorem dJ9_abs_0f7a4_4 : decode cJ9_abs_0f7a4 4 = .ok (.iload_n 0, 1) := by decide +kernel
theorem dJ9_abs_0f7a4_5 : decode cJ9_abs_0f7a4 5 = .ok (.ineg, 1) := by decide +kernel
theorem dJ9_abs_0f7a4_6 : decode cJ9_abs_0f7a4 6 = .ok (.goto 4, 3) := by decide +kernel
theorem dJ9_abs_0f7a4_9 : decode cJ9_abs_0f7a4 9 = .ok (.iload_n 0, 1) := by decide +kernel
theorem dJ9_abs_0f7a4_10 : decode cJ9_abs_0f7a4 10 = .ok (.ireturn, 1) := by decide +kernel
theorem dJ9_max_7cf53_0 : decode cJ9_max_7cf53 0 = .ok (.iload_n 0, 1) := by decide +kernel
theorem dJ9_max_7cf53_1 : decode cJ9_max_7cf53 1 = .ok (.iload_n 1, 1) := by decide +kernel
theorem dJ9_max_7cf53_2 : decode cJ9_max_7cf53 2 = .ok (.if_icmp .lt 7, 3) := by decide +kernel
theorem dJ9_max_7cf53_5 : decode cJ9_max_7cf53 5 = .ok (.iload_n 0, 1) := by decide +kernel
theorem dJ9_max_7cf53_6 : decode cJ9_max_7cf53 6 = .ok (.goto 4, 3) := by decide +kernel
theorem dJ9_max_7cf53_9 : decode cJ9_max_7cf53 9 = .ok (.iload_n 1, 1) := by decide +kernel
theorem dJ9_max_7cf53_10 : decode cJ9_max_7cf53 10 = .ok (.ireturn, 1) := by decide +kernel
theorem dJ9_max_f86c9_0 : decode cJ9_max_f86c9 0 = .ok (.lload_n 0, 1) := by decide +kernel
theorem dJ9_max_f86c9_1 : decode cJ9_max_f86c9 1 = .ok (.lload_n 2, 1) := by decide +kernel
theorem dJ9_max_f86c9_2 : decode cJ9_max_f86c9 2 = .ok (.lcmp, 1) := by decide +kernel
theorem dJ9_max_f86c9_3 : decode cJ9_max_f86c9 3 = .ok (.ifCond .lt 7, 3) := by decide +kernel
theorem dJ9_max_f86c9_6 : decode cJ9_max_f86c9 6 = .ok (.lload_n 0, 1) := by decide +kernel
theorem dJ9_max_f86c9_7 : decode cJ9_max_f86c9 7 = .ok (.goto 4, 3) := by decide +kernel
theorem dJ9_max_f86c9_10 : decode cJ9_max_f86c9 10 = .ok (.lload_n 2, 1) := by decide +kernel
theorem dJ9_max_f86c9_11 : decode cJ9_max_f86c9 11 = .ok (.lreturn, 1) := by decide +kernel
theorem dJ9_min_7cf53_0 : decode cJ9_min_7cf53 0 = .ok (.iload_n 0, 1) := by decide +kernel
theorem dJ9_min_7cf53_1 : decode cJ9_min_7cf53 1 = .ok (.iload_n 1, 1) := by decide +kernel
theorem dJ9_min_7cf53_2 : decode cJ9_min_7cf53 2 = .ok (.if_icmp .gt 7, 3) := by decide +kernel
theorem dJ9_min_7cf53_5 : decode cJ9_min_7cf53 5 = .ok (.iload_n 0, 1) := by decide +kernel
theorem dJ9_min_7cf53_6 : decode cJ9_min_7cf53 6 = .ok (.goto 4, 3) := by decide +kernel
theorem dJ9_min_7cf53_9 : decode cJ9_min_7cf53 9 = .ok (.iload_n 1, 1) := by decide +kernel
theorem dJ9_min_7cf53_10 : decode cJ9_min_7cf53 10 = .ok (.ireturn, 1) := by decide +kernel
theorem dX0_init_0 : decode cX0_init 0 = .ok (.aload_n 0, 1) := by decide +kernel
theorem dX0_init_1 : decode cX0_init 1 = .ok (.invokespecial 3, 3) := by decide +kernel
theorem dX0_init_4 : decode cX0_init 4 = .ok (.aload_n 0, 1) := by decide +kernel
theorem dX0_init_5 : decode cX0_init 5 = .ok (.iconst 3, 1) := by decide +kernel
theorem dX0_init_6 : decode cX0_init 6 = .ok (.newarray .int, 2) := by decide +kernel
theorem dX0_init_8 : decode cX0_init 8 = .ok (.dup, 1) := by decide +kernel
theorem dX0_init_9 : decode cX0_init 9 = .ok (.iconst 0, 1) := by decide +kernel
theorem dX0_init_10 : decode cX0_init 10 = .ok (.iconst (-1), 1) := by decide +kernel
theorem dX0_init_11 : decode cX0_init 11 = .ok (.iastore, 1) := by decide +kernel
theorem dX0_init_12 : decode cX0_init 12 = .ok (.dup, 1) := by decide +kernel
theorem dX0_init_13 : decode cX0_init 13 = .ok (.iconst 1, 1) := by decide +kernel
theorem dX0_init_14 : decode cX0_init 14 = .ok (.iconst (-1), 1) := by decide +kernel
theorem dX0_init_15 : decode cX0_init 15 = .ok (.iastore, 1) := by decide +kernel
theorem dX0_init_16 : decode cX0_init 16 = .ok (.dup, 1) := by decide +kernel
theorem dX0_init_17 : decode cX0_init 17 = .ok (.iconst 2, 1) := by decide +kernel
theorem dX0_init_18 : decode cX0_init 18 = .ok (.iconst (-1), 1) := by decide +kernel
theorem dX0_init_19 : decode cX0_init 19 = .ok (.iastore, 1) := by decide +kernel
theorem dX0_init_20 : decode cX0_init 20 = .ok (.putfield 9, 3) := by decide +kernel
theorem dX0_init_23 : decode cX0_init 23 = .ok (.aload_n 0, 1) := by decide +kernel
theorem dX0_init_24 : decode cX0_init 24 = .ok (.iconst 3, 1) := by decide +kernel
theorem dX0_init_25 : decode cX0_init 25 = .ok (.newarray .int, 2) := by decide +kernel
theorem dX0_init_27 : decode cX0_init 27 = .ok (.dup, 1) := by decide +kernel
theorem dX0_init_28 : decode cX0_init 28 = .ok (.iconst 0, 1) := by decide +kernel
theorem dX0_init_29 : decode cX0_init 29 = .ok (.iconst (-1), 1) := by decide +kernel
theorem dX0_init_30 : decode cX0_init 30 = .ok (.iastore, 1) := by decide +kernel
theorem dX0_init_31 : decode cX0_init 31 = .ok (.dup, 1) := by decide +kernel
theorem dX0_init_32 : decode cX0_init 32 = .ok (.iconst 1, 1) := by decide +kernel
theorem dX0_init_33 : decode cX0_init 33 = .ok (.iconst (-1), 1) := by decide +kernel
theorem dX0_init_34 : decode cX0_init 34 = .ok (.iastore, 1) := by decide +kernel
theorem dX0_init_35 : decode cX0_init 35 = .ok (.dup, 1) := by decide +kernel
theorem dX0_init_36 : decode cX0_init 36 = .ok (.iconst 2, 1) := by decide +kernel
theorem dX0_init_37 : decode cX0_init 37 = .ok (.iconst (-1), 1) := by decide +kernel
theorem dX0_init_38 : decode cX0_init 38 = .ok (.iastore, 1) := by decide +kernel
theorem dX0_init_39 : decode cX0_init 39 = .ok (.putfield 15, 3) := by decide +kernel
theorem dX0_init_42 : decode cX0_init 42 = .ok (.aload_n 0, 1) := by decide +kernel
theorem dX0_init_43 : decode cX0_init 43 = .ok (.iload_n 1, 1) := by decide +kernel
theorem dX0_init_44 : decode cX0_init 44 = .ok (.putfield 18, 3) := by decide +kernel
theorem dX0_init_47 : decode cX0_init 47 = .ok (.aload_n 0, 1) := by decide +kernel
theorem dX0_init_48 : decode cX0_init 48 = .ok (.iload_n 2, 1) := by decide +kernel
theorem dX0_init_49 : decode cX0_init 49 = .ok (.putfield 22, 3) := by decide +kernel
theorem dX0_init_52 : decode cX0_init 52 = .ok (.aload_n 0, 1) := by decide +kernel
theorem dX0_init_53 : decode cX0_init 53 = .ok (.iload_n 3, 1) := by decide +kernel
theorem dX0_init_54 : decode cX0_init 54 = .ok (.putfield 25, 3) := by decide +kernel
theorem dX0_init_57 : decode cX0_init 57 = .ok (.return_, 1) := by decide +kernel
theorem dX0_keep_0 : decode cX0_keep 0 = .ok (.aload_n 0, 1) := by decide +kernel
theorem dX0_keep_1 : decode cX0_keep 1 = .ok (.getfield 9, 3) := by decide +kernel
theorem dX0_keep_4 : decode cX0_keep 4 = .ok (.iconst 0, 1) := by decide +kernel
theorem dX0_keep_5 : decode cX0_keep 5 = .ok (.aload_n 0, 1) := by decide +kernel
theorem dX0_keep_6 : decode cX0_keep 6 = .ok (.getfield 15, 3) := by decide +kernel
theorem dX0_keep_9 : decode cX0_keep 9 = .ok (.iconst 0, 1) := by decide +kernel
theorem dX0_keep_10 : decode cX0_keep 10 = .ok (.iconst 3, 1) := by decide +kernel
theorem dX0_keep_11 : decode cX0_keep 11 = .ok (.invokestatic 28, 3) := by decide +kernel
theorem dX0_keep_14 : decode cX0_keep 14 = .ok (.return_, 1) := by decide +kernel
theorem dX0_layBack_0 : decode cX0_layBack 0 = .ok (.aload_n 0, 1) := by decide +kernel
theorem dX0_layBack_1 : decode cX0_layBack 1 = .ok (.getfield 15, 3) := by decide +kernel
theorem dX0_layBack_4 : decode cX0_layBack 4 = .ok (.iconst 0, 1) := by decide +kernel
theorem dX0_layBack_5 : decode cX0_layBack 5 = .ok (.aload_n 0, 1) := by decide +kernel
theorem dX0_layBack_6 : decode cX0_layBack 6 = .ok (.getfield 9, 3) := by decide +kernel
theorem dX0_layBack_9 : decode cX0_layBack 9 = .ok (.iconst 0, 1) := by decide +kernel
theorem dX0_layBack_10 : decode cX0_layBack 10 = .ok (.iconst 3, 1) := by decide +kernel
theorem dX0_layBack_11 : decode cX0_layBack 11 = .ok (.invokestatic 28, 3) := by decide +kernel
theorem dX0_layBack_14 : decode cX0_layBack 14 = .ok (.return_, 1) := by decide +kernel
theorem dX10_in_0 : decode cX10_in 0 = .ok (.lload_n 0, 1) := by decide +kernel
theorem dX10_in_1 : decode cX10_in 1 = .ok (.lload_n 2, 1) := by decide +kernel
theorem dX10_in_2 : decode cX10_in 2 = .ok (.lcmp, 1) := by decide +kernel
theorem dX10_in_3 : decode cX10_in 3 = .ok (.ifCond .lt 14, 3) := by decide +kernel
theorem dX10_in_6 : decode cX10_in 6 = .ok (.lload_n 0, 1) := by decide +kernel
theorem dX10_in_7 : decode cX10_in 7 = .ok (.lload 4, 2) := by decide +kernel
theorem dX10_in_9 : decode cX10_in 9 = .ok (.lcmp, 1) := by decide +kernel
theorem dX10_in_10 : decode cX10_in 10 = .ok (.ifCond .gt 7, 3) := by decide +kernel
theorem dX10_in_13 : decode cX10_in 13 = .ok (.iconst 1, 1) := by decide +kernel
theorem dX10_in_14 : decode cX10_in 14 = .ok (.goto 4, 3) := by decide +kernel
theorem dX10_in_17 : decode cX10_in 17 = .ok (.iconst 0, 1) := by decide +kernel
theorem dX10_in_18 : decode cX10_in 18 = .ok (.ireturn, 1) := by decide +kernel
theorem dX10_init_0 : decode cX10_init 0 = .ok (.aload_n 0, 1) := by decide +kernel
theorem dX10_init_1 : decode cX10_init 1 = .ok (.invokespecial 7, 3) := by decide +kernel
theorem dX10_init_4 : decode cX10_init 4 = .ok (.aload_n 0, 1) := by decide +kernel
theorem dX10_init_5 : decode cX10_init 5 = .ok (.sipush 960, 3) := by decide +kernel
theorem dX10_init_8 : decode cX10_init 8 = .ok (.newarray .int, 2) := by decide +kernel
theorem dX10_init_10 : decode cX10_init 10 = .ok (.putfield 13, 3) := by decide +kernel
theorem dX10_init_13 : decode cX10_init 13 = .ok (.aload_n 0, 1) := by decide +kernel
theorem dX10_init_14 : decode cX10_init 14 = .ok (.bipush 6, 2) := by decide +kernel
theorem dX10_init_16 : decode cX10_init 16 = .ok (.newarray .int, 2) := by decide +kernel
theorem dX10_init_18 : decode cX10_init 18 = .ok (.putfield 17, 3) := by decide +kernel
theorem dX10_init_21 : decode cX10_init 21 = .ok (.aload_n 0, 1) := by decide +kernel
theorem dX10_init_22 : decode cX10_init 22 = .ok (.sipush 160, 3) := by decide +kernel
theorem dX10_init_25 : decode cX10_init 25 = .ok (.newarray .int, 2) := by decide +kernel
theorem dX10_init_27 : decode cX10_init 27 = .ok (.putfield 20, 3) := by decide +kernel
theorem dX10_init_30 : decode cX10_init 30 = .ok (.aload_n 0, 1) := by decide +kernel
theorem dX10_init_31 : decode cX10_init 31 = .ok (.iconst 4, 1) := by decide +kernel
theorem dX10_init_32 : decode cX10_init 32 = .ok (.newarray .int, 2) := by decide +kernel
theorem dX10_init_34 : decode cX10_init 34 = .ok (.putfield 23, 3) := by decide +kernel
theorem dX10_init_37 : decode cX10_init 37 = .ok (.aload_n 0, 1) := by decide +kernel
theorem dX10_init_38 : decode cX10_init 38 = .ok (.iconst 4, 1) := by decide +kernel
theorem dX10_init_39 : decode cX10_init 39 = .ok (.newarray .int, 2) := by decide +kernel
theorem dX10_init_41 : decode cX10_init 41 = .ok (.putfield 26, 3) := by decide +kernel
theorem dX10_init_44 : decode cX10_init 44 = .ok (.aload_n 0, 1) := by decide +kernel
theorem dX10_init_45 : decode cX10_init 45 = .ok (.bipush 12, 2) := by decide +kernel
theorem dX10_init_47 : decode cX10_init 47 = .ok (.newarray .int, 2) := by decide +kernel
theorem dX10_init_49 : decode cX10_init 49 = .ok (.putfield 29, 3) := by decide +kernel
theorem dX10_init_52 : decode cX10_init 52 = .ok (.aload_n 0, 1) := by decide +kernel
theorem dX10_init_53 : decode cX10_init 53 = .ok (.bipush 24, 2) := by decide +kernel
theorem dX10_init_55 : decode cX10_init 55 = .ok (.newarray .int, 2) := by decide +kernel
theorem dX10_init_57 : decode cX10_init 57 = .ok (.putfield 32, 3) := by decide +kernel
theorem dX10_init_60 : decode cX10_init 60 = .ok (.aload_n 0, 1) := by decide +kernel
theorem dX10_init_61 : decode cX10_init 61 = .ok (.bipush 24, 2) := by decide +kernel
theorem dX10_init_63 : decode cX10_init 63 = .ok (.newarray .int, 2) := by decide +kernel
theorem dX10_init_65 : decode cX10_init 65 = .ok (.putfield 35, 3) := by decide +kernel
theorem dX10_init_68 : decode cX10_init 68 = .ok (.aload_n 0, 1) := by decide +kernel
theorem dX10_init_69 : decode cX10_init 69 = .ok (.bipush 24, 2) := by decide +kernel
theorem dX10_init_71 : decode cX10_init 71 = .ok (.newarray .int, 2) := by decide +kernel
theorem dX10_init_73 : decode cX10_init 73 = .ok (.putfield 38, 3) := by decide +kernel
theorem dX10_init_76 : decode cX10_init 76 = .ok (.aload_n 0, 1) := by decide +kernel
theorem dX10_init_77 : decode cX10_init 77 = .ok (.bipush 24, 2) := by decide +kernel
theorem dX10_init_79 : decode cX10_init 79 = .ok (.newarray .int, 2) := by decide +kernel
theorem dX10_init_81 : decode cX10_init 81 = .ok (.putfield 41, 3) := by decide +kernel
theorem dX10_init_84 : decode cX10_init 84 = .ok (.aload_n 0, 1) := by decide +kernel
theorem dX10_init_85 : decode cX10_init 85 = .ok (.bipush 24, 2) := by decide +kernel
theorem dX10_init_87 : decode cX10_init 87 = .ok (.newarray .int, 2) := by decide +kernel
theorem dX10_init_89 : decode cX10_init 89 = .ok (.putfield 44, 3) := by decide +kernel
theorem dX10_init_92 : decode cX10_init 92 = .ok (.aload_n 0, 1) := by decide +kernel
theorem dX10_init_93 : decode cX10_init 93 = .ok (.bipush 24, 2) := by decide +kernel
theorem dX10_init_95 : decode cX10_init 95 = .ok (.newarray .int, 2) := by decide +kernel
theorem dX10_init_97 : decode cX10_init 97 = .ok (.putfield 47, 3) := by decide +kernel
theorem dX10_init_100 : decode cX10_init 100 = .ok (.aload_n 0, 1) := by decide +kernel
theorem dX10_init_101 : decode cX10_init 101 = .ok (.bipush 24, 2) := by decide +kernel
theorem dX10_init_103 : decode cX10_init 103 = .ok (.newarray .int, 2) := by decide +kernel
theorem dX10_init_105 : decode cX10_init 105 = .ok (.putfield 50, 3) := by decide +kernel
theorem dX10_init_108 : decode cX10_init 108 = .ok (.aload_n 0, 1) := by decide +kernel
theorem dX10_init_109 : decode cX10_init 109 = .ok (.bipush 24, 2) := by decide +kernel
theorem dX10_init_111 : decode cX10_init 111 = .ok (.newarray .int, 2) := by decide +kernel
theorem dX10_init_113 : decode cX10_init 113 = .ok (.putfield 53, 3) := by decide +kernel
theorem dX10_init_116 : decode cX10_init 116 = .ok (.aload_n 0, 1) := by decide +kernel
theorem dX10_init_117 : decode cX10_init 117 = .ok (.bipush 24, 2) := by decide +kernel
theorem dX10_init_119 : decode cX10_init 119 = .ok (.newarray .int, 2) := by decide +kernel
theorem dX10_init_121 : decode cX10_init 121 = .ok (.putfield 56, 3) := by decide +kernel
theorem dX10_init_124 : decode cX10_init 124 = .ok (.aload_n 0, 1) := by decide +kernel
theorem dX10_init_125 : decode cX10_init 125 = .ok (.bipush 10, 2) := by decide +kernel
theorem dX10_init_127 : decode cX10_init 127 = .ok (.newarray .int, 2) := by decide +kernel
theorem dX10_init_129 : decode cX10_init 129 = .ok (.putfield 59, 3) := by decide +kernel
theorem dX10_init_132 : decode cX10_init 132 = .ok (.aload_n 0, 1) := by decide +kernel
theorem dX10_init_133 : decode cX10_init 133 = .ok (.bipush 24, 2) := by decide +kernel
theorem dX10_init_135 : decode cX10_init 135 = .ok (.newarray .int, 2) := by decide +kernel
theorem dX10_init_137 : decode cX10_init 137 = .ok (.putfield 62, 3) := by decide +kernel
theorem dX10_init_140 : decode cX10_init 140 = .ok (.aload_n 0, 1) := by decide +kernel
theorem dX10_init_141 : decode cX10_init 141 = .ok (.bipush 10, 2) := by decide +kernel
theorem dX10_init_143 : decode cX10_init 143 = .ok (.newarray .int, 2) := by decide +kernel
theorem dX10_init_145 : decode cX10_init 145 = .ok (.putfield 65, 3) := by decide +kernel
theorem dX10_init_148 : decode cX10_init 148 = .ok (.aload_n 0, 1) := by decide +kernel
theorem dX10_init_149 : decode cX10_init 149 = .ok (.bipush 12, 2) := by decide +kernel
theorem dX10_init_151 : decode cX10_init 151 = .ok (.newarray .int, 2) := by decide +kernel
theorem dX10_init_153 : decode cX10_init 153 = .ok (.putfield 68, 3) := by decide +kernel
theorem dX10_init_156 : decode cX10_init 156 = .ok (.aload_n 0, 1) := by decide +kernel
theorem dX10_init_157 : decode cX10_init 157 = .ok (.bipush 24, 2) := by decide +kernel
theorem dX10_init_159 : decode cX10_init 159 = .ok (.newarray .int, 2) := by decide +kernel
theorem dX10_init_161 : decode cX10_init 161 = .ok (.putfield 71, 3) := by decide +kernel
theorem dX10_init_164 : decode cX10_init 164 = .ok (.aload_n 0, 1) := by decide +kernel
theorem dX10_init_165 : decode cX10_init 165 = .ok (.bipush 24, 2) := by decide +kernel
theorem dX10_init_167 : decode cX10_init 167 = .ok (.newarray .int, 2) := by decide +kernel
theorem dX10_init_169 : decode cX10_init 169 = .ok (.putfield 74, 3) := by decide +kernel
theorem dX10_init_172 : decode cX10_init 172 = .ok (.aload_n 0, 1) := by decide +kernel
theorem dX10_init_173 : decode cX10_init 173 = .ok (.iconst 4, 1) := by decide +kernel
theorem dX10_init_174 : decode cX10_init 174 = .ok (.newarray .boolean, 2) := by decide +kernel
theorem dX10_init_176 : decode cX10_init 176 = .ok (.putfield 77, 3) := by decide +kernel
theorem dX10_init_179 : decode cX10_init 179 = .ok (.aload_n 0, 1) := by decide +kernel
theorem dX10_init_180 : decode cX10_init 180 = .ok (.iconst 4, 1) := by decide +kernel
theorem dX10_init_181 : decode cX10_init 181 = .ok (.newarray .int, 2) := by decide +kernel
theorem dX10_init_183 : decode cX10_init 183 = .ok (.putfield 81, 3) := by decide +kernel
theorem dX10_init_186 : decode cX10_init 186 = .ok (.aload_n 0, 1) := by decide +kernel
theorem dX10_init_187 : decode cX10_init 187 = .ok (.iconst 4, 1) := by decide +kernel
theorem dX10_init_188 : decode cX10_init 188 = .ok (.newarray .int, 2) := by decide +kernel
theorem dX10_init_190 : decode cX10_init 190 = .ok (.putfield 84, 3) := by decide +kernel
theorem dX10_init_193 : decode cX10_init 193 = .ok (.aload_n 0, 1) := by decide +kernel
theorem dX10_init_194 : decode cX10_init 194 = .ok (.sipush 160, 3) := by decide +kernel
theorem dX10_init_197 : decode cX10_init 197 = .ok (.newarray .int, 2) := by decide +kernel
theorem dX10_init_199 : decode cX10_init 199 = .ok (.putfield 87, 3) := by decide +kernel
theorem dX10_init_202 : decode cX10_init 202 = .ok (.aload_n 0, 1) := by decide +kernel
theorem dX10_init_203 : decode cX10_init 203 = .ok (.iconst 0, 1) := by decide +kernel
theorem dX10_init_204 : decode cX10_init 204 = .ok (.ldc2_w 90, 3) := by decide +kernel
theorem dX10_init_207 : decode cX10_init 207 = .ok (.invokevirtual 92, 3) := by decide +kernel
theorem dX10_init_210 : decode cX10_init 210 = .ok (.aload_n 0, 1) := by decide +kernel
theorem dX10_init_211 : decode cX10_init 211 = .ok (.bipush 8, 2) := by decide +kernel
theorem dX10_init_213 : decode cX10_init 213 = .ok (.ldc2_w 96, 3) := by decide +kernel
theorem dX10_init_216 : decode cX10_init 216 = .ok (.invokevirtual 92, 3) := by decide +kernel
theorem dX10_init_219 : decode cX10_init 219 = .ok (.aload_n 0, 1) := by decide +kernel
theorem dX10_init_220 : decode cX10_init 220 = .ok (.bipush 16, 2) := by decide +kernel
theorem dX10_init_222 : decode cX10_init 222 = .ok (.ldc2_w 98, 3) := by decide +kernel
theorem dX10_init_225 : decode cX10_init 225 = .ok (.invokevirtual 92, 3) := by decide +kernel
theorem dX10_init_228 : decode cX10_init 228 = .ok (.aload_n 0, 1) := by decide +kernel
theorem dX10_init_229 : decode cX10_init 229 = .ok (.bipush 24, 2) := by decide +kernel
theorem dX10_init_231 : decode cX10_init 231 = .ok (.ldc2_w 100, 3) := by decide +kernel
theorem dX10_init_234 : decode cX10_init 234 = .ok (.invokevirtual 92, 3) := by decide +kernel
theorem dX10_init_237 : decode cX10_init 237 = .ok (.aload_n 0, 1) := by decide +kernel
theorem dX10_init_238 : decode cX10_init 238 = .ok (.bipush 32, 2) := by decide +kernel
theorem dX10_init_240 : decode cX10_init 240 = .ok (.ldc2_w 102, 3) := by decide +kernel
theorem dX10_init_243 : decode cX10_init 243 = .ok (.invokevirtual 92, 3) := by decide +kernel
theorem dX10_init_246 : decode cX10_init 246 = .ok (.aload_n 0, 1) := by decide +kernel
theorem dX10_init_247 : decode cX10_init 247 = .ok (.bipush 40, 2) := by decide +kernel
theorem dX10_init_249 : decode cX10_init 249 = .ok (.ldc2_w 104, 3) := by decide +kernel
theorem dX10_init_252 : decode cX10_init 252 = .ok (.invokevirtual 92, 3) := by decide +kernel
theorem dX10_init_255 : decode cX10_init 255 = .ok (.aload_n 0, 1) := by decide +kernel
theorem dX10_init_256 : decode cX10_init 256 = .ok (.getfield 17, 3) := by decide +kernel
theorem dX10_init_259 : decode cX10_init 259 = .ok (.iconst 0, 1) := by decide +kernel
theorem dX10_init_260 : decode cX10_init 260 = .ok (.bipush 48, 2) := by decide +kernel
theorem dX10_init_262 : decode cX10_init 262 = .ok (.iastore, 1) := by decide +kernel
theorem dX10_init_263 : decode cX10_init 263 = .ok (.aload_n 0, 1) := by decide +kernel
theorem dX10_init_264 : decode cX10_init 264 = .ok (.iconst 1, 1) := by decide +kernel
theorem dX10_init_265 : decode cX10_init 265 = .ok (.putfield 106, 3) := by decide +kernel
theorem dX10_init_268 : decode cX10_init 268 = .ok (.return_, 1) := by decide +kernel
theorem dX10_spell_0 : decode cX10_spell 0 = .ok (.iconst 0, 1) := by decide +kernel
theorem dX10_spell_1 : decode cX10_spell 1 = .ok (.istore 4, 2) := by decide +kernel
theorem dX10_spell_3 : decode cX10_spell 3 = .ok (.iload 4, 2) := by decide +kernel
theorem dX10_spell_5 : decode cX10_spell 5 = .ok (.bipush 8, 2) := by decide +kernel
theorem dX10_spell_7 : decode cX10_spell 7 = .ok (.if_icmp .ge 33, 3) := by decide +kernel
theorem dX10_spell_10 : decode cX10_spell 10 = .ok (.aload_n 0, 1) := by decide +kernel
theorem dX10_spell_11 : decode cX10_spell 11 = .ok (.getfield 13, 3) := by decide +kernel
theorem dX10_spell_14 : decode cX10_spell 14 = .ok (.iload_n 1, 1) := by decide +kernel
theorem dX10_spell_15 : decode cX10_spell 15 = .ok (.iload 4, 2) := by decide +kernel
theorem dX10_spell_17 : decode cX10_spell 17 = .ok (.iadd, 1) := by decide +kernel
theorem dX10_spell_18 : decode cX10_spell 18 = .ok (.lload_n 2, 1) := by decide +kernel
theorem dX10_spell_19 : decode cX10_spell 19 = .ok (.bipush 56, 2) := by decide +kernel
theorem dX10_spell_21 : decode cX10_spell 21 = .ok (.bipush 8, 2) := by decide +kernel
theorem dX10_spell_23 : decode cX10_spell 23 = .ok (.iload 4, 2) := by decide +kernel
theorem dX10_spell_25 : decode cX10_spell 25 = .ok (.imul, 1) := by decide +kernel
theorem dX10_spell_26 : decode cX10_spell 26 = .ok (.isub, 1) := by decide +kernel
theorem dX10_spell_27 : decode cX10_spell 27 = .ok (.lshr, 1) := by decide +kernel
theorem dX10_spell_28 : decode cX10_spell 28 = .ok (.ldc2_w 109, 3) := by decide +kernel
theorem dX10_spell_31 : decode cX10_spell 31 = .ok (.land, 1) := by decide +kernel
theorem dX10_spell_32 : decode cX10_spell 32 = .ok (.l2i, 1) := by decide +kernel
theorem dX10_spell_33 : decode cX10_spell 33 = .ok (.iastore, 1) := by decide +kernel
theorem dX10_spell_34 : decode cX10_spell 34 = .ok (.iinc 4 1, 3) := by decide +kernel
theorem dX10_spell_37 : decode cX10_spell 37 = .ok (.goto (-34), 3) := by decide +kernel
theorem dX10_spell_40 : decode cX10_spell 40 = .ok (.return_, 1) := by decide +kernel
theorem dX10_isCargo_0 : decode cX10_isCargo 0 = .ok (.iload_n 1, 1) := by decide +kernel
theorem dX10_isCargo_1 : decode cX10_isCargo 1 = .ok (.i2l, 1) := by decide +kernel
theorem dX10_isCargo_2 : decode cX10_isCargo 2 = .ok (.lconst 0, 1) := by decide +kernel
theorem dX10_isCargo_3 : decode cX10_isCargo 3 = .ok (.aload_n 0, 1) := by decide +kernel
theorem dX10_isCargo_4 : decode cX10_isCargo 4 = .ok (.getfield 111, 3) := by decide +kernel
theorem dX10_isCargo_7 : decode cX10_isCargo 7 = .ok (.iconst 1, 1) := by decide +kernel
theorem dX10_isCargo_8 : decode cX10_isCargo 8 = .ok (.isub, 1) := by decide +kernel
theorem dX10_isCargo_9 : decode cX10_isCargo 9 = .ok (.i2l, 1) := by decide +kernel
theorem dX10_isCargo_10 : decode cX10_isCargo 10 = .ok (.invokestatic 114, 3) := by decide +kernel
theorem dX10_isCargo_13 : decode cX10_isCargo 13 = .ok (.ireturn, 1) := by decide +kernel
theorem dX10_isSale_0 : decode cX10_isSale 0 = .ok (.iload_n 1, 1) := by decide +kernel
theorem dX10_isSale_1 : decode cX10_isSale 1 = .ok (.i2l, 1) := by decide +kernel
theorem dX10_isSale_2 : decode cX10_isSale 2 = .ok (.lconst 0, 1) := by decide +kernel
theorem dX10_isSale_3 : decode cX10_isSale 3 = .ok (.aload_n 0, 1) := by decide +kernel
theorem dX10_isSale_4 : decode cX10_isSale 4 = .ok (.getfield 118, 3) := by decide +kernel
theorem dX10_isSale_7 : decode cX10_isSale 7 = .ok (.iconst 1, 1) := by decide +kernel
theorem dX10_isSale_8 : decode cX10_isSale 8 = .ok (.isub, 1) := by decide +kernel
theorem dX10_isSale_9 : decode cX10_isSale 9 = .ok (.i2l, 1) := by decide +kernel
theorem dX10_isSale_10 : decode cX10_isSale 10 = .ok (.invokestatic 114, 3) := by decide +kernel
theorem dX10_isSale_13 : decode cX10_isSale 13 = .ok (.ireturn, 1) := by decide +kernel
theorem dX10_isHand_0 : decode cX10_isHand 0 = .ok (.iload_n 0, 1) := by decide +kernel
theorem dX10_isHand_1 : decode cX10_isHand 1 = .ok (.i2l, 1) := by decide +kernel
theorem dX10_isHand_2 : decode cX10_isHand 2 = .ok (.lconst 0, 1) := by decide +kernel
theorem dX10_isHand_3 : decode cX10_isHand 3 = .ok (.ldc2_w 121, 3) := by decide +kernel
theorem dX10_isHand_6 : decode cX10_isHand 6 = .ok (.invokestatic 114, 3) := by decide +kernel
theorem dX10_isHand_9 : decode cX10_isHand 9 = .ok (.ireturn, 1) := by decide +kernel
theorem dX10_isHour_0 : decode cX10_isHour 0 = .ok (.iload_n 0, 1) := by decide +kernel
theorem dX10_isHour_1 : decode cX10_isHour 1 = .ok (.i2l, 1) := by decide +kernel
theorem dX10_isHour_2 : decode cX10_isHour 2 = .ok (.lconst 0, 1) := by decide +kernel
theorem dX10_isHour_3 : decode cX10_isHour 3 = .ok (.ldc2_w 123, 3) := by decide +kernel
theorem dX10_isHour_6 : decode cX10_isHour 6 = .ok (.invokestatic 114, 3) := by decide +kernel
theorem dX10_isHour_9 : decode cX10_isHour 9 = .ok (.ireturn, 1) := by decide +kernel
theorem dX10_cargo_0 : decode cX10_cargo 0 = .ok (.iload_n 1, 1) := by decide +kernel
theorem dX10_cargo_1 : decode cX10_cargo 1 = .ok (.i2l, 1) := by decide +kernel
theorem dX10_cargo_2 : decode cX10_cargo 2 = .ok (.lconst 1, 1) := by decide +kernel
theorem dX10_cargo_3 : decode cX10_cargo 3 = .ok (.ldc2_w 123, 3) := by decide +kernel
theorem dX10_cargo_6 : decode cX10_cargo 6 = .ok (.invokestatic 114, 3) := by decide +kernel
theorem dX10_cargo_9 : decode cX10_cargo 9 = .ok (.ifCond .eq 10, 3) := by decide +kernel
theorem dX10_cargo_12 : decode cX10_cargo 12 = .ok (.iload_n 2, 1) := by decide +kernel
theorem dX10_cargo_13 : decode cX10_cargo 13 = .ok (.invokestatic 125, 3) := by decide +kernel
theorem dX10_cargo_16 : decode cX10_cargo 16 = .ok (.ifCond .ne 6, 3) := by decide +kernel
theorem dX10_cargo_19 : decode cX10_cargo 19 = .ok (.bipush (-2), 2) := by decide +kernel
theorem dX10_cargo_21 : decode cX10_cargo 21 = .ok (.ireturn, 1) := by decide +kernel
theorem dX10_cargo_22 : decode cX10_cargo 22 = .ok (.aload_n 0, 1) := by decide +kernel
theorem dX10_cargo_23 : decode cX10_cargo 23 = .ok (.getfield 111, 3) := by decide +kernel
theorem dX10_cargo_26 : decode cX10_cargo 26 = .ok (.iconst 4, 1) := by decide +kernel
theorem dX10_cargo_27 : decode cX10_cargo 27 = .ok (.if_icmp .ne 6, 3) := by decide +kernel
theorem dX10_cargo_30 : decode cX10_cargo 30 = .ok (.bipush (-4), 2) := by decide +kernel
theorem dX10_cargo_32 : decode cX10_cargo 32 = .ok (.ireturn, 1) := by decide +kernel
theorem dX10_cargo_33 : decode cX10_cargo 33 = .ok (.aload_n 0, 1) := by decide +kernel
theorem dX10_cargo_34 : decode cX10_cargo 34 = .ok (.getfield 23, 3) := by decide +kernel
theorem dX10_cargo_37 : decode cX10_cargo 37 = .ok (.aload_n 0, 1) := by decide +kernel
theorem dX10_cargo_38 : decode cX10_cargo 38 = .ok (.getfield 111, 3) := by decide +kernel
theorem dX10_cargo_41 : decode cX10_cargo 41 = .ok (.iload_n 1, 1) := by decide +kernel
theorem dX10_cargo_42 : decode cX10_cargo 42 = .ok (.iastore, 1) := by decide +kernel
theorem dX10_cargo_43 : decode cX10_cargo 43 = .ok (.aload_n 0, 1) := by decide +kernel
theorem dX10_cargo_44 : decode cX10_cargo 44 = .ok (.getfield 26, 3) := by decide +kernel
theorem dX10_cargo_47 : decode cX10_cargo 47 = .ok (.aload_n 0, 1) := by decide +kernel
theorem dX10_cargo_48 : decode cX10_cargo 48 = .ok (.getfield 111, 3) := by decide +kernel
theorem dX10_cargo_51 : decode cX10_cargo 51 = .ok (.iload_n 2, 1) := by decide +kernel
theorem dX10_cargo_52 : decode cX10_cargo 52 = .ok (.iastore, 1) := by decide +kernel
theorem dX10_cargo_53 : decode cX10_cargo 53 = .ok (.iconst 0, 1) := by decide +kernel
theorem dX10_cargo_54 : decode cX10_cargo 54 = .ok (.istore_n 3, 1) := by decide +kernel
theorem dX10_cargo_55 : decode cX10_cargo 55 = .ok (.iload_n 3, 1) := by decide +kernel
theorem dX10_cargo_56 : decode cX10_cargo 56 = .ok (.iconst 3, 1) := by decide +kernel
theorem dX10_cargo_57 : decode cX10_cargo 57 = .ok (.if_icmp .ge 23, 3) := by decide +kernel
theorem dX10_cargo_60 : decode cX10_cargo 60 = .ok (.aload_n 0, 1) := by decide +kernel
theorem dX10_cargo_61 : decode cX10_cargo 61 = .ok (.getfield 29, 3) := by decide +kernel
theorem dX10_cargo_64 : decode cX10_cargo 64 = .ok (.iconst 3, 1) := by decide +kernel
theorem dX10_cargo_65 : decode cX10_cargo 65 = .ok (.aload_n 0, 1) := by decide +kernel
theorem dX10_cargo_66 : decode cX10_cargo 66 = .ok (.getfield 111, 3) := by decide +kernel
theorem dX10_cargo_69 : decode cX10_cargo 69 = .ok (.imul, 1) := by decide +kernel
theorem dX10_cargo_70 : decode cX10_cargo 70 = .ok (.iload_n 3, 1) := by decide +kernel
theorem dX10_cargo_71 : decode cX10_cargo 71 = .ok (.iadd, 1) := by decide +kernel
theorem dX10_cargo_72 : decode cX10_cargo 72 = .ok (.iconst (-1), 1) := by decide +kernel
theorem dX10_cargo_73 : decode cX10_cargo 73 = .ok (.iastore, 1) := by decide +kernel
theorem dX10_cargo_74 : decode cX10_cargo 74 = .ok (.iinc 3 1, 3) := by decide +kernel
theorem dX10_cargo_77 : decode cX10_cargo 77 = .ok (.goto (-22), 3) := by decide +kernel
theorem dX10_cargo_80 : decode cX10_cargo 80 = .ok (.aload_n 0, 1) := by decide +kernel
theorem dX10_cargo_81 : decode cX10_cargo 81 = .ok (.dup, 1) := by decide +kernel
theorem dX10_cargo_82 : decode cX10_cargo 82 = .ok (.getfield 111, 3) := by decide +kernel
theorem dX10_cargo_85 : decode cX10_cargo 85 = .ok (.iconst 1, 1) := by decide +kernel
theorem dX10_cargo_86 : decode cX10_cargo 86 = .ok (.iadd, 1) := by decide +kernel
theorem dX10_cargo_87 : decode cX10_cargo 87 = .ok (.putfield 111, 3) := by decide +kernel
theorem dX10_cargo_90 : decode cX10_cargo 90 = .ok (.aload_n 0, 1) := by decide +kernel
theorem dX10_cargo_91 : decode cX10_cargo 91 = .ok (.getfield 111, 3) := by decide +kernel
theorem dX10_cargo_94 : decode cX10_cargo 94 = .ok (.iconst 1, 1) := by decide +kernel
theorem dX10_cargo_95 : decode cX10_cargo 95 = .ok (.isub, 1) := by decide +kernel
theorem dX10_cargo_96 : decode cX10_cargo 96 = .ok (.ireturn, 1) := by decide +kernel
theorem dX10_hour_0 : decode cX10_hour 0 = .ok (.aload_n 0, 1) := by decide +kernel
theorem dX10_hour_1 : decode cX10_hour 1 = .ok (.iload_n 1, 1) := by decide +kernel
theorem dX10_hour_2 : decode cX10_hour 2 = .ok (.invokevirtual 129, 3) := by decide +kernel
theorem dX10_hour_5 : decode cX10_hour 5 = .ok (.ifCond .eq 29, 3) := by decide +kernel
theorem dX10_hour_8 : decode cX10_hour 8 = .ok (.iload_n 2, 1) := by decide +kernel
theorem dX10_hour_9 : decode cX10_hour 9 = .ok (.i2l, 1) := by decide +kernel
theorem dX10_hour_10 : decode cX10_hour 10 = .ok (.lconst 0, 1) := by decide +kernel
theorem dX10_hour_11 : decode cX10_hour 11 = .ok (.ldc2_w 132, 3) := by decide +kernel
theorem dX10_hour_14 : decode cX10_hour 14 = .ok (.invokestatic 114, 3) := by decide +kernel
theorem dX10_hour_17 : decode cX10_hour 17 = .ok (.ifCond .eq 17, 3) := by decide +kernel
theorem dX10_hour_20 : decode cX10_hour 20 = .ok (.iload_n 3, 1) := by decide +kernel
theorem dX10_hour_21 : decode cX10_hour 21 = .ok (.i2l, 1) := by decide +kernel
theorem dX10_hour_22 : decode cX10_hour 22 = .ok (.ldc2_w 134, 3) := by decide +kernel
theorem dX10_hour_25 : decode cX10_hour 25 = .ok (.ldc2_w 123, 3) := by decide +kernel
theorem dX10_hour_28 : decode cX10_hour 28 = .ok (.invokestatic 114, 3) := by decide +kernel
theorem dX10_hour_31 : decode cX10_hour 31 = .ok (.ifCond .ne 6, 3) := by decide +kernel
theorem dX10_hour_34 : decode cX10_hour 34 = .ok (.bipush (-2), 2) := by decide +kernel
theorem dX10_hour_36 : decode cX10_hour 36 = .ok (.ireturn, 1) := by decide +kernel
theorem dX10_hour_37 : decode cX10_hour 37 = .ok (.aload_n 0, 1) := by decide +kernel
theorem dX10_hour_38 : decode cX10_hour 38 = .ok (.getfield 29, 3) := by decide +kernel
theorem dX10_hour_41 : decode cX10_hour 41 = .ok (.iconst 3, 1) := by decide +kernel
theorem dX10_hour_42 : decode cX10_hour 42 = .ok (.iload_n 1, 1) := by decide +kernel
theorem dX10_hour_43 : decode cX10_hour 43 = .ok (.imul, 1) := by decide +kernel
theorem dX10_hour_44 : decode cX10_hour 44 = .ok (.iload_n 2, 1) := by decide +kernel
theorem dX10_hour_45 : decode cX10_hour 45 = .ok (.iadd, 1) := by decide +kernel
theorem dX10_hour_46 : decode cX10_hour 46 = .ok (.iaload, 1) := by decide +kernel
theorem dX10_hour_47 : decode cX10_hour 47 = .ok (.istore 4, 2) := by decide +kernel
theorem dX10_hour_49 : decode cX10_hour 49 = .ok (.aload_n 0, 1) := by decide +kernel
theorem dX10_hour_50 : decode cX10_hour 50 = .ok (.getfield 29, 3) := by decide +kernel
theorem dX10_hour_53 : decode cX10_hour 53 = .ok (.iconst 3, 1) := by decide +kernel
theorem dX10_hour_54 : decode cX10_hour 54 = .ok (.iload_n 1, 1) := by decide +kernel
theorem dX10_hour_55 : decode cX10_hour 55 = .ok (.imul, 1) := by decide +kernel
theorem dX10_hour_56 : decode cX10_hour 56 = .ok (.iload_n 2, 1) := by decide +kernel
theorem dX10_hour_57 : decode cX10_hour 57 = .ok (.iadd, 1) := by decide +kernel
theorem dX10_hour_58 : decode cX10_hour 58 = .ok (.iload_n 3, 1) := by decide +kernel
theorem dX10_hour_59 : decode cX10_hour 59 = .ok (.iastore, 1) := by decide +kernel
theorem dX10_hour_60 : decode cX10_hour 60 = .ok (.iload 4, 2) := by decide +kernel
theorem dX10_hour_62 : decode cX10_hour 62 = .ok (.ireturn, 1) := by decide +kernel
theorem dX10_sale_0 : decode cX10_sale 0 = .ok (.iload_n 1, 1) := by decide +kernel
theorem dX10_sale_1 : decode cX10_sale 1 = .ok (.i2l, 1) := by decide +kernel
theorem dX10_sale_2 : decode cX10_sale 2 = .ok (.lconst 0, 1) := by decide +kernel
theorem dX10_sale_3 : decode cX10_sale 3 = .ok (.ldc2_w 136, 3) := by decide +kernel
theorem dX10_sale_6 : decode cX10_sale 6 = .ok (.invokestatic 114, 3) := by decide +kernel
theorem dX10_sale_9 : decode cX10_sale 9 = .ok (.ifCond .eq 65, 3) := by decide +kernel
theorem dX10_sale_12 : decode cX10_sale 12 = .ok (.iload_n 2, 1) := by decide +kernel
theorem dX10_sale_13 : decode cX10_sale 13 = .ok (.ifCond .lt 61, 3) := by decide +kernel
theorem dX10_sale_16 : decode cX10_sale 16 = .ok (.aload_n 0, 1) := by decide +kernel
theorem dX10_sale_17 : decode cX10_sale 17 = .ok (.iload_n 2, 1) := by decide +kernel
theorem dX10_sale_18 : decode cX10_sale 18 = .ok (.bipush 100, 2) := by decide +kernel
theorem dX10_sale_20 : decode cX10_sale 20 = .ok (.idiv, 1) := by decide +kernel
theorem dX10_sale_21 : decode cX10_sale 21 = .ok (.invokevirtual 129, 3) := by decide +kernel
theorem dX10_sale_24 : decode cX10_sale 24 = .ok (.ifCond .eq 50, 3) := by decide +kernel
theorem dX10_sale_27 : decode cX10_sale 27 = .ok (.iload_n 2, 1) := by decide +kernel
theorem dX10_sale_28 : decode cX10_sale 28 = .ok (.bipush 10, 2) := by decide +kernel
theorem dX10_sale_30 : decode cX10_sale 30 = .ok (.idiv, 1) := by decide +kernel
theorem dX10_sale_31 : decode cX10_sale 31 = .ok (.bipush 10, 2) := by decide +kernel
theorem dX10_sale_33 : decode cX10_sale 33 = .ok (.irem, 1) := by decide +kernel
theorem dX10_sale_34 : decode cX10_sale 34 = .ok (.iload_n 2, 1) := by decide +kernel
theorem dX10_sale_35 : decode cX10_sale 35 = .ok (.bipush 10, 2) := by decide +kernel
theorem dX10_sale_37 : decode cX10_sale 37 = .ok (.irem, 1) := by decide +kernel
theorem dX10_sale_38 : decode cX10_sale 38 = .ok (.if_icmp .eq 36, 3) := by decide +kernel
theorem dX10_sale_41 : decode cX10_sale 41 = .ok (.iload_n 3, 1) := by decide +kernel
theorem dX10_sale_42 : decode cX10_sale 42 = .ok (.i2l, 1) := by decide +kernel
theorem dX10_sale_43 : decode cX10_sale 43 = .ok (.lconst 1, 1) := by decide +kernel
theorem dX10_sale_44 : decode cX10_sale 44 = .ok (.ldc2_w 123, 3) := by decide +kernel
theorem dX10_sale_47 : decode cX10_sale 47 = .ok (.invokestatic 114, 3) := by decide +kernel
theorem dX10_sale_50 : decode cX10_sale 50 = .ok (.ifCond .eq 24, 3) := by decide +kernel
theorem dX10_sale_53 : decode cX10_sale 53 = .ok (.iload 4, 2) := by decide +kernel
theorem dX10_sale_55 : decode cX10_sale 55 = .ok (.i2l, 1) := by decide +kernel
theorem dX10_sale_56 : decode cX10_sale 56 = .ok (.lconst 0, 1) := by decide +kernel
theorem dX10_sale_57 : decode cX10_sale 57 = .ok (.ldc2_w 123, 3) := by decide +kernel
theorem dX10_sale_60 : decode cX10_sale 60 = .ok (.invokestatic 114, 3) := by decide +kernel
theorem dX10_sale_63 : decode cX10_sale 63 = .ok (.ifCond .eq 11, 3) := by decide +kernel
theorem dX10_sale_66 : decode cX10_sale 66 = .ok (.iload 5, 2) := by decide +kernel
theorem dX10_sale_68 : decode cX10_sale 68 = .ok (.invokestatic 138, 3) := by decide +kernel
theorem dX10_sale_71 : decode cX10_sale 71 = .ok (.ifCond .ne 6, 3) := by decide +kernel
theorem dX10_sale_74 : decode cX10_sale 74 = .ok (.bipush (-2), 2) := by decide +kernel
theorem dX10_sale_76 : decode cX10_sale 76 = .ok (.ireturn, 1) := by decide +kernel
theorem dX10_sale_77 : decode cX10_sale 77 = .ok (.aload_n 0, 1) := by decide +kernel
theorem dX10_sale_78 : decode cX10_sale 78 = .ok (.getfield 118, 3) := by decide +kernel
theorem dX10_sale_81 : decode cX10_sale 81 = .ok (.bipush 24, 2) := by decide +kernel
theorem dX10_sale_83 : decode cX10_sale 83 = .ok (.if_icmp .ne 6, 3) := by decide +kernel
theorem dX10_sale_86 : decode cX10_sale 86 = .ok (.bipush (-4), 2) := by decide +kernel
theorem dX10_sale_88 : decode cX10_sale 88 = .ok (.ireturn, 1) := by decide +kernel
theorem dX10_sale_89 : decode cX10_sale 89 = .ok (.aload_n 0, 1) := by decide +kernel
theorem dX10_sale_90 : decode cX10_sale 90 = .ok (.getfield 32, 3) := by decide +kernel
theorem dX10_sale_93 : decode cX10_sale 93 = .ok (.aload_n 0, 1) := by decide +kernel
theorem dX10_sale_94 : decode cX10_sale 94 = .ok (.getfield 118, 3) := by decide +kernel
theorem dX10_sale_97 : decode cX10_sale 97 = .ok (.iload_n 1, 1) := by decide +kernel
theorem dX10_sale_98 : decode cX10_sale 98 = .ok (.iastore, 1) := by decide +kernel
theorem dX10_sale_99 : decode cX10_sale 99 = .ok (.aload_n 0, 1) := by decide +kernel
theorem dX10_sale_100 : decode cX10_sale 100 = .ok (.getfield 35, 3) := by decide +kernel
theorem dX10_sale_103 : decode cX10_sale 103 = .ok (.aload_n 0, 1) := by decide +kernel
theorem dX10_sale_104 : decode cX10_sale 104 = .ok (.getfield 118, 3) := by decide +kernel
theorem dX10_sale_107 : decode cX10_sale 107 = .ok (.iload_n 2, 1) := by decide +kernel
theorem dX10_sale_108 : decode cX10_sale 108 = .ok (.bipush 100, 2) := by decide +kernel
theorem dX10_sale_110 : decode cX10_sale 110 = .ok (.idiv, 1) := by decide +kernel
theorem dX10_sale_111 : decode cX10_sale 111 = .ok (.iastore, 1) := by decide +kernel
theorem dX10_sale_112 : decode cX10_sale 112 = .ok (.aload_n 0, 1) := by decide +kernel
theorem dX10_sale_113 : decode cX10_sale 113 = .ok (.getfield 38, 3) := by decide +kernel
theorem dX10_sale_116 : decode cX10_sale 116 = .ok (.aload_n 0, 1) := by decide +kernel
theorem dX10_sale_117 : decode cX10_sale 117 = .ok (.getfield 118, 3) := by decide +kernel
theorem dX10_sale_120 : decode cX10_sale 120 = .ok (.iload_n 2, 1) := by decide +kernel
theorem dX10_sale_121 : decode cX10_sale 121 = .ok (.bipush 10, 2) := by decide +kernel
theorem dX10_sale_123 : decode cX10_sale 123 = .ok (.idiv, 1) := by decide +kernel
theorem dX10_sale_124 : decode cX10_sale 124 = .ok (.bipush 10, 2) := by decide +kernel
theorem dX10_sale_126 : decode cX10_sale 126 = .ok (.irem, 1) := by decide +kernel
theorem dX10_sale_127 : decode cX10_sale 127 = .ok (.iastore, 1) := by decide +kernel
theorem dX10_sale_128 : decode cX10_sale 128 = .ok (.aload_n 0, 1) := by decide +kernel
theorem dX10_sale_129 : decode cX10_sale 129 = .ok (.getfield 41, 3) := by decide +kernel
theorem dX10_sale_132 : decode cX10_sale 132 = .ok (.aload_n 0, 1) := by decide +kernel
theorem dX10_sale_133 : decode cX10_sale 133 = .ok (.getfield 118, 3) := by decide +kernel
theorem dX10_sale_136 : decode cX10_sale 136 = .ok (.iload_n 2, 1) := by decide +kernel
theorem dX10_sale_137 : decode cX10_sale 137 = .ok (.bipush 10, 2) := by decide +kernel
theorem dX10_sale_139 : decode cX10_sale 139 = .ok (.irem, 1) := by decide +kernel
theorem dX10_sale_140 : decode cX10_sale 140 = .ok (.iastore, 1) := by decide +kernel
theorem dX10_sale_141 : decode cX10_sale 141 = .ok (.aload_n 0, 1) := by decide +kernel
theorem dX10_sale_142 : decode cX10_sale 142 = .ok (.getfield 44, 3) := by decide +kernel
theorem dX10_sale_145 : decode cX10_sale 145 = .ok (.aload_n 0, 1) := by decide +kernel
theorem dX10_sale_146 : decode cX10_sale 146 = .ok (.getfield 118, 3) := by decide +kernel
theorem dX10_sale_149 : decode cX10_sale 149 = .ok (.iload_n 3, 1) := by decide +kernel
theorem dX10_sale_150 : decode cX10_sale 150 = .ok (.iastore, 1) := by decide +kernel
theorem dX10_sale_151 : decode cX10_sale 151 = .ok (.aload_n 0, 1) := by decide +kernel
theorem dX10_sale_152 : decode cX10_sale 152 = .ok (.getfield 47, 3) := by decide +kernel
theorem dX10_sale_155 : decode cX10_sale 155 = .ok (.aload_n 0, 1) := by decide +kernel
theorem dX10_sale_156 : decode cX10_sale 156 = .ok (.getfield 118, 3) := by decide +kernel
theorem dX10_sale_159 : decode cX10_sale 159 = .ok (.iload 4, 2) := by decide +kernel
theorem dX10_sale_161 : decode cX10_sale 161 = .ok (.iastore, 1) := by decide +kernel
theorem dX10_sale_162 : decode cX10_sale 162 = .ok (.aload_n 0, 1) := by decide +kernel
theorem dX10_sale_163 : decode cX10_sale 163 = .ok (.getfield 50, 3) := by decide +kernel
theorem dX10_sale_166 : decode cX10_sale 166 = .ok (.aload_n 0, 1) := by decide +kernel
theorem dX10_sale_167 : decode cX10_sale 167 = .ok (.getfield 118, 3) := by decide +kernel
theorem dX10_sale_170 : decode cX10_sale 170 = .ok (.iload 5, 2) := by decide +kernel
theorem dX10_sale_172 : decode cX10_sale 172 = .ok (.iastore, 1) := by decide +kernel
theorem dX10_sale_173 : decode cX10_sale 173 = .ok (.aload_n 0, 1) := by decide +kernel
theorem dX10_sale_174 : decode cX10_sale 174 = .ok (.getfield 53, 3) := by decide +kernel
theorem dX10_sale_177 : decode cX10_sale 177 = .ok (.aload_n 0, 1) := by decide +kernel
theorem dX10_sale_178 : decode cX10_sale 178 = .ok (.getfield 118, 3) := by decide +kernel
theorem dX10_sale_181 : decode cX10_sale 181 = .ok (.iconst (-1), 1) := by decide +kernel
theorem dX10_sale_182 : decode cX10_sale 182 = .ok (.iastore, 1) := by decide +kernel
theorem dX10_sale_183 : decode cX10_sale 183 = .ok (.aload_n 0, 1) := by decide +kernel
theorem dX10_sale_184 : decode cX10_sale 184 = .ok (.getfield 56, 3) := by decide +kernel
theorem dX10_sale_187 : decode cX10_sale 187 = .ok (.aload_n 0, 1) := by decide +kernel
theorem dX10_sale_188 : decode cX10_sale 188 = .ok (.getfield 118, 3) := by decide +kernel
theorem dX10_sale_191 : decode cX10_sale 191 = .ok (.iconst 0, 1) := by decide +kernel
theorem dX10_sale_192 : decode cX10_sale 192 = .ok (.iastore, 1) := by decide +kernel
theorem dX10_sale_193 : decode cX10_sale 193 = .ok (.aload_n 0, 1) := by decide +kernel
theorem dX10_sale_194 : decode cX10_sale 194 = .ok (.dup, 1) := by decide +kernel
theorem dX10_sale_195 : decode cX10_sale 195 = .ok (.getfield 118, 3) := by decide +kernel
theorem dX10_sale_198 : decode cX10_sale 198 = .ok (.iconst 1, 1) := by decide +kernel
theorem dX10_sale_199 : decode cX10_sale 199 = .ok (.iadd, 1) := by decide +kernel
theorem dX10_sale_200 : decode cX10_sale 200 = .ok (.putfield 118, 3) := by decide +kernel
theorem dX10_sale_203 : decode cX10_sale 203 = .ok (.aload_n 0, 1) := by decide +kernel
theorem dX10_sale_204 : decode cX10_sale 204 = .ok (.getfield 118, 3) := by decide +kernel
theorem dX10_sale_207 : decode cX10_sale 207 = .ok (.iconst 1, 1) := by decide +kernel
theorem dX10_sale_208 : decode cX10_sale 208 = .ok (.isub, 1) := by decide +kernel
theorem dX10_sale_209 : decode cX10_sale 209 = .ok (.ireturn, 1) := by decide +kernel
theorem dX10_paper_0 : decode cX10_paper 0 = .ok (.aload_n 0, 1) := by decide +kernel
theorem dX10_paper_1 : decode cX10_paper 1 = .ok (.iload_n 1, 1) := by decide +kernel
theorem dX10_paper_2 : decode cX10_paper 2 = .ok (.invokevirtual 141, 3) := by decide +kernel
theorem dX10_paper_5 : decode cX10_paper 5 = .ok (.ifCond .eq 17, 3) := by decide +kernel
theorem dX10_paper_8 : decode cX10_paper 8 = .ok (.iload_n 2, 1) := by decide +kernel
theorem dX10_paper_9 : decode cX10_paper 9 = .ok (.i2l, 1) := by decide +kernel
theorem dX10_paper_10 : decode cX10_paper 10 = .ok (.ldc2_w 134, 3) := by decide +kernel
theorem dX10_paper_13 : decode cX10_paper 13 = .ok (.ldc2_w 123, 3) := by decide +kernel
theorem dX10_paper_16 : decode cX10_paper 16 = .ok (.invokestatic 114, 3) := by decide +kernel
theorem dX10_paper_19 : decode cX10_paper 19 = .ok (.ifCond .ne 6, 3) := by decide +kernel
theorem dX10_paper_22 : decode cX10_paper 22 = .ok (.bipush (-2), 2) := by decide +kernel
theorem dX10_paper_24 : decode cX10_paper 24 = .ok (.ireturn, 1) := by decide +kernel
theorem dX10_paper_25 : decode cX10_paper 25 = .ok (.aload_n 0, 1) := by decide +kernel
theorem dX10_paper_26 : decode cX10_paper 26 = .ok (.getfield 53, 3) := by decide +kernel
theorem dX10_paper_29 : decode cX10_paper 29 = .ok (.iload_n 1, 1) := by decide +kernel
theorem dX10_paper_30 : decode cX10_paper 30 = .ok (.iaload, 1) := by decide +kernel
theorem dX10_paper_31 : decode cX10_paper 31 = .ok (.istore_n 3, 1) := by decide +kernel
theorem dX10_paper_32 : decode cX10_paper 32 = .ok (.aload_n 0, 1) := by decide +kernel
theorem dX10_paper_33 : decode cX10_paper 33 = .ok (.getfield 53, 3) := by decide +kernel
theorem dX10_paper_36 : decode cX10_paper 36 = .ok (.iload_n 1, 1) := by decide +kernel
theorem dX10_paper_37 : decode cX10_paper 37 = .ok (.iload_n 2, 1) := by decide +kernel
theorem dX10_paper_38 : decode cX10_paper 38 = .ok (.iastore, 1) := by decide +kernel
theorem dX10_paper_39 : decode cX10_paper 39 = .ok (.iload_n 3, 1) := by decide +kernel
theorem dX10_paper_40 : decode cX10_paper 40 = .ok (.ireturn, 1) := by decide +kernel
theorem dX10_pay_0 : decode cX10_pay 0 = .ok (.aload_n 0, 1) := by decide +kernel
theorem dX10_pay_1 : decode cX10_pay 1 = .ok (.iload_n 1, 1) := by decide +kernel
theorem dX10_pay_2 : decode cX10_pay 2 = .ok (.invokevirtual 141, 3) := by decide +kernel
theorem dX10_pay_5 : decode cX10_pay 5 = .ok (.ifCond .eq 15, 3) := by decide +kernel
theorem dX10_pay_8 : decode cX10_pay 8 = .ok (.iload_n 2, 1) := by decide +kernel
theorem dX10_pay_9 : decode cX10_pay 9 = .ok (.i2l, 1) := by decide +kernel
theorem dX10_pay_10 : decode cX10_pay 10 = .ok (.lconst 0, 1) := by decide +kernel
theorem dX10_pay_11 : decode cX10_pay 11 = .ok (.ldc2_w 144, 3) := by decide +kernel
theorem dX10_pay_14 : decode cX10_pay 14 = .ok (.invokestatic 114, 3) := by decide +kernel
theorem dX10_pay_17 : decode cX10_pay 17 = .ok (.ifCond .ne 6, 3) := by decide +kernel
theorem dX10_pay_20 : decode cX10_pay 20 = .ok (.bipush (-2), 2) := by decide +kernel
theorem dX10_pay_22 : decode cX10_pay 22 = .ok (.ireturn, 1) := by decide +kernel
theorem dX10_pay_23 : decode cX10_pay 23 = .ok (.aload_n 0, 1) := by decide +kernel
theorem dX10_pay_24 : decode cX10_pay 24 = .ok (.getfield 56, 3) := by decide +kernel
theorem dX10_pay_27 : decode cX10_pay 27 = .ok (.iload_n 1, 1) := by decide +kernel
theorem dX10_pay_28 : decode cX10_pay 28 = .ok (.iaload, 1) := by decide +kernel
theorem dX10_pay_29 : decode cX10_pay 29 = .ok (.iload_n 2, 1) := by decide +kernel
theorem dX10_pay_30 : decode cX10_pay 30 = .ok (.iadd, 1) := by decide +kernel
theorem dX10_pay_31 : decode cX10_pay 31 = .ok (.ldc 146, 2) := by decide +kernel
theorem dX10_pay_33 : decode cX10_pay 33 = .ok (.if_icmp .le 6, 3) := by decide +kernel
theorem dX10_pay_36 : decode cX10_pay 36 = .ok (.bipush (-4), 2) := by decide +kernel
theorem dX10_pay_38 : decode cX10_pay 38 = .ok (.ireturn, 1) := by decide +kernel
theorem dX10_pay_39 : decode cX10_pay 39 = .ok (.aload_n 0, 1) := by decide +kernel
theorem dX10_pay_40 : decode cX10_pay 40 = .ok (.getfield 56, 3) := by decide +kernel
theorem dX10_pay_43 : decode cX10_pay 43 = .ok (.iload_n 1, 1) := by decide +kernel
theorem dX10_pay_44 : decode cX10_pay 44 = .ok (.dup2, 1) := by decide +kernel
theorem dX10_pay_45 : decode cX10_pay 45 = .ok (.iaload, 1) := by decide +kernel
theorem dX10_pay_46 : decode cX10_pay 46 = .ok (.iload_n 2, 1) := by decide +kernel
theorem dX10_pay_47 : decode cX10_pay 47 = .ok (.iadd, 1) := by decide +kernel
theorem dX10_pay_48 : decode cX10_pay 48 = .ok (.iastore, 1) := by decide +kernel
theorem dX10_pay_49 : decode cX10_pay 49 = .ok (.aload_n 0, 1) := by decide +kernel
theorem dX10_pay_50 : decode cX10_pay 50 = .ok (.getfield 56, 3) := by decide +kernel
theorem dX10_pay_53 : decode cX10_pay 53 = .ok (.iload_n 1, 1) := by decide +kernel
theorem dX10_pay_54 : decode cX10_pay 54 = .ok (.iaload, 1) := by decide +kernel
theorem dX10_pay_55 : decode cX10_pay 55 = .ok (.ireturn, 1) := by decide +kernel
theorem dX10_later_0 : decode cX10_later 0 = .ok (.iload_n 0, 1) := by decide +kernel
theorem dX10_later_1 : decode cX10_later 1 = .ok (.iconst (-1), 1) := by decide +kernel
theorem dX10_later_2 : decode cX10_later 2 = .ok (.if_icmp .eq 8, 3) := by decide +kernel
theorem dX10_later_5 : decode cX10_later 5 = .ok (.iload_n 1, 1) := by decide +kernel
theorem dX10_later_6 : decode cX10_later 6 = .ok (.iconst (-1), 1) := by decide +kernel
theorem dX10_later_7 : decode cX10_later 7 = .ok (.if_icmp .ne 9, 3) := by decide +kernel
theorem dX10_later_10 : decode cX10_later 10 = .ok (.sipush 1000, 3) := by decide +kernel
theorem dX10_later_13 : decode cX10_later 13 = .ok (.goto 13, 3) := by decide +kernel
theorem dX10_later_16 : decode cX10_later 16 = .ok (.iload_n 0, 1) := by decide +kernel
theorem dX10_later_17 : decode cX10_later 17 = .ok (.iload_n 1, 1) := by decide +kernel
theorem dX10_later_18 : decode cX10_later 18 = .ok (.if_icmp .le 7, 3) := by decide +kernel
theorem dX10_later_21 : decode cX10_later 21 = .ok (.iload_n 0, 1) := by decide +kernel
theorem dX10_later_22 : decode cX10_later 22 = .ok (.goto 4, 3) := by decide +kernel
theorem dX10_later_25 : decode cX10_later 25 = .ok (.iload_n 1, 1) := by decide +kernel
theorem dX10_later_26 : decode cX10_later 26 = .ok (.ireturn, 1) := by decide +kernel
theorem dX10_thingBy_0 : decode cX10_thingBy 0 = .ok (.iconst 3, 1) := by decide +kernel
theorem dX10_thingBy_1 : decode cX10_thingBy 1 = .ok (.aload_n 0, 1) := by decide +kernel
theorem dX10_thingBy_2 : decode cX10_thingBy 2 = .ok (.getfield 35, 3) := by decide +kernel
theorem dX10_thingBy_5 : decode cX10_thingBy 5 = .ok (.iload_n 1, 1) := by decide +kernel
theorem dX10_thingBy_6 : decode cX10_thingBy 6 = .ok (.iaload, 1) := by decide +kernel
theorem dX10_thingBy_7 : decode cX10_thingBy 7 = .ok (.imul, 1) := by decide +kernel
theorem dX10_thingBy_8 : decode cX10_thingBy 8 = .ok (.istore_n 3, 1) := by decide +kernel
theorem dX10_thingBy_9 : decode cX10_thingBy 9 = .ok (.iload_n 2, 1) := by decide +kernel
theorem dX10_thingBy_10 : decode cX10_thingBy 10 = .ok (.tableswitch 113 1 5 #[34, 50, 68, 84, 68], 34) := by decide +kernel
theorem dX10_thingBy_44 : decode cX10_thingBy 44 = .ok (.aload_n 0, 1) := by decide +kernel
theorem dX10_thingBy_45 : decode cX10_thingBy 45 = .ok (.getfield 29, 3) := by decide +kernel
theorem dX10_thingBy_48 : decode cX10_thingBy 48 = .ok (.iload_n 3, 1) := by decide +kernel
theorem dX10_thingBy_49 : decode cX10_thingBy 49 = .ok (.iaload, 1) := by decide +kernel
theorem dX10_thingBy_50 : decode cX10_thingBy 50 = .ok (.aload_n 0, 1) := by decide +kernel
theorem dX10_thingBy_51 : decode cX10_thingBy 51 = .ok (.getfield 50, 3) := by decide +kernel
theorem dX10_thingBy_54 : decode cX10_thingBy 54 = .ok (.iload_n 1, 1) := by decide +kernel
theorem dX10_thingBy_55 : decode cX10_thingBy 55 = .ok (.iaload, 1) := by decide +kernel
theorem dX10_thingBy_56 : decode cX10_thingBy 56 = .ok (.invokestatic 147, 3) := by decide +kernel
theorem dX10_thingBy_59 : decode cX10_thingBy 59 = .ok (.ireturn, 1) := by decide +kernel
theorem dX10_thingBy_60 : decode cX10_thingBy 60 = .ok (.aload_n 0, 1) := by decide +kernel
theorem dX10_thingBy_61 : decode cX10_thingBy 61 = .ok (.getfield 29, 3) := by decide +kernel
theorem dX10_thingBy_64 : decode cX10_thingBy 64 = .ok (.iload_n 3, 1) := by decide +kernel
theorem dX10_thingBy_65 : decode cX10_thingBy 65 = .ok (.iconst 1, 1) := by decide +kernel
theorem dX10_thingBy_66 : decode cX10_thingBy 66 = .ok (.iadd, 1) := by decide +kernel
theorem dX10_thingBy_67 : decode cX10_thingBy 67 = .ok (.iaload, 1) := by decide +kernel
theorem dX10_thingBy_68 : decode cX10_thingBy 68 = .ok (.aload_n 0, 1) := by decide +kernel
theorem dX10_thingBy_69 : decode cX10_thingBy 69 = .ok (.getfield 50, 3) := by decide +kernel
theorem dX10_thingBy_72 : decode cX10_thingBy 72 = .ok (.iload_n 1, 1) := by decide +kernel
theorem dX10_thingBy_73 : decode cX10_thingBy 73 = .ok (.iaload, 1) := by decide +kernel
theorem dX10_thingBy_74 : decode cX10_thingBy 74 = .ok (.invokestatic 147, 3) := by decide +kernel
theorem dX10_thingBy_77 : decode cX10_thingBy 77 = .ok (.ireturn, 1) := by decide +kernel
theorem dX10_thingBy_78 : decode cX10_thingBy 78 = .ok (.aload_n 0, 1) := by decide +kernel
theorem dX10_thingBy_79 : decode cX10_thingBy 79 = .ok (.getfield 53, 3) := by decide +kernel
theorem dX10_thingBy_82 : decode cX10_thingBy 82 = .ok (.iload_n 1, 1) := by decide +kernel
theorem dX10_thingBy_83 : decode cX10_thingBy 83 = .ok (.iaload, 1) := by decide +kernel
theorem dX10_thingBy_84 : decode cX10_thingBy 84 = .ok (.aload_n 0, 1) := by decide +kernel
theorem dX10_thingBy_85 : decode cX10_thingBy 85 = .ok (.getfield 50, 3) := by decide +kernel
theorem dX10_thingBy_88 : decode cX10_thingBy 88 = .ok (.iload_n 1, 1) := by decide +kernel
theorem dX10_thingBy_89 : decode cX10_thingBy 89 = .ok (.iaload, 1) := by decide +kernel
theorem dX10_thingBy_90 : decode cX10_thingBy 90 = .ok (.invokestatic 147, 3) := by decide +kernel
theorem dX10_thingBy_93 : decode cX10_thingBy 93 = .ok (.ireturn, 1) := by decide +kernel
theorem dX10_thingBy_94 : decode cX10_thingBy 94 = .ok (.aload_n 0, 1) := by decide +kernel
theorem dX10_thingBy_95 : decode cX10_thingBy 95 = .ok (.getfield 29, 3) := by decide +kernel
theorem dX10_thingBy_98 : decode cX10_thingBy 98 = .ok (.iload_n 3, 1) := by decide +kernel
theorem dX10_thingBy_99 : decode cX10_thingBy 99 = .ok (.iconst 2, 1) := by decide +kernel
theorem dX10_thingBy_100 : decode cX10_thingBy 100 = .ok (.iadd, 1) := by decide +kernel
theorem dX10_thingBy_101 : decode cX10_thingBy 101 = .ok (.iaload, 1) := by decide +kernel
theorem dX10_thingBy_102 : decode cX10_thingBy 102 = .ok (.aload_n 0, 1) := by decide +kernel
theorem dX10_thingBy_103 : decode cX10_thingBy 103 = .ok (.getfield 29, 3) := by decide +kernel
theorem dX10_thingBy_106 : decode cX10_thingBy 106 = .ok (.iload_n 3, 1) := by decide +kernel
theorem dX10_thingBy_107 : decode cX10_thingBy 107 = .ok (.iconst 1, 1) := by decide +kernel
theorem dX10_thingBy_108 : decode cX10_thingBy 108 = .ok (.iadd, 1) := by decide +kernel
theorem dX10_thingBy_109 : decode cX10_thingBy 109 = .ok (.iaload, 1) := by decide +kernel
theorem dX10_thingBy_110 : decode cX10_thingBy 110 = .ok (.aload_n 0, 1) := by decide +kernel
theorem dX10_thingBy_111 : decode cX10_thingBy 111 = .ok (.getfield 50, 3) := by decide +kernel
theorem dX10_thingBy_114 : decode cX10_thingBy 114 = .ok (.iload_n 1, 1) := by decide +kernel
theorem dX10_thingBy_115 : decode cX10_thingBy 115 = .ok (.iaload, 1) := by decide +kernel
theorem dX10_thingBy_116 : decode cX10_thingBy 116 = .ok (.invokestatic 147, 3) := by decide +kernel
theorem dX10_thingBy_119 : decode cX10_thingBy 119 = .ok (.invokestatic 147, 3) := by decide +kernel
theorem dX10_thingBy_122 : decode cX10_thingBy 122 = .ok (.ireturn, 1) := by decide +kernel
theorem dX10_thingBy_123 : decode cX10_thingBy 123 = .ok (.aload_n 0, 1) := by decide +kernel
theorem dX10_thingBy_124 : decode cX10_thingBy 124 = .ok (.getfield 50, 3) := by decide +kernel
theorem dX10_thingBy_127 : decode cX10_thingBy 127 = .ok (.iload_n 1, 1) := by decide +kernel
theorem dX10_thingBy_128 : decode cX10_thingBy 128 = .ok (.iaload, 1) := by decide +kernel
theorem dX10_thingBy_129 : decode cX10_thingBy 129 = .ok (.ireturn, 1) := by decide +kernel
theorem dX10_lossBy_0 : decode cX10_lossBy 0 = .ok (.aload_n 0, 1) := by decide +kernel
theorem dX10_lossBy_1 : decode cX10_lossBy 1 = .ok (.iload_n 1, 1) := by decide +kernel
theorem dX10_lossBy_2 : decode cX10_lossBy 2 = .ok (.iconst 1, 1) := by decide +kernel
theorem dX10_lossBy_3 : decode cX10_lossBy 3 = .ok (.invokevirtual 151, 3) := by decide +kernel
theorem dX10_lossBy_6 : decode cX10_lossBy 6 = .ok (.istore_n 3, 1) := by decide +kernel
theorem dX10_lossBy_7 : decode cX10_lossBy 7 = .ok (.iload_n 2, 1) := by decide +kernel
theorem dX10_lossBy_8 : decode cX10_lossBy 8 = .ok (.tableswitch 76 1 5 #[36, 38, 36, 38, 45], 36) := by decide +kernel
theorem dX10_lossBy_44 : decode cX10_lossBy 44 = .ok (.iload_n 3, 1) := by decide +kernel
theorem dX10_lossBy_45 : decode cX10_lossBy 45 = .ok (.ireturn, 1) := by decide +kernel
theorem dX10_lossBy_46 : decode cX10_lossBy 46 = .ok (.aload_n 0, 1) := by decide +kernel
theorem dX10_lossBy_47 : decode cX10_lossBy 47 = .ok (.iload_n 1, 1) := by decide +kernel
theorem dX10_lossBy_48 : decode cX10_lossBy 48 = .ok (.iconst 2, 1) := by decide +kernel
theorem dX10_lossBy_49 : decode cX10_lossBy 49 = .ok (.invokevirtual 151, 3) := by decide +kernel
theorem dX10_lossBy_52 : decode cX10_lossBy 52 = .ok (.ireturn, 1) := by decide +kernel
theorem dX10_lossBy_53 : decode cX10_lossBy 53 = .ok (.iload_n 3, 1) := by decide +kernel
theorem dX10_lossBy_54 : decode cX10_lossBy 54 = .ok (.sipush 1000, 3) := by decide +kernel
theorem dX10_lossBy_57 : decode cX10_lossBy 57 = .ok (.if_icmp .ne 9, 3) := by decide +kernel
theorem dX10_lossBy_60 : decode cX10_lossBy 60 = .ok (.sipush 1000, 3) := by decide +kernel
theorem dX10_lossBy_63 : decode cX10_lossBy 63 = .ok (.goto 20, 3) := by decide +kernel
theorem dX10_lossBy_66 : decode cX10_lossBy 66 = .ok (.aload_n 0, 1) := by decide +kernel
theorem dX10_lossBy_67 : decode cX10_lossBy 67 = .ok (.getfield 50, 3) := by decide +kernel
theorem dX10_lossBy_70 : decode cX10_lossBy 70 = .ok (.iload_n 1, 1) := by decide +kernel
theorem dX10_lossBy_71 : decode cX10_lossBy 71 = .ok (.iaload, 1) := by decide +kernel
theorem dX10_lossBy_72 : decode cX10_lossBy 72 = .ok (.iload_n 3, 1) := by decide +kernel
theorem dX10_lossBy_73 : decode cX10_lossBy 73 = .ok (.aload_n 0, 1) := by decide +kernel
theorem dX10_lossBy_74 : decode cX10_lossBy 74 = .ok (.getfield 50, 3) := by decide +kernel
theorem dX10_lossBy_77 : decode cX10_lossBy 77 = .ok (.iload_n 1, 1) := by decide +kernel
theorem dX10_lossBy_78 : decode cX10_lossBy 78 = .ok (.iaload, 1) := by decide +kernel
theorem dX10_lossBy_79 : decode cX10_lossBy 79 = .ok (.isub, 1) := by decide +kernel
theorem dX10_lossBy_80 : decode cX10_lossBy 80 = .ok (.iconst 2, 1) := by decide +kernel
theorem dX10_lossBy_81 : decode cX10_lossBy 81 = .ok (.idiv, 1) := by decide +kernel
theorem dX10_lossBy_82 : decode cX10_lossBy 82 = .ok (.iadd, 1) := by decide +kernel
theorem dX10_lossBy_83 : decode cX10_lossBy 83 = .ok (.ireturn, 1) := by decide +kernel
theorem dX10_lossBy_84 : decode cX10_lossBy 84 = .ok (.aload_n 0, 1) := by decide +kernel
theorem dX10_lossBy_85 : decode cX10_lossBy 85 = .ok (.getfield 50, 3) := by decide +kernel
theorem dX10_lossBy_88 : decode cX10_lossBy 88 = .ok (.iload_n 1, 1) := by decide +kernel
theorem dX10_lossBy_89 : decode cX10_lossBy 89 = .ok (.iaload, 1) := by decide +kernel
theorem dX10_lossBy_90 : decode cX10_lossBy 90 = .ok (.ireturn, 1) := by decide +kernel
theorem dX10_passes_0 : decode cX10_passes 0 = .ok (.iload_n 2, 1) := by decide +kernel
theorem dX10_passes_1 : decode cX10_passes 1 = .ok (.ifCond .ne 17, 3) := by decide +kernel
theorem dX10_passes_4 : decode cX10_passes 4 = .ok (.aload_n 0, 1) := by decide +kernel
theorem dX10_passes_5 : decode cX10_passes 5 = .ok (.iload_n 1, 1) := by decide +kernel
theorem dX10_passes_6 : decode cX10_passes 6 = .ok (.aload_n 0, 1) := by decide +kernel
theorem dX10_passes_7 : decode cX10_passes 7 = .ok (.getfield 32, 3) := by decide +kernel
theorem dX10_passes_10 : decode cX10_passes 10 = .ok (.iload_n 1, 1) := by decide +kernel
theorem dX10_passes_11 : decode cX10_passes 11 = .ok (.iaload, 1) := by decide +kernel
theorem dX10_passes_12 : decode cX10_passes 12 = .ok (.invokevirtual 151, 3) := by decide +kernel
theorem dX10_passes_15 : decode cX10_passes 15 = .ok (.goto 14, 3) := by decide +kernel
theorem dX10_passes_18 : decode cX10_passes 18 = .ok (.aload_n 0, 1) := by decide +kernel
theorem dX10_passes_19 : decode cX10_passes 19 = .ok (.iload_n 1, 1) := by decide +kernel
theorem dX10_passes_20 : decode cX10_passes 20 = .ok (.aload_n 0, 1) := by decide +kernel
theorem dX10_passes_21 : decode cX10_passes 21 = .ok (.getfield 32, 3) := by decide +kernel
theorem dX10_passes_24 : decode cX10_passes 24 = .ok (.iload_n 1, 1) := by decide +kernel
theorem dX10_passes_25 : decode cX10_passes 25 = .ok (.iaload, 1) := by decide +kernel
theorem dX10_passes_26 : decode cX10_passes 26 = .ok (.invokevirtual 154, 3) := by decide +kernel
theorem dX10_passes_29 : decode cX10_passes 29 = .ok (.ireturn, 1) := by decide +kernel
theorem dX10_told_0 : decode cX10_told 0 = .ok (.aload_n 0, 1) := by decide +kernel
theorem dX10_told_1 : decode cX10_told 1 = .ok (.iload_n 1, 1) := by decide +kernel
theorem dX10_told_2 : decode cX10_told 2 = .ok (.invokevirtual 141, 3) := by decide +kernel
theorem dX10_told_5 : decode cX10_told 5 = .ok (.ifCond .ne 6, 3) := by decide +kernel
theorem dX10_told_8 : decode cX10_told 8 = .ok (.bipush (-5), 2) := by decide +kernel
theorem dX10_told_10 : decode cX10_told 10 = .ok (.ireturn, 1) := by decide +kernel
theorem dX10_told_11 : decode cX10_told 11 = .ok (.iload_n 2, 1) := by decide +kernel
theorem dX10_told_12 : decode cX10_told 12 = .ok (.tableswitch 137 0 10 #[60, 67, 74, 81, 88, 95, 102, 109, 116, 123, 130], 60) := by decide +kernel
theorem dX10_told_72 : decode cX10_told 72 = .ok (.aload_n 0, 1) := by decide +kernel
theorem dX10_told_73 : decode cX10_told 73 = .ok (.getfield 32, 3) := by decide +kernel
theorem dX10_told_76 : decode cX10_told 76 = .ok (.iload_n 1, 1) := by decide +kernel
theorem dX10_told_77 : decode cX10_told 77 = .ok (.iaload, 1) := by decide +kernel
theorem dX10_told_78 : decode cX10_told 78 = .ok (.ireturn, 1) := by decide +kernel
theorem dX10_told_79 : decode cX10_told 79 = .ok (.aload_n 0, 1) := by decide +kernel
theorem dX10_told_80 : decode cX10_told 80 = .ok (.getfield 35, 3) := by decide +kernel
theorem dX10_told_83 : decode cX10_told 83 = .ok (.iload_n 1, 1) := by decide +kernel
theorem dX10_told_84 : decode cX10_told 84 = .ok (.iaload, 1) := by decide +kernel
theorem dX10_told_85 : decode cX10_told 85 = .ok (.ireturn, 1) := by decide +kernel
theorem dX10_told_86 : decode cX10_told 86 = .ok (.aload_n 0, 1) := by decide +kernel
theorem dX10_told_87 : decode cX10_told 87 = .ok (.getfield 38, 3) := by decide +kernel
theorem dX10_told_90 : decode cX10_told 90 = .ok (.iload_n 1, 1) := by decide +kernel
theorem dX10_told_91 : decode cX10_told 91 = .ok (.iaload, 1) := by decide +kernel
theorem dX10_told_92 : decode cX10_told 92 = .ok (.ireturn, 1) := by decide +kernel
theorem dX10_told_93 : decode cX10_told 93 = .ok (.aload_n 0, 1) := by decide +kernel
theorem dX10_told_94 : decode cX10_told 94 = .ok (.getfield 41, 3) := by decide +kernel
theorem dX10_told_97 : decode cX10_told 97 = .ok (.iload_n 1, 1) := by decide +kernel
theorem dX10_told_98 : decode cX10_told 98 = .ok (.iaload, 1) := by decide +kernel
theorem dX10_told_99 : decode cX10_told 99 = .ok (.ireturn, 1) := by decide +kernel
theorem dX10_told_100 : decode cX10_told 100 = .ok (.aload_n 0, 1) := by decide +kernel
theorem dX10_told_101 : decode cX10_told 101 = .ok (.getfield 44, 3) := by decide +kernel
theorem dX10_told_104 : decode cX10_told 104 = .ok (.iload_n 1, 1) := by decide +kernel
theorem dX10_told_105 : decode cX10_told 105 = .ok (.iaload, 1) := by decide +kernel
theorem dX10_told_106 : decode cX10_told 106 = .ok (.ireturn, 1) := by decide +kernel
theorem dX10_told_107 : decode cX10_told 107 = .ok (.aload_n 0, 1) := by decide +kernel
theorem dX10_told_108 : decode cX10_told 108 = .ok (.getfield 47, 3) := by decide +kernel
theorem dX10_told_111 : decode cX10_told 111 = .ok (.iload_n 1, 1) := by decide +kernel
theorem dX10_told_112 : decode cX10_told 112 = .ok (.iaload, 1) := by decide +kernel
theorem dX10_told_113 : decode cX10_told 113 = .ok (.ireturn, 1) := by decide +kernel
theorem dX10_told_114 : decode cX10_told 114 = .ok (.aload_n 0, 1) := by decide +kernel
theorem dX10_told_115 : decode cX10_told 115 = .ok (.getfield 50, 3) := by decide +kernel
theorem dX10_told_118 : decode cX10_told 118 = .ok (.iload_n 1, 1) := by decide +kernel
theorem dX10_told_119 : decode cX10_told 119 = .ok (.iaload, 1) := by decide +kernel
theorem dX10_told_120 : decode cX10_told 120 = .ok (.ireturn, 1) := by decide +kernel
theorem dX10_told_121 : decode cX10_told 121 = .ok (.aload_n 0, 1) := by decide +kernel
theorem dX10_told_122 : decode cX10_told 122 = .ok (.getfield 53, 3) := by decide +kernel
theorem dX10_told_125 : decode cX10_told 125 = .ok (.iload_n 1, 1) := by decide +kernel
theorem dX10_told_126 : decode cX10_told 126 = .ok (.iaload, 1) := by decide +kernel
theorem dX10_told_127 : decode cX10_told 127 = .ok (.ireturn, 1) := by decide +kernel
theorem dX10_told_128 : decode cX10_told 128 = .ok (.aload_n 0, 1) := by decide +kernel
theorem dX10_told_129 : decode cX10_told 129 = .ok (.getfield 56, 3) := by decide +kernel
theorem dX10_told_132 : decode cX10_told 132 = .ok (.iload_n 1, 1) := by decide +kernel
theorem dX10_told_133 : decode cX10_told 133 = .ok (.iaload, 1) := by decide +kernel
theorem dX10_told_134 : decode cX10_told 134 = .ok (.ireturn, 1) := by decide +kernel
theorem dX10_told_135 : decode cX10_told 135 = .ok (.aload_n 0, 1) := by decide +kernel
theorem dX10_told_136 : decode cX10_told 136 = .ok (.iload_n 1, 1) := by decide +kernel
theorem dX10_told_137 : decode cX10_told 137 = .ok (.iconst 0, 1) := by decide +kernel
theorem dX10_told_138 : decode cX10_told 138 = .ok (.invokevirtual 157, 3) := by decide +kernel
theorem dX10_told_141 : decode cX10_told 141 = .ok (.ireturn, 1) := by decide +kernel
theorem dX10_told_142 : decode cX10_told 142 = .ok (.aload_n 0, 1) := by decide +kernel
theorem dX10_told_143 : decode cX10_told 143 = .ok (.iload_n 1, 1) := by decide +kernel
theorem dX10_told_144 : decode cX10_told 144 = .ok (.iconst 1, 1) := by decide +kernel
theorem dX10_told_145 : decode cX10_told 145 = .ok (.invokevirtual 157, 3) := by decide +kernel
theorem dX10_told_148 : decode cX10_told 148 = .ok (.ireturn, 1) := by decide +kernel
theorem dX10_told_149 : decode cX10_told 149 = .ok (.bipush (-5), 2) := by decide +kernel
theorem dX10_told_151 : decode cX10_told 151 = .ok (.ireturn, 1) := by decide +kernel
theorem dX10_lays_0 : decode cX10_lays 0 = .ok (.iconst 0, 1) := by decide +kernel
theorem dX10_lays_1 : decode cX10_lays 1 = .ok (.istore 4, 2) := by decide +kernel
theorem dX10_lays_3 : decode cX10_lays 3 = .ok (.iload 4, 2) := by decide +kernel
theorem dX10_lays_5 : decode cX10_lays 5 = .ok (.bipush 10, 2) := by decide +kernel
theorem dX10_lays_7 : decode cX10_lays 7 = .ok (.if_icmp .ge 37, 3) := by decide +kernel
theorem dX10_lays_10 : decode cX10_lays 10 = .ok (.aload_n 0, 1) := by decide +kernel
theorem dX10_lays_11 : decode cX10_lays 11 = .ok (.getfield 59, 3) := by decide +kernel
theorem dX10_lays_14 : decode cX10_lays 14 = .ok (.iload 4, 2) := by decide +kernel
theorem dX10_lays_16 : decode cX10_lays 16 = .ok (.iload 4, 2) := by decide +kernel
theorem dX10_lays_18 : decode cX10_lays 18 = .ok (.aload_n 0, 1) := by decide +kernel
theorem dX10_lays_19 : decode cX10_lays 19 = .ok (.getfield 26, 3) := by decide +kernel
theorem dX10_lays_22 : decode cX10_lays 22 = .ok (.iload_n 1, 1) := by decide +kernel
theorem dX10_lays_23 : decode cX10_lays 23 = .ok (.iaload, 1) := by decide +kernel
theorem dX10_lays_24 : decode cX10_lays 24 = .ok (.if_icmp .ne 12, 3) := by decide +kernel
theorem dX10_lays_27 : decode cX10_lays 27 = .ok (.aload_n 0, 1) := by decide +kernel
theorem dX10_lays_28 : decode cX10_lays 28 = .ok (.getfield 23, 3) := by decide +kernel
theorem dX10_lays_31 : decode cX10_lays 31 = .ok (.iload_n 1, 1) := by decide +kernel
theorem dX10_lays_32 : decode cX10_lays 32 = .ok (.iaload, 1) := by decide +kernel
theorem dX10_lays_33 : decode cX10_lays 33 = .ok (.goto 4, 3) := by decide +kernel
theorem dX10_lays_36 : decode cX10_lays 36 = .ok (.iconst 0, 1) := by decide +kernel
theorem dX10_lays_37 : decode cX10_lays 37 = .ok (.iastore, 1) := by decide +kernel
theorem dX10_lays_38 : decode cX10_lays 38 = .ok (.iinc 4 1, 3) := by decide +kernel
theorem dX10_lays_41 : decode cX10_lays 41 = .ok (.goto (-38), 3) := by decide +kernel
theorem dX10_lays_44 : decode cX10_lays 44 = .ok (.iconst 0, 1) := by decide +kernel
theorem dX10_lays_45 : decode cX10_lays 45 = .ok (.istore 4, 2) := by decide +kernel
theorem dX10_lays_47 : decode cX10_lays 47 = .ok (.iload 4, 2) := by decide +kernel
theorem dX10_lays_49 : decode cX10_lays 49 = .ok (.aload_n 0, 1) := by decide +kernel
theorem dX10_lays_50 : decode cX10_lays 50 = .ok (.getfield 118, 3) := by decide +kernel
theorem dX10_lays_53 : decode cX10_lays 53 = .ok (.if_icmp .ge 62, 3) := by decide +kernel
theorem dX10_lays_56 : decode cX10_lays 56 = .ok (.aload_n 0, 1) := by decide +kernel
theorem dX10_lays_57 : decode cX10_lays 57 = .ok (.getfield 35, 3) := by decide +kernel
theorem dX10_lays_60 : decode cX10_lays 60 = .ok (.iload 4, 2) := by decide +kernel
theorem dX10_lays_62 : decode cX10_lays 62 = .ok (.iaload, 1) := by decide +kernel
theorem dX10_lays_63 : decode cX10_lays 63 = .ok (.iload_n 1, 1) := by decide +kernel
theorem dX10_lays_64 : decode cX10_lays 64 = .ok (.if_icmp .ne 13, 3) := by decide +kernel
theorem dX10_lays_67 : decode cX10_lays 67 = .ok (.aload_n 0, 1) := by decide +kernel
theorem dX10_lays_68 : decode cX10_lays 68 = .ok (.iload 4, 2) := by decide +kernel
theorem dX10_lays_70 : decode cX10_lays 70 = .ok (.iload_n 3, 1) := by decide +kernel
theorem dX10_lays_71 : decode cX10_lays 71 = .ok (.invokevirtual 157, 3) := by decide +kernel
theorem dX10_lays_74 : decode cX10_lays 74 = .ok (.goto 6, 3) := by decide +kernel
theorem dX10_lays_77 : decode cX10_lays 77 = .ok (.sipush 1000, 3) := by decide +kernel
theorem dX10_lays_80 : decode cX10_lays 80 = .ok (.istore 5, 2) := by decide +kernel
theorem dX10_lays_82 : decode cX10_lays 82 = .ok (.aload_n 0, 1) := by decide +kernel
theorem dX10_lays_83 : decode cX10_lays 83 = .ok (.getfield 62, 3) := by decide +kernel
theorem dX10_lays_86 : decode cX10_lays 86 = .ok (.iload 4, 2) := by decide +kernel
theorem dX10_lays_88 : decode cX10_lays 88 = .ok (.iload 5, 2) := by decide +kernel
theorem dX10_lays_90 : decode cX10_lays 90 = .ok (.iload_n 2, 1) := by decide +kernel
theorem dX10_lays_91 : decode cX10_lays 91 = .ok (.if_icmp .gt 16, 3) := by decide +kernel
theorem dX10_lays_94 : decode cX10_lays 94 = .ok (.iload 5, 2) := by decide +kernel
theorem dX10_lays_96 : decode cX10_lays 96 = .ok (.sipush 1000, 3) := by decide +kernel
theorem dX10_lays_99 : decode cX10_lays 99 = .ok (.if_icmp .eq 8, 3) := by decide +kernel
theorem dX10_lays_102 : decode cX10_lays 102 = .ok (.iload 5, 2) := by decide +kernel
theorem dX10_lays_104 : decode cX10_lays 104 = .ok (.goto 4, 3) := by decide +kernel
theorem dX10_lays_107 : decode cX10_lays 107 = .ok (.iconst (-1), 1) := by decide +kernel
theorem dX10_lays_108 : decode cX10_lays 108 = .ok (.iastore, 1) := by decide +kernel
theorem dX10_lays_109 : decode cX10_lays 109 = .ok (.iinc 4 1, 3) := by decide +kernel
theorem dX10_lays_112 : decode cX10_lays 112 = .ok (.goto (-65), 3) := by decide +kernel
theorem dX10_lays_115 : decode cX10_lays 115 = .ok (.aload_n 0, 1) := by decide +kernel
theorem dX10_lays_116 : decode cX10_lays 116 = .ok (.invokevirtual 160, 3) := by decide +kernel
theorem dX10_lays_119 : decode cX10_lays 119 = .ok (.istore 4, 2) := by decide +kernel
theorem dX10_lays_121 : decode cX10_lays 121 = .ok (.iload 4, 2) := by decide +kernel
theorem dX10_lays_123 : decode cX10_lays 123 = .ok (.iconst (-1), 1) := by decide +kernel
theorem dX10_lays_124 : decode cX10_lays 124 = .ok (.if_icmp .eq 100, 3) := by decide +kernel
theorem dX10_lays_127 : decode cX10_lays 127 = .ok (.aload_n 0, 1) := by decide +kernel
theorem dX10_lays_128 : decode cX10_lays 128 = .ok (.getfield 44, 3) := by decide +kernel
theorem dX10_lays_131 : decode cX10_lays 131 = .ok (.iload 4, 2) := by decide +kernel
theorem dX10_lays_133 : decode cX10_lays 133 = .ok (.iaload, 1) := by decide +kernel
theorem dX10_lays_134 : decode cX10_lays 134 = .ok (.aload_n 0, 1) := by decide +kernel
theorem dX10_lays_135 : decode cX10_lays 135 = .ok (.getfield 59, 3) := by decide +kernel
theorem dX10_lays_138 : decode cX10_lays 138 = .ok (.aload_n 0, 1) := by decide +kernel
theorem dX10_lays_139 : decode cX10_lays 139 = .ok (.getfield 38, 3) := by decide +kernel
theorem dX10_lays_142 : decode cX10_lays 142 = .ok (.iload 4, 2) := by decide +kernel
theorem dX10_lays_144 : decode cX10_lays 144 = .ok (.iaload, 1) := by decide +kernel
theorem dX10_lays_145 : decode cX10_lays 145 = .ok (.iaload, 1) := by decide +kernel
theorem dX10_lays_146 : decode cX10_lays 146 = .ok (.if_icmp .ge 13, 3) := by decide +kernel
theorem dX10_lays_149 : decode cX10_lays 149 = .ok (.aload_n 0, 1) := by decide +kernel
theorem dX10_lays_150 : decode cX10_lays 150 = .ok (.getfield 44, 3) := by decide +kernel
theorem dX10_lays_153 : decode cX10_lays 153 = .ok (.iload 4, 2) := by decide +kernel
theorem dX10_lays_155 : decode cX10_lays 155 = .ok (.iaload, 1) := by decide +kernel
theorem dX10_lays_156 : decode cX10_lays 156 = .ok (.goto 15, 3) := by decide +kernel
theorem dX10_lays_159 : decode cX10_lays 159 = .ok (.aload_n 0, 1) := by decide +kernel
theorem dX10_lays_160 : decode cX10_lays 160 = .ok (.getfield 59, 3) := by decide +kernel
theorem dX10_lays_163 : decode cX10_lays 163 = .ok (.aload_n 0, 1) := by decide +kernel
theorem dX10_lays_164 : decode cX10_lays 164 = .ok (.getfield 38, 3) := by decide +kernel
theorem dX10_lays_167 : decode cX10_lays 167 = .ok (.iload 4, 2) := by decide +kernel
theorem dX10_lays_169 : decode cX10_lays 169 = .ok (.iaload, 1) := by decide +kernel
theorem dX10_lays_170 : decode cX10_lays 170 = .ok (.iaload, 1) := by decide +kernel
theorem dX10_lays_171 : decode cX10_lays 171 = .ok (.istore 5, 2) := by decide +kernel
theorem dX10_lays_173 : decode cX10_lays 173 = .ok (.aload_n 0, 1) := by decide +kernel
theorem dX10_lays_174 : decode cX10_lays 174 = .ok (.getfield 59, 3) := by decide +kernel
theorem dX10_lays_177 : decode cX10_lays 177 = .ok (.aload_n 0, 1) := by decide +kernel
theorem dX10_lays_178 : decode cX10_lays 178 = .ok (.getfield 38, 3) := by decide +kernel
theorem dX10_lays_181 : decode cX10_lays 181 = .ok (.iload 4, 2) := by decide +kernel
theorem dX10_lays_183 : decode cX10_lays 183 = .ok (.iaload, 1) := by decide +kernel
theorem dX10_lays_184 : decode cX10_lays 184 = .ok (.dup2, 1) := by decide +kernel
theorem dX10_lays_185 : decode cX10_lays 185 = .ok (.iaload, 1) := by decide +kernel
theorem dX10_lays_186 : decode cX10_lays 186 = .ok (.iload 5, 2) := by decide +kernel
theorem dX10_lays_188 : decode cX10_lays 188 = .ok (.isub, 1) := by decide +kernel
theorem dX10_lays_189 : decode cX10_lays 189 = .ok (.iastore, 1) := by decide +kernel
theorem dX10_lays_190 : decode cX10_lays 190 = .ok (.aload_n 0, 1) := by decide +kernel
theorem dX10_lays_191 : decode cX10_lays 191 = .ok (.getfield 59, 3) := by decide +kernel
theorem dX10_lays_194 : decode cX10_lays 194 = .ok (.aload_n 0, 1) := by decide +kernel
theorem dX10_lays_195 : decode cX10_lays 195 = .ok (.getfield 41, 3) := by decide +kernel
theorem dX10_lays_198 : decode cX10_lays 198 = .ok (.iload 4, 2) := by decide +kernel
theorem dX10_lays_200 : decode cX10_lays 200 = .ok (.iaload, 1) := by decide +kernel
theorem dX10_lays_201 : decode cX10_lays 201 = .ok (.dup2, 1) := by decide +kernel
theorem dX10_lays_202 : decode cX10_lays 202 = .ok (.iaload, 1) := by decide +kernel
theorem dX10_lays_203 : decode cX10_lays 203 = .ok (.iload 5, 2) := by decide +kernel
theorem dX10_lays_205 : decode cX10_lays 205 = .ok (.iadd, 1) := by decide +kernel
theorem dX10_lays_206 : decode cX10_lays 206 = .ok (.iastore, 1) := by decide +kernel
theorem dX10_lays_207 : decode cX10_lays 207 = .ok (.aload_n 0, 1) := by decide +kernel
theorem dX10_lays_208 : decode cX10_lays 208 = .ok (.getfield 62, 3) := by decide +kernel
theorem dX10_lays_211 : decode cX10_lays 211 = .ok (.iload 4, 2) := by decide +kernel
theorem dX10_lays_213 : decode cX10_lays 213 = .ok (.iconst (-1), 1) := by decide +kernel
theorem dX10_lays_214 : decode cX10_lays 214 = .ok (.iastore, 1) := by decide +kernel
theorem dX10_lays_215 : decode cX10_lays 215 = .ok (.aload_n 0, 1) := by decide +kernel
theorem dX10_lays_216 : decode cX10_lays 216 = .ok (.invokevirtual 160, 3) := by decide +kernel
theorem dX10_lays_219 : decode cX10_lays 219 = .ok (.istore 4, 2) := by decide +kernel
theorem dX10_lays_221 : decode cX10_lays 221 = .ok (.goto (-100), 3) := by decide +kernel
theorem dX10_lays_224 : decode cX10_lays 224 = .ok (.return_, 1) := by decide +kernel
theorem dX10_ahead_0 : decode cX10_ahead 0 = .ok (.iconst (-1), 1) := by decide +kernel
theorem dX10_ahead_1 : decode cX10_ahead 1 = .ok (.istore_n 1, 1) := by decide +kernel
theorem dX10_ahead_2 : decode cX10_ahead 2 = .ok (.iconst 0, 1) := by decide +kernel
theorem dX10_ahead_3 : decode cX10_ahead 3 = .ok (.istore_n 2, 1) := by decide +kernel
theorem dX10_ahead_4 : decode cX10_ahead 4 = .ok (.iload_n 2, 1) := by decide +kernel
theorem dX10_ahead_5 : decode cX10_ahead 5 = .ok (.aload_n 0, 1) := by decide +kernel
theorem dX10_ahead_6 : decode cX10_ahead 6 = .ok (.getfield 118, 3) := by decide +kernel
theorem dX10_ahead_9 : decode cX10_ahead 9 = .ok (.if_icmp .ge 41, 3) := by decide +kernel
theorem dX10_ahead_12 : decode cX10_ahead 12 = .ok (.aload_n 0, 1) := by decide +kernel
theorem dX10_ahead_13 : decode cX10_ahead 13 = .ok (.getfield 62, 3) := by decide +kernel
theorem dX10_ahead_16 : decode cX10_ahead 16 = .ok (.iload_n 2, 1) := by decide +kernel
theorem dX10_ahead_17 : decode cX10_ahead 17 = .ok (.iaload, 1) := by decide +kernel
theorem dX10_ahead_18 : decode cX10_ahead 18 = .ok (.iconst (-1), 1) := by decide +kernel
theorem dX10_ahead_19 : decode cX10_ahead 19 = .ok (.if_icmp .eq 25, 3) := by decide +kernel
theorem dX10_ahead_22 : decode cX10_ahead 22 = .ok (.iload_n 1, 1) := by decide +kernel
theorem dX10_ahead_23 : decode cX10_ahead 23 = .ok (.iconst (-1), 1) := by decide +kernel
theorem dX10_ahead_24 : decode cX10_ahead 24 = .ok (.if_icmp .eq 18, 3) := by decide +kernel
theorem dX10_ahead_27 : decode cX10_ahead 27 = .ok (.aload_n 0, 1) := by decide +kernel
theorem dX10_ahead_28 : decode cX10_ahead 28 = .ok (.getfield 62, 3) := by decide +kernel
theorem dX10_ahead_31 : decode cX10_ahead 31 = .ok (.iload_n 2, 1) := by decide +kernel
theorem dX10_ahead_32 : decode cX10_ahead 32 = .ok (.iaload, 1) := by decide +kernel
theorem dX10_ahead_33 : decode cX10_ahead 33 = .ok (.aload_n 0, 1) := by decide +kernel
theorem dX10_ahead_34 : decode cX10_ahead 34 = .ok (.getfield 62, 3) := by decide +kernel
theorem dX10_ahead_37 : decode cX10_ahead 37 = .ok (.iload_n 1, 1) := by decide +kernel
theorem dX10_ahead_38 : decode cX10_ahead 38 = .ok (.iaload, 1) := by decide +kernel
theorem dX10_ahead_39 : decode cX10_ahead 39 = .ok (.if_icmp .ge 5, 3) := by decide +kernel
theorem dX10_ahead_42 : decode cX10_ahead 42 = .ok (.iload_n 2, 1) := by decide +kernel
theorem dX10_ahead_43 : decode cX10_ahead 43 = .ok (.istore_n 1, 1) := by decide +kernel
theorem dX10_ahead_44 : decode cX10_ahead 44 = .ok (.iinc 2 1, 3) := by decide +kernel
theorem dX10_ahead_47 : decode cX10_ahead 47 = .ok (.goto (-43), 3) := by decide +kernel
theorem dX10_ahead_50 : decode cX10_ahead 50 = .ok (.iload_n 1, 1) := by decide +kernel
theorem dX10_ahead_51 : decode cX10_ahead 51 = .ok (.ireturn, 1) := by decide +kernel
theorem dX10_whose_0 : decode cX10_whose 0 = .ok (.aload_n 0, 1) := by decide +kernel
theorem dX10_whose_1 : decode cX10_whose 1 = .ok (.iload_n 1, 1) := by decide +kernel
theorem dX10_whose_2 : decode cX10_whose 2 = .ok (.invokevirtual 129, 3) := by decide +kernel
theorem dX10_whose_5 : decode cX10_whose 5 = .ok (.ifCond .eq 28, 3) := by decide +kernel
theorem dX10_whose_8 : decode cX10_whose 8 = .ok (.iload_n 2, 1) := by decide +kernel
theorem dX10_whose_9 : decode cX10_whose 9 = .ok (.invokestatic 125, 3) := by decide +kernel
theorem dX10_whose_12 : decode cX10_whose 12 = .ok (.ifCond .eq 21, 3) := by decide +kernel
theorem dX10_whose_15 : decode cX10_whose 15 = .ok (.iload_n 3, 1) := by decide +kernel
theorem dX10_whose_16 : decode cX10_whose 16 = .ok (.invokestatic 138, 3) := by decide +kernel
theorem dX10_whose_19 : decode cX10_whose 19 = .ok (.ifCond .eq 14, 3) := by decide +kernel
theorem dX10_whose_22 : decode cX10_whose 22 = .ok (.iload 4, 2) := by decide +kernel
theorem dX10_whose_24 : decode cX10_whose 24 = .ok (.i2l, 1) := by decide +kernel
theorem dX10_whose_25 : decode cX10_whose 25 = .ok (.lconst 0, 1) := by decide +kernel
theorem dX10_whose_26 : decode cX10_whose 26 = .ok (.lconst 1, 1) := by decide +kernel
theorem dX10_whose_27 : decode cX10_whose 27 = .ok (.invokestatic 114, 3) := by decide +kernel
theorem dX10_whose_30 : decode cX10_whose 30 = .ok (.ifCond .ne 6, 3) := by decide +kernel
theorem dX10_whose_33 : decode cX10_whose 33 = .ok (.bipush (-2), 2) := by decide +kernel
theorem dX10_whose_35 : decode cX10_whose 35 = .ok (.ireturn, 1) := by decide +kernel
theorem dX10_whose_36 : decode cX10_whose 36 = .ok (.aload_n 0, 1) := by decide +kernel
theorem dX10_whose_37 : decode cX10_whose 37 = .ok (.iload_n 1, 1) := by decide +kernel
theorem dX10_whose_38 : decode cX10_whose 38 = .ok (.iload_n 3, 1) := by decide +kernel
theorem dX10_whose_39 : decode cX10_whose 39 = .ok (.iload 4, 2) := by decide +kernel
theorem dX10_whose_41 : decode cX10_whose 41 = .ok (.invokevirtual 164, 3) := by decide +kernel
theorem dX10_whose_44 : decode cX10_whose 44 = .ok (.aload_n 0, 1) := by decide +kernel
theorem dX10_whose_45 : decode cX10_whose 45 = .ok (.getfield 59, 3) := by decide +kernel
theorem dX10_whose_48 : decode cX10_whose 48 = .ok (.iload_n 2, 1) := by decide +kernel
theorem dX10_whose_49 : decode cX10_whose 49 = .ok (.iaload, 1) := by decide +kernel
theorem dX10_whose_50 : decode cX10_whose 50 = .ok (.ireturn, 1) := by decide +kernel
theorem dX10_common_0 : decode cX10_common 0 = .ok (.lload_n 0, 1) := by decide +kernel
theorem dX10_common_1 : decode cX10_common 1 = .ok (.lstore 4, 2) := by decide +kernel
theorem dX10_common_3 : decode cX10_common 3 = .ok (.lload_n 2, 1) := by decide +kernel
theorem dX10_common_4 : decode cX10_common 4 = .ok (.lstore 6, 2) := by decide +kernel
theorem dX10_common_6 : decode cX10_common 6 = .ok (.lload 6, 2) := by decide +kernel
theorem dX10_common_8 : decode cX10_common 8 = .ok (.lconst 0, 1) := by decide +kernel
theorem dX10_common_9 : decode cX10_common 9 = .ok (.lcmp, 1) := by decide +kernel
theorem dX10_common_10 : decode cX10_common 10 = .ok (.ifCond .eq 21, 3) := by decide +kernel
theorem dX10_common_13 : decode cX10_common 13 = .ok (.lload 4, 2) := by decide +kernel
theorem dX10_common_15 : decode cX10_common 15 = .ok (.lload 6, 2) := by decide +kernel
theorem dX10_common_17 : decode cX10_common 17 = .ok (.lrem, 1) := by decide +kernel
theorem dX10_common_18 : decode cX10_common 18 = .ok (.lstore 8, 2) := by decide +kernel
theorem dX10_common_20 : decode cX10_common 20 = .ok (.lload 6, 2) := by decide +kernel
theorem dX10_common_22 : decode cX10_common 22 = .ok (.lstore 4, 2) := by decide +kernel
theorem dX10_common_24 : decode cX10_common 24 = .ok (.lload 8, 2) := by decide +kernel
theorem dX10_common_26 : decode cX10_common 26 = .ok (.lstore 6, 2) := by decide +kernel
theorem dX10_common_28 : decode cX10_common 28 = .ok (.goto (-22), 3) := by decide +kernel
theorem dX10_common_31 : decode cX10_common 31 = .ok (.lload 4, 2) := by decide +kernel
theorem dX10_common_33 : decode cX10_common 33 = .ok (.lreturn, 1) := by decide +kernel
theorem dX10_falls_0 : decode cX10_falls 0 = .ok (.aload_n 0, 1) := by decide +kernel
theorem dX10_falls_1 : decode cX10_falls 1 = .ok (.iload_n 1, 1) := by decide +kernel
theorem dX10_falls_2 : decode cX10_falls 2 = .ok (.invokevirtual 129, 3) := by decide +kernel
theorem dX10_falls_5 : decode cX10_falls 5 = .ok (.ifCond .eq 50, 3) := by decide +kernel
theorem dX10_falls_8 : decode cX10_falls 8 = .ok (.iload_n 2, 1) := by decide +kernel
theorem dX10_falls_9 : decode cX10_falls 9 = .ok (.invokestatic 125, 3) := by decide +kernel
theorem dX10_falls_12 : decode cX10_falls 12 = .ok (.ifCond .eq 43, 3) := by decide +kernel
theorem dX10_falls_15 : decode cX10_falls 15 = .ok (.iload_n 3, 1) := by decide +kernel
theorem dX10_falls_16 : decode cX10_falls 16 = .ok (.ifCond .lt 39, 3) := by decide +kernel
theorem dX10_falls_19 : decode cX10_falls 19 = .ok (.iload_n 3, 1) := by decide +kernel
theorem dX10_falls_20 : decode cX10_falls 20 = .ok (.sipush 1000, 3) := by decide +kernel
theorem dX10_falls_23 : decode cX10_falls 23 = .ok (.idiv, 1) := by decide +kernel
theorem dX10_falls_24 : decode cX10_falls 24 = .ok (.invokestatic 138, 3) := by decide +kernel
theorem dX10_falls_27 : decode cX10_falls 27 = .ok (.ifCond .eq 28, 3) := by decide +kernel
theorem dX10_falls_30 : decode cX10_falls 30 = .ok (.iload_n 3, 1) := by decide +kernel
theorem dX10_falls_31 : decode cX10_falls 31 = .ok (.sipush 1000, 3) := by decide +kernel
theorem dX10_falls_34 : decode cX10_falls 34 = .ok (.irem, 1) := by decide +kernel
theorem dX10_falls_35 : decode cX10_falls 35 = .ok (.aload_n 0, 1) := by decide +kernel
theorem dX10_falls_36 : decode cX10_falls 36 = .ok (.getfield 23, 3) := by decide +kernel
theorem dX10_falls_39 : decode cX10_falls 39 = .ok (.iload_n 1, 1) := by decide +kernel
theorem dX10_falls_40 : decode cX10_falls 40 = .ok (.iaload, 1) := by decide +kernel
theorem dX10_falls_41 : decode cX10_falls 41 = .ok (.if_icmp .gt 14, 3) := by decide +kernel
theorem dX10_falls_44 : decode cX10_falls 44 = .ok (.iload 4, 2) := by decide +kernel
theorem dX10_falls_46 : decode cX10_falls 46 = .ok (.i2l, 1) := by decide +kernel
theorem dX10_falls_47 : decode cX10_falls 47 = .ok (.lconst 0, 1) := by decide +kernel
theorem dX10_falls_48 : decode cX10_falls 48 = .ok (.lconst 1, 1) := by decide +kernel
theorem dX10_falls_49 : decode cX10_falls 49 = .ok (.invokestatic 114, 3) := by decide +kernel
theorem dX10_falls_52 : decode cX10_falls 52 = .ok (.ifCond .ne 7, 3) := by decide +kernel
theorem dX10_falls_55 : decode cX10_falls 55 = .ok (.ldc2_w 168, 3) := by decide +kernel
theorem dX10_falls_58 : decode cX10_falls 58 = .ok (.lreturn, 1) := by decide +kernel
theorem dX10_falls_59 : decode cX10_falls 59 = .ok (.aload_n 0, 1) := by decide +kernel
theorem dX10_falls_60 : decode cX10_falls 60 = .ok (.iload_n 1, 1) := by decide +kernel
theorem dX10_falls_61 : decode cX10_falls 61 = .ok (.iload_n 3, 1) := by decide +kernel
theorem dX10_falls_62 : decode cX10_falls 62 = .ok (.sipush 1000, 3) := by decide +kernel
theorem dX10_falls_65 : decode cX10_falls 65 = .ok (.idiv, 1) := by decide +kernel
theorem dX10_falls_66 : decode cX10_falls 66 = .ok (.iconst 1, 1) := by decide +kernel
theorem dX10_falls_67 : decode cX10_falls 67 = .ok (.invokevirtual 164, 3) := by decide +kernel
theorem dX10_falls_70 : decode cX10_falls 70 = .ok (.iload_n 3, 1) := by decide +kernel
theorem dX10_falls_71 : decode cX10_falls 71 = .ok (.sipush 1000, 3) := by decide +kernel
theorem dX10_falls_74 : decode cX10_falls 74 = .ok (.irem, 1) := by decide +kernel
theorem dX10_falls_75 : decode cX10_falls 75 = .ok (.i2l, 1) := by decide +kernel
theorem dX10_falls_76 : decode cX10_falls 76 = .ok (.aload_n 0, 1) := by decide +kernel
theorem dX10_falls_77 : decode cX10_falls 77 = .ok (.getfield 59, 3) := by decide +kernel
theorem dX10_falls_80 : decode cX10_falls 80 = .ok (.iload_n 2, 1) := by decide +kernel
theorem dX10_falls_81 : decode cX10_falls 81 = .ok (.iaload, 1) := by decide +kernel
theorem dX10_falls_82 : decode cX10_falls 82 = .ok (.i2l, 1) := by decide +kernel
theorem dX10_falls_83 : decode cX10_falls 83 = .ok (.lmul, 1) := by decide +kernel
theorem dX10_falls_84 : decode cX10_falls 84 = .ok (.lstore 5, 2) := by decide +kernel
theorem dX10_falls_86 : decode cX10_falls 86 = .ok (.iload 4, 2) := by decide +kernel
theorem dX10_falls_88 : decode cX10_falls 88 = .ok (.ifCond .ne 8, 3) := by decide +kernel
theorem dX10_falls_91 : decode cX10_falls 91 = .ok (.lload 5, 2) := by decide +kernel
theorem dX10_falls_93 : decode cX10_falls 93 = .ok (.goto 10, 3) := by decide +kernel
theorem dX10_falls_96 : decode cX10_falls 96 = .ok (.aload_n 0, 1) := by decide +kernel
theorem dX10_falls_97 : decode cX10_falls 97 = .ok (.getfield 23, 3) := by decide +kernel
theorem dX10_falls_100 : decode cX10_falls 100 = .ok (.iload_n 1, 1) := by decide +kernel
theorem dX10_falls_101 : decode cX10_falls 101 = .ok (.iaload, 1) := by decide +kernel
theorem dX10_falls_102 : decode cX10_falls 102 = .ok (.i2l, 1) := by decide +kernel
theorem dX10_falls_103 : decode cX10_falls 103 = .ok (.lload 5, 2) := by decide +kernel
theorem dX10_falls_105 : decode cX10_falls 105 = .ok (.aload_n 0, 1) := by decide +kernel
theorem dX10_falls_106 : decode cX10_falls 106 = .ok (.getfield 23, 3) := by decide +kernel
theorem dX10_falls_109 : decode cX10_falls 109 = .ok (.iload_n 1, 1) := by decide +kernel
theorem dX10_falls_110 : decode cX10_falls 110 = .ok (.iaload, 1) := by decide +kernel
theorem dX10_falls_111 : decode cX10_falls 111 = .ok (.i2l, 1) := by decide +kernel
theorem dX10_falls_112 : decode cX10_falls 112 = .ok (.invokestatic 170, 3) := by decide +kernel
theorem dX10_falls_115 : decode cX10_falls 115 = .ok (.ldiv, 1) := by decide +kernel
theorem dX10_falls_116 : decode cX10_falls 116 = .ok (.lreturn, 1) := by decide +kernel
theorem dX10_between_0 : decode cX10_between 0 = .ok (.aload_n 0, 1) := by decide +kernel
theorem dX10_between_1 : decode cX10_between 1 = .ok (.iload_n 1, 1) := by decide +kernel
theorem dX10_between_2 : decode cX10_between 2 = .ok (.invokevirtual 129, 3) := by decide +kernel
theorem dX10_between_5 : decode cX10_between 5 = .ok (.ifCond .eq 49, 3) := by decide +kernel
theorem dX10_between_8 : decode cX10_between 8 = .ok (.iload_n 2, 1) := by decide +kernel
theorem dX10_between_9 : decode cX10_between 9 = .ok (.invokestatic 125, 3) := by decide +kernel
theorem dX10_between_12 : decode cX10_between 12 = .ok (.ifCond .eq 42, 3) := by decide +kernel
theorem dX10_between_15 : decode cX10_between 15 = .ok (.iload_n 3, 1) := by decide +kernel
theorem dX10_between_16 : decode cX10_between 16 = .ok (.ifCond .lt 38, 3) := by decide +kernel
theorem dX10_between_19 : decode cX10_between 19 = .ok (.iload_n 3, 1) := by decide +kernel
theorem dX10_between_20 : decode cX10_between 20 = .ok (.sipush 1000, 3) := by decide +kernel
theorem dX10_between_23 : decode cX10_between 23 = .ok (.idiv, 1) := by decide +kernel
theorem dX10_between_24 : decode cX10_between 24 = .ok (.invokestatic 138, 3) := by decide +kernel
theorem dX10_between_27 : decode cX10_between 27 = .ok (.ifCond .eq 27, 3) := by decide +kernel
theorem dX10_between_30 : decode cX10_between 30 = .ok (.iload_n 3, 1) := by decide +kernel
theorem dX10_between_31 : decode cX10_between 31 = .ok (.sipush 1000, 3) := by decide +kernel
theorem dX10_between_34 : decode cX10_between 34 = .ok (.irem, 1) := by decide +kernel
theorem dX10_between_35 : decode cX10_between 35 = .ok (.iload_n 3, 1) := by decide +kernel
theorem dX10_between_36 : decode cX10_between 36 = .ok (.sipush 1000, 3) := by decide +kernel
theorem dX10_between_39 : decode cX10_between 39 = .ok (.idiv, 1) := by decide +kernel
theorem dX10_between_40 : decode cX10_between 40 = .ok (.if_icmp .lt 14, 3) := by decide +kernel
theorem dX10_between_43 : decode cX10_between 43 = .ok (.iload 4, 2) := by decide +kernel
theorem dX10_between_45 : decode cX10_between 45 = .ok (.i2l, 1) := by decide +kernel
theorem dX10_between_46 : decode cX10_between 46 = .ok (.lconst 0, 1) := by decide +kernel
theorem dX10_between_47 : decode cX10_between 47 = .ok (.lconst 1, 1) := by decide +kernel
theorem dX10_between_48 : decode cX10_between 48 = .ok (.invokestatic 114, 3) := by decide +kernel
theorem dX10_between_51 : decode cX10_between 51 = .ok (.ifCond .ne 6, 3) := by decide +kernel
theorem dX10_between_54 : decode cX10_between 54 = .ok (.bipush (-2), 2) := by decide +kernel
theorem dX10_between_56 : decode cX10_between 56 = .ok (.ireturn, 1) := by decide +kernel
theorem dX10_between_57 : decode cX10_between 57 = .ok (.iconst (-1), 1) := by decide +kernel
theorem dX10_between_58 : decode cX10_between 58 = .ok (.istore 5, 2) := by decide +kernel
theorem dX10_between_60 : decode cX10_between 60 = .ok (.iload_n 3, 1) := by decide +kernel
theorem dX10_between_61 : decode cX10_between 61 = .ok (.sipush 1000, 3) := by decide +kernel
theorem dX10_between_64 : decode cX10_between 64 = .ok (.idiv, 1) := by decide +kernel
theorem dX10_between_65 : decode cX10_between 65 = .ok (.istore 6, 2) := by decide +kernel
theorem dX10_between_67 : decode cX10_between 67 = .ok (.iload 6, 2) := by decide +kernel
theorem dX10_between_69 : decode cX10_between 69 = .ok (.iload_n 3, 1) := by decide +kernel
theorem dX10_between_70 : decode cX10_between 70 = .ok (.sipush 1000, 3) := by decide +kernel
theorem dX10_between_73 : decode cX10_between 73 = .ok (.irem, 1) := by decide +kernel
theorem dX10_between_74 : decode cX10_between 74 = .ok (.if_icmp .gt 139, 3) := by decide +kernel
theorem dX10_between_77 : decode cX10_between 77 = .ok (.iload 6, 2) := by decide +kernel
theorem dX10_between_79 : decode cX10_between 79 = .ok (.iload_n 3, 1) := by decide +kernel
theorem dX10_between_80 : decode cX10_between 80 = .ok (.sipush 1000, 3) := by decide +kernel
theorem dX10_between_83 : decode cX10_between 83 = .ok (.idiv, 1) := by decide +kernel
theorem dX10_between_84 : decode cX10_between 84 = .ok (.if_icmp .ne 7, 3) := by decide +kernel
