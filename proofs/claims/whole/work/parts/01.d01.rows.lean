theorem dX10_between_87 : decode cX10_between 87 = .ok (.iconst 1, 1) := by decide +kernel
theorem dX10_between_88 : decode cX10_between 88 = .ok (.goto 4, 3) := by decide +kernel
theorem dX10_between_91 : decode cX10_between 91 = .ok (.iconst 0, 1) := by decide +kernel
theorem dX10_between_92 : decode cX10_between 92 = .ok (.istore 7, 2) := by decide +kernel
theorem dX10_between_94 : decode cX10_between 94 = .ok (.iconst 0, 1) := by decide +kernel
theorem dX10_between_95 : decode cX10_between 95 = .ok (.istore 8, 2) := by decide +kernel
theorem dX10_between_97 : decode cX10_between 97 = .ok (.iload 8, 2) := by decide +kernel
theorem dX10_between_99 : decode cX10_between 99 = .ok (.aload_n 0, 1) := by decide +kernel
theorem dX10_between_100 : decode cX10_between 100 = .ok (.getfield 118, 3) := by decide +kernel
theorem dX10_between_103 : decode cX10_between 103 = .ok (.if_icmp .ge 44, 3) := by decide +kernel
theorem dX10_between_106 : decode cX10_between 106 = .ok (.iload 7, 2) := by decide +kernel
theorem dX10_between_108 : decode cX10_between 108 = .ok (.ifCond .ne 26, 3) := by decide +kernel
theorem dX10_between_111 : decode cX10_between 111 = .ok (.aload_n 0, 1) := by decide +kernel
theorem dX10_between_112 : decode cX10_between 112 = .ok (.getfield 35, 3) := by decide +kernel
theorem dX10_between_115 : decode cX10_between 115 = .ok (.iload 8, 2) := by decide +kernel
theorem dX10_between_117 : decode cX10_between 117 = .ok (.iaload, 1) := by decide +kernel
theorem dX10_between_118 : decode cX10_between 118 = .ok (.iload_n 1, 1) := by decide +kernel
theorem dX10_between_119 : decode cX10_between 119 = .ok (.if_icmp .ne 19, 3) := by decide +kernel
theorem dX10_between_122 : decode cX10_between 122 = .ok (.aload_n 0, 1) := by decide +kernel
theorem dX10_between_123 : decode cX10_between 123 = .ok (.iload 8, 2) := by decide +kernel
theorem dX10_between_125 : decode cX10_between 125 = .ok (.iconst 1, 1) := by decide +kernel
theorem dX10_between_126 : decode cX10_between 126 = .ok (.invokevirtual 157, 3) := by decide +kernel
theorem dX10_between_129 : decode cX10_between 129 = .ok (.iload 6, 2) := by decide +kernel
theorem dX10_between_131 : decode cX10_between 131 = .ok (.if_icmp .ne 7, 3) := by decide +kernel
theorem dX10_between_134 : decode cX10_between 134 = .ok (.iconst 1, 1) := by decide +kernel
theorem dX10_between_135 : decode cX10_between 135 = .ok (.goto 4, 3) := by decide +kernel
theorem dX10_between_138 : decode cX10_between 138 = .ok (.iconst 0, 1) := by decide +kernel
theorem dX10_between_139 : decode cX10_between 139 = .ok (.istore 7, 2) := by decide +kernel
theorem dX10_between_141 : decode cX10_between 141 = .ok (.iinc 8 1, 3) := by decide +kernel
theorem dX10_between_144 : decode cX10_between 144 = .ok (.goto (-47), 3) := by decide +kernel
theorem dX10_between_147 : decode cX10_between 147 = .ok (.iload 7, 2) := by decide +kernel
theorem dX10_between_149 : decode cX10_between 149 = .ok (.ifCond .ne 6, 3) := by decide +kernel
theorem dX10_between_152 : decode cX10_between 152 = .ok (.goto 55, 3) := by decide +kernel
theorem dX10_between_155 : decode cX10_between 155 = .ok (.aload_n 0, 1) := by decide +kernel
theorem dX10_between_156 : decode cX10_between 156 = .ok (.iload_n 1, 1) := by decide +kernel
theorem dX10_between_157 : decode cX10_between 157 = .ok (.iload 6, 2) := by decide +kernel
theorem dX10_between_159 : decode cX10_between 159 = .ok (.iconst 1, 1) := by decide +kernel
theorem dX10_between_160 : decode cX10_between 160 = .ok (.invokevirtual 164, 3) := by decide +kernel
theorem dX10_between_163 : decode cX10_between 163 = .ok (.iload 5, 2) := by decide +kernel
theorem dX10_between_165 : decode cX10_between 165 = .ok (.iconst (-1), 1) := by decide +kernel
theorem dX10_between_166 : decode cX10_between 166 = .ok (.if_icmp .eq 33, 3) := by decide +kernel
theorem dX10_between_169 : decode cX10_between 169 = .ok (.iload 4, 2) := by decide +kernel
theorem dX10_between_171 : decode cX10_between 171 = .ok (.ifCond .ne 17, 3) := by decide +kernel
theorem dX10_between_174 : decode cX10_between 174 = .ok (.aload_n 0, 1) := by decide +kernel
theorem dX10_between_175 : decode cX10_between 175 = .ok (.getfield 59, 3) := by decide +kernel
theorem dX10_between_178 : decode cX10_between 178 = .ok (.iload_n 2, 1) := by decide +kernel
theorem dX10_between_179 : decode cX10_between 179 = .ok (.iaload, 1) := by decide +kernel
theorem dX10_between_180 : decode cX10_between 180 = .ok (.iload 5, 2) := by decide +kernel
theorem dX10_between_182 : decode cX10_between 182 = .ok (.if_icmp .ge 25, 3) := by decide +kernel
theorem dX10_between_185 : decode cX10_between 185 = .ok (.goto 14, 3) := by decide +kernel
theorem dX10_between_188 : decode cX10_between 188 = .ok (.aload_n 0, 1) := by decide +kernel
theorem dX10_between_189 : decode cX10_between 189 = .ok (.getfield 59, 3) := by decide +kernel
theorem dX10_between_192 : decode cX10_between 192 = .ok (.iload_n 2, 1) := by decide +kernel
theorem dX10_between_193 : decode cX10_between 193 = .ok (.iaload, 1) := by decide +kernel
theorem dX10_between_194 : decode cX10_between 194 = .ok (.iload 5, 2) := by decide +kernel
theorem dX10_between_196 : decode cX10_between 196 = .ok (.if_icmp .le 11, 3) := by decide +kernel
theorem dX10_between_199 : decode cX10_between 199 = .ok (.aload_n 0, 1) := by decide +kernel
theorem dX10_between_200 : decode cX10_between 200 = .ok (.getfield 59, 3) := by decide +kernel
theorem dX10_between_203 : decode cX10_between 203 = .ok (.iload_n 2, 1) := by decide +kernel
theorem dX10_between_204 : decode cX10_between 204 = .ok (.iaload, 1) := by decide +kernel
theorem dX10_between_205 : decode cX10_between 205 = .ok (.istore 5, 2) := by decide +kernel
theorem dX10_between_207 : decode cX10_between 207 = .ok (.iinc 6 1, 3) := by decide +kernel
theorem dX10_between_210 : decode cX10_between 210 = .ok (.goto (-143), 3) := by decide +kernel
theorem dX10_between_213 : decode cX10_between 213 = .ok (.iload 5, 2) := by decide +kernel
theorem dX10_between_215 : decode cX10_between 215 = .ok (.ireturn, 1) := by decide +kernel
theorem dX10_feed_0 : decode cX10_feed 0 = .ok (.iload_n 1, 1) := by decide +kernel
theorem dX10_feed_1 : decode cX10_feed 1 = .ok (.i2l, 1) := by decide +kernel
theorem dX10_feed_2 : decode cX10_feed 2 = .ok (.lconst 1, 1) := by decide +kernel
theorem dX10_feed_3 : decode cX10_feed 3 = .ok (.ldc2_w 174, 3) := by decide +kernel
theorem dX10_feed_6 : decode cX10_feed 6 = .ok (.invokestatic 114, 3) := by decide +kernel
theorem dX10_feed_9 : decode cX10_feed 9 = .ok (.ifCond .ne 6, 3) := by decide +kernel
theorem dX10_feed_12 : decode cX10_feed 12 = .ok (.bipush (-2), 2) := by decide +kernel
theorem dX10_feed_14 : decode cX10_feed 14 = .ok (.ireturn, 1) := by decide +kernel
theorem dX10_feed_15 : decode cX10_feed 15 = .ok (.aload_n 0, 1) := by decide +kernel
theorem dX10_feed_16 : decode cX10_feed 16 = .ok (.getfield 176, 3) := by decide +kernel
theorem dX10_feed_19 : decode cX10_feed 19 = .ok (.iload_n 1, 1) := by decide +kernel
theorem dX10_feed_20 : decode cX10_feed 20 = .ok (.iadd, 1) := by decide +kernel
theorem dX10_feed_21 : decode cX10_feed 21 = .ok (.sipush 160, 3) := by decide +kernel
theorem dX10_feed_24 : decode cX10_feed 24 = .ok (.if_icmp .le 6, 3) := by decide +kernel
theorem dX10_feed_27 : decode cX10_feed 27 = .ok (.bipush (-4), 2) := by decide +kernel
theorem dX10_feed_29 : decode cX10_feed 29 = .ok (.ireturn, 1) := by decide +kernel
theorem dX10_feed_30 : decode cX10_feed 30 = .ok (.iconst 0, 1) := by decide +kernel
theorem dX10_feed_31 : decode cX10_feed 31 = .ok (.istore 4, 2) := by decide +kernel
theorem dX10_feed_33 : decode cX10_feed 33 = .ok (.iload 4, 2) := by decide +kernel
theorem dX10_feed_35 : decode cX10_feed 35 = .ok (.iload_n 1, 1) := by decide +kernel
theorem dX10_feed_36 : decode cX10_feed 36 = .ok (.if_icmp .ge 40, 3) := by decide +kernel
theorem dX10_feed_39 : decode cX10_feed 39 = .ok (.aload_n 0, 1) := by decide +kernel
theorem dX10_feed_40 : decode cX10_feed 40 = .ok (.getfield 20, 3) := by decide +kernel
theorem dX10_feed_43 : decode cX10_feed 43 = .ok (.aload_n 0, 1) := by decide +kernel
theorem dX10_feed_44 : decode cX10_feed 44 = .ok (.getfield 176, 3) := by decide +kernel
theorem dX10_feed_47 : decode cX10_feed 47 = .ok (.lload_n 2, 1) := by decide +kernel
theorem dX10_feed_48 : decode cX10_feed 48 = .ok (.bipush 8, 2) := by decide +kernel
theorem dX10_feed_50 : decode cX10_feed 50 = .ok (.iload 4, 2) := by decide +kernel
theorem dX10_feed_52 : decode cX10_feed 52 = .ok (.imul, 1) := by decide +kernel
theorem dX10_feed_53 : decode cX10_feed 53 = .ok (.lshr, 1) := by decide +kernel
theorem dX10_feed_54 : decode cX10_feed 54 = .ok (.ldc2_w 109, 3) := by decide +kernel
theorem dX10_feed_57 : decode cX10_feed 57 = .ok (.land, 1) := by decide +kernel
theorem dX10_feed_58 : decode cX10_feed 58 = .ok (.l2i, 1) := by decide +kernel
theorem dX10_feed_59 : decode cX10_feed 59 = .ok (.iastore, 1) := by decide +kernel
theorem dX10_feed_60 : decode cX10_feed 60 = .ok (.aload_n 0, 1) := by decide +kernel
theorem dX10_feed_61 : decode cX10_feed 61 = .ok (.dup, 1) := by decide +kernel
theorem dX10_feed_62 : decode cX10_feed 62 = .ok (.getfield 176, 3) := by decide +kernel
theorem dX10_feed_65 : decode cX10_feed 65 = .ok (.iconst 1, 1) := by decide +kernel
theorem dX10_feed_66 : decode cX10_feed 66 = .ok (.iadd, 1) := by decide +kernel
theorem dX10_feed_67 : decode cX10_feed 67 = .ok (.putfield 176, 3) := by decide +kernel
theorem dX10_feed_70 : decode cX10_feed 70 = .ok (.iinc 4 1, 3) := by decide +kernel
theorem dX10_feed_73 : decode cX10_feed 73 = .ok (.goto (-40), 3) := by decide +kernel
theorem dX10_feed_76 : decode cX10_feed 76 = .ok (.aload_n 0, 1) := by decide +kernel
theorem dX10_feed_77 : decode cX10_feed 77 = .ok (.getfield 176, 3) := by decide +kernel
theorem dX10_feed_80 : decode cX10_feed 80 = .ok (.ireturn, 1) := by decide +kernel
theorem dX10_byteAt_0 : decode cX10_byteAt 0 = .ok (.iload_n 1, 1) := by decide +kernel
theorem dX10_byteAt_1 : decode cX10_byteAt 1 = .ok (.aload_n 0, 1) := by decide +kernel
theorem dX10_byteAt_2 : decode cX10_byteAt 2 = .ok (.getfield 179, 3) := by decide +kernel
theorem dX10_byteAt_5 : decode cX10_byteAt 5 = .ok (.if_icmp .ge 17, 3) := by decide +kernel
theorem dX10_byteAt_8 : decode cX10_byteAt 8 = .ok (.aload_n 0, 1) := by decide +kernel
theorem dX10_byteAt_9 : decode cX10_byteAt 9 = .ok (.getfield 13, 3) := by decide +kernel
theorem dX10_byteAt_12 : decode cX10_byteAt 12 = .ok (.aload_n 0, 1) := by decide +kernel
theorem dX10_byteAt_13 : decode cX10_byteAt 13 = .ok (.getfield 182, 3) := by decide +kernel
theorem dX10_byteAt_16 : decode cX10_byteAt 16 = .ok (.iload_n 1, 1) := by decide +kernel
theorem dX10_byteAt_17 : decode cX10_byteAt 17 = .ok (.iadd, 1) := by decide +kernel
theorem dX10_byteAt_18 : decode cX10_byteAt 18 = .ok (.iaload, 1) := by decide +kernel
theorem dX10_byteAt_19 : decode cX10_byteAt 19 = .ok (.goto 4, 3) := by decide +kernel
theorem dX10_byteAt_22 : decode cX10_byteAt 22 = .ok (.iconst (-1), 1) := by decide +kernel
theorem dX10_byteAt_23 : decode cX10_byteAt 23 = .ok (.ireturn, 1) := by decide +kernel
theorem dX10_next_0 : decode cX10_next 0 = .ok (.aload_n 0, 1) := by decide +kernel
theorem dX10_next_1 : decode cX10_next 1 = .ok (.aload_n 0, 1) := by decide +kernel
theorem dX10_next_2 : decode cX10_next 2 = .ok (.getfield 185, 3) := by decide +kernel
theorem dX10_next_5 : decode cX10_next 5 = .ok (.invokevirtual 188, 3) := by decide +kernel
theorem dX10_next_8 : decode cX10_next 8 = .ok (.bipush 32, 2) := by decide +kernel
theorem dX10_next_10 : decode cX10_next 10 = .ok (.if_icmp .eq 16, 3) := by decide +kernel
theorem dX10_next_13 : decode cX10_next 13 = .ok (.aload_n 0, 1) := by decide +kernel
theorem dX10_next_14 : decode cX10_next 14 = .ok (.aload_n 0, 1) := by decide +kernel
theorem dX10_next_15 : decode cX10_next 15 = .ok (.getfield 185, 3) := by decide +kernel
theorem dX10_next_18 : decode cX10_next 18 = .ok (.invokevirtual 188, 3) := by decide +kernel
theorem dX10_next_21 : decode cX10_next 21 = .ok (.bipush 10, 2) := by decide +kernel
theorem dX10_next_23 : decode cX10_next 23 = .ok (.if_icmp .ne 16, 3) := by decide +kernel
theorem dX10_next_26 : decode cX10_next 26 = .ok (.aload_n 0, 1) := by decide +kernel
theorem dX10_next_27 : decode cX10_next 27 = .ok (.dup, 1) := by decide +kernel
theorem dX10_next_28 : decode cX10_next 28 = .ok (.getfield 185, 3) := by decide +kernel
theorem dX10_next_31 : decode cX10_next 31 = .ok (.iconst 1, 1) := by decide +kernel
theorem dX10_next_32 : decode cX10_next 32 = .ok (.iadd, 1) := by decide +kernel
theorem dX10_next_33 : decode cX10_next 33 = .ok (.putfield 185, 3) := by decide +kernel
theorem dX10_next_36 : decode cX10_next 36 = .ok (.goto (-36), 3) := by decide +kernel
theorem dX10_next_39 : decode cX10_next 39 = .ok (.aload_n 0, 1) := by decide +kernel
theorem dX10_next_40 : decode cX10_next 40 = .ok (.aload_n 0, 1) := by decide +kernel
theorem dX10_next_41 : decode cX10_next 41 = .ok (.getfield 185, 3) := by decide +kernel
theorem dX10_next_44 : decode cX10_next 44 = .ok (.putfield 192, 3) := by decide +kernel
theorem dX10_next_47 : decode cX10_next 47 = .ok (.aload_n 0, 1) := by decide +kernel
theorem dX10_next_48 : decode cX10_next 48 = .ok (.aload_n 0, 1) := by decide +kernel
theorem dX10_next_49 : decode cX10_next 49 = .ok (.getfield 185, 3) := by decide +kernel
theorem dX10_next_52 : decode cX10_next 52 = .ok (.invokevirtual 188, 3) := by decide +kernel
theorem dX10_next_55 : decode cX10_next 55 = .ok (.istore_n 1, 1) := by decide +kernel
theorem dX10_next_56 : decode cX10_next 56 = .ok (.aload_n 0, 1) := by decide +kernel
theorem dX10_next_57 : decode cX10_next 57 = .ok (.iconst 4, 1) := by decide +kernel
theorem dX10_next_58 : decode cX10_next 58 = .ok (.putfield 195, 3) := by decide +kernel
theorem dX10_next_61 : decode cX10_next 61 = .ok (.iload_n 1, 1) := by decide +kernel
theorem dX10_next_62 : decode cX10_next 62 = .ok (.ifCond .ge 19, 3) := by decide +kernel
theorem dX10_next_65 : decode cX10_next 65 = .ok (.aload_n 0, 1) := by decide +kernel
theorem dX10_next_66 : decode cX10_next 66 = .ok (.iconst 0, 1) := by decide +kernel
theorem dX10_next_67 : decode cX10_next 67 = .ok (.putfield 195, 3) := by decide +kernel
theorem dX10_next_70 : decode cX10_next 70 = .ok (.aload_n 0, 1) := by decide +kernel
theorem dX10_next_71 : decode cX10_next 71 = .ok (.aload_n 0, 1) := by decide +kernel
theorem dX10_next_72 : decode cX10_next 72 = .ok (.getfield 179, 3) := by decide +kernel
theorem dX10_next_75 : decode cX10_next 75 = .ok (.putfield 192, 3) := by decide +kernel
theorem dX10_next_78 : decode cX10_next 78 = .ok (.goto 294, 3) := by decide +kernel
theorem dX10_next_81 : decode cX10_next 81 = .ok (.iload_n 1, 1) := by decide +kernel
theorem dX10_next_82 : decode cX10_next 82 = .ok (.i2l, 1) := by decide +kernel
theorem dX10_next_83 : decode cX10_next 83 = .ok (.ldc2_w 198, 3) := by decide +kernel
theorem dX10_next_86 : decode cX10_next 86 = .ok (.ldc2_w 200, 3) := by decide +kernel
theorem dX10_next_89 : decode cX10_next 89 = .ok (.invokestatic 114, 3) := by decide +kernel
theorem dX10_next_92 : decode cX10_next 92 = .ok (.ifCond .eq 93, 3) := by decide +kernel
theorem dX10_next_95 : decode cX10_next 95 = .ok (.aload_n 0, 1) := by decide +kernel
theorem dX10_next_96 : decode cX10_next 96 = .ok (.iconst 1, 1) := by decide +kernel
theorem dX10_next_97 : decode cX10_next 97 = .ok (.putfield 195, 3) := by decide +kernel
theorem dX10_next_100 : decode cX10_next 100 = .ok (.aload_n 0, 1) := by decide +kernel
theorem dX10_next_101 : decode cX10_next 101 = .ok (.lconst 0, 1) := by decide +kernel
theorem dX10_next_102 : decode cX10_next 102 = .ok (.putfield 202, 3) := by decide +kernel
theorem dX10_next_105 : decode cX10_next 105 = .ok (.iconst 0, 1) := by decide +kernel
theorem dX10_next_106 : decode cX10_next 106 = .ok (.istore_n 2, 1) := by decide +kernel
theorem dX10_next_107 : decode cX10_next 107 = .ok (.aload_n 0, 1) := by decide +kernel
theorem dX10_next_108 : decode cX10_next 108 = .ok (.aload_n 0, 1) := by decide +kernel
theorem dX10_next_109 : decode cX10_next 109 = .ok (.getfield 185, 3) := by decide +kernel
theorem dX10_next_112 : decode cX10_next 112 = .ok (.invokevirtual 188, 3) := by decide +kernel
theorem dX10_next_115 : decode cX10_next 115 = .ok (.i2l, 1) := by decide +kernel
theorem dX10_next_116 : decode cX10_next 116 = .ok (.ldc2_w 198, 3) := by decide +kernel
theorem dX10_next_119 : decode cX10_next 119 = .ok (.ldc2_w 200, 3) := by decide +kernel
theorem dX10_next_122 : decode cX10_next 122 = .ok (.invokestatic 114, 3) := by decide +kernel
theorem dX10_next_125 : decode cX10_next 125 = .ok (.ifCond .eq 57, 3) := by decide +kernel
theorem dX10_next_128 : decode cX10_next 128 = .ok (.aload_n 0, 1) := by decide +kernel
theorem dX10_next_129 : decode cX10_next 129 = .ok (.iload_n 2, 1) := by decide +kernel
theorem dX10_next_130 : decode cX10_next 130 = .ok (.bipush 8, 2) := by decide +kernel
theorem dX10_next_132 : decode cX10_next 132 = .ok (.if_icmp .ge 28, 3) := by decide +kernel
theorem dX10_next_135 : decode cX10_next 135 = .ok (.ldc2_w 206, 3) := by decide +kernel
theorem dX10_next_138 : decode cX10_next 138 = .ok (.aload_n 0, 1) := by decide +kernel
theorem dX10_next_139 : decode cX10_next 139 = .ok (.getfield 202, 3) := by decide +kernel
theorem dX10_next_142 : decode cX10_next 142 = .ok (.lmul, 1) := by decide +kernel
theorem dX10_next_143 : decode cX10_next 143 = .ok (.aload_n 0, 1) := by decide +kernel
theorem dX10_next_144 : decode cX10_next 144 = .ok (.aload_n 0, 1) := by decide +kernel
theorem dX10_next_145 : decode cX10_next 145 = .ok (.getfield 185, 3) := by decide +kernel
theorem dX10_next_148 : decode cX10_next 148 = .ok (.invokevirtual 188, 3) := by decide +kernel
theorem dX10_next_151 : decode cX10_next 151 = .ok (.i2l, 1) := by decide +kernel
theorem dX10_next_152 : decode cX10_next 152 = .ok (.ladd, 1) := by decide +kernel
theorem dX10_next_153 : decode cX10_next 153 = .ok (.ldc2_w 208, 3) := by decide +kernel
theorem dX10_next_156 : decode cX10_next 156 = .ok (.lsub, 1) := by decide +kernel
theorem dX10_next_157 : decode cX10_next 157 = .ok (.goto 6, 3) := by decide +kernel
theorem dX10_next_160 : decode cX10_next 160 = .ok (.ldc2_w 134, 3) := by decide +kernel
theorem dX10_next_163 : decode cX10_next 163 = .ok (.putfield 202, 3) := by decide +kernel
theorem dX10_next_166 : decode cX10_next 166 = .ok (.iinc 2 1, 3) := by decide +kernel
theorem dX10_next_169 : decode cX10_next 169 = .ok (.aload_n 0, 1) := by decide +kernel
theorem dX10_next_170 : decode cX10_next 170 = .ok (.dup, 1) := by decide +kernel
theorem dX10_next_171 : decode cX10_next 171 = .ok (.getfield 185, 3) := by decide +kernel
theorem dX10_next_174 : decode cX10_next 174 = .ok (.iconst 1, 1) := by decide +kernel
theorem dX10_next_175 : decode cX10_next 175 = .ok (.iadd, 1) := by decide +kernel
theorem dX10_next_176 : decode cX10_next 176 = .ok (.putfield 185, 3) := by decide +kernel
theorem dX10_next_179 : decode cX10_next 179 = .ok (.goto (-72), 3) := by decide +kernel
theorem dX10_next_182 : decode cX10_next 182 = .ok (.goto 190, 3) := by decide +kernel
theorem dX10_next_185 : decode cX10_next 185 = .ok (.iload_n 1, 1) := by decide +kernel
theorem dX10_next_186 : decode cX10_next 186 = .ok (.i2l, 1) := by decide +kernel
theorem dX10_next_187 : decode cX10_next 187 = .ok (.ldc2_w 210, 3) := by decide +kernel
theorem dX10_next_190 : decode cX10_next 190 = .ok (.ldc2_w 212, 3) := by decide +kernel
theorem dX10_next_193 : decode cX10_next 193 = .ok (.invokestatic 114, 3) := by decide +kernel
theorem dX10_next_196 : decode cX10_next 196 = .ok (.ifCond .eq 107, 3) := by decide +kernel
theorem dX10_next_199 : decode cX10_next 199 = .ok (.aload_n 0, 1) := by decide +kernel
theorem dX10_next_200 : decode cX10_next 200 = .ok (.iconst 2, 1) := by decide +kernel
theorem dX10_next_201 : decode cX10_next 201 = .ok (.putfield 195, 3) := by decide +kernel
theorem dX10_next_204 : decode cX10_next 204 = .ok (.aload_n 0, 1) := by decide +kernel
theorem dX10_next_205 : decode cX10_next 205 = .ok (.lconst 0, 1) := by decide +kernel
theorem dX10_next_206 : decode cX10_next 206 = .ok (.putfield 202, 3) := by decide +kernel
theorem dX10_next_209 : decode cX10_next 209 = .ok (.iconst 0, 1) := by decide +kernel
theorem dX10_next_210 : decode cX10_next 210 = .ok (.istore_n 2, 1) := by decide +kernel
theorem dX10_next_211 : decode cX10_next 211 = .ok (.aload_n 0, 1) := by decide +kernel
theorem dX10_next_212 : decode cX10_next 212 = .ok (.aload_n 0, 1) := by decide +kernel
theorem dX10_next_213 : decode cX10_next 213 = .ok (.getfield 185, 3) := by decide +kernel
theorem dX10_next_216 : decode cX10_next 216 = .ok (.invokevirtual 188, 3) := by decide +kernel
theorem dX10_next_219 : decode cX10_next 219 = .ok (.i2l, 1) := by decide +kernel
theorem dX10_next_220 : decode cX10_next 220 = .ok (.ldc2_w 210, 3) := by decide +kernel
theorem dX10_next_223 : decode cX10_next 223 = .ok (.ldc2_w 212, 3) := by decide +kernel
theorem dX10_next_226 : decode cX10_next 226 = .ok (.invokestatic 114, 3) := by decide +kernel
theorem dX10_next_229 : decode cX10_next 229 = .ok (.ifCond .eq 57, 3) := by decide +kernel
theorem dX10_next_232 : decode cX10_next 232 = .ok (.aload_n 0, 1) := by decide +kernel
theorem dX10_next_233 : decode cX10_next 233 = .ok (.iload_n 2, 1) := by decide +kernel
theorem dX10_next_234 : decode cX10_next 234 = .ok (.iconst 4, 1) := by decide +kernel
theorem dX10_next_235 : decode cX10_next 235 = .ok (.if_icmp .ge 28, 3) := by decide +kernel
theorem dX10_next_238 : decode cX10_next 238 = .ok (.ldc2_w 214, 3) := by decide +kernel
theorem dX10_next_241 : decode cX10_next 241 = .ok (.aload_n 0, 1) := by decide +kernel
theorem dX10_next_242 : decode cX10_next 242 = .ok (.getfield 202, 3) := by decide +kernel
theorem dX10_next_245 : decode cX10_next 245 = .ok (.lmul, 1) := by decide +kernel
theorem dX10_next_246 : decode cX10_next 246 = .ok (.aload_n 0, 1) := by decide +kernel
theorem dX10_next_247 : decode cX10_next 247 = .ok (.aload_n 0, 1) := by decide +kernel
theorem dX10_next_248 : decode cX10_next 248 = .ok (.getfield 185, 3) := by decide +kernel
theorem dX10_next_251 : decode cX10_next 251 = .ok (.invokevirtual 188, 3) := by decide +kernel
theorem dX10_next_254 : decode cX10_next 254 = .ok (.i2l, 1) := by decide +kernel
theorem dX10_next_255 : decode cX10_next 255 = .ok (.ladd, 1) := by decide +kernel
theorem dX10_next_256 : decode cX10_next 256 = .ok (.ldc2_w 210, 3) := by decide +kernel
theorem dX10_next_259 : decode cX10_next 259 = .ok (.lsub, 1) := by decide +kernel
theorem dX10_next_260 : decode cX10_next 260 = .ok (.goto 7, 3) := by decide +kernel
theorem dX10_next_263 : decode cX10_next 263 = .ok (.aload_n 0, 1) := by decide +kernel
theorem dX10_next_264 : decode cX10_next 264 = .ok (.getfield 202, 3) := by decide +kernel
theorem dX10_next_267 : decode cX10_next 267 = .ok (.putfield 202, 3) := by decide +kernel
theorem dX10_next_270 : decode cX10_next 270 = .ok (.iinc 2 1, 3) := by decide +kernel
theorem dX10_next_273 : decode cX10_next 273 = .ok (.aload_n 0, 1) := by decide +kernel
theorem dX10_next_274 : decode cX10_next 274 = .ok (.dup, 1) := by decide +kernel
theorem dX10_next_275 : decode cX10_next 275 = .ok (.getfield 185, 3) := by decide +kernel
theorem dX10_next_278 : decode cX10_next 278 = .ok (.iconst 1, 1) := by decide +kernel
theorem dX10_next_279 : decode cX10_next 279 = .ok (.iadd, 1) := by decide +kernel
theorem dX10_next_280 : decode cX10_next 280 = .ok (.putfield 185, 3) := by decide +kernel
theorem dX10_next_283 : decode cX10_next 283 = .ok (.goto (-72), 3) := by decide +kernel
theorem dX10_next_286 : decode cX10_next 286 = .ok (.aload_n 0, 1) := by decide +kernel
theorem dX10_next_287 : decode cX10_next 287 = .ok (.iload_n 2, 1) := by decide +kernel
theorem dX10_next_288 : decode cX10_next 288 = .ok (.iconst 4, 1) := by decide +kernel
theorem dX10_next_289 : decode cX10_next 289 = .ok (.if_icmp .le 7, 3) := by decide +kernel
theorem dX10_next_292 : decode cX10_next 292 = .ok (.iconst 4, 1) := by decide +kernel
theorem dX10_next_293 : decode cX10_next 293 = .ok (.goto 4, 3) := by decide +kernel
theorem dX10_next_296 : decode cX10_next 296 = .ok (.iconst 2, 1) := by decide +kernel
theorem dX10_next_297 : decode cX10_next 297 = .ok (.putfield 195, 3) := by decide +kernel
theorem dX10_next_300 : decode cX10_next 300 = .ok (.goto 72, 3) := by decide +kernel
theorem dX10_next_303 : decode cX10_next 303 = .ok (.iload_n 1, 1) := by decide +kernel
theorem dX10_next_304 : decode cX10_next 304 = .ok (.bipush 40, 2) := by decide +kernel
theorem dX10_next_306 : decode cX10_next 306 = .ok (.if_icmp .eq 45, 3) := by decide +kernel
theorem dX10_next_309 : decode cX10_next 309 = .ok (.iload_n 1, 1) := by decide +kernel
theorem dX10_next_310 : decode cX10_next 310 = .ok (.bipush 41, 2) := by decide +kernel
theorem dX10_next_312 : decode cX10_next 312 = .ok (.if_icmp .eq 39, 3) := by decide +kernel
theorem dX10_next_315 : decode cX10_next 315 = .ok (.iload_n 1, 1) := by decide +kernel
theorem dX10_next_316 : decode cX10_next 316 = .ok (.bipush 59, 2) := by decide +kernel
theorem dX10_next_318 : decode cX10_next 318 = .ok (.if_icmp .eq 33, 3) := by decide +kernel
theorem dX10_next_321 : decode cX10_next 321 = .ok (.iload_n 1, 1) := by decide +kernel
theorem dX10_next_322 : decode cX10_next 322 = .ok (.bipush 43, 2) := by decide +kernel
theorem dX10_next_324 : decode cX10_next 324 = .ok (.if_icmp .eq 27, 3) := by decide +kernel
theorem dX10_next_327 : decode cX10_next 327 = .ok (.iload_n 1, 1) := by decide +kernel
theorem dX10_next_328 : decode cX10_next 328 = .ok (.bipush 45, 2) := by decide +kernel
theorem dX10_next_330 : decode cX10_next 330 = .ok (.if_icmp .eq 21, 3) := by decide +kernel
theorem dX10_next_333 : decode cX10_next 333 = .ok (.iload_n 1, 1) := by decide +kernel
theorem dX10_next_334 : decode cX10_next 334 = .ok (.bipush 42, 2) := by decide +kernel
theorem dX10_next_336 : decode cX10_next 336 = .ok (.if_icmp .eq 15, 3) := by decide +kernel
theorem dX10_next_339 : decode cX10_next 339 = .ok (.iload_n 1, 1) := by decide +kernel
theorem dX10_next_340 : decode cX10_next 340 = .ok (.bipush 60, 2) := by decide +kernel
theorem dX10_next_342 : decode cX10_next 342 = .ok (.if_icmp .eq 9, 3) := by decide +kernel
theorem dX10_next_345 : decode cX10_next 345 = .ok (.iload_n 1, 1) := by decide +kernel
theorem dX10_next_346 : decode cX10_next 346 = .ok (.bipush 61, 2) := by decide +kernel
theorem dX10_next_348 : decode cX10_next 348 = .ok (.if_icmp .ne 24, 3) := by decide +kernel
theorem dX10_next_351 : decode cX10_next 351 = .ok (.aload_n 0, 1) := by decide +kernel
theorem dX10_next_352 : decode cX10_next 352 = .ok (.iconst 3, 1) := by decide +kernel
theorem dX10_next_353 : decode cX10_next 353 = .ok (.putfield 195, 3) := by decide +kernel
theorem dX10_next_356 : decode cX10_next 356 = .ok (.aload_n 0, 1) := by decide +kernel
theorem dX10_next_357 : decode cX10_next 357 = .ok (.iload_n 1, 1) := by decide +kernel
theorem dX10_next_358 : decode cX10_next 358 = .ok (.i2l, 1) := by decide +kernel
theorem dX10_next_359 : decode cX10_next 359 = .ok (.putfield 202, 3) := by decide +kernel
theorem dX10_next_362 : decode cX10_next 362 = .ok (.aload_n 0, 1) := by decide +kernel
theorem dX10_next_363 : decode cX10_next 363 = .ok (.dup, 1) := by decide +kernel
theorem dX10_next_364 : decode cX10_next 364 = .ok (.getfield 185, 3) := by decide +kernel
theorem dX10_next_367 : decode cX10_next 367 = .ok (.iconst 1, 1) := by decide +kernel
theorem dX10_next_368 : decode cX10_next 368 = .ok (.iadd, 1) := by decide +kernel
theorem dX10_next_369 : decode cX10_next 369 = .ok (.putfield 185, 3) := by decide +kernel
theorem dX10_next_372 : decode cX10_next 372 = .ok (.return_, 1) := by decide +kernel
theorem dX10_fail_0 : decode cX10_fail 0 = .ok (.aload_n 0, 1) := by decide +kernel
theorem dX10_fail_1 : decode cX10_fail 1 = .ok (.getfield 216, 3) := by decide +kernel
theorem dX10_fail_4 : decode cX10_fail 4 = .ok (.ifCond .ne 16, 3) := by decide +kernel
theorem dX10_fail_7 : decode cX10_fail 7 = .ok (.aload_n 0, 1) := by decide +kernel
theorem dX10_fail_8 : decode cX10_fail 8 = .ok (.iconst 1, 1) := by decide +kernel
theorem dX10_fail_9 : decode cX10_fail 9 = .ok (.putfield 216, 3) := by decide +kernel
theorem dX10_fail_12 : decode cX10_fail 12 = .ok (.aload_n 0, 1) := by decide +kernel
theorem dX10_fail_13 : decode cX10_fail 13 = .ok (.aload_n 0, 1) := by decide +kernel
theorem dX10_fail_14 : decode cX10_fail 14 = .ok (.getfield 192, 3) := by decide +kernel
theorem dX10_fail_17 : decode cX10_fail 17 = .ok (.putfield 220, 3) := by decide +kernel
theorem dX10_fail_20 : decode cX10_fail 20 = .ok (.return_, 1) := by decide +kernel
theorem dX10_isWord_0 : decode cX10_isWord 0 = .ok (.aload_n 0, 1) := by decide +kernel
theorem dX10_isWord_1 : decode cX10_isWord 1 = .ok (.getfield 216, 3) := by decide +kernel
theorem dX10_isWord_4 : decode cX10_isWord 4 = .ok (.ifCond .ne 24, 3) := by decide +kernel
theorem dX10_isWord_7 : decode cX10_isWord 7 = .ok (.aload_n 0, 1) := by decide +kernel
theorem dX10_isWord_8 : decode cX10_isWord 8 = .ok (.getfield 195, 3) := by decide +kernel
theorem dX10_isWord_11 : decode cX10_isWord 11 = .ok (.iconst 1, 1) := by decide +kernel
theorem dX10_isWord_12 : decode cX10_isWord 12 = .ok (.if_icmp .ne 16, 3) := by decide +kernel
theorem dX10_isWord_15 : decode cX10_isWord 15 = .ok (.aload_n 0, 1) := by decide +kernel
theorem dX10_isWord_16 : decode cX10_isWord 16 = .ok (.getfield 202, 3) := by decide +kernel
theorem dX10_isWord_19 : decode cX10_isWord 19 = .ok (.lload_n 1, 1) := by decide +kernel
theorem dX10_isWord_20 : decode cX10_isWord 20 = .ok (.lcmp, 1) := by decide +kernel
theorem dX10_isWord_21 : decode cX10_isWord 21 = .ok (.ifCond .ne 7, 3) := by decide +kernel
theorem dX10_isWord_24 : decode cX10_isWord 24 = .ok (.iconst 1, 1) := by decide +kernel
theorem dX10_isWord_25 : decode cX10_isWord 25 = .ok (.goto 4, 3) := by decide +kernel
theorem dX10_isWord_28 : decode cX10_isWord 28 = .ok (.iconst 0, 1) := by decide +kernel
theorem dX10_isWord_29 : decode cX10_isWord 29 = .ok (.ireturn, 1) := by decide +kernel
theorem dX10_isSign_0 : decode cX10_isSign 0 = .ok (.aload_n 0, 1) := by decide +kernel
theorem dX10_isSign_1 : decode cX10_isSign 1 = .ok (.getfield 216, 3) := by decide +kernel
theorem dX10_isSign_4 : decode cX10_isSign 4 = .ok (.ifCond .ne 25, 3) := by decide +kernel
theorem dX10_isSign_7 : decode cX10_isSign 7 = .ok (.aload_n 0, 1) := by decide +kernel
theorem dX10_isSign_8 : decode cX10_isSign 8 = .ok (.getfield 195, 3) := by decide +kernel
theorem dX10_isSign_11 : decode cX10_isSign 11 = .ok (.iconst 3, 1) := by decide +kernel
theorem dX10_isSign_12 : decode cX10_isSign 12 = .ok (.if_icmp .ne 17, 3) := by decide +kernel
theorem dX10_isSign_15 : decode cX10_isSign 15 = .ok (.aload_n 0, 1) := by decide +kernel
theorem dX10_isSign_16 : decode cX10_isSign 16 = .ok (.getfield 202, 3) := by decide +kernel
theorem dX10_isSign_19 : decode cX10_isSign 19 = .ok (.iload_n 1, 1) := by decide +kernel
theorem dX10_isSign_20 : decode cX10_isSign 20 = .ok (.i2l, 1) := by decide +kernel
theorem dX10_isSign_21 : decode cX10_isSign 21 = .ok (.lcmp, 1) := by decide +kernel
theorem dX10_isSign_22 : decode cX10_isSign 22 = .ok (.ifCond .ne 7, 3) := by decide +kernel
theorem dX10_isSign_25 : decode cX10_isSign 25 = .ok (.iconst 1, 1) := by decide +kernel
theorem dX10_isSign_26 : decode cX10_isSign 26 = .ok (.goto 4, 3) := by decide +kernel
theorem dX10_isSign_29 : decode cX10_isSign 29 = .ok (.iconst 0, 1) := by decide +kernel
theorem dX10_isSign_30 : decode cX10_isSign 30 = .ok (.ireturn, 1) := by decide +kernel
theorem dX10_opens_0 : decode cX10_opens 0 = .ok (.aload_n 0, 1) := by decide +kernel
theorem dX10_opens_1 : decode cX10_opens 1 = .ok (.getfield 223, 3) := by decide +kernel
theorem dX10_opens_4 : decode cX10_opens 4 = .ok (.iconst 5, 1) := by decide +kernel
theorem dX10_opens_5 : decode cX10_opens 5 = .ok (.if_icmp .ne 9, 3) := by decide +kernel
theorem dX10_opens_8 : decode cX10_opens 8 = .ok (.aload_n 0, 1) := by decide +kernel
theorem dX10_opens_9 : decode cX10_opens 9 = .ok (.invokevirtual 226, 3) := by decide +kernel
theorem dX10_opens_12 : decode cX10_opens 12 = .ok (.iconst 0, 1) := by decide +kernel
theorem dX10_opens_13 : decode cX10_opens 13 = .ok (.ireturn, 1) := by decide +kernel
theorem dX10_opens_14 : decode cX10_opens 14 = .ok (.aload_n 0, 1) := by decide +kernel
theorem dX10_opens_15 : decode cX10_opens 15 = .ok (.dup, 1) := by decide +kernel
theorem dX10_opens_16 : decode cX10_opens 16 = .ok (.getfield 223, 3) := by decide +kernel
theorem dX10_opens_19 : decode cX10_opens 19 = .ok (.iconst 1, 1) := by decide +kernel
theorem dX10_opens_20 : decode cX10_opens 20 = .ok (.iadd, 1) := by decide +kernel
theorem dX10_opens_21 : decode cX10_opens 21 = .ok (.putfield 223, 3) := by decide +kernel
theorem dX10_opens_24 : decode cX10_opens 24 = .ok (.aload_n 0, 1) := by decide +kernel
theorem dX10_opens_25 : decode cX10_opens 25 = .ok (.invokevirtual 229, 3) := by decide +kernel
theorem dX10_opens_28 : decode cX10_opens 28 = .ok (.iconst 1, 1) := by decide +kernel
theorem dX10_opens_29 : decode cX10_opens 29 = .ok (.ireturn, 1) := by decide +kernel
theorem dX10_name_0 : decode cX10_name 0 = .ok (.aload_n 0, 1) := by decide +kernel
theorem dX10_name_1 : decode cX10_name 1 = .ok (.ldc2_w 232, 3) := by decide +kernel
theorem dX10_name_4 : decode cX10_name 4 = .ok (.invokevirtual 234, 3) := by decide +kernel
theorem dX10_name_7 : decode cX10_name 7 = .ok (.ifCond .eq 13, 3) := by decide +kernel
theorem dX10_name_10 : decode cX10_name 10 = .ok (.aload_n 0, 1) := by decide +kernel
theorem dX10_name_11 : decode cX10_name 11 = .ok (.getfield 32, 3) := by decide +kernel
theorem dX10_name_14 : decode cX10_name 14 = .ok (.aload_n 0, 1) := by decide +kernel
theorem dX10_name_15 : decode cX10_name 15 = .ok (.getfield 238, 3) := by decide +kernel
theorem dX10_name_18 : decode cX10_name 18 = .ok (.iaload, 1) := by decide +kernel
theorem dX10_name_19 : decode cX10_name 19 = .ok (.ireturn, 1) := by decide +kernel
theorem dX10_name_20 : decode cX10_name 20 = .ok (.aload_n 0, 1) := by decide +kernel
theorem dX10_name_21 : decode cX10_name 21 = .ok (.ldc2_w 241, 3) := by decide +kernel
theorem dX10_name_24 : decode cX10_name 24 = .ok (.invokevirtual 234, 3) := by decide +kernel
theorem dX10_name_27 : decode cX10_name 27 = .ok (.ifCond .eq 8, 3) := by decide +kernel
theorem dX10_name_30 : decode cX10_name 30 = .ok (.aload_n 0, 1) := by decide +kernel
theorem dX10_name_31 : decode cX10_name 31 = .ok (.getfield 243, 3) := by decide +kernel
theorem dX10_name_34 : decode cX10_name 34 = .ok (.ireturn, 1) := by decide +kernel
theorem dX10_name_35 : decode cX10_name 35 = .ok (.aload_n 0, 1) := by decide +kernel
theorem dX10_name_36 : decode cX10_name 36 = .ok (.ldc2_w 246, 3) := by decide +kernel
theorem dX10_name_39 : decode cX10_name 39 = .ok (.invokevirtual 234, 3) := by decide +kernel
theorem dX10_name_42 : decode cX10_name 42 = .ok (.ifCond .eq 13, 3) := by decide +kernel
theorem dX10_name_45 : decode cX10_name 45 = .ok (.aload_n 0, 1) := by decide +kernel
theorem dX10_name_46 : decode cX10_name 46 = .ok (.getfield 47, 3) := by decide +kernel
theorem dX10_name_49 : decode cX10_name 49 = .ok (.aload_n 0, 1) := by decide +kernel
theorem dX10_name_50 : decode cX10_name 50 = .ok (.getfield 238, 3) := by decide +kernel
theorem dX10_name_53 : decode cX10_name 53 = .ok (.iaload, 1) := by decide +kernel
theorem dX10_name_54 : decode cX10_name 54 = .ok (.ireturn, 1) := by decide +kernel
theorem dX10_name_55 : decode cX10_name 55 = .ok (.aload_n 0, 1) := by decide +kernel
theorem dX10_name_56 : decode cX10_name 56 = .ok (.ldc2_w 248, 3) := by decide +kernel
theorem dX10_name_59 : decode cX10_name 59 = .ok (.invokevirtual 234, 3) := by decide +kernel
theorem dX10_name_62 : decode cX10_name 62 = .ok (.ifCond .eq 13, 3) := by decide +kernel
theorem dX10_name_65 : decode cX10_name 65 = .ok (.aload_n 0, 1) := by decide +kernel
theorem dX10_name_66 : decode cX10_name 66 = .ok (.getfield 44, 3) := by decide +kernel
theorem dX10_name_69 : decode cX10_name 69 = .ok (.aload_n 0, 1) := by decide +kernel
theorem dX10_name_70 : decode cX10_name 70 = .ok (.getfield 238, 3) := by decide +kernel
theorem dX10_name_73 : decode cX10_name 73 = .ok (.iaload, 1) := by decide +kernel
theorem dX10_name_74 : decode cX10_name 74 = .ok (.ireturn, 1) := by decide +kernel
theorem dX10_name_75 : decode cX10_name 75 = .ok (.aload_n 0, 1) := by decide +kernel
theorem dX10_name_76 : decode cX10_name 76 = .ok (.ldc2_w 250, 3) := by decide +kernel
theorem dX10_name_79 : decode cX10_name 79 = .ok (.invokevirtual 234, 3) := by decide +kernel
theorem dX10_name_82 : decode cX10_name 82 = .ok (.ifCond .eq 13, 3) := by decide +kernel
theorem dX10_name_85 : decode cX10_name 85 = .ok (.aload_n 0, 1) := by decide +kernel
theorem dX10_name_86 : decode cX10_name 86 = .ok (.getfield 56, 3) := by decide +kernel
theorem dX10_name_89 : decode cX10_name 89 = .ok (.aload_n 0, 1) := by decide +kernel
theorem dX10_name_90 : decode cX10_name 90 = .ok (.getfield 238, 3) := by decide +kernel
theorem dX10_name_93 : decode cX10_name 93 = .ok (.iaload, 1) := by decide +kernel
theorem dX10_name_94 : decode cX10_name 94 = .ok (.ireturn, 1) := by decide +kernel
theorem dX10_name_95 : decode cX10_name 95 = .ok (.aload_n 0, 1) := by decide +kernel
theorem dX10_name_96 : decode cX10_name 96 = .ok (.ldc2_w 252, 3) := by decide +kernel
theorem dX10_name_99 : decode cX10_name 99 = .ok (.invokevirtual 234, 3) := by decide +kernel
theorem dX10_name_102 : decode cX10_name 102 = .ok (.ifCond .eq 12, 3) := by decide +kernel
theorem dX10_name_105 : decode cX10_name 105 = .ok (.aload_n 0, 1) := by decide +kernel
theorem dX10_name_106 : decode cX10_name 106 = .ok (.aload_n 0, 1) := by decide +kernel
theorem dX10_name_107 : decode cX10_name 107 = .ok (.getfield 238, 3) := by decide +kernel
theorem dX10_name_110 : decode cX10_name 110 = .ok (.invokevirtual 254, 3) := by decide +kernel
theorem dX10_name_113 : decode cX10_name 113 = .ok (.ireturn, 1) := by decide +kernel
theorem dX10_name_114 : decode cX10_name 114 = .ok (.aload_n 0, 1) := by decide +kernel
theorem dX10_name_115 : decode cX10_name 115 = .ok (.invokevirtual 226, 3) := by decide +kernel
theorem dX10_name_118 : decode cX10_name 118 = .ok (.iconst 0, 1) := by decide +kernel
theorem dX10_name_119 : decode cX10_name 119 = .ok (.ireturn, 1) := by decide +kernel
theorem dX10_one_0 : decode cX10_one 0 = .ok (.iconst 0, 1) := by decide +kernel
theorem dX10_one_1 : decode cX10_one 1 = .ok (.istore_n 1, 1) := by decide +kernel
theorem dX10_one_2 : decode cX10_one 2 = .ok (.aload_n 0, 1) := by decide +kernel
theorem dX10_one_3 : decode cX10_one 3 = .ok (.bipush 45, 2) := by decide +kernel
theorem dX10_one_5 : decode cX10_one 5 = .ok (.invokevirtual 257, 3) := by decide +kernel
theorem dX10_one_8 : decode cX10_one 8 = .ok (.ifCond .eq 29, 3) := by decide +kernel
theorem dX10_one_11 : decode cX10_one 11 = .ok (.aload_n 0, 1) := by decide +kernel
theorem dX10_one_12 : decode cX10_one 12 = .ok (.invokevirtual 260, 3) := by decide +kernel
theorem dX10_one_15 : decode cX10_one 15 = .ok (.ifCond .eq 146, 3) := by decide +kernel
theorem dX10_one_18 : decode cX10_one 18 = .ok (.aload_n 0, 1) := by decide +kernel
theorem dX10_one_19 : decode cX10_one 19 = .ok (.invokevirtual 264, 3) := by decide +kernel
theorem dX10_one_22 : decode cX10_one 22 = .ok (.ineg, 1) := by decide +kernel
theorem dX10_one_23 : decode cX10_one 23 = .ok (.istore_n 1, 1) := by decide +kernel
theorem dX10_one_24 : decode cX10_one 24 = .ok (.aload_n 0, 1) := by decide +kernel
theorem dX10_one_25 : decode cX10_one 25 = .ok (.dup, 1) := by decide +kernel
theorem dX10_one_26 : decode cX10_one 26 = .ok (.getfield 223, 3) := by decide +kernel
theorem dX10_one_29 : decode cX10_one 29 = .ok (.iconst 1, 1) := by decide +kernel
theorem dX10_one_30 : decode cX10_one 30 = .ok (.isub, 1) := by decide +kernel
theorem dX10_one_31 : decode cX10_one 31 = .ok (.putfield 223, 3) := by decide +kernel
theorem dX10_one_34 : decode cX10_one 34 = .ok (.goto 127, 3) := by decide +kernel
theorem dX10_one_37 : decode cX10_one 37 = .ok (.aload_n 0, 1) := by decide +kernel
theorem dX10_one_38 : decode cX10_one 38 = .ok (.bipush 40, 2) := by decide +kernel
theorem dX10_one_40 : decode cX10_one 40 = .ok (.invokevirtual 257, 3) := by decide +kernel
theorem dX10_one_43 : decode cX10_one 43 = .ok (.ifCond .eq 52, 3) := by decide +kernel
theorem dX10_one_46 : decode cX10_one 46 = .ok (.aload_n 0, 1) := by decide +kernel
theorem dX10_one_47 : decode cX10_one 47 = .ok (.invokevirtual 260, 3) := by decide +kernel
theorem dX10_one_50 : decode cX10_one 50 = .ok (.ifCond .eq 111, 3) := by decide +kernel
theorem dX10_one_53 : decode cX10_one 53 = .ok (.aload_n 0, 1) := by decide +kernel
theorem dX10_one_54 : decode cX10_one 54 = .ok (.invokevirtual 267, 3) := by decide +kernel
theorem dX10_one_57 : decode cX10_one 57 = .ok (.istore_n 1, 1) := by decide +kernel
theorem dX10_one_58 : decode cX10_one 58 = .ok (.aload_n 0, 1) := by decide +kernel
theorem dX10_one_59 : decode cX10_one 59 = .ok (.bipush 41, 2) := by decide +kernel
theorem dX10_one_61 : decode cX10_one 61 = .ok (.invokevirtual 257, 3) := by decide +kernel
theorem dX10_one_64 : decode cX10_one 64 = .ok (.ifCond .ne 7, 3) := by decide +kernel
theorem dX10_one_67 : decode cX10_one 67 = .ok (.aload_n 0, 1) := by decide +kernel
theorem dX10_one_68 : decode cX10_one 68 = .ok (.invokevirtual 226, 3) := by decide +kernel
theorem dX10_one_71 : decode cX10_one 71 = .ok (.aload_n 0, 1) := by decide +kernel
theorem dX10_one_72 : decode cX10_one 72 = .ok (.dup, 1) := by decide +kernel
theorem dX10_one_73 : decode cX10_one 73 = .ok (.getfield 223, 3) := by decide +kernel
theorem dX10_one_76 : decode cX10_one 76 = .ok (.iconst 1, 1) := by decide +kernel
theorem dX10_one_77 : decode cX10_one 77 = .ok (.isub, 1) := by decide +kernel
theorem dX10_one_78 : decode cX10_one 78 = .ok (.putfield 223, 3) := by decide +kernel
theorem dX10_one_81 : decode cX10_one 81 = .ok (.aload_n 0, 1) := by decide +kernel
theorem dX10_one_82 : decode cX10_one 82 = .ok (.getfield 216, 3) := by decide +kernel
theorem dX10_one_85 : decode cX10_one 85 = .ok (.ifCond .ne 76, 3) := by decide +kernel
theorem dX10_one_88 : decode cX10_one 88 = .ok (.aload_n 0, 1) := by decide +kernel
theorem dX10_one_89 : decode cX10_one 89 = .ok (.invokevirtual 229, 3) := by decide +kernel
theorem dX10_one_92 : decode cX10_one 92 = .ok (.goto 69, 3) := by decide +kernel
theorem dX10_one_95 : decode cX10_one 95 = .ok (.aload_n 0, 1) := by decide +kernel
theorem dX10_one_96 : decode cX10_one 96 = .ok (.getfield 216, 3) := by decide +kernel
theorem dX10_one_99 : decode cX10_one 99 = .ok (.ifCond .ne 24, 3) := by decide +kernel
theorem dX10_one_102 : decode cX10_one 102 = .ok (.aload_n 0, 1) := by decide +kernel
theorem dX10_one_103 : decode cX10_one 103 = .ok (.getfield 195, 3) := by decide +kernel
theorem dX10_one_106 : decode cX10_one 106 = .ok (.iconst 2, 1) := by decide +kernel
theorem dX10_one_107 : decode cX10_one 107 = .ok (.if_icmp .ne 16, 3) := by decide +kernel
theorem dX10_one_110 : decode cX10_one 110 = .ok (.aload_n 0, 1) := by decide +kernel
theorem dX10_one_111 : decode cX10_one 111 = .ok (.getfield 202, 3) := by decide +kernel
theorem dX10_one_114 : decode cX10_one 114 = .ok (.l2i, 1) := by decide +kernel
theorem dX10_one_115 : decode cX10_one 115 = .ok (.istore_n 1, 1) := by decide +kernel
theorem dX10_one_116 : decode cX10_one 116 = .ok (.aload_n 0, 1) := by decide +kernel
theorem dX10_one_117 : decode cX10_one 117 = .ok (.invokevirtual 229, 3) := by decide +kernel
theorem dX10_one_120 : decode cX10_one 120 = .ok (.goto 41, 3) := by decide +kernel
theorem dX10_one_123 : decode cX10_one 123 = .ok (.aload_n 0, 1) := by decide +kernel
theorem dX10_one_124 : decode cX10_one 124 = .ok (.getfield 216, 3) := by decide +kernel
theorem dX10_one_127 : decode cX10_one 127 = .ok (.ifCond .ne 30, 3) := by decide +kernel
theorem dX10_one_130 : decode cX10_one 130 = .ok (.aload_n 0, 1) := by decide +kernel
theorem dX10_one_131 : decode cX10_one 131 = .ok (.getfield 195, 3) := by decide +kernel
theorem dX10_one_134 : decode cX10_one 134 = .ok (.iconst 1, 1) := by decide +kernel
theorem dX10_one_135 : decode cX10_one 135 = .ok (.if_icmp .ne 22, 3) := by decide +kernel
theorem dX10_one_138 : decode cX10_one 138 = .ok (.aload_n 0, 1) := by decide +kernel
theorem dX10_one_139 : decode cX10_one 139 = .ok (.invokevirtual 270, 3) := by decide +kernel
theorem dX10_one_142 : decode cX10_one 142 = .ok (.istore_n 1, 1) := by decide +kernel
theorem dX10_one_143 : decode cX10_one 143 = .ok (.aload_n 0, 1) := by decide +kernel
theorem dX10_one_144 : decode cX10_one 144 = .ok (.getfield 216, 3) := by decide +kernel
theorem dX10_one_147 : decode cX10_one 147 = .ok (.ifCond .ne 14, 3) := by decide +kernel
theorem dX10_one_150 : decode cX10_one 150 = .ok (.aload_n 0, 1) := by decide +kernel
theorem dX10_one_151 : decode cX10_one 151 = .ok (.invokevirtual 229, 3) := by decide +kernel
theorem dX10_one_154 : decode cX10_one 154 = .ok (.goto 7, 3) := by decide +kernel
theorem dX10_one_157 : decode cX10_one 157 = .ok (.aload_n 0, 1) := by decide +kernel
theorem dX10_one_158 : decode cX10_one 158 = .ok (.invokevirtual 226, 3) := by decide +kernel
theorem dX10_one_161 : decode cX10_one 161 = .ok (.iload_n 1, 1) := by decide +kernel
theorem dX10_one_162 : decode cX10_one 162 = .ok (.ireturn, 1) := by decide +kernel
theorem dX10_term_0 : decode cX10_term 0 = .ok (.aload_n 0, 1) := by decide +kernel
theorem dX10_term_1 : decode cX10_term 1 = .ok (.invokevirtual 264, 3) := by decide +kernel
theorem dX10_term_4 : decode cX10_term 4 = .ok (.istore_n 1, 1) := by decide +kernel
theorem dX10_term_5 : decode cX10_term 5 = .ok (.aload_n 0, 1) := by decide +kernel
theorem dX10_term_6 : decode cX10_term 6 = .ok (.bipush 42, 2) := by decide +kernel
theorem dX10_term_8 : decode cX10_term 8 = .ok (.invokevirtual 257, 3) := by decide +kernel
theorem dX10_term_11 : decode cX10_term 11 = .ok (.ifCond .eq 17, 3) := by decide +kernel
theorem dX10_term_14 : decode cX10_term 14 = .ok (.aload_n 0, 1) := by decide +kernel
theorem dX10_term_15 : decode cX10_term 15 = .ok (.invokevirtual 229, 3) := by decide +kernel
theorem dX10_term_18 : decode cX10_term 18 = .ok (.iload_n 1, 1) := by decide +kernel
theorem dX10_term_19 : decode cX10_term 19 = .ok (.aload_n 0, 1) := by decide +kernel
theorem dX10_term_20 : decode cX10_term 20 = .ok (.invokevirtual 264, 3) := by decide +kernel
theorem dX10_term_23 : decode cX10_term 23 = .ok (.imul, 1) := by decide +kernel
theorem dX10_term_24 : decode cX10_term 24 = .ok (.istore_n 1, 1) := by decide +kernel
theorem dX10_term_25 : decode cX10_term 25 = .ok (.goto (-20), 3) := by decide +kernel
theorem dX10_term_28 : decode cX10_term 28 = .ok (.iload_n 1, 1) := by decide +kernel
theorem dX10_term_29 : decode cX10_term 29 = .ok (.ireturn, 1) := by decide +kernel
theorem dX10_added_0 : decode cX10_added 0 = .ok (.aload_n 0, 1) := by decide +kernel
theorem dX10_added_1 : decode cX10_added 1 = .ok (.invokevirtual 273, 3) := by decide +kernel
theorem dX10_added_4 : decode cX10_added 4 = .ok (.istore_n 1, 1) := by decide +kernel
theorem dX10_added_5 : decode cX10_added 5 = .ok (.aload_n 0, 1) := by decide +kernel
theorem dX10_added_6 : decode cX10_added 6 = .ok (.bipush 43, 2) := by decide +kernel
theorem dX10_added_8 : decode cX10_added 8 = .ok (.invokevirtual 257, 3) := by decide +kernel
theorem dX10_added_11 : decode cX10_added 11 = .ok (.ifCond .ne 12, 3) := by decide +kernel
theorem dX10_added_14 : decode cX10_added 14 = .ok (.aload_n 0, 1) := by decide +kernel
theorem dX10_added_15 : decode cX10_added 15 = .ok (.bipush 45, 2) := by decide +kernel
theorem dX10_added_17 : decode cX10_added 17 = .ok (.invokevirtual 257, 3) := by decide +kernel
theorem dX10_added_20 : decode cX10_added 20 = .ok (.ifCond .eq 46, 3) := by decide +kernel
theorem dX10_added_23 : decode cX10_added 23 = .ok (.aload_n 0, 1) := by decide +kernel
theorem dX10_added_24 : decode cX10_added 24 = .ok (.getfield 202, 3) := by decide +kernel
theorem dX10_added_27 : decode cX10_added 27 = .ok (.ldc2_w 276, 3) := by decide +kernel
theorem dX10_added_30 : decode cX10_added 30 = .ok (.lcmp, 1) := by decide +kernel
theorem dX10_added_31 : decode cX10_added 31 = .ok (.ifCond .ne 7, 3) := by decide +kernel
theorem dX10_added_34 : decode cX10_added 34 = .ok (.iconst 1, 1) := by decide +kernel
theorem dX10_added_35 : decode cX10_added 35 = .ok (.goto 4, 3) := by decide +kernel
theorem dX10_added_38 : decode cX10_added 38 = .ok (.iconst 0, 1) := by decide +kernel
theorem dX10_added_39 : decode cX10_added 39 = .ok (.istore_n 2, 1) := by decide +kernel
theorem dX10_added_40 : decode cX10_added 40 = .ok (.aload_n 0, 1) := by decide +kernel
theorem dX10_added_41 : decode cX10_added 41 = .ok (.invokevirtual 229, 3) := by decide +kernel
theorem dX10_added_44 : decode cX10_added 44 = .ok (.aload_n 0, 1) := by decide +kernel
theorem dX10_added_45 : decode cX10_added 45 = .ok (.invokevirtual 273, 3) := by decide +kernel
theorem dX10_added_48 : decode cX10_added 48 = .ok (.istore_n 3, 1) := by decide +kernel
theorem dX10_added_49 : decode cX10_added 49 = .ok (.iload_n 2, 1) := by decide +kernel
theorem dX10_added_50 : decode cX10_added 50 = .ok (.ifCond .eq 9, 3) := by decide +kernel
theorem dX10_added_53 : decode cX10_added 53 = .ok (.iload_n 1, 1) := by decide +kernel
theorem dX10_added_54 : decode cX10_added 54 = .ok (.iload_n 3, 1) := by decide +kernel
theorem dX10_added_55 : decode cX10_added 55 = .ok (.iadd, 1) := by decide +kernel
theorem dX10_added_56 : decode cX10_added 56 = .ok (.goto 6, 3) := by decide +kernel
theorem dX10_added_59 : decode cX10_added 59 = .ok (.iload_n 1, 1) := by decide +kernel
theorem dX10_added_60 : decode cX10_added 60 = .ok (.iload_n 3, 1) := by decide +kernel
theorem dX10_added_61 : decode cX10_added 61 = .ok (.isub, 1) := by decide +kernel
theorem dX10_added_62 : decode cX10_added 62 = .ok (.istore_n 1, 1) := by decide +kernel
theorem dX10_added_63 : decode cX10_added 63 = .ok (.goto (-58), 3) := by decide +kernel
theorem dX10_added_66 : decode cX10_added 66 = .ok (.iload_n 1, 1) := by decide +kernel
theorem dX10_added_67 : decode cX10_added 67 = .ok (.ireturn, 1) := by decide +kernel
theorem dX10_not_0 : decode cX10_not 0 = .ok (.aload_n 0, 1) := by decide +kernel
theorem dX10_not_1 : decode cX10_not 1 = .ok (.ldc2_w 278, 3) := by decide +kernel
theorem dX10_not_4 : decode cX10_not 4 = .ok (.invokevirtual 234, 3) := by decide +kernel
theorem dX10_not_7 : decode cX10_not 7 = .ok (.ifCond .eq 37, 3) := by decide +kernel
theorem dX10_not_10 : decode cX10_not 10 = .ok (.aload_n 0, 1) := by decide +kernel
theorem dX10_not_11 : decode cX10_not 11 = .ok (.invokevirtual 260, 3) := by decide +kernel
theorem dX10_not_14 : decode cX10_not 14 = .ok (.ifCond .ne 5, 3) := by decide +kernel
theorem dX10_not_17 : decode cX10_not 17 = .ok (.iconst 0, 1) := by decide +kernel
theorem dX10_not_18 : decode cX10_not 18 = .ok (.ireturn, 1) := by decide +kernel
theorem dX10_not_19 : decode cX10_not 19 = .ok (.aload_n 0, 1) := by decide +kernel
theorem dX10_not_20 : decode cX10_not 20 = .ok (.invokevirtual 280, 3) := by decide +kernel
theorem dX10_not_23 : decode cX10_not 23 = .ok (.istore_n 1, 1) := by decide +kernel
theorem dX10_not_24 : decode cX10_not 24 = .ok (.aload_n 0, 1) := by decide +kernel
theorem dX10_not_25 : decode cX10_not 25 = .ok (.dup, 1) := by decide +kernel
theorem dX10_not_26 : decode cX10_not 26 = .ok (.getfield 223, 3) := by decide +kernel
theorem dX10_not_29 : decode cX10_not 29 = .ok (.iconst 1, 1) := by decide +kernel
theorem dX10_not_30 : decode cX10_not 30 = .ok (.isub, 1) := by decide +kernel
theorem dX10_not_31 : decode cX10_not 31 = .ok (.putfield 223, 3) := by decide +kernel
theorem dX10_not_34 : decode cX10_not 34 = .ok (.iload_n 1, 1) := by decide +kernel
theorem dX10_not_35 : decode cX10_not 35 = .ok (.ifCond .ne 7, 3) := by decide +kernel
theorem dX10_not_38 : decode cX10_not 38 = .ok (.iconst 1, 1) := by decide +kernel
theorem dX10_not_39 : decode cX10_not 39 = .ok (.goto 4, 3) := by decide +kernel
theorem dX10_not_42 : decode cX10_not 42 = .ok (.iconst 0, 1) := by decide +kernel
theorem dX10_not_43 : decode cX10_not 43 = .ok (.ireturn, 1) := by decide +kernel
theorem dX10_not_44 : decode cX10_not 44 = .ok (.aload_n 0, 1) := by decide +kernel
theorem dX10_not_45 : decode cX10_not 45 = .ok (.invokevirtual 283, 3) := by decide +kernel
theorem dX10_not_48 : decode cX10_not 48 = .ok (.istore_n 1, 1) := by decide +kernel
theorem dX10_not_49 : decode cX10_not 49 = .ok (.aload_n 0, 1) := by decide +kernel
theorem dX10_not_50 : decode cX10_not 50 = .ok (.bipush 60, 2) := by decide +kernel
theorem dX10_not_52 : decode cX10_not 52 = .ok (.invokevirtual 257, 3) := by decide +kernel
theorem dX10_not_55 : decode cX10_not 55 = .ok (.ifCond .ne 14, 3) := by decide +kernel
theorem dX10_not_58 : decode cX10_not 58 = .ok (.aload_n 0, 1) := by decide +kernel
theorem dX10_not_59 : decode cX10_not 59 = .ok (.bipush 61, 2) := by decide +kernel
theorem dX10_not_61 : decode cX10_not 61 = .ok (.invokevirtual 257, 3) := by decide +kernel
theorem dX10_not_64 : decode cX10_not 64 = .ok (.ifCond .ne 5, 3) := by decide +kernel
theorem dX10_not_67 : decode cX10_not 67 = .ok (.iload_n 1, 1) := by decide +kernel
theorem dX10_not_68 : decode cX10_not 68 = .ok (.ireturn, 1) := by decide +kernel
theorem dX10_not_69 : decode cX10_not 69 = .ok (.aload_n 0, 1) := by decide +kernel
theorem dX10_not_70 : decode cX10_not 70 = .ok (.getfield 202, 3) := by decide +kernel
theorem dX10_not_73 : decode cX10_not 73 = .ok (.ldc2_w 286, 3) := by decide +kernel
theorem dX10_not_76 : decode cX10_not 76 = .ok (.lcmp, 1) := by decide +kernel
theorem dX10_not_77 : decode cX10_not 77 = .ok (.ifCond .ne 7, 3) := by decide +kernel
theorem dX10_not_80 : decode cX10_not 80 = .ok (.iconst 1, 1) := by decide +kernel
theorem dX10_not_81 : decode cX10_not 81 = .ok (.goto 4, 3) := by decide +kernel
theorem dX10_not_84 : decode cX10_not 84 = .ok (.iconst 0, 1) := by decide +kernel
theorem dX10_not_85 : decode cX10_not 85 = .ok (.istore_n 2, 1) := by decide +kernel
theorem dX10_not_86 : decode cX10_not 86 = .ok (.aload_n 0, 1) := by decide +kernel
theorem dX10_not_87 : decode cX10_not 87 = .ok (.invokevirtual 229, 3) := by decide +kernel
theorem dX10_not_90 : decode cX10_not 90 = .ok (.aload_n 0, 1) := by decide +kernel
theorem dX10_not_91 : decode cX10_not 91 = .ok (.invokevirtual 283, 3) := by decide +kernel
theorem dX10_not_94 : decode cX10_not 94 = .ok (.istore_n 3, 1) := by decide +kernel
theorem dX10_not_95 : decode cX10_not 95 = .ok (.iload_n 2, 1) := by decide +kernel
theorem dX10_not_96 : decode cX10_not 96 = .ok (.ifCond .eq 11, 3) := by decide +kernel
theorem dX10_not_99 : decode cX10_not 99 = .ok (.iload_n 1, 1) := by decide +kernel
theorem dX10_not_100 : decode cX10_not 100 = .ok (.iload_n 3, 1) := by decide +kernel
theorem dX10_not_101 : decode cX10_not 101 = .ok (.if_icmp .ge 15, 3) := by decide +kernel
theorem dX10_not_104 : decode cX10_not 104 = .ok (.goto 8, 3) := by decide +kernel
theorem dX10_not_107 : decode cX10_not 107 = .ok (.iload_n 1, 1) := by decide +kernel
theorem dX10_not_108 : decode cX10_not 108 = .ok (.iload_n 3, 1) := by decide +kernel
theorem dX10_not_109 : decode cX10_not 109 = .ok (.if_icmp .ne 7, 3) := by decide +kernel
theorem dX10_not_112 : decode cX10_not 112 = .ok (.iconst 1, 1) := by decide +kernel
theorem dX10_not_113 : decode cX10_not 113 = .ok (.goto 4, 3) := by decide +kernel
theorem dX10_not_116 : decode cX10_not 116 = .ok (.iconst 0, 1) := by decide +kernel
theorem dX10_not_117 : decode cX10_not 117 = .ok (.ireturn, 1) := by decide +kernel
theorem dX10_both_0 : decode cX10_both 0 = .ok (.aload_n 0, 1) := by decide +kernel
theorem dX10_both_1 : decode cX10_both 1 = .ok (.invokevirtual 280, 3) := by decide +kernel
theorem dX10_both_4 : decode cX10_both 4 = .ok (.istore_n 1, 1) := by decide +kernel
theorem dX10_both_5 : decode cX10_both 5 = .ok (.aload_n 0, 1) := by decide +kernel
theorem dX10_both_6 : decode cX10_both 6 = .ok (.ldc2_w 288, 3) := by decide +kernel
theorem dX10_both_9 : decode cX10_both 9 = .ok (.invokevirtual 234, 3) := by decide +kernel
theorem dX10_both_12 : decode cX10_both 12 = .ok (.ifCond .eq 29, 3) := by decide +kernel
theorem dX10_both_15 : decode cX10_both 15 = .ok (.aload_n 0, 1) := by decide +kernel
theorem dX10_both_16 : decode cX10_both 16 = .ok (.invokevirtual 229, 3) := by decide +kernel
theorem dX10_both_19 : decode cX10_both 19 = .ok (.aload_n 0, 1) := by decide +kernel
theorem dX10_both_20 : decode cX10_both 20 = .ok (.invokevirtual 280, 3) := by decide +kernel
theorem dX10_both_23 : decode cX10_both 23 = .ok (.istore_n 2, 1) := by decide +kernel
theorem dX10_both_24 : decode cX10_both 24 = .ok (.iload_n 1, 1) := by decide +kernel
theorem dX10_both_25 : decode cX10_both 25 = .ok (.ifCond .eq 11, 3) := by decide +kernel
theorem dX10_both_28 : decode cX10_both 28 = .ok (.iload_n 2, 1) := by decide +kernel
theorem dX10_both_29 : decode cX10_both 29 = .ok (.ifCond .eq 7, 3) := by decide +kernel
theorem dX10_both_32 : decode cX10_both 32 = .ok (.iconst 1, 1) := by decide +kernel
theorem dX10_both_33 : decode cX10_both 33 = .ok (.goto 4, 3) := by decide +kernel
theorem dX10_both_36 : decode cX10_both 36 = .ok (.iconst 0, 1) := by decide +kernel
theorem dX10_both_37 : decode cX10_both 37 = .ok (.istore_n 1, 1) := by decide +kernel
theorem dX10_both_38 : decode cX10_both 38 = .ok (.goto (-33), 3) := by decide +kernel
theorem dX10_both_41 : decode cX10_both 41 = .ok (.iload_n 1, 1) := by decide +kernel
theorem dX10_both_42 : decode cX10_both 42 = .ok (.ireturn, 1) := by decide +kernel
theorem dX10_either_0 : decode cX10_either 0 = .ok (.aload_n 0, 1) := by decide +kernel
theorem dX10_either_1 : decode cX10_either 1 = .ok (.invokevirtual 290, 3) := by decide +kernel
theorem dX10_either_4 : decode cX10_either 4 = .ok (.istore_n 1, 1) := by decide +kernel
theorem dX10_either_5 : decode cX10_either 5 = .ok (.aload_n 0, 1) := by decide +kernel
theorem dX10_either_6 : decode cX10_either 6 = .ok (.ldc2_w 293, 3) := by decide +kernel
theorem dX10_either_9 : decode cX10_either 9 = .ok (.invokevirtual 234, 3) := by decide +kernel
theorem dX10_either_12 : decode cX10_either 12 = .ok (.ifCond .eq 29, 3) := by decide +kernel
theorem dX10_either_15 : decode cX10_either 15 = .ok (.aload_n 0, 1) := by decide +kernel
theorem dX10_either_16 : decode cX10_either 16 = .ok (.invokevirtual 229, 3) := by decide +kernel
theorem dX10_either_19 : decode cX10_either 19 = .ok (.aload_n 0, 1) := by decide +kernel
theorem dX10_either_20 : decode cX10_either 20 = .ok (.invokevirtual 290, 3) := by decide +kernel
theorem dX10_either_23 : decode cX10_either 23 = .ok (.istore_n 2, 1) := by decide +kernel
theorem dX10_either_24 : decode cX10_either 24 = .ok (.iload_n 1, 1) := by decide +kernel
theorem dX10_either_25 : decode cX10_either 25 = .ok (.ifCond .ne 7, 3) := by decide +kernel
theorem dX10_either_28 : decode cX10_either 28 = .ok (.iload_n 2, 1) := by decide +kernel
theorem dX10_either_29 : decode cX10_either 29 = .ok (.ifCond .eq 7, 3) := by decide +kernel
theorem dX10_either_32 : decode cX10_either 32 = .ok (.iconst 1, 1) := by decide +kernel
theorem dX10_either_33 : decode cX10_either 33 = .ok (.goto 4, 3) := by decide +kernel
theorem dX10_either_36 : decode cX10_either 36 = .ok (.iconst 0, 1) := by decide +kernel
theorem dX10_either_37 : decode cX10_either 37 = .ok (.istore_n 1, 1) := by decide +kernel
theorem dX10_either_38 : decode cX10_either 38 = .ok (.goto (-33), 3) := by decide +kernel
theorem dX10_either_41 : decode cX10_either 41 = .ok (.iload_n 1, 1) := by decide +kernel
theorem dX10_either_42 : decode cX10_either 42 = .ok (.ireturn, 1) := by decide +kernel
theorem dX10_part_0 : decode cX10_part 0 = .ok (.aload_n 0, 1) := by decide +kernel
theorem dX10_part_1 : decode cX10_part 1 = .ok (.lload_n 1, 1) := by decide +kernel
theorem dX10_part_2 : decode cX10_part 2 = .ok (.invokevirtual 234, 3) := by decide +kernel
theorem dX10_part_5 : decode cX10_part 5 = .ok (.ifCond .ne 7, 3) := by decide +kernel
theorem dX10_part_8 : decode cX10_part 8 = .ok (.aload_n 0, 1) := by decide +kernel
theorem dX10_part_9 : decode cX10_part 9 = .ok (.invokevirtual 226, 3) := by decide +kernel
theorem dX10_part_12 : decode cX10_part 12 = .ok (.aload_n 0, 1) := by decide +kernel
theorem dX10_part_13 : decode cX10_part 13 = .ok (.getfield 216, 3) := by decide +kernel
theorem dX10_part_16 : decode cX10_part 16 = .ok (.ifCond .ne 7, 3) := by decide +kernel
theorem dX10_part_19 : decode cX10_part 19 = .ok (.aload_n 0, 1) := by decide +kernel
theorem dX10_part_20 : decode cX10_part 20 = .ok (.invokevirtual 229, 3) := by decide +kernel
theorem dX10_part_23 : decode cX10_part 23 = .ok (.aload_n 0, 1) := by decide +kernel
theorem dX10_part_24 : decode cX10_part 24 = .ok (.getfield 216, 3) := by decide +kernel
theorem dX10_part_27 : decode cX10_part 27 = .ok (.ifCond .eq 7, 3) := by decide +kernel
theorem dX10_part_30 : decode cX10_part 30 = .ok (.iconst 0, 1) := by decide +kernel
theorem dX10_part_31 : decode cX10_part 31 = .ok (.goto 7, 3) := by decide +kernel
theorem dX10_part_34 : decode cX10_part 34 = .ok (.aload_n 0, 1) := by decide +kernel
theorem dX10_part_35 : decode cX10_part 35 = .ok (.invokevirtual 267, 3) := by decide +kernel
theorem dX10_part_38 : decode cX10_part 38 = .ok (.istore_n 3, 1) := by decide +kernel
theorem dX10_part_39 : decode cX10_part 39 = .ok (.aload_n 0, 1) := by decide +kernel
theorem dX10_part_40 : decode cX10_part 40 = .ok (.bipush 59, 2) := by decide +kernel
theorem dX10_part_42 : decode cX10_part 42 = .ok (.invokevirtual 257, 3) := by decide +kernel
theorem dX10_part_45 : decode cX10_part 45 = .ok (.ifCond .ne 7, 3) := by decide +kernel
theorem dX10_part_48 : decode cX10_part 48 = .ok (.aload_n 0, 1) := by decide +kernel
theorem dX10_part_49 : decode cX10_part 49 = .ok (.invokevirtual 226, 3) := by decide +kernel
theorem dX10_part_52 : decode cX10_part 52 = .ok (.aload_n 0, 1) := by decide +kernel
theorem dX10_part_53 : decode cX10_part 53 = .ok (.getfield 216, 3) := by decide +kernel
theorem dX10_part_56 : decode cX10_part 56 = .ok (.ifCond .ne 7, 3) := by decide +kernel
theorem dX10_part_59 : decode cX10_part 59 = .ok (.aload_n 0, 1) := by decide +kernel
theorem dX10_part_60 : decode cX10_part 60 = .ok (.invokevirtual 229, 3) := by decide +kernel
theorem dX10_part_63 : decode cX10_part 63 = .ok (.iload_n 3, 1) := by decide +kernel
theorem dX10_part_64 : decode cX10_part 64 = .ok (.ireturn, 1) := by decide +kernel
theorem dX10_read_0 : decode cX10_read 0 = .ok (.aload_n 0, 1) := by decide +kernel
theorem dX10_read_1 : decode cX10_read 1 = .ok (.iload_n 2, 1) := by decide +kernel
theorem dX10_read_2 : decode cX10_read 2 = .ok (.putfield 238, 3) := by decide +kernel
theorem dX10_read_5 : decode cX10_read 5 = .ok (.aload_n 0, 1) := by decide +kernel
theorem dX10_read_6 : decode cX10_read 6 = .ok (.iload_n 3, 1) := by decide +kernel
theorem dX10_read_7 : decode cX10_read 7 = .ok (.aload_n 0, 1) := by decide +kernel
theorem dX10_read_8 : decode cX10_read 8 = .ok (.getfield 50, 3) := by decide +kernel
theorem dX10_read_11 : decode cX10_read 11 = .ok (.iload_n 2, 1) := by decide +kernel
theorem dX10_read_12 : decode cX10_read 12 = .ok (.iaload, 1) := by decide +kernel
theorem dX10_read_13 : decode cX10_read 13 = .ok (.isub, 1) := by decide +kernel
theorem dX10_read_14 : decode cX10_read 14 = .ok (.putfield 243, 3) := by decide +kernel
theorem dX10_read_17 : decode cX10_read 17 = .ok (.aload_n 0, 1) := by decide +kernel
theorem dX10_read_18 : decode cX10_read 18 = .ok (.sipush 160, 3) := by decide +kernel
theorem dX10_read_21 : decode cX10_read 21 = .ok (.iload_n 1, 1) := by decide +kernel
theorem dX10_read_22 : decode cX10_read 22 = .ok (.imul, 1) := by decide +kernel
theorem dX10_read_23 : decode cX10_read 23 = .ok (.putfield 182, 3) := by decide +kernel
theorem dX10_read_26 : decode cX10_read 26 = .ok (.aload_n 0, 1) := by decide +kernel
theorem dX10_read_27 : decode cX10_read 27 = .ok (.aload_n 0, 1) := by decide +kernel
theorem dX10_read_28 : decode cX10_read 28 = .ok (.getfield 17, 3) := by decide +kernel
theorem dX10_read_31 : decode cX10_read 31 = .ok (.iload_n 1, 1) := by decide +kernel
theorem dX10_read_32 : decode cX10_read 32 = .ok (.iaload, 1) := by decide +kernel
theorem dX10_read_33 : decode cX10_read 33 = .ok (.putfield 179, 3) := by decide +kernel
theorem dX10_read_36 : decode cX10_read 36 = .ok (.aload_n 0, 1) := by decide +kernel
theorem dX10_read_37 : decode cX10_read 37 = .ok (.iconst 0, 1) := by decide +kernel
theorem dX10_read_38 : decode cX10_read 38 = .ok (.putfield 185, 3) := by decide +kernel
theorem dX10_read_41 : decode cX10_read 41 = .ok (.aload_n 0, 1) := by decide +kernel
theorem dX10_read_42 : decode cX10_read 42 = .ok (.iconst 0, 1) := by decide +kernel
theorem dX10_read_43 : decode cX10_read 43 = .ok (.putfield 223, 3) := by decide +kernel
theorem dX10_read_46 : decode cX10_read 46 = .ok (.aload_n 0, 1) := by decide +kernel
theorem dX10_read_47 : decode cX10_read 47 = .ok (.iconst 0, 1) := by decide +kernel
theorem dX10_read_48 : decode cX10_read 48 = .ok (.putfield 216, 3) := by decide +kernel
theorem dX10_read_51 : decode cX10_read 51 = .ok (.aload_n 0, 1) := by decide +kernel
theorem dX10_read_52 : decode cX10_read 52 = .ok (.invokevirtual 229, 3) := by decide +kernel
theorem dX10_read_55 : decode cX10_read 55 = .ok (.aload_n 0, 1) := by decide +kernel
theorem dX10_read_56 : decode cX10_read 56 = .ok (.ldc2_w 295, 3) := by decide +kernel
theorem dX10_read_59 : decode cX10_read 59 = .ok (.invokevirtual 297, 3) := by decide +kernel
theorem dX10_read_62 : decode cX10_read 62 = .ok (.istore 5, 2) := by decide +kernel
theorem dX10_read_64 : decode cX10_read 64 = .ok (.aload_n 0, 1) := by decide +kernel
theorem dX10_read_65 : decode cX10_read 65 = .ok (.getfield 216, 3) := by decide +kernel
theorem dX10_read_68 : decode cX10_read 68 = .ok (.ifCond .eq 7, 3) := by decide +kernel
theorem dX10_read_71 : decode cX10_read 71 = .ok (.iconst 0, 1) := by decide +kernel
theorem dX10_read_72 : decode cX10_read 72 = .ok (.goto 10, 3) := by decide +kernel
theorem dX10_read_75 : decode cX10_read 75 = .ok (.aload_n 0, 1) := by decide +kernel
theorem dX10_read_76 : decode cX10_read 76 = .ok (.ldc2_w 301, 3) := by decide +kernel
theorem dX10_read_79 : decode cX10_read 79 = .ok (.invokevirtual 297, 3) := by decide +kernel
theorem dX10_read_82 : decode cX10_read 82 = .ok (.istore 6, 2) := by decide +kernel
theorem dX10_read_84 : decode cX10_read 84 = .ok (.aload_n 0, 1) := by decide +kernel
theorem dX10_read_85 : decode cX10_read 85 = .ok (.getfield 216, 3) := by decide +kernel
theorem dX10_read_88 : decode cX10_read 88 = .ok (.ifCond .eq 7, 3) := by decide +kernel
theorem dX10_read_91 : decode cX10_read 91 = .ok (.iconst 0, 1) := by decide +kernel
theorem dX10_read_92 : decode cX10_read 92 = .ok (.goto 10, 3) := by decide +kernel
theorem dX10_read_95 : decode cX10_read 95 = .ok (.aload_n 0, 1) := by decide +kernel
theorem dX10_read_96 : decode cX10_read 96 = .ok (.ldc2_w 303, 3) := by decide +kernel
theorem dX10_read_99 : decode cX10_read 99 = .ok (.invokevirtual 297, 3) := by decide +kernel
theorem dX10_read_102 : decode cX10_read 102 = .ok (.istore 7, 2) := by decide +kernel
theorem dX10_read_104 : decode cX10_read 104 = .ok (.aload_n 0, 1) := by decide +kernel
theorem dX10_read_105 : decode cX10_read 105 = .ok (.getfield 216, 3) := by decide +kernel
theorem dX10_read_108 : decode cX10_read 108 = .ok (.ifCond .ne 14, 3) := by decide +kernel
theorem dX10_read_111 : decode cX10_read 111 = .ok (.aload_n 0, 1) := by decide +kernel
theorem dX10_read_112 : decode cX10_read 112 = .ok (.getfield 195, 3) := by decide +kernel
theorem dX10_read_115 : decode cX10_read 115 = .ok (.ifCond .eq 7, 3) := by decide +kernel
theorem dX10_read_118 : decode cX10_read 118 = .ok (.aload_n 0, 1) := by decide +kernel
theorem dX10_read_119 : decode cX10_read 119 = .ok (.invokevirtual 226, 3) := by decide +kernel
theorem dX10_read_122 : decode cX10_read 122 = .ok (.iload 4, 2) := by decide +kernel
theorem dX10_read_124 : decode cX10_read 124 = .ok (.ifCond .ne 8, 3) := by decide +kernel
theorem dX10_read_127 : decode cX10_read 127 = .ok (.iload 5, 2) := by decide +kernel
theorem dX10_read_129 : decode cX10_read 129 = .ok (.goto 16, 3) := by decide +kernel
theorem dX10_read_132 : decode cX10_read 132 = .ok (.iload 4, 2) := by decide +kernel
theorem dX10_read_134 : decode cX10_read 134 = .ok (.iconst 1, 1) := by decide +kernel
theorem dX10_read_135 : decode cX10_read 135 = .ok (.if_icmp .ne 8, 3) := by decide +kernel
theorem dX10_read_138 : decode cX10_read 138 = .ok (.iload 6, 2) := by decide +kernel
theorem dX10_read_140 : decode cX10_read 140 = .ok (.goto 5, 3) := by decide +kernel
theorem dX10_read_143 : decode cX10_read 143 = .ok (.iload 7, 2) := by decide +kernel
theorem dX10_read_145 : decode cX10_read 145 = .ok (.ireturn, 1) := by decide +kernel
theorem dX10_text_0 : decode cX10_text 0 = .ok (.aload_n 0, 1) := by decide +kernel
theorem dX10_text_1 : decode cX10_text 1 = .ok (.getfield 106, 3) := by decide +kernel
theorem dX10_text_4 : decode cX10_text 4 = .ok (.bipush 6, 2) := by decide +kernel
theorem dX10_text_6 : decode cX10_text 6 = .ok (.if_icmp .ne 6, 3) := by decide +kernel
theorem dX10_text_9 : decode cX10_text 9 = .ok (.bipush (-4), 2) := by decide +kernel
theorem dX10_text_11 : decode cX10_text 11 = .ok (.ireturn, 1) := by decide +kernel
theorem dX10_text_12 : decode cX10_text 12 = .ok (.iconst 0, 1) := by decide +kernel
theorem dX10_text_13 : decode cX10_text 13 = .ok (.istore_n 1, 1) := by decide +kernel
theorem dX10_text_14 : decode cX10_text 14 = .ok (.iload_n 1, 1) := by decide +kernel
theorem dX10_text_15 : decode cX10_text 15 = .ok (.aload_n 0, 1) := by decide +kernel
theorem dX10_text_16 : decode cX10_text 16 = .ok (.getfield 176, 3) := by decide +kernel
theorem dX10_text_19 : decode cX10_text 19 = .ok (.if_icmp .ge 30, 3) := by decide +kernel
theorem dX10_text_22 : decode cX10_text 22 = .ok (.aload_n 0, 1) := by decide +kernel
theorem dX10_text_23 : decode cX10_text 23 = .ok (.getfield 13, 3) := by decide +kernel
theorem dX10_text_26 : decode cX10_text 26 = .ok (.sipush 160, 3) := by decide +kernel
theorem dX10_text_29 : decode cX10_text 29 = .ok (.aload_n 0, 1) := by decide +kernel
theorem dX10_text_30 : decode cX10_text 30 = .ok (.getfield 106, 3) := by decide +kernel
theorem dX10_text_33 : decode cX10_text 33 = .ok (.imul, 1) := by decide +kernel
theorem dX10_text_34 : decode cX10_text 34 = .ok (.iload_n 1, 1) := by decide +kernel
theorem dX10_text_35 : decode cX10_text 35 = .ok (.iadd, 1) := by decide +kernel
theorem dX10_text_36 : decode cX10_text 36 = .ok (.aload_n 0, 1) := by decide +kernel
theorem dX10_text_37 : decode cX10_text 37 = .ok (.getfield 20, 3) := by decide +kernel
theorem dX10_text_40 : decode cX10_text 40 = .ok (.iload_n 1, 1) := by decide +kernel
theorem dX10_text_41 : decode cX10_text 41 = .ok (.iaload, 1) := by decide +kernel
theorem dX10_text_42 : decode cX10_text 42 = .ok (.iastore, 1) := by decide +kernel
theorem dX10_text_43 : decode cX10_text 43 = .ok (.iinc 1 1, 3) := by decide +kernel
theorem dX10_text_46 : decode cX10_text 46 = .ok (.goto (-32), 3) := by decide +kernel
theorem dX10_text_49 : decode cX10_text 49 = .ok (.aload_n 0, 1) := by decide +kernel
theorem dX10_text_50 : decode cX10_text 50 = .ok (.getfield 17, 3) := by decide +kernel
theorem dX10_text_53 : decode cX10_text 53 = .ok (.aload_n 0, 1) := by decide +kernel
theorem dX10_text_54 : decode cX10_text 54 = .ok (.getfield 106, 3) := by decide +kernel
theorem dX10_text_57 : decode cX10_text 57 = .ok (.aload_n 0, 1) := by decide +kernel
theorem dX10_text_58 : decode cX10_text 58 = .ok (.getfield 176, 3) := by decide +kernel
theorem dX10_text_61 : decode cX10_text 61 = .ok (.iastore, 1) := by decide +kernel
theorem dX10_text_62 : decode cX10_text 62 = .ok (.aload_n 0, 1) := by decide +kernel
theorem dX10_text_63 : decode cX10_text 63 = .ok (.iconst 0, 1) := by decide +kernel
theorem dX10_text_64 : decode cX10_text 64 = .ok (.putfield 176, 3) := by decide +kernel
theorem dX10_text_67 : decode cX10_text 67 = .ok (.aload_n 0, 1) := by decide +kernel
theorem dX10_text_68 : decode cX10_text 68 = .ok (.aload_n 0, 1) := by decide +kernel
theorem dX10_text_69 : decode cX10_text 69 = .ok (.getfield 106, 3) := by decide +kernel
theorem dX10_text_72 : decode cX10_text 72 = .ok (.iconst 0, 1) := by decide +kernel
theorem dX10_text_73 : decode cX10_text 73 = .ok (.iconst 0, 1) := by decide +kernel
theorem dX10_text_74 : decode cX10_text 74 = .ok (.iconst 0, 1) := by decide +kernel
theorem dX10_text_75 : decode cX10_text 75 = .ok (.invokevirtual 305, 3) := by decide +kernel
theorem dX10_text_78 : decode cX10_text 78 = .ok (.istore_n 1, 1) := by decide +kernel
theorem dX10_text_79 : decode cX10_text 79 = .ok (.aload_n 0, 1) := by decide +kernel
theorem dX10_text_80 : decode cX10_text 80 = .ok (.getfield 216, 3) := by decide +kernel
theorem dX10_text_83 : decode cX10_text 83 = .ok (.ifCond .eq 11, 3) := by decide +kernel
theorem dX10_text_86 : decode cX10_text 86 = .ok (.bipush (-100), 2) := by decide +kernel
theorem dX10_text_88 : decode cX10_text 88 = .ok (.aload_n 0, 1) := by decide +kernel
theorem dX10_text_89 : decode cX10_text 89 = .ok (.getfield 220, 3) := by decide +kernel
theorem dX10_text_92 : decode cX10_text 92 = .ok (.isub, 1) := by decide +kernel
theorem dX10_text_93 : decode cX10_text 93 = .ok (.ireturn, 1) := by decide +kernel
theorem dX10_text_94 : decode cX10_text 94 = .ok (.aload_n 0, 1) := by decide +kernel
theorem dX10_text_95 : decode cX10_text 95 = .ok (.dup, 1) := by decide +kernel
theorem dX10_text_96 : decode cX10_text 96 = .ok (.getfield 106, 3) := by decide +kernel
theorem dX10_text_99 : decode cX10_text 99 = .ok (.iconst 1, 1) := by decide +kernel
theorem dX10_text_100 : decode cX10_text 100 = .ok (.iadd, 1) := by decide +kernel
theorem dX10_text_101 : decode cX10_text 101 = .ok (.putfield 106, 3) := by decide +kernel
theorem dX10_text_104 : decode cX10_text 104 = .ok (.aload_n 0, 1) := by decide +kernel
theorem dX10_text_105 : decode cX10_text 105 = .ok (.getfield 106, 3) := by decide +kernel
theorem dX10_text_108 : decode cX10_text 108 = .ok (.iconst 1, 1) := by decide +kernel
theorem dX10_text_109 : decode cX10_text 109 = .ok (.isub, 1) := by decide +kernel
theorem dX10_text_110 : decode cX10_text 110 = .ok (.ireturn, 1) := by decide +kernel
theorem dX10_force_0 : decode cX10_force 0 = .ok (.iload_n 1, 1) := by decide +kernel
theorem dX10_force_1 : decode cX10_force 1 = .ok (.i2l, 1) := by decide +kernel
theorem dX10_force_2 : decode cX10_force 2 = .ok (.lconst 0, 1) := by decide +kernel
theorem dX10_force_3 : decode cX10_force 3 = .ok (.aload_n 0, 1) := by decide +kernel
theorem dX10_force_4 : decode cX10_force 4 = .ok (.getfield 106, 3) := by decide +kernel
theorem dX10_force_7 : decode cX10_force 7 = .ok (.iconst 1, 1) := by decide +kernel
theorem dX10_force_8 : decode cX10_force 8 = .ok (.isub, 1) := by decide +kernel
theorem dX10_force_9 : decode cX10_force 9 = .ok (.i2l, 1) := by decide +kernel
theorem dX10_force_10 : decode cX10_force 10 = .ok (.invokestatic 114, 3) := by decide +kernel
theorem dX10_force_13 : decode cX10_force 13 = .ok (.ifCond .ne 6, 3) := by decide +kernel
theorem dX10_force_16 : decode cX10_force 16 = .ok (.bipush (-2), 2) := by decide +kernel
theorem dX10_force_18 : decode cX10_force 18 = .ok (.ireturn, 1) := by decide +kernel
theorem dX10_force_19 : decode cX10_force 19 = .ok (.aload_n 0, 1) := by decide +kernel
theorem dX10_force_20 : decode cX10_force 20 = .ok (.getfield 309, 3) := by decide +kernel
theorem dX10_force_23 : decode cX10_force 23 = .ok (.istore_n 2, 1) := by decide +kernel
theorem dX10_force_24 : decode cX10_force 24 = .ok (.aload_n 0, 1) := by decide +kernel
theorem dX10_force_25 : decode cX10_force 25 = .ok (.iload_n 1, 1) := by decide +kernel
theorem dX10_force_26 : decode cX10_force 26 = .ok (.putfield 309, 3) := by decide +kernel
theorem dX10_force_29 : decode cX10_force 29 = .ok (.iload_n 2, 1) := by decide +kernel
theorem dX10_force_30 : decode cX10_force 30 = .ok (.ireturn, 1) := by decide +kernel
theorem dX10_dueOf_0 : decode cX10_dueOf 0 = .ok (.aload_n 0, 1) := by decide +kernel
theorem dX10_dueOf_1 : decode cX10_dueOf 1 = .ok (.getfield 47, 3) := by decide +kernel
theorem dX10_dueOf_4 : decode cX10_dueOf 4 = .ok (.iload_n 1, 1) := by decide +kernel
theorem dX10_dueOf_5 : decode cX10_dueOf 5 = .ok (.iaload, 1) := by decide +kernel
theorem dX10_dueOf_6 : decode cX10_dueOf 6 = .ok (.aload_n 0, 1) := by decide +kernel
theorem dX10_dueOf_7 : decode cX10_dueOf 7 = .ok (.getfield 44, 3) := by decide +kernel
theorem dX10_dueOf_10 : decode cX10_dueOf 10 = .ok (.iload_n 1, 1) := by decide +kernel
theorem dX10_dueOf_11 : decode cX10_dueOf 11 = .ok (.iaload, 1) := by decide +kernel
theorem dX10_dueOf_12 : decode cX10_dueOf 12 = .ok (.imul, 1) := by decide +kernel
theorem dX10_dueOf_13 : decode cX10_dueOf 13 = .ok (.ireturn, 1) := by decide +kernel
theorem dX10_within_0 : decode cX10_within 0 = .ok (.iload_n 0, 1) := by decide +kernel
theorem dX10_within_1 : decode cX10_within 1 = .ok (.iload_n 1, 1) := by decide +kernel
theorem dX10_within_2 : decode cX10_within 2 = .ok (.if_icmp .ge 7, 3) := by decide +kernel
theorem dX10_within_5 : decode cX10_within 5 = .ok (.iload_n 1, 1) := by decide +kernel
theorem dX10_within_6 : decode cX10_within 6 = .ok (.goto 13, 3) := by decide +kernel
theorem dX10_within_9 : decode cX10_within 9 = .ok (.iload_n 0, 1) := by decide +kernel
theorem dX10_within_10 : decode cX10_within 10 = .ok (.iload_n 2, 1) := by decide +kernel
theorem dX10_within_11 : decode cX10_within 11 = .ok (.if_icmp .le 7, 3) := by decide +kernel
theorem dX10_within_14 : decode cX10_within 14 = .ok (.iload_n 2, 1) := by decide +kernel
theorem dX10_within_15 : decode cX10_within 15 = .ok (.goto 4, 3) := by decide +kernel
theorem dX10_within_18 : decode cX10_within 18 = .ok (.iload_n 0, 1) := by decide +kernel
theorem dX10_within_19 : decode cX10_within 19 = .ok (.ireturn, 1) := by decide +kernel
theorem dX10_owesOf_0 : decode cX10_owesOf 0 = .ok (.iload_n 2, 1) := by decide +kernel
theorem dX10_owesOf_1 : decode cX10_owesOf 1 = .ok (.aload_n 0, 1) := by decide +kernel
theorem dX10_owesOf_2 : decode cX10_owesOf 2 = .ok (.getfield 50, 3) := by decide +kernel
theorem dX10_owesOf_5 : decode cX10_owesOf 5 = .ok (.iload_n 1, 1) := by decide +kernel
theorem dX10_owesOf_6 : decode cX10_owesOf 6 = .ok (.iaload, 1) := by decide +kernel
theorem dX10_owesOf_7 : decode cX10_owesOf 7 = .ok (.if_icmp .ge 5, 3) := by decide +kernel
theorem dX10_owesOf_10 : decode cX10_owesOf 10 = .ok (.lconst 0, 1) := by decide +kernel
theorem dX10_owesOf_11 : decode cX10_owesOf 11 = .ok (.lreturn, 1) := by decide +kernel
theorem dX10_owesOf_12 : decode cX10_owesOf 12 = .ok (.aload_n 0, 1) := by decide +kernel
theorem dX10_owesOf_13 : decode cX10_owesOf 13 = .ok (.iload_n 1, 1) := by decide +kernel
theorem dX10_owesOf_14 : decode cX10_owesOf 14 = .ok (.invokevirtual 254, 3) := by decide +kernel
theorem dX10_owesOf_17 : decode cX10_owesOf 17 = .ok (.i2l, 1) := by decide +kernel
theorem dX10_owesOf_18 : decode cX10_owesOf 18 = .ok (.aload_n 0, 1) := by decide +kernel
theorem dX10_owesOf_19 : decode cX10_owesOf 19 = .ok (.aload_n 0, 1) := by decide +kernel
theorem dX10_owesOf_20 : decode cX10_owesOf 20 = .ok (.getfield 309, 3) := by decide +kernel
theorem dX10_owesOf_23 : decode cX10_owesOf 23 = .ok (.iload_n 1, 1) := by decide +kernel
theorem dX10_owesOf_24 : decode cX10_owesOf 24 = .ok (.iload_n 2, 1) := by decide +kernel
theorem dX10_owesOf_25 : decode cX10_owesOf 25 = .ok (.iconst 0, 1) := by decide +kernel
theorem dX10_owesOf_26 : decode cX10_owesOf 26 = .ok (.invokevirtual 305, 3) := by decide +kernel
theorem dX10_owesOf_29 : decode cX10_owesOf 29 = .ok (.iconst 0, 1) := by decide +kernel
theorem dX10_owesOf_30 : decode cX10_owesOf 30 = .ok (.sipush 9999, 3) := by decide +kernel
theorem dX10_owesOf_33 : decode cX10_owesOf 33 = .ok (.invokestatic 312, 3) := by decide +kernel
theorem dX10_owesOf_36 : decode cX10_owesOf 36 = .ok (.i2l, 1) := by decide +kernel
theorem dX10_owesOf_37 : decode cX10_owesOf 37 = .ok (.ladd, 1) := by decide +kernel
theorem dX10_owesOf_38 : decode cX10_owesOf 38 = .ok (.aload_n 0, 1) := by decide +kernel
theorem dX10_owesOf_39 : decode cX10_owesOf 39 = .ok (.aload_n 0, 1) := by decide +kernel
theorem dX10_owesOf_40 : decode cX10_owesOf 40 = .ok (.getfield 309, 3) := by decide +kernel
theorem dX10_owesOf_43 : decode cX10_owesOf 43 = .ok (.iload_n 1, 1) := by decide +kernel
theorem dX10_owesOf_44 : decode cX10_owesOf 44 = .ok (.iload_n 2, 1) := by decide +kernel
theorem dX10_owesOf_45 : decode cX10_owesOf 45 = .ok (.iconst 1, 1) := by decide +kernel
theorem dX10_owesOf_46 : decode cX10_owesOf 46 = .ok (.invokevirtual 305, 3) := by decide +kernel
theorem dX10_owesOf_49 : decode cX10_owesOf 49 = .ok (.iconst 0, 1) := by decide +kernel
theorem dX10_owesOf_50 : decode cX10_owesOf 50 = .ok (.aload_n 0, 1) := by decide +kernel
theorem dX10_owesOf_51 : decode cX10_owesOf 51 = .ok (.iload_n 1, 1) := by decide +kernel
theorem dX10_owesOf_52 : decode cX10_owesOf 52 = .ok (.invokevirtual 254, 3) := by decide +kernel
theorem dX10_owesOf_55 : decode cX10_owesOf 55 = .ok (.invokestatic 312, 3) := by decide +kernel
theorem dX10_owesOf_58 : decode cX10_owesOf 58 = .ok (.i2l, 1) := by decide +kernel
theorem dX10_owesOf_59 : decode cX10_owesOf 59 = .ok (.lsub, 1) := by decide +kernel
theorem dX10_owesOf_60 : decode cX10_owesOf 60 = .ok (.aload_n 0, 1) := by decide +kernel
theorem dX10_owesOf_61 : decode cX10_owesOf 61 = .ok (.getfield 56, 3) := by decide +kernel
theorem dX10_owesOf_64 : decode cX10_owesOf 64 = .ok (.iload_n 1, 1) := by decide +kernel
theorem dX10_owesOf_65 : decode cX10_owesOf 65 = .ok (.iaload, 1) := by decide +kernel
theorem dX10_owesOf_66 : decode cX10_owesOf 66 = .ok (.i2l, 1) := by decide +kernel
theorem dX10_owesOf_67 : decode cX10_owesOf 67 = .ok (.lsub, 1) := by decide +kernel
theorem dX10_owesOf_68 : decode cX10_owesOf 68 = .ok (.lreturn, 1) := by decide +kernel
theorem dX10_owes_0 : decode cX10_owes 0 = .ok (.aload_n 0, 1) := by decide +kernel
theorem dX10_owes_1 : decode cX10_owes 1 = .ok (.iload_n 1, 1) := by decide +kernel
theorem dX10_owes_2 : decode cX10_owes 2 = .ok (.invokevirtual 141, 3) := by decide +kernel
theorem dX10_owes_5 : decode cX10_owes 5 = .ok (.ifCond .eq 19, 3) := by decide +kernel
theorem dX10_owes_8 : decode cX10_owes 8 = .ok (.iload_n 2, 1) := by decide +kernel
theorem dX10_owes_9 : decode cX10_owes 9 = .ok (.invokestatic 138, 3) := by decide +kernel
theorem dX10_owes_12 : decode cX10_owes 12 = .ok (.ifCond .eq 12, 3) := by decide +kernel
theorem dX10_owes_15 : decode cX10_owes 15 = .ok (.aload_n 0, 1) := by decide +kernel
theorem dX10_owes_16 : decode cX10_owes 16 = .ok (.iload_n 1, 1) := by decide +kernel
theorem dX10_owes_17 : decode cX10_owes 17 = .ok (.iload_n 2, 1) := by decide +kernel
theorem dX10_owes_18 : decode cX10_owes 18 = .ok (.invokevirtual 316, 3) := by decide +kernel
theorem dX10_owes_21 : decode cX10_owes 21 = .ok (.goto 6, 3) := by decide +kernel
theorem dX10_owes_24 : decode cX10_owes 24 = .ok (.ldc2_w 168, 3) := by decide +kernel
theorem dX10_owes_27 : decode cX10_owes 27 = .ok (.lreturn, 1) := by decide +kernel
theorem dX10_balance_0 : decode cX10_balance 0 = .ok (.iload_n 1, 1) := by decide +kernel
theorem dX10_balance_1 : decode cX10_balance 1 = .ok (.invokestatic 125, 3) := by decide +kernel
theorem dX10_balance_4 : decode cX10_balance 4 = .ok (.ifCond .eq 10, 3) := by decide +kernel
theorem dX10_balance_7 : decode cX10_balance 7 = .ok (.iload_n 2, 1) := by decide +kernel
theorem dX10_balance_8 : decode cX10_balance 8 = .ok (.invokestatic 138, 3) := by decide +kernel
theorem dX10_balance_11 : decode cX10_balance 11 = .ok (.ifCond .ne 7, 3) := by decide +kernel
theorem dX10_balance_14 : decode cX10_balance 14 = .ok (.ldc2_w 168, 3) := by decide +kernel
theorem dX10_balance_17 : decode cX10_balance 17 = .ok (.lreturn, 1) := by decide +kernel
theorem dX10_balance_18 : decode cX10_balance 18 = .ok (.lconst 0, 1) := by decide +kernel
theorem dX10_balance_19 : decode cX10_balance 19 = .ok (.lstore_n 3, 1) := by decide +kernel
theorem dX10_balance_20 : decode cX10_balance 20 = .ok (.iconst 0, 1) := by decide +kernel
theorem dX10_balance_21 : decode cX10_balance 21 = .ok (.istore 5, 2) := by decide +kernel
theorem dX10_balance_23 : decode cX10_balance 23 = .ok (.iload 5, 2) := by decide +kernel
theorem dX10_balance_25 : decode cX10_balance 25 = .ok (.aload_n 0, 1) := by decide +kernel
theorem dX10_balance_26 : decode cX10_balance 26 = .ok (.getfield 118, 3) := by decide +kernel
theorem dX10_balance_29 : decode cX10_balance 29 = .ok (.if_icmp .ge 65, 3) := by decide +kernel
theorem dX10_balance_32 : decode cX10_balance 32 = .ok (.aload_n 0, 1) := by decide +kernel
theorem dX10_balance_33 : decode cX10_balance 33 = .ok (.getfield 38, 3) := by decide +kernel
theorem dX10_balance_36 : decode cX10_balance 36 = .ok (.iload 5, 2) := by decide +kernel
theorem dX10_balance_38 : decode cX10_balance 38 = .ok (.iaload, 1) := by decide +kernel
theorem dX10_balance_39 : decode cX10_balance 39 = .ok (.iload_n 1, 1) := by decide +kernel
theorem dX10_balance_40 : decode cX10_balance 40 = .ok (.if_icmp .eq 17, 3) := by decide +kernel
theorem dX10_balance_43 : decode cX10_balance 43 = .ok (.aload_n 0, 1) := by decide +kernel
theorem dX10_balance_44 : decode cX10_balance 44 = .ok (.getfield 41, 3) := by decide +kernel
theorem dX10_balance_47 : decode cX10_balance 47 = .ok (.iload 5, 2) := by decide +kernel
theorem dX10_balance_49 : decode cX10_balance 49 = .ok (.iaload, 1) := by decide +kernel
theorem dX10_balance_50 : decode cX10_balance 50 = .ok (.iload_n 1, 1) := by decide +kernel
theorem dX10_balance_51 : decode cX10_balance 51 = .ok (.if_icmp .eq 6, 3) := by decide +kernel
theorem dX10_balance_54 : decode cX10_balance 54 = .ok (.goto 34, 3) := by decide +kernel
theorem dX10_balance_57 : decode cX10_balance 57 = .ok (.aload_n 0, 1) := by decide +kernel
theorem dX10_balance_58 : decode cX10_balance 58 = .ok (.iload 5, 2) := by decide +kernel
theorem dX10_balance_60 : decode cX10_balance 60 = .ok (.iload_n 2, 1) := by decide +kernel
theorem dX10_balance_61 : decode cX10_balance 61 = .ok (.invokevirtual 316, 3) := by decide +kernel
theorem dX10_balance_64 : decode cX10_balance 64 = .ok (.lstore 6, 2) := by decide +kernel
theorem dX10_balance_66 : decode cX10_balance 66 = .ok (.lload_n 3, 1) := by decide +kernel
theorem dX10_balance_67 : decode cX10_balance 67 = .ok (.aload_n 0, 1) := by decide +kernel
theorem dX10_balance_68 : decode cX10_balance 68 = .ok (.getfield 38, 3) := by decide +kernel
theorem dX10_balance_71 : decode cX10_balance 71 = .ok (.iload 5, 2) := by decide +kernel
theorem dX10_balance_73 : decode cX10_balance 73 = .ok (.iaload, 1) := by decide +kernel
theorem dX10_balance_74 : decode cX10_balance 74 = .ok (.iload_n 1, 1) := by decide +kernel
theorem dX10_balance_75 : decode cX10_balance 75 = .ok (.if_icmp .ne 8, 3) := by decide +kernel
theorem dX10_balance_78 : decode cX10_balance 78 = .ok (.lload 6, 2) := by decide +kernel
theorem dX10_balance_80 : decode cX10_balance 80 = .ok (.goto 6, 3) := by decide +kernel
theorem dX10_balance_83 : decode cX10_balance 83 = .ok (.lload 6, 2) := by decide +kernel
theorem dX10_balance_85 : decode cX10_balance 85 = .ok (.lneg, 1) := by decide +kernel
theorem dX10_balance_86 : decode cX10_balance 86 = .ok (.ladd, 1) := by decide +kernel
theorem dX10_balance_87 : decode cX10_balance 87 = .ok (.lstore_n 3, 1) := by decide +kernel
theorem dX10_balance_88 : decode cX10_balance 88 = .ok (.iinc 5 1, 3) := by decide +kernel
theorem dX10_balance_91 : decode cX10_balance 91 = .ok (.goto (-68), 3) := by decide +kernel
theorem dX10_balance_94 : decode cX10_balance 94 = .ok (.lload_n 3, 1) := by decide +kernel
theorem dX10_balance_95 : decode cX10_balance 95 = .ok (.lreturn, 1) := by decide +kernel
theorem dX10_areSales_0 : decode cX10_areSales 0 = .ok (.iload_n 1, 1) := by decide +kernel
theorem dX10_areSales_1 : decode cX10_areSales 1 = .ok (.i2l, 1) := by decide +kernel
theorem dX10_areSales_2 : decode cX10_areSales 2 = .ok (.lconst 1, 1) := by decide +kernel
theorem dX10_areSales_3 : decode cX10_areSales 3 = .ok (.iconst 1, 1) := by decide +kernel
theorem dX10_areSales_4 : decode cX10_areSales 4 = .ok (.aload_n 0, 1) := by decide +kernel
theorem dX10_areSales_5 : decode cX10_areSales 5 = .ok (.getfield 118, 3) := by decide +kernel
theorem dX10_areSales_8 : decode cX10_areSales 8 = .ok (.ishl, 1) := by decide +kernel
theorem dX10_areSales_9 : decode cX10_areSales 9 = .ok (.iconst 1, 1) := by decide +kernel
theorem dX10_areSales_10 : decode cX10_areSales 10 = .ok (.isub, 1) := by decide +kernel
theorem dX10_areSales_11 : decode cX10_areSales 11 = .ok (.i2l, 1) := by decide +kernel
theorem dX10_areSales_12 : decode cX10_areSales 12 = .ok (.invokestatic 114, 3) := by decide +kernel
theorem dX10_areSales_15 : decode cX10_areSales 15 = .ok (.ifCond .ne 5, 3) := by decide +kernel
theorem dX10_areSales_18 : decode cX10_areSales 18 = .ok (.iconst 0, 1) := by decide +kernel
theorem dX10_areSales_19 : decode cX10_areSales 19 = .ok (.ireturn, 1) := by decide +kernel
theorem dX10_areSales_20 : decode cX10_areSales 20 = .ok (.iconst (-1), 1) := by decide +kernel
theorem dX10_areSales_21 : decode cX10_areSales 21 = .ok (.istore_n 2, 1) := by decide +kernel
theorem dX10_areSales_22 : decode cX10_areSales 22 = .ok (.iconst 0, 1) := by decide +kernel
theorem dX10_areSales_23 : decode cX10_areSales 23 = .ok (.istore_n 3, 1) := by decide +kernel
theorem dX10_areSales_24 : decode cX10_areSales 24 = .ok (.iload_n 3, 1) := by decide +kernel
theorem dX10_areSales_25 : decode cX10_areSales 25 = .ok (.aload_n 0, 1) := by decide +kernel
theorem dX10_areSales_26 : decode cX10_areSales 26 = .ok (.getfield 118, 3) := by decide +kernel
theorem dX10_areSales_29 : decode cX10_areSales 29 = .ok (.if_icmp .ge 44, 3) := by decide +kernel
theorem dX10_areSales_32 : decode cX10_areSales 32 = .ok (.iload_n 1, 1) := by decide +kernel
theorem dX10_areSales_33 : decode cX10_areSales 33 = .ok (.iload_n 3, 1) := by decide +kernel
theorem dX10_areSales_34 : decode cX10_areSales 34 = .ok (.ishr, 1) := by decide +kernel
theorem dX10_areSales_35 : decode cX10_areSales 35 = .ok (.iconst 1, 1) := by decide +kernel
theorem dX10_areSales_36 : decode cX10_areSales 36 = .ok (.iand, 1) := by decide +kernel
theorem dX10_areSales_37 : decode cX10_areSales 37 = .ok (.ifCond .ne 6, 3) := by decide +kernel
theorem dX10_areSales_40 : decode cX10_areSales 40 = .ok (.goto 27, 3) := by decide +kernel
theorem dX10_areSales_43 : decode cX10_areSales 43 = .ok (.iload_n 2, 1) := by decide +kernel
theorem dX10_areSales_44 : decode cX10_areSales 44 = .ok (.iconst (-1), 1) := by decide +kernel
theorem dX10_areSales_45 : decode cX10_areSales 45 = .ok (.if_icmp .eq 15, 3) := by decide +kernel
theorem dX10_areSales_48 : decode cX10_areSales 48 = .ok (.aload_n 0, 1) := by decide +kernel
theorem dX10_areSales_49 : decode cX10_areSales 49 = .ok (.getfield 35, 3) := by decide +kernel
theorem dX10_areSales_52 : decode cX10_areSales 52 = .ok (.iload_n 3, 1) := by decide +kernel
theorem dX10_areSales_53 : decode cX10_areSales 53 = .ok (.iaload, 1) := by decide +kernel
theorem dX10_areSales_54 : decode cX10_areSales 54 = .ok (.iload_n 2, 1) := by decide +kernel
theorem dX10_areSales_55 : decode cX10_areSales 55 = .ok (.if_icmp .eq 5, 3) := by decide +kernel
theorem dX10_areSales_58 : decode cX10_areSales 58 = .ok (.iconst 0, 1) := by decide +kernel
theorem dX10_areSales_59 : decode cX10_areSales 59 = .ok (.ireturn, 1) := by decide +kernel
theorem dX10_areSales_60 : decode cX10_areSales 60 = .ok (.aload_n 0, 1) := by decide +kernel
theorem dX10_areSales_61 : decode cX10_areSales 61 = .ok (.getfield 35, 3) := by decide +kernel
theorem dX10_areSales_64 : decode cX10_areSales 64 = .ok (.iload_n 3, 1) := by decide +kernel
theorem dX10_areSales_65 : decode cX10_areSales 65 = .ok (.iaload, 1) := by decide +kernel
theorem dX10_areSales_66 : decode cX10_areSales 66 = .ok (.istore_n 2, 1) := by decide +kernel
theorem dX10_areSales_67 : decode cX10_areSales 67 = .ok (.iinc 3 1, 3) := by decide +kernel
theorem dX10_areSales_70 : decode cX10_areSales 70 = .ok (.goto (-46), 3) := by decide +kernel
theorem dX10_areSales_73 : decode cX10_areSales 73 = .ok (.iconst 1, 1) := by decide +kernel
theorem dX10_areSales_74 : decode cX10_areSales 74 = .ok (.ireturn, 1) := by decide +kernel
theorem dX10_reached_0 : decode cX10_reached 0 = .ok (.iconst 1, 1) := by decide +kernel
theorem dX10_reached_1 : decode cX10_reached 1 = .ok (.iload_n 2, 1) := by decide +kernel
theorem dX10_reached_2 : decode cX10_reached 2 = .ok (.ishl, 1) := by decide +kernel
theorem dX10_reached_3 : decode cX10_reached 3 = .ok (.istore_n 3, 1) := by decide +kernel
theorem dX10_reached_4 : decode cX10_reached 4 = .ok (.iconst 0, 1) := by decide +kernel
theorem dX10_reached_5 : decode cX10_reached 5 = .ok (.istore 4, 2) := by decide +kernel
theorem dX10_reached_7 : decode cX10_reached 7 = .ok (.iload_n 3, 1) := by decide +kernel
theorem dX10_reached_8 : decode cX10_reached 8 = .ok (.iload 4, 2) := by decide +kernel
theorem dX10_reached_10 : decode cX10_reached 10 = .ok (.if_icmp .eq 68, 3) := by decide +kernel
theorem dX10_reached_13 : decode cX10_reached 13 = .ok (.iload_n 3, 1) := by decide +kernel
theorem dX10_reached_14 : decode cX10_reached 14 = .ok (.istore 4, 2) := by decide +kernel
theorem dX10_reached_16 : decode cX10_reached 16 = .ok (.iconst 0, 1) := by decide +kernel
theorem dX10_reached_17 : decode cX10_reached 17 = .ok (.istore 5, 2) := by decide +kernel
theorem dX10_reached_19 : decode cX10_reached 19 = .ok (.iload 5, 2) := by decide +kernel
theorem dX10_reached_21 : decode cX10_reached 21 = .ok (.aload_n 0, 1) := by decide +kernel
theorem dX10_reached_22 : decode cX10_reached 22 = .ok (.getfield 118, 3) := by decide +kernel
theorem dX10_reached_25 : decode cX10_reached 25 = .ok (.if_icmp .ge 50, 3) := by decide +kernel
theorem dX10_reached_28 : decode cX10_reached 28 = .ok (.iload_n 3, 1) := by decide +kernel
theorem dX10_reached_29 : decode cX10_reached 29 = .ok (.iload_n 1, 1) := by decide +kernel
theorem dX10_reached_30 : decode cX10_reached 30 = .ok (.iload 5, 2) := by decide +kernel
theorem dX10_reached_32 : decode cX10_reached 32 = .ok (.ishr, 1) := by decide +kernel
theorem dX10_reached_33 : decode cX10_reached 33 = .ok (.iconst 1, 1) := by decide +kernel
theorem dX10_reached_34 : decode cX10_reached 34 = .ok (.iand, 1) := by decide +kernel
theorem dX10_reached_35 : decode cX10_reached 35 = .ok (.iconst 1, 1) := by decide +kernel
theorem dX10_reached_36 : decode cX10_reached 36 = .ok (.if_icmp .ne 30, 3) := by decide +kernel
theorem dX10_reached_39 : decode cX10_reached 39 = .ok (.iload_n 3, 1) := by decide +kernel
theorem dX10_reached_40 : decode cX10_reached 40 = .ok (.aload_n 0, 1) := by decide +kernel
theorem dX10_reached_41 : decode cX10_reached 41 = .ok (.getfield 38, 3) := by decide +kernel
theorem dX10_reached_44 : decode cX10_reached 44 = .ok (.iload 5, 2) := by decide +kernel
theorem dX10_reached_46 : decode cX10_reached 46 = .ok (.iaload, 1) := by decide +kernel
theorem dX10_reached_47 : decode cX10_reached 47 = .ok (.ishr, 1) := by decide +kernel
theorem dX10_reached_48 : decode cX10_reached 48 = .ok (.iconst 1, 1) := by decide +kernel
theorem dX10_reached_49 : decode cX10_reached 49 = .ok (.iand, 1) := by decide +kernel
theorem dX10_reached_50 : decode cX10_reached 50 = .ok (.iconst 1, 1) := by decide +kernel
theorem dX10_reached_51 : decode cX10_reached 51 = .ok (.if_icmp .ne 15, 3) := by decide +kernel
theorem dX10_reached_54 : decode cX10_reached 54 = .ok (.iconst 1, 1) := by decide +kernel
theorem dX10_reached_55 : decode cX10_reached 55 = .ok (.aload_n 0, 1) := by decide +kernel
theorem dX10_reached_56 : decode cX10_reached 56 = .ok (.getfield 41, 3) := by decide +kernel
theorem dX10_reached_59 : decode cX10_reached 59 = .ok (.iload 5, 2) := by decide +kernel
theorem dX10_reached_61 : decode cX10_reached 61 = .ok (.iaload, 1) := by decide +kernel
theorem dX10_reached_62 : decode cX10_reached 62 = .ok (.ishl, 1) := by decide +kernel
theorem dX10_reached_63 : decode cX10_reached 63 = .ok (.goto 4, 3) := by decide +kernel
theorem dX10_reached_66 : decode cX10_reached 66 = .ok (.iconst 0, 1) := by decide +kernel
theorem dX10_reached_67 : decode cX10_reached 67 = .ok (.ior, 1) := by decide +kernel
theorem dX10_reached_68 : decode cX10_reached 68 = .ok (.istore_n 3, 1) := by decide +kernel
theorem dX10_reached_69 : decode cX10_reached 69 = .ok (.iinc 5 1, 3) := by decide +kernel
theorem dX10_reached_72 : decode cX10_reached 72 = .ok (.goto (-53), 3) := by decide +kernel
theorem dX10_reached_75 : decode cX10_reached 75 = .ok (.goto (-68), 3) := by decide +kernel
theorem dX10_reached_78 : decode cX10_reached 78 = .ok (.iload_n 3, 1) := by decide +kernel
theorem dX10_reached_79 : decode cX10_reached 79 = .ok (.ireturn, 1) := by decide +kernel
theorem dX10_isRing_0 : decode cX10_isRing 0 = .ok (.iconst 0, 1) := by decide +kernel
theorem dX10_isRing_1 : decode cX10_isRing 1 = .ok (.istore_n 2, 1) := by decide +kernel
theorem dX10_isRing_2 : decode cX10_isRing 2 = .ok (.iconst 0, 1) := by decide +kernel
theorem dX10_isRing_3 : decode cX10_isRing 3 = .ok (.istore_n 3, 1) := by decide +kernel
theorem dX10_isRing_4 : decode cX10_isRing 4 = .ok (.iconst 0, 1) := by decide +kernel
theorem dX10_isRing_5 : decode cX10_isRing 5 = .ok (.istore 4, 2) := by decide +kernel
theorem dX10_isRing_7 : decode cX10_isRing 7 = .ok (.iload 4, 2) := by decide +kernel
theorem dX10_isRing_9 : decode cX10_isRing 9 = .ok (.aload_n 0, 1) := by decide +kernel
theorem dX10_isRing_10 : decode cX10_isRing 10 = .ok (.getfield 118, 3) := by decide +kernel
theorem dX10_isRing_13 : decode cX10_isRing 13 = .ok (.if_icmp .ge 68, 3) := by decide +kernel
theorem dX10_isRing_16 : decode cX10_isRing 16 = .ok (.iload_n 1, 1) := by decide +kernel
theorem dX10_isRing_17 : decode cX10_isRing 17 = .ok (.iload 4, 2) := by decide +kernel
theorem dX10_isRing_19 : decode cX10_isRing 19 = .ok (.ishr, 1) := by decide +kernel
theorem dX10_isRing_20 : decode cX10_isRing 20 = .ok (.iconst 1, 1) := by decide +kernel
theorem dX10_isRing_21 : decode cX10_isRing 21 = .ok (.iand, 1) := by decide +kernel
theorem dX10_isRing_22 : decode cX10_isRing 22 = .ok (.ifCond .ne 6, 3) := by decide +kernel
theorem dX10_isRing_25 : decode cX10_isRing 25 = .ok (.goto 50, 3) := by decide +kernel
theorem dX10_isRing_28 : decode cX10_isRing 28 = .ok (.iload_n 3, 1) := by decide +kernel
theorem dX10_isRing_29 : decode cX10_isRing 29 = .ok (.ifCond .eq 16, 3) := by decide +kernel
theorem dX10_isRing_32 : decode cX10_isRing 32 = .ok (.aload_n 0, 1) := by decide +kernel
theorem dX10_isRing_33 : decode cX10_isRing 33 = .ok (.getfield 44, 3) := by decide +kernel
theorem dX10_isRing_36 : decode cX10_isRing 36 = .ok (.iload 4, 2) := by decide +kernel
theorem dX10_isRing_38 : decode cX10_isRing 38 = .ok (.iaload, 1) := by decide +kernel
theorem dX10_isRing_39 : decode cX10_isRing 39 = .ok (.iload_n 3, 1) := by decide +kernel
theorem dX10_isRing_40 : decode cX10_isRing 40 = .ok (.if_icmp .eq 5, 3) := by decide +kernel
theorem dX10_isRing_43 : decode cX10_isRing 43 = .ok (.iconst 0, 1) := by decide +kernel
theorem dX10_isRing_44 : decode cX10_isRing 44 = .ok (.ireturn, 1) := by decide +kernel
theorem dX10_isRing_45 : decode cX10_isRing 45 = .ok (.aload_n 0, 1) := by decide +kernel
theorem dX10_isRing_46 : decode cX10_isRing 46 = .ok (.getfield 44, 3) := by decide +kernel
theorem dX10_isRing_49 : decode cX10_isRing 49 = .ok (.iload 4, 2) := by decide +kernel
theorem dX10_isRing_51 : decode cX10_isRing 51 = .ok (.iaload, 1) := by decide +kernel
theorem dX10_isRing_52 : decode cX10_isRing 52 = .ok (.istore_n 3, 1) := by decide +kernel
theorem dX10_isRing_53 : decode cX10_isRing 53 = .ok (.iload_n 2, 1) := by decide +kernel
theorem dX10_isRing_54 : decode cX10_isRing 54 = .ok (.iconst 1, 1) := by decide +kernel
theorem dX10_isRing_55 : decode cX10_isRing 55 = .ok (.aload_n 0, 1) := by decide +kernel
theorem dX10_isRing_56 : decode cX10_isRing 56 = .ok (.getfield 38, 3) := by decide +kernel
theorem dX10_isRing_59 : decode cX10_isRing 59 = .ok (.iload 4, 2) := by decide +kernel
theorem dX10_isRing_61 : decode cX10_isRing 61 = .ok (.iaload, 1) := by decide +kernel
theorem dX10_isRing_62 : decode cX10_isRing 62 = .ok (.ishl, 1) := by decide +kernel
theorem dX10_isRing_63 : decode cX10_isRing 63 = .ok (.iconst 1, 1) := by decide +kernel
theorem dX10_isRing_64 : decode cX10_isRing 64 = .ok (.aload_n 0, 1) := by decide +kernel
theorem dX10_isRing_65 : decode cX10_isRing 65 = .ok (.getfield 41, 3) := by decide +kernel
theorem dX10_isRing_68 : decode cX10_isRing 68 = .ok (.iload 4, 2) := by decide +kernel
theorem dX10_isRing_70 : decode cX10_isRing 70 = .ok (.iaload, 1) := by decide +kernel
theorem dX10_isRing_71 : decode cX10_isRing 71 = .ok (.ishl, 1) := by decide +kernel
theorem dX10_isRing_72 : decode cX10_isRing 72 = .ok (.ior, 1) := by decide +kernel
theorem dX10_isRing_73 : decode cX10_isRing 73 = .ok (.ior, 1) := by decide +kernel
theorem dX10_isRing_74 : decode cX10_isRing 74 = .ok (.istore_n 2, 1) := by decide +kernel
theorem dX10_isRing_75 : decode cX10_isRing 75 = .ok (.iinc 4 1, 3) := by decide +kernel
theorem dX10_isRing_78 : decode cX10_isRing 78 = .ok (.goto (-71), 3) := by decide +kernel
theorem dX10_isRing_81 : decode cX10_isRing 81 = .ok (.iconst 0, 1) := by decide +kernel
theorem dX10_isRing_82 : decode cX10_isRing 82 = .ok (.istore 4, 2) := by decide +kernel
theorem dX10_isRing_84 : decode cX10_isRing 84 = .ok (.iload 4, 2) := by decide +kernel
theorem dX10_isRing_86 : decode cX10_isRing 86 = .ok (.bipush 10, 2) := by decide +kernel
theorem dX10_isRing_88 : decode cX10_isRing 88 = .ok (.if_icmp .ge 113, 3) := by decide +kernel
theorem dX10_isRing_91 : decode cX10_isRing 91 = .ok (.iload_n 2, 1) := by decide +kernel
theorem dX10_isRing_92 : decode cX10_isRing 92 = .ok (.iload 4, 2) := by decide +kernel
theorem dX10_isRing_94 : decode cX10_isRing 94 = .ok (.ishr, 1) := by decide +kernel
theorem dX10_isRing_95 : decode cX10_isRing 95 = .ok (.iconst 1, 1) := by decide +kernel
theorem dX10_isRing_96 : decode cX10_isRing 96 = .ok (.iand, 1) := by decide +kernel
theorem dX10_isRing_97 : decode cX10_isRing 97 = .ok (.ifCond .ne 6, 3) := by decide +kernel
theorem dX10_isRing_100 : decode cX10_isRing 100 = .ok (.goto 95, 3) := by decide +kernel
theorem dX10_isRing_103 : decode cX10_isRing 103 = .ok (.iconst 0, 1) := by decide +kernel
theorem dX10_isRing_104 : decode cX10_isRing 104 = .ok (.istore 5, 2) := by decide +kernel
theorem dX10_isRing_106 : decode cX10_isRing 106 = .ok (.iconst 0, 1) := by decide +kernel
theorem dX10_isRing_107 : decode cX10_isRing 107 = .ok (.istore 6, 2) := by decide +kernel
theorem dX10_isRing_109 : decode cX10_isRing 109 = .ok (.iload 6, 2) := by decide +kernel
theorem dX10_isRing_111 : decode cX10_isRing 111 = .ok (.aload_n 0, 1) := by decide +kernel
theorem dX10_isRing_112 : decode cX10_isRing 112 = .ok (.getfield 118, 3) := by decide +kernel
theorem dX10_isRing_115 : decode cX10_isRing 115 = .ok (.if_icmp .ge 62, 3) := by decide +kernel
theorem dX10_isRing_118 : decode cX10_isRing 118 = .ok (.iload 5, 2) := by decide +kernel
theorem dX10_isRing_120 : decode cX10_isRing 120 = .ok (.iload_n 1, 1) := by decide +kernel
theorem dX10_isRing_121 : decode cX10_isRing 121 = .ok (.iload 6, 2) := by decide +kernel
theorem dX10_isRing_123 : decode cX10_isRing 123 = .ok (.ishr, 1) := by decide +kernel
theorem dX10_isRing_124 : decode cX10_isRing 124 = .ok (.iconst 1, 1) := by decide +kernel
theorem dX10_isRing_125 : decode cX10_isRing 125 = .ok (.iand, 1) := by decide +kernel
theorem dX10_isRing_126 : decode cX10_isRing 126 = .ok (.ifCond .ne 7, 3) := by decide +kernel
theorem dX10_isRing_129 : decode cX10_isRing 129 = .ok (.iconst 0, 1) := by decide +kernel
theorem dX10_isRing_130 : decode cX10_isRing 130 = .ok (.goto 38, 3) := by decide +kernel
theorem dX10_isRing_133 : decode cX10_isRing 133 = .ok (.aload_n 0, 1) := by decide +kernel
theorem dX10_isRing_134 : decode cX10_isRing 134 = .ok (.getfield 38, 3) := by decide +kernel
theorem dX10_isRing_137 : decode cX10_isRing 137 = .ok (.iload 6, 2) := by decide +kernel
theorem dX10_isRing_139 : decode cX10_isRing 139 = .ok (.iaload, 1) := by decide +kernel
theorem dX10_isRing_140 : decode cX10_isRing 140 = .ok (.iload 4, 2) := by decide +kernel
theorem dX10_isRing_142 : decode cX10_isRing 142 = .ok (.if_icmp .ne 7, 3) := by decide +kernel
theorem dX10_isRing_145 : decode cX10_isRing 145 = .ok (.iconst 1, 1) := by decide +kernel
theorem dX10_isRing_146 : decode cX10_isRing 146 = .ok (.goto 4, 3) := by decide +kernel
theorem dX10_isRing_149 : decode cX10_isRing 149 = .ok (.iconst 0, 1) := by decide +kernel
theorem dX10_isRing_150 : decode cX10_isRing 150 = .ok (.aload_n 0, 1) := by decide +kernel
theorem dX10_isRing_151 : decode cX10_isRing 151 = .ok (.getfield 41, 3) := by decide +kernel
theorem dX10_isRing_154 : decode cX10_isRing 154 = .ok (.iload 6, 2) := by decide +kernel
theorem dX10_isRing_156 : decode cX10_isRing 156 = .ok (.iaload, 1) := by decide +kernel
theorem dX10_isRing_157 : decode cX10_isRing 157 = .ok (.iload 4, 2) := by decide +kernel
theorem dX10_isRing_159 : decode cX10_isRing 159 = .ok (.if_icmp .ne 7, 3) := by decide +kernel
theorem dX10_isRing_162 : decode cX10_isRing 162 = .ok (.iconst 1, 1) := by decide +kernel
theorem dX10_isRing_163 : decode cX10_isRing 163 = .ok (.goto 4, 3) := by decide +kernel
theorem dX10_isRing_166 : decode cX10_isRing 166 = .ok (.iconst 0, 1) := by decide +kernel
theorem dX10_isRing_167 : decode cX10_isRing 167 = .ok (.isub, 1) := by decide +kernel
theorem dX10_isRing_168 : decode cX10_isRing 168 = .ok (.iadd, 1) := by decide +kernel
theorem dX10_isRing_169 : decode cX10_isRing 169 = .ok (.istore 5, 2) := by decide +kernel
theorem dX10_isRing_171 : decode cX10_isRing 171 = .ok (.iinc 6 1, 3) := by decide +kernel
theorem dX10_isRing_174 : decode cX10_isRing 174 = .ok (.goto (-65), 3) := by decide +kernel
theorem dX10_isRing_177 : decode cX10_isRing 177 = .ok (.iload 5, 2) := by decide +kernel
theorem dX10_isRing_179 : decode cX10_isRing 179 = .ok (.ifCond .ne 14, 3) := by decide +kernel
theorem dX10_isRing_182 : decode cX10_isRing 182 = .ok (.aload_n 0, 1) := by decide +kernel
theorem dX10_isRing_183 : decode cX10_isRing 183 = .ok (.iload_n 1, 1) := by decide +kernel
theorem dX10_isRing_184 : decode cX10_isRing 184 = .ok (.iload 4, 2) := by decide +kernel
theorem dX10_isRing_186 : decode cX10_isRing 186 = .ok (.invokevirtual 320, 3) := by decide +kernel
theorem dX10_isRing_189 : decode cX10_isRing 189 = .ok (.iload_n 2, 1) := by decide +kernel
theorem dX10_isRing_190 : decode cX10_isRing 190 = .ok (.if_icmp .eq 5, 3) := by decide +kernel
theorem dX10_isRing_193 : decode cX10_isRing 193 = .ok (.iconst 0, 1) := by decide +kernel
theorem dX10_isRing_194 : decode cX10_isRing 194 = .ok (.ireturn, 1) := by decide +kernel
theorem dX10_isRing_195 : decode cX10_isRing 195 = .ok (.iinc 4 1, 3) := by decide +kernel
theorem dX10_isRing_198 : decode cX10_isRing 198 = .ok (.goto (-114), 3) := by decide +kernel
theorem dX10_isRing_201 : decode cX10_isRing 201 = .ok (.iconst 1, 1) := by decide +kernel
theorem dX10_isRing_202 : decode cX10_isRing 202 = .ok (.ireturn, 1) := by decide +kernel
theorem dX10_closes_0 : decode cX10_closes 0 = .ok (.aload_n 0, 1) := by decide +kernel
theorem dX10_closes_1 : decode cX10_closes 1 = .ok (.iload_n 1, 1) := by decide +kernel
theorem dX10_closes_2 : decode cX10_closes 2 = .ok (.invokevirtual 323, 3) := by decide +kernel
theorem dX10_closes_5 : decode cX10_closes 5 = .ok (.ifCond .eq 19, 3) := by decide +kernel
theorem dX10_closes_8 : decode cX10_closes 8 = .ok (.aload_n 0, 1) := by decide +kernel
theorem dX10_closes_9 : decode cX10_closes 9 = .ok (.iload_n 1, 1) := by decide +kernel
theorem dX10_closes_10 : decode cX10_closes 10 = .ok (.invokevirtual 326, 3) := by decide +kernel
theorem dX10_closes_13 : decode cX10_closes 13 = .ok (.ifCond .eq 7, 3) := by decide +kernel
theorem dX10_closes_16 : decode cX10_closes 16 = .ok (.iconst 1, 1) := by decide +kernel
theorem dX10_closes_17 : decode cX10_closes 17 = .ok (.goto 9, 3) := by decide +kernel
theorem dX10_closes_20 : decode cX10_closes 20 = .ok (.iconst 0, 1) := by decide +kernel
theorem dX10_closes_21 : decode cX10_closes 21 = .ok (.goto 5, 3) := by decide +kernel
theorem dX10_closes_24 : decode cX10_closes 24 = .ok (.bipush (-2), 2) := by decide +kernel
theorem dX10_closes_26 : decode cX10_closes 26 = .ok (.ireturn, 1) := by decide +kernel
theorem dX10_differ_0 : decode cX10_differ 0 = .ok (.iload_n 2, 1) := by decide +kernel
theorem dX10_differ_1 : decode cX10_differ 1 = .ok (.invokestatic 125, 3) := by decide +kernel
theorem dX10_differ_4 : decode cX10_differ 4 = .ok (.ifCond .ne 7, 3) := by decide +kernel
theorem dX10_differ_7 : decode cX10_differ 7 = .ok (.ldc2_w 168, 3) := by decide +kernel
theorem dX10_differ_10 : decode cX10_differ 10 = .ok (.lreturn, 1) := by decide +kernel
theorem dX10_differ_11 : decode cX10_differ 11 = .ok (.aload_n 0, 1) := by decide +kernel
theorem dX10_differ_12 : decode cX10_differ 12 = .ok (.iload_n 1, 1) := by decide +kernel
theorem dX10_differ_13 : decode cX10_differ 13 = .ok (.invokevirtual 323, 3) := by decide +kernel
theorem dX10_differ_16 : decode cX10_differ 16 = .ok (.ifCond .ne 7, 3) := by decide +kernel
theorem dX10_differ_19 : decode cX10_differ 19 = .ok (.ldc2_w 329, 3) := by decide +kernel
theorem dX10_differ_22 : decode cX10_differ 22 = .ok (.lreturn, 1) := by decide +kernel
theorem dX10_differ_23 : decode cX10_differ 23 = .ok (.aload_n 0, 1) := by decide +kernel
theorem dX10_differ_24 : decode cX10_differ 24 = .ok (.iload_n 1, 1) := by decide +kernel
theorem dX10_differ_25 : decode cX10_differ 25 = .ok (.invokevirtual 326, 3) := by decide +kernel
theorem dX10_differ_28 : decode cX10_differ 28 = .ok (.ifCond .ne 7, 3) := by decide +kernel
theorem dX10_differ_31 : decode cX10_differ 31 = .ok (.ldc2_w 331, 3) := by decide +kernel
theorem dX10_differ_34 : decode cX10_differ 34 = .ok (.lreturn, 1) := by decide +kernel
theorem dX10_differ_35 : decode cX10_differ 35 = .ok (.lconst 0, 1) := by decide +kernel
theorem dX10_differ_36 : decode cX10_differ 36 = .ok (.lstore_n 3, 1) := by decide +kernel
theorem dX10_differ_37 : decode cX10_differ 37 = .ok (.iconst 0, 1) := by decide +kernel
theorem dX10_differ_38 : decode cX10_differ 38 = .ok (.istore 5, 2) := by decide +kernel
theorem dX10_differ_40 : decode cX10_differ 40 = .ok (.iload 5, 2) := by decide +kernel
theorem dX10_differ_42 : decode cX10_differ 42 = .ok (.aload_n 0, 1) := by decide +kernel
theorem dX10_differ_43 : decode cX10_differ 43 = .ok (.getfield 118, 3) := by decide +kernel
theorem dX10_differ_46 : decode cX10_differ 46 = .ok (.if_icmp .ge 71, 3) := by decide +kernel
theorem dX10_differ_49 : decode cX10_differ 49 = .ok (.iload_n 1, 1) := by decide +kernel
theorem dX10_differ_50 : decode cX10_differ 50 = .ok (.iload 5, 2) := by decide +kernel
theorem dX10_differ_52 : decode cX10_differ 52 = .ok (.ishr, 1) := by decide +kernel
theorem dX10_differ_53 : decode cX10_differ 53 = .ok (.iconst 1, 1) := by decide +kernel
theorem dX10_differ_54 : decode cX10_differ 54 = .ok (.iand, 1) := by decide +kernel
theorem dX10_differ_55 : decode cX10_differ 55 = .ok (.ifCond .ne 6, 3) := by decide +kernel
theorem dX10_differ_58 : decode cX10_differ 58 = .ok (.goto 53, 3) := by decide +kernel
theorem dX10_differ_61 : decode cX10_differ 61 = .ok (.lload_n 3, 1) := by decide +kernel
theorem dX10_differ_62 : decode cX10_differ 62 = .ok (.aload_n 0, 1) := by decide +kernel
theorem dX10_differ_63 : decode cX10_differ 63 = .ok (.getfield 38, 3) := by decide +kernel
theorem dX10_differ_66 : decode cX10_differ 66 = .ok (.iload 5, 2) := by decide +kernel
theorem dX10_differ_68 : decode cX10_differ 68 = .ok (.iaload, 1) := by decide +kernel
theorem dX10_differ_69 : decode cX10_differ 69 = .ok (.iload_n 2, 1) := by decide +kernel
theorem dX10_differ_70 : decode cX10_differ 70 = .ok (.if_icmp .ne 13, 3) := by decide +kernel
theorem dX10_differ_73 : decode cX10_differ 73 = .ok (.aload_n 0, 1) := by decide +kernel
theorem dX10_differ_74 : decode cX10_differ 74 = .ok (.iload 5, 2) := by decide +kernel
theorem dX10_differ_76 : decode cX10_differ 76 = .ok (.invokevirtual 254, 3) := by decide +kernel
theorem dX10_differ_79 : decode cX10_differ 79 = .ok (.i2l, 1) := by decide +kernel
theorem dX10_differ_80 : decode cX10_differ 80 = .ok (.goto 4, 3) := by decide +kernel
theorem dX10_differ_83 : decode cX10_differ 83 = .ok (.lconst 0, 1) := by decide +kernel
theorem dX10_differ_84 : decode cX10_differ 84 = .ok (.ladd, 1) := by decide +kernel
theorem dX10_differ_85 : decode cX10_differ 85 = .ok (.lstore_n 3, 1) := by decide +kernel
theorem dX10_differ_86 : decode cX10_differ 86 = .ok (.lload_n 3, 1) := by decide +kernel
theorem dX10_differ_87 : decode cX10_differ 87 = .ok (.aload_n 0, 1) := by decide +kernel
theorem dX10_differ_88 : decode cX10_differ 88 = .ok (.getfield 41, 3) := by decide +kernel
theorem dX10_differ_91 : decode cX10_differ 91 = .ok (.iload 5, 2) := by decide +kernel
theorem dX10_differ_93 : decode cX10_differ 93 = .ok (.iaload, 1) := by decide +kernel
theorem dX10_differ_94 : decode cX10_differ 94 = .ok (.iload_n 2, 1) := by decide +kernel
theorem dX10_differ_95 : decode cX10_differ 95 = .ok (.if_icmp .ne 13, 3) := by decide +kernel
theorem dX10_differ_98 : decode cX10_differ 98 = .ok (.aload_n 0, 1) := by decide +kernel
theorem dX10_differ_99 : decode cX10_differ 99 = .ok (.iload 5, 2) := by decide +kernel
theorem dX10_differ_101 : decode cX10_differ 101 = .ok (.invokevirtual 254, 3) := by decide +kernel
theorem dX10_differ_104 : decode cX10_differ 104 = .ok (.i2l, 1) := by decide +kernel
theorem dX10_differ_105 : decode cX10_differ 105 = .ok (.goto 4, 3) := by decide +kernel
theorem dX10_differ_108 : decode cX10_differ 108 = .ok (.lconst 0, 1) := by decide +kernel
theorem dX10_differ_109 : decode cX10_differ 109 = .ok (.lsub, 1) := by decide +kernel
theorem dX10_differ_110 : decode cX10_differ 110 = .ok (.lstore_n 3, 1) := by decide +kernel
theorem dX10_differ_111 : decode cX10_differ 111 = .ok (.iinc 5 1, 3) := by decide +kernel
theorem dX10_differ_114 : decode cX10_differ 114 = .ok (.goto (-74), 3) := by decide +kernel
theorem dX10_differ_117 : decode cX10_differ 117 = .ok (.lload_n 3, 1) := by decide +kernel
theorem dX10_differ_118 : decode cX10_differ 118 = .ok (.lreturn, 1) := by decide +kernel
theorem dX10_bitsOf_0 : decode cX10_bitsOf 0 = .ok (.iconst 0, 1) := by decide +kernel
theorem dX10_bitsOf_1 : decode cX10_bitsOf 1 = .ok (.istore_n 1, 1) := by decide +kernel
theorem dX10_bitsOf_2 : decode cX10_bitsOf 2 = .ok (.iload_n 0, 1) := by decide +kernel
theorem dX10_bitsOf_3 : decode cX10_bitsOf 3 = .ok (.istore_n 2, 1) := by decide +kernel
theorem dX10_bitsOf_4 : decode cX10_bitsOf 4 = .ok (.iload_n 2, 1) := by decide +kernel
theorem dX10_bitsOf_5 : decode cX10_bitsOf 5 = .ok (.ifCond .eq 15, 3) := by decide +kernel
theorem dX10_bitsOf_8 : decode cX10_bitsOf 8 = .ok (.iinc 1 1, 3) := by decide +kernel
theorem dX10_bitsOf_11 : decode cX10_bitsOf 11 = .ok (.iload_n 2, 1) := by decide +kernel
theorem dX10_bitsOf_12 : decode cX10_bitsOf 12 = .ok (.iload_n 2, 1) := by decide +kernel
theorem dX10_bitsOf_13 : decode cX10_bitsOf 13 = .ok (.iconst 1, 1) := by decide +kernel
theorem dX10_bitsOf_14 : decode cX10_bitsOf 14 = .ok (.isub, 1) := by decide +kernel
theorem dX10_bitsOf_15 : decode cX10_bitsOf 15 = .ok (.iand, 1) := by decide +kernel
theorem dX10_bitsOf_16 : decode cX10_bitsOf 16 = .ok (.istore_n 2, 1) := by decide +kernel
theorem dX10_bitsOf_17 : decode cX10_bitsOf 17 = .ok (.goto (-13), 3) := by decide +kernel
theorem dX10_bitsOf_20 : decode cX10_bitsOf 20 = .ok (.iload_n 1, 1) := by decide +kernel
theorem dX10_bitsOf_21 : decode cX10_bitsOf 21 = .ok (.ireturn, 1) := by decide +kernel
theorem dX10_found_0 : decode cX10_found 0 = .ok (.aload_n 0, 1) := by decide +kernel
theorem dX10_found_1 : decode cX10_found 1 = .ok (.iload_n 1, 1) := by decide +kernel
theorem dX10_found_2 : decode cX10_found 2 = .ok (.invokevirtual 129, 3) := by decide +kernel
theorem dX10_found_5 : decode cX10_found 5 = .ok (.ifCond .ne 6, 3) := by decide +kernel
theorem dX10_found_8 : decode cX10_found 8 = .ok (.bipush (-2), 2) := by decide +kernel
theorem dX10_found_10 : decode cX10_found 10 = .ok (.ireturn, 1) := by decide +kernel
theorem dX10_found_11 : decode cX10_found 11 = .ok (.iconst 0, 1) := by decide +kernel
theorem dX10_found_12 : decode cX10_found 12 = .ok (.istore_n 2, 1) := by decide +kernel
theorem dX10_found_13 : decode cX10_found 13 = .ok (.iconst 0, 1) := by decide +kernel
theorem dX10_found_14 : decode cX10_found 14 = .ok (.istore_n 3, 1) := by decide +kernel
theorem dX10_found_15 : decode cX10_found 15 = .ok (.iload_n 3, 1) := by decide +kernel
theorem dX10_found_16 : decode cX10_found 16 = .ok (.aload_n 0, 1) := by decide +kernel
theorem dX10_found_17 : decode cX10_found 17 = .ok (.getfield 118, 3) := by decide +kernel
theorem dX10_found_20 : decode cX10_found 20 = .ok (.if_icmp .ge 35, 3) := by decide +kernel
theorem dX10_found_23 : decode cX10_found 23 = .ok (.iload_n 3, 1) := by decide +kernel
theorem dX10_found_24 : decode cX10_found 24 = .ok (.bipush 12, 2) := by decide +kernel
theorem dX10_found_26 : decode cX10_found 26 = .ok (.if_icmp .ge 29, 3) := by decide +kernel
theorem dX10_found_29 : decode cX10_found 29 = .ok (.iload_n 2, 1) := by decide +kernel
theorem dX10_found_30 : decode cX10_found 30 = .ok (.aload_n 0, 1) := by decide +kernel
theorem dX10_found_31 : decode cX10_found 31 = .ok (.getfield 35, 3) := by decide +kernel
theorem dX10_found_34 : decode cX10_found 34 = .ok (.iload_n 3, 1) := by decide +kernel
theorem dX10_found_35 : decode cX10_found 35 = .ok (.iaload, 1) := by decide +kernel
theorem dX10_found_36 : decode cX10_found 36 = .ok (.iload_n 1, 1) := by decide +kernel
theorem dX10_found_37 : decode cX10_found 37 = .ok (.if_icmp .ne 9, 3) := by decide +kernel
theorem dX10_found_40 : decode cX10_found 40 = .ok (.iconst 1, 1) := by decide +kernel
theorem dX10_found_41 : decode cX10_found 41 = .ok (.iload_n 3, 1) := by decide +kernel
theorem dX10_found_42 : decode cX10_found 42 = .ok (.ishl, 1) := by decide +kernel
theorem dX10_found_43 : decode cX10_found 43 = .ok (.goto 4, 3) := by decide +kernel
theorem dX10_found_46 : decode cX10_found 46 = .ok (.iconst 0, 1) := by decide +kernel
theorem dX10_found_47 : decode cX10_found 47 = .ok (.ior, 1) := by decide +kernel
theorem dX10_found_48 : decode cX10_found 48 = .ok (.istore_n 2, 1) := by decide +kernel
theorem dX10_found_49 : decode cX10_found 49 = .ok (.iinc 3 1, 3) := by decide +kernel
theorem dX10_found_52 : decode cX10_found 52 = .ok (.goto (-37), 3) := by decide +kernel
theorem dX10_found_55 : decode cX10_found 55 = .ok (.iconst (-1), 1) := by decide +kernel
theorem dX10_found_56 : decode cX10_found 56 = .ok (.istore_n 3, 1) := by decide +kernel
theorem dX10_found_57 : decode cX10_found 57 = .ok (.iconst 1, 1) := by decide +kernel
theorem dX10_found_58 : decode cX10_found 58 = .ok (.istore 4, 2) := by decide +kernel
theorem dX10_found_60 : decode cX10_found 60 = .ok (.iload 4, 2) := by decide +kernel
theorem dX10_found_62 : decode cX10_found 62 = .ok (.iload_n 2, 1) := by decide +kernel
theorem dX10_found_63 : decode cX10_found 63 = .ok (.if_icmp .gt 47, 3) := by decide +kernel
theorem dX10_found_66 : decode cX10_found 66 = .ok (.iload 4, 2) := by decide +kernel
theorem dX10_found_68 : decode cX10_found 68 = .ok (.iload_n 2, 1) := by decide +kernel
theorem dX10_found_69 : decode cX10_found 69 = .ok (.iconst (-1), 1) := by decide +kernel
theorem dX10_found_70 : decode cX10_found 70 = .ok (.ixor, 1) := by decide +kernel
theorem dX10_found_71 : decode cX10_found 71 = .ok (.iand, 1) := by decide +kernel
theorem dX10_found_72 : decode cX10_found 72 = .ok (.ifCond .ne 32, 3) := by decide +kernel
theorem dX10_found_75 : decode cX10_found 75 = .ok (.iload_n 3, 1) := by decide +kernel
theorem dX10_found_76 : decode cX10_found 76 = .ok (.iconst (-1), 1) := by decide +kernel
theorem dX10_found_77 : decode cX10_found 77 = .ok (.if_icmp .eq 15, 3) := by decide +kernel
theorem dX10_found_80 : decode cX10_found 80 = .ok (.iload 4, 2) := by decide +kernel
theorem dX10_found_82 : decode cX10_found 82 = .ok (.invokestatic 333, 3) := by decide +kernel
theorem dX10_found_85 : decode cX10_found 85 = .ok (.iload_n 3, 1) := by decide +kernel
theorem dX10_found_86 : decode cX10_found 86 = .ok (.invokestatic 333, 3) := by decide +kernel
theorem dX10_found_89 : decode cX10_found 89 = .ok (.if_icmp .ge 15, 3) := by decide +kernel
theorem dX10_found_92 : decode cX10_found 92 = .ok (.aload_n 0, 1) := by decide +kernel
theorem dX10_found_93 : decode cX10_found 93 = .ok (.iload 4, 2) := by decide +kernel
theorem dX10_found_95 : decode cX10_found 95 = .ok (.invokevirtual 326, 3) := by decide +kernel
theorem dX10_found_98 : decode cX10_found 98 = .ok (.ifCond .eq 6, 3) := by decide +kernel
theorem dX10_found_101 : decode cX10_found 101 = .ok (.iload 4, 2) := by decide +kernel
theorem dX10_found_103 : decode cX10_found 103 = .ok (.istore_n 3, 1) := by decide +kernel
theorem dX10_found_104 : decode cX10_found 104 = .ok (.iinc 4 1, 3) := by decide +kernel
theorem dX10_found_107 : decode cX10_found 107 = .ok (.goto (-47), 3) := by decide +kernel
theorem dX10_found_110 : decode cX10_found 110 = .ok (.iload_n 3, 1) := by decide +kernel
theorem dX10_found_111 : decode cX10_found 111 = .ok (.ireturn, 1) := by decide +kernel
theorem dX10_loses_0 : decode cX10_loses 0 = .ok (.iload_n 1, 1) := by decide +kernel
theorem dX10_loses_1 : decode cX10_loses 1 = .ok (.i2l, 1) := by decide +kernel
theorem dX10_loses_2 : decode cX10_loses 2 = .ok (.lconst 0, 1) := by decide +kernel
theorem dX10_loses_3 : decode cX10_loses 3 = .ok (.ldc2_w 336, 3) := by decide +kernel
theorem dX10_loses_6 : decode cX10_loses 6 = .ok (.invokestatic 114, 3) := by decide +kernel
theorem dX10_loses_9 : decode cX10_loses 9 = .ok (.ifCond .eq 21, 3) := by decide +kernel
theorem dX10_loses_12 : decode cX10_loses 12 = .ok (.iload_n 1, 1) := by decide +kernel
theorem dX10_loses_13 : decode cX10_loses 13 = .ok (.bipush 10, 2) := by decide +kernel
theorem dX10_loses_15 : decode cX10_loses 15 = .ok (.idiv, 1) := by decide +kernel
theorem dX10_loses_16 : decode cX10_loses 16 = .ok (.iload_n 1, 1) := by decide +kernel
theorem dX10_loses_17 : decode cX10_loses 17 = .ok (.bipush 10, 2) := by decide +kernel
theorem dX10_loses_19 : decode cX10_loses 19 = .ok (.irem, 1) := by decide +kernel
theorem dX10_loses_20 : decode cX10_loses 20 = .ok (.if_icmp .eq 10, 3) := by decide +kernel
theorem dX10_loses_23 : decode cX10_loses 23 = .ok (.iload_n 2, 1) := by decide +kernel
theorem dX10_loses_24 : decode cX10_loses 24 = .ok (.invokestatic 138, 3) := by decide +kernel
theorem dX10_loses_27 : decode cX10_loses 27 = .ok (.ifCond .ne 7, 3) := by decide +kernel
theorem dX10_loses_30 : decode cX10_loses 30 = .ok (.ldc2_w 168, 3) := by decide +kernel
theorem dX10_loses_33 : decode cX10_loses 33 = .ok (.lreturn, 1) := by decide +kernel
theorem dX10_loses_34 : decode cX10_loses 34 = .ok (.lconst 0, 1) := by decide +kernel
theorem dX10_loses_35 : decode cX10_loses 35 = .ok (.lstore_n 3, 1) := by decide +kernel
theorem dX10_loses_36 : decode cX10_loses 36 = .ok (.iconst 0, 1) := by decide +kernel
theorem dX10_loses_37 : decode cX10_loses 37 = .ok (.istore 5, 2) := by decide +kernel
theorem dX10_loses_39 : decode cX10_loses 39 = .ok (.iload 5, 2) := by decide +kernel
theorem dX10_loses_41 : decode cX10_loses 41 = .ok (.aload_n 0, 1) := by decide +kernel
theorem dX10_loses_42 : decode cX10_loses 42 = .ok (.getfield 118, 3) := by decide +kernel
theorem dX10_loses_45 : decode cX10_loses 45 = .ok (.if_icmp .ge 76, 3) := by decide +kernel
theorem dX10_loses_48 : decode cX10_loses 48 = .ok (.aload_n 0, 1) := by decide +kernel
theorem dX10_loses_49 : decode cX10_loses 49 = .ok (.getfield 41, 3) := by decide +kernel
theorem dX10_loses_52 : decode cX10_loses 52 = .ok (.iload 5, 2) := by decide +kernel
theorem dX10_loses_54 : decode cX10_loses 54 = .ok (.iaload, 1) := by decide +kernel
theorem dX10_loses_55 : decode cX10_loses 55 = .ok (.iload_n 1, 1) := by decide +kernel
theorem dX10_loses_56 : decode cX10_loses 56 = .ok (.bipush 10, 2) := by decide +kernel
theorem dX10_loses_58 : decode cX10_loses 58 = .ok (.idiv, 1) := by decide +kernel
theorem dX10_loses_59 : decode cX10_loses 59 = .ok (.if_icmp .ne 56, 3) := by decide +kernel
theorem dX10_loses_62 : decode cX10_loses 62 = .ok (.aload_n 0, 1) := by decide +kernel
theorem dX10_loses_63 : decode cX10_loses 63 = .ok (.getfield 38, 3) := by decide +kernel
theorem dX10_loses_66 : decode cX10_loses 66 = .ok (.iload 5, 2) := by decide +kernel
theorem dX10_loses_68 : decode cX10_loses 68 = .ok (.iaload, 1) := by decide +kernel
theorem dX10_loses_69 : decode cX10_loses 69 = .ok (.iload_n 1, 1) := by decide +kernel
theorem dX10_loses_70 : decode cX10_loses 70 = .ok (.bipush 10, 2) := by decide +kernel
theorem dX10_loses_72 : decode cX10_loses 72 = .ok (.irem, 1) := by decide +kernel
theorem dX10_loses_73 : decode cX10_loses 73 = .ok (.if_icmp .ne 42, 3) := by decide +kernel
theorem dX10_loses_76 : decode cX10_loses 76 = .ok (.aload_n 0, 1) := by decide +kernel
theorem dX10_loses_77 : decode cX10_loses 77 = .ok (.iload 5, 2) := by decide +kernel
theorem dX10_loses_79 : decode cX10_loses 79 = .ok (.iconst 0, 1) := by decide +kernel
theorem dX10_loses_80 : decode cX10_loses 80 = .ok (.invokevirtual 157, 3) := by decide +kernel
theorem dX10_loses_83 : decode cX10_loses 83 = .ok (.iload_n 2, 1) := by decide +kernel
theorem dX10_loses_84 : decode cX10_loses 84 = .ok (.if_icmp .le 6, 3) := by decide +kernel
theorem dX10_loses_87 : decode cX10_loses 87 = .ok (.goto 28, 3) := by decide +kernel
theorem dX10_loses_90 : decode cX10_loses 90 = .ok (.aload_n 0, 1) := by decide +kernel
theorem dX10_loses_91 : decode cX10_loses 91 = .ok (.iload 5, 2) := by decide +kernel
theorem dX10_loses_93 : decode cX10_loses 93 = .ok (.iload_n 2, 1) := by decide +kernel
theorem dX10_loses_94 : decode cX10_loses 94 = .ok (.invokevirtual 316, 3) := by decide +kernel
theorem dX10_loses_97 : decode cX10_loses 97 = .ok (.lstore 6, 2) := by decide +kernel
theorem dX10_loses_99 : decode cX10_loses 99 = .ok (.lload_n 3, 1) := by decide +kernel
theorem dX10_loses_100 : decode cX10_loses 100 = .ok (.lload 6, 2) := by decide +kernel
theorem dX10_loses_102 : decode cX10_loses 102 = .ok (.lconst 0, 1) := by decide +kernel
theorem dX10_loses_103 : decode cX10_loses 103 = .ok (.lcmp, 1) := by decide +kernel
theorem dX10_loses_104 : decode cX10_loses 104 = .ok (.ifCond .le 8, 3) := by decide +kernel
theorem dX10_loses_107 : decode cX10_loses 107 = .ok (.lload 6, 2) := by decide +kernel
theorem dX10_loses_109 : decode cX10_loses 109 = .ok (.goto 4, 3) := by decide +kernel
theorem dX10_loses_112 : decode cX10_loses 112 = .ok (.lconst 0, 1) := by decide +kernel
theorem dX10_loses_113 : decode cX10_loses 113 = .ok (.ladd, 1) := by decide +kernel
theorem dX10_loses_114 : decode cX10_loses 114 = .ok (.lstore_n 3, 1) := by decide +kernel
theorem dX10_loses_115 : decode cX10_loses 115 = .ok (.iinc 5 1, 3) := by decide +kernel
theorem dX10_loses_118 : decode cX10_loses 118 = .ok (.goto (-79), 3) := by decide +kernel
theorem dX10_loses_121 : decode cX10_loses 121 = .ok (.lload_n 3, 1) := by decide +kernel
theorem dX10_loses_122 : decode cX10_loses 122 = .ok (.lreturn, 1) := by decide +kernel
theorem dX10_stops_0 : decode cX10_stops 0 = .ok (.iload_n 1, 1) := by decide +kernel
theorem dX10_stops_1 : decode cX10_stops 1 = .ok (.invokestatic 125, 3) := by decide +kernel
theorem dX10_stops_4 : decode cX10_stops 4 = .ok (.ifCond .eq 10, 3) := by decide +kernel
theorem dX10_stops_7 : decode cX10_stops 7 = .ok (.iload_n 2, 1) := by decide +kernel
theorem dX10_stops_8 : decode cX10_stops 8 = .ok (.invokestatic 138, 3) := by decide +kernel
theorem dX10_stops_11 : decode cX10_stops 11 = .ok (.ifCond .ne 6, 3) := by decide +kernel
theorem dX10_stops_14 : decode cX10_stops 14 = .ok (.bipush (-2), 2) := by decide +kernel
theorem dX10_stops_16 : decode cX10_stops 16 = .ok (.ireturn, 1) := by decide +kernel
theorem dX10_stops_17 : decode cX10_stops 17 = .ok (.iconst 0, 1) := by decide +kernel
theorem dX10_stops_18 : decode cX10_stops 18 = .ok (.istore_n 3, 1) := by decide +kernel
theorem dX10_stops_19 : decode cX10_stops 19 = .ok (.iconst 0, 1) := by decide +kernel
theorem dX10_stops_20 : decode cX10_stops 20 = .ok (.istore 4, 2) := by decide +kernel
theorem dX10_stops_22 : decode cX10_stops 22 = .ok (.iload 4, 2) := by decide +kernel
theorem dX10_stops_24 : decode cX10_stops 24 = .ok (.aload_n 0, 1) := by decide +kernel
theorem dX10_stops_25 : decode cX10_stops 25 = .ok (.getfield 118, 3) := by decide +kernel
theorem dX10_stops_28 : decode cX10_stops 28 = .ok (.if_icmp .ge 82, 3) := by decide +kernel
theorem dX10_stops_31 : decode cX10_stops 31 = .ok (.aload_n 0, 1) := by decide +kernel
theorem dX10_stops_32 : decode cX10_stops 32 = .ok (.getfield 41, 3) := by decide +kernel
theorem dX10_stops_35 : decode cX10_stops 35 = .ok (.iload 4, 2) := by decide +kernel
theorem dX10_stops_37 : decode cX10_stops 37 = .ok (.iaload, 1) := by decide +kernel
theorem dX10_stops_38 : decode cX10_stops 38 = .ok (.iload_n 1, 1) := by decide +kernel
theorem dX10_stops_39 : decode cX10_stops 39 = .ok (.if_icmp .ne 65, 3) := by decide +kernel
theorem dX10_stops_42 : decode cX10_stops 42 = .ok (.aload_n 0, 1) := by decide +kernel
theorem dX10_stops_43 : decode cX10_stops 43 = .ok (.iload 4, 2) := by decide +kernel
theorem dX10_stops_45 : decode cX10_stops 45 = .ok (.iconst 0, 1) := by decide +kernel
theorem dX10_stops_46 : decode cX10_stops 46 = .ok (.invokevirtual 157, 3) := by decide +kernel
theorem dX10_stops_49 : decode cX10_stops 49 = .ok (.iload_n 2, 1) := by decide +kernel
theorem dX10_stops_50 : decode cX10_stops 50 = .ok (.if_icmp .le 54, 3) := by decide +kernel
theorem dX10_stops_53 : decode cX10_stops 53 = .ok (.aload_n 0, 1) := by decide +kernel
theorem dX10_stops_54 : decode cX10_stops 54 = .ok (.getfield 53, 3) := by decide +kernel
theorem dX10_stops_57 : decode cX10_stops 57 = .ok (.iload 4, 2) := by decide +kernel
theorem dX10_stops_59 : decode cX10_stops 59 = .ok (.iaload, 1) := by decide +kernel
theorem dX10_stops_60 : decode cX10_stops 60 = .ok (.iconst (-1), 1) := by decide +kernel
theorem dX10_stops_61 : decode cX10_stops 61 = .ok (.if_icmp .eq 17, 3) := by decide +kernel
theorem dX10_stops_64 : decode cX10_stops 64 = .ok (.aload_n 0, 1) := by decide +kernel
theorem dX10_stops_65 : decode cX10_stops 65 = .ok (.getfield 53, 3) := by decide +kernel
theorem dX10_stops_68 : decode cX10_stops 68 = .ok (.iload 4, 2) := by decide +kernel
theorem dX10_stops_70 : decode cX10_stops 70 = .ok (.iaload, 1) := by decide +kernel
theorem dX10_stops_71 : decode cX10_stops 71 = .ok (.iload_n 2, 1) := by decide +kernel
theorem dX10_stops_72 : decode cX10_stops 72 = .ok (.if_icmp .gt 6, 3) := by decide +kernel
theorem dX10_stops_75 : decode cX10_stops 75 = .ok (.goto 29, 3) := by decide +kernel
theorem dX10_stops_78 : decode cX10_stops 78 = .ok (.iload_n 3, 1) := by decide +kernel
theorem dX10_stops_79 : decode cX10_stops 79 = .ok (.aload_n 0, 1) := by decide +kernel
theorem dX10_stops_80 : decode cX10_stops 80 = .ok (.aload_n 0, 1) := by decide +kernel
theorem dX10_stops_81 : decode cX10_stops 81 = .ok (.getfield 309, 3) := by decide +kernel
theorem dX10_stops_84 : decode cX10_stops 84 = .ok (.iload 4, 2) := by decide +kernel
theorem dX10_stops_86 : decode cX10_stops 86 = .ok (.iload_n 2, 1) := by decide +kernel
theorem dX10_stops_87 : decode cX10_stops 87 = .ok (.iconst 2, 1) := by decide +kernel
theorem dX10_stops_88 : decode cX10_stops 88 = .ok (.invokevirtual 305, 3) := by decide +kernel
theorem dX10_stops_91 : decode cX10_stops 91 = .ok (.ifCond .eq 10, 3) := by decide +kernel
theorem dX10_stops_94 : decode cX10_stops 94 = .ok (.iconst 1, 1) := by decide +kernel
theorem dX10_stops_95 : decode cX10_stops 95 = .ok (.iload 4, 2) := by decide +kernel
