theorem dX13_init_0 : decode cX13_init 0 = .ok (.aload_n 0, 1) := by decide +kernel
theorem dX13_init_1 : decode cX13_init 1 = .ok (.invokespecial 1, 3) := by decide +kernel
theorem dX13_init_4 : decode cX13_init 4 = .ok (.aload_n 0, 1) := by decide +kernel
theorem dX13_init_5 : decode cX13_init 5 = .ok (.sipush 184, 3) := by decide +kernel
theorem dX13_init_8 : decode cX13_init 8 = .ok (.newarray .int, 2) := by decide +kernel
theorem dX13_init_10 : decode cX13_init 10 = .ok (.putfield 9, 3) := by decide +kernel
theorem dX13_init_13 : decode cX13_init 13 = .ok (.aload_n 0, 1) := by decide +kernel
theorem dX13_init_14 : decode cX13_init 14 = .ok (.sipush 184, 3) := by decide +kernel
theorem dX13_init_17 : decode cX13_init 17 = .ok (.newarray .int, 2) := by decide +kernel
theorem dX13_init_19 : decode cX13_init 19 = .ok (.putfield 13, 3) := by decide +kernel
theorem dX13_init_22 : decode cX13_init 22 = .ok (.aload_n 0, 1) := by decide +kernel
theorem dX13_init_23 : decode cX13_init 23 = .ok (.sipush 184, 3) := by decide +kernel
theorem dX13_init_26 : decode cX13_init 26 = .ok (.newarray .int, 2) := by decide +kernel
theorem dX13_init_28 : decode cX13_init 28 = .ok (.putfield 16, 3) := by decide +kernel
theorem dX13_init_31 : decode cX13_init 31 = .ok (.aload_n 0, 1) := by decide +kernel
theorem dX13_init_32 : decode cX13_init 32 = .ok (.sipush 184, 3) := by decide +kernel
theorem dX13_init_35 : decode cX13_init 35 = .ok (.newarray .int, 2) := by decide +kernel
theorem dX13_init_37 : decode cX13_init 37 = .ok (.putfield 19, 3) := by decide +kernel
theorem dX13_init_40 : decode cX13_init 40 = .ok (.aload_n 0, 1) := by decide +kernel
theorem dX13_init_41 : decode cX13_init 41 = .ok (.sipush 184, 3) := by decide +kernel
theorem dX13_init_44 : decode cX13_init 44 = .ok (.newarray .int, 2) := by decide +kernel
theorem dX13_init_46 : decode cX13_init 46 = .ok (.putfield 22, 3) := by decide +kernel
theorem dX13_init_49 : decode cX13_init 49 = .ok (.aload_n 0, 1) := by decide +kernel
theorem dX13_init_50 : decode cX13_init 50 = .ok (.sipush 1472, 3) := by decide +kernel
theorem dX13_init_53 : decode cX13_init 53 = .ok (.newarray .int, 2) := by decide +kernel
theorem dX13_init_55 : decode cX13_init 55 = .ok (.putfield 25, 3) := by decide +kernel
theorem dX13_init_58 : decode cX13_init 58 = .ok (.aload_n 0, 1) := by decide +kernel
theorem dX13_init_59 : decode cX13_init 59 = .ok (.bipush 6, 2) := by decide +kernel
theorem dX13_init_61 : decode cX13_init 61 = .ok (.newarray .int, 2) := by decide +kernel
theorem dX13_init_63 : decode cX13_init 63 = .ok (.putfield 28, 3) := by decide +kernel
theorem dX13_init_66 : decode cX13_init 66 = .ok (.aload_n 0, 1) := by decide +kernel
theorem dX13_init_67 : decode cX13_init 67 = .ok (.aload_n 0, 1) := by decide +kernel
theorem dX13_init_68 : decode cX13_init 68 = .ok (.getfield 9, 3) := by decide +kernel
theorem dX13_init_71 : decode cX13_init 71 = .ok (.putfield 31, 3) := by decide +kernel
theorem dX13_init_74 : decode cX13_init 74 = .ok (.aload_n 0, 1) := by decide +kernel
theorem dX13_init_75 : decode cX13_init 75 = .ok (.bipush 24, 2) := by decide +kernel
theorem dX13_init_77 : decode cX13_init 77 = .ok (.newarray .int, 2) := by decide +kernel
theorem dX13_init_79 : decode cX13_init 79 = .ok (.putfield 34, 3) := by decide +kernel
theorem dX13_init_82 : decode cX13_init 82 = .ok (.aload_n 0, 1) := by decide +kernel
theorem dX13_init_83 : decode cX13_init 83 = .ok (.sipush 500, 3) := by decide +kernel
theorem dX13_init_86 : decode cX13_init 86 = .ok (.newarray .int, 2) := by decide +kernel
theorem dX13_init_88 : decode cX13_init 88 = .ok (.putfield 37, 3) := by decide +kernel
theorem dX13_init_91 : decode cX13_init 91 = .ok (.aload_n 0, 1) := by decide +kernel
theorem dX13_init_92 : decode cX13_init 92 = .ok (.iconst (-1), 1) := by decide +kernel
theorem dX13_init_93 : decode cX13_init 93 = .ok (.putfield 40, 3) := by decide +kernel
theorem dX13_init_96 : decode cX13_init 96 = .ok (.aload_n 0, 1) := by decide +kernel
theorem dX13_init_97 : decode cX13_init 97 = .ok (.bipush 80, 2) := by decide +kernel
theorem dX13_init_99 : decode cX13_init 99 = .ok (.newarray .int, 2) := by decide +kernel
theorem dX13_init_101 : decode cX13_init 101 = .ok (.putfield 44, 3) := by decide +kernel
theorem dX13_init_104 : decode cX13_init 104 = .ok (.aload_n 0, 1) := by decide +kernel
theorem dX13_init_105 : decode cX13_init 105 = .ok (.bipush 8, 2) := by decide +kernel
theorem dX13_init_107 : decode cX13_init 107 = .ok (.anewarray 47, 3) := by decide +kernel
theorem dX13_init_110 : decode cX13_init 110 = .ok (.dup, 1) := by decide +kernel
theorem dX13_init_111 : decode cX13_init 111 = .ok (.iconst 0, 1) := by decide +kernel
theorem dX13_init_112 : decode cX13_init 112 = .ok (.ldc 49, 2) := by decide +kernel
theorem dX13_init_114 : decode cX13_init 114 = .ok (.aastore, 1) := by decide +kernel
theorem dX13_init_115 : decode cX13_init 115 = .ok (.dup, 1) := by decide +kernel
theorem dX13_init_116 : decode cX13_init 116 = .ok (.iconst 1, 1) := by decide +kernel
theorem dX13_init_117 : decode cX13_init 117 = .ok (.ldc 51, 2) := by decide +kernel
theorem dX13_init_119 : decode cX13_init 119 = .ok (.aastore, 1) := by decide +kernel
theorem dX13_init_120 : decode cX13_init 120 = .ok (.dup, 1) := by decide +kernel
theorem dX13_init_121 : decode cX13_init 121 = .ok (.iconst 2, 1) := by decide +kernel
theorem dX13_init_122 : decode cX13_init 122 = .ok (.ldc 53, 2) := by decide +kernel
theorem dX13_init_124 : decode cX13_init 124 = .ok (.aastore, 1) := by decide +kernel
theorem dX13_init_125 : decode cX13_init 125 = .ok (.dup, 1) := by decide +kernel
theorem dX13_init_126 : decode cX13_init 126 = .ok (.iconst 3, 1) := by decide +kernel
theorem dX13_init_127 : decode cX13_init 127 = .ok (.ldc 55, 2) := by decide +kernel
theorem dX13_init_129 : decode cX13_init 129 = .ok (.aastore, 1) := by decide +kernel
theorem dX13_init_130 : decode cX13_init 130 = .ok (.dup, 1) := by decide +kernel
theorem dX13_init_131 : decode cX13_init 131 = .ok (.iconst 4, 1) := by decide +kernel
theorem dX13_init_132 : decode cX13_init 132 = .ok (.ldc 57, 2) := by decide +kernel
theorem dX13_init_134 : decode cX13_init 134 = .ok (.aastore, 1) := by decide +kernel
theorem dX13_init_135 : decode cX13_init 135 = .ok (.dup, 1) := by decide +kernel
theorem dX13_init_136 : decode cX13_init 136 = .ok (.iconst 5, 1) := by decide +kernel
theorem dX13_init_137 : decode cX13_init 137 = .ok (.ldc 59, 2) := by decide +kernel
theorem dX13_init_139 : decode cX13_init 139 = .ok (.aastore, 1) := by decide +kernel
theorem dX13_init_140 : decode cX13_init 140 = .ok (.dup, 1) := by decide +kernel
theorem dX13_init_141 : decode cX13_init 141 = .ok (.bipush 6, 2) := by decide +kernel
theorem dX13_init_143 : decode cX13_init 143 = .ok (.ldc 61, 2) := by decide +kernel
theorem dX13_init_145 : decode cX13_init 145 = .ok (.aastore, 1) := by decide +kernel
theorem dX13_init_146 : decode cX13_init 146 = .ok (.dup, 1) := by decide +kernel
theorem dX13_init_147 : decode cX13_init 147 = .ok (.bipush 7, 2) := by decide +kernel
theorem dX13_init_149 : decode cX13_init 149 = .ok (.ldc 63, 2) := by decide +kernel
theorem dX13_init_151 : decode cX13_init 151 = .ok (.aastore, 1) := by decide +kernel
theorem dX13_init_152 : decode cX13_init 152 = .ok (.putfield 65, 3) := by decide +kernel
theorem dX13_init_155 : decode cX13_init 155 = .ok (.aload_n 0, 1) := by decide +kernel
theorem dX13_init_156 : decode cX13_init 156 = .ok (.bipush 8, 2) := by decide +kernel
theorem dX13_init_158 : decode cX13_init 158 = .ok (.iconst 4, 1) := by decide +kernel
theorem dX13_init_159 : decode cX13_init 159 = .ok (.invokevirtual 69, 3) := by decide +kernel
theorem dX13_init_162 : decode cX13_init 162 = .ok (.aload_n 0, 1) := by decide +kernel
theorem dX13_init_163 : decode cX13_init 163 = .ok (.getfield 31, 3) := by decide +kernel
theorem dX13_init_166 : decode cX13_init 166 = .ok (.bipush 13, 2) := by decide +kernel
theorem dX13_init_168 : decode cX13_init 168 = .ok (.iconst 1, 1) := by decide +kernel
theorem dX13_init_169 : decode cX13_init 169 = .ok (.iastore, 1) := by decide +kernel
theorem dX13_init_170 : decode cX13_init 170 = .ok (.aload_n 0, 1) := by decide +kernel
theorem dX13_init_171 : decode cX13_init 171 = .ok (.getfield 31, 3) := by decide +kernel
theorem dX13_init_174 : decode cX13_init 174 = .ok (.bipush 14, 2) := by decide +kernel
theorem dX13_init_176 : decode cX13_init 176 = .ok (.iconst 1, 1) := by decide +kernel
theorem dX13_init_177 : decode cX13_init 177 = .ok (.iastore, 1) := by decide +kernel
theorem dX13_init_178 : decode cX13_init 178 = .ok (.aload_n 0, 1) := by decide +kernel
theorem dX13_init_179 : decode cX13_init 179 = .ok (.getfield 31, 3) := by decide +kernel
theorem dX13_init_182 : decode cX13_init 182 = .ok (.bipush 40, 2) := by decide +kernel
theorem dX13_init_184 : decode cX13_init 184 = .ok (.iconst 1, 1) := by decide +kernel
theorem dX13_init_185 : decode cX13_init 185 = .ok (.iastore, 1) := by decide +kernel
theorem dX13_init_186 : decode cX13_init 186 = .ok (.aload_n 0, 1) := by decide +kernel
theorem dX13_init_187 : decode cX13_init 187 = .ok (.iconst 3, 1) := by decide +kernel
theorem dX13_init_188 : decode cX13_init 188 = .ok (.iconst 2, 1) := by decide +kernel
theorem dX13_init_189 : decode cX13_init 189 = .ok (.iconst 4, 1) := by decide +kernel
theorem dX13_init_190 : decode cX13_init 190 = .ok (.iconst 0, 1) := by decide +kernel
theorem dX13_init_191 : decode cX13_init 191 = .ok (.invokevirtual 73, 3) := by decide +kernel
theorem dX13_init_194 : decode cX13_init 194 = .ok (.aload_n 0, 1) := by decide +kernel
theorem dX13_init_195 : decode cX13_init 195 = .ok (.iconst 5, 1) := by decide +kernel
theorem dX13_init_196 : decode cX13_init 196 = .ok (.iconst 1, 1) := by decide +kernel
theorem dX13_init_197 : decode cX13_init 197 = .ok (.iconst 2, 1) := by decide +kernel
theorem dX13_init_198 : decode cX13_init 198 = .ok (.iconst 2, 1) := by decide +kernel
theorem dX13_init_199 : decode cX13_init 199 = .ok (.invokevirtual 73, 3) := by decide +kernel
theorem dX13_init_202 : decode cX13_init 202 = .ok (.return_, 1) := by decide +kernel
theorem dX13_thrown_0 : decode cX13_thrown 0 = .ok (.aload_n 0, 1) := by decide +kernel
theorem dX13_thrown_1 : decode cX13_thrown 1 = .ok (.getfield 77, 3) := by decide +kernel
theorem dX13_thrown_4 : decode cX13_thrown 4 = .ok (.ireturn, 1) := by decide +kernel
theorem dX13_inRange_0 : decode cX13_inRange 0 = .ok (.iload_n 0, 1) := by decide +kernel
theorem dX13_inRange_1 : decode cX13_inRange 1 = .ok (.iload_n 1, 1) := by decide +kernel
theorem dX13_inRange_2 : decode cX13_inRange 2 = .ok (.if_icmp .lt 12, 3) := by decide +kernel
theorem dX13_inRange_5 : decode cX13_inRange 5 = .ok (.iload_n 0, 1) := by decide +kernel
theorem dX13_inRange_6 : decode cX13_inRange 6 = .ok (.iload_n 2, 1) := by decide +kernel
theorem dX13_inRange_7 : decode cX13_inRange 7 = .ok (.if_icmp .gt 7, 3) := by decide +kernel
theorem dX13_inRange_10 : decode cX13_inRange 10 = .ok (.iconst 1, 1) := by decide +kernel
theorem dX13_inRange_11 : decode cX13_inRange 11 = .ok (.goto 4, 3) := by decide +kernel
theorem dX13_inRange_14 : decode cX13_inRange 14 = .ok (.iconst 0, 1) := by decide +kernel
theorem dX13_inRange_15 : decode cX13_inRange 15 = .ok (.ireturn, 1) := by decide +kernel
theorem dX13_lacks_0 : decode cX13_lacks 0 = .ok (.aload_n 0, 1) := by decide +kernel
theorem dX13_lacks_1 : decode cX13_lacks 1 = .ok (.iload_n 1, 1) := by decide +kernel
theorem dX13_lacks_2 : decode cX13_lacks 2 = .ok (.ifCond .eq 7, 3) := by decide +kernel
theorem dX13_lacks_5 : decode cX13_lacks 5 = .ok (.iconst 0, 1) := by decide +kernel
theorem dX13_lacks_6 : decode cX13_lacks 6 = .ok (.goto 4, 3) := by decide +kernel
theorem dX13_lacks_9 : decode cX13_lacks 9 = .ok (.iconst 1, 1) := by decide +kernel
theorem dX13_lacks_10 : decode cX13_lacks 10 = .ok (.putfield 77, 3) := by decide +kernel
theorem dX13_lacks_13 : decode cX13_lacks 13 = .ok (.iload_n 1, 1) := by decide +kernel
theorem dX13_lacks_14 : decode cX13_lacks 14 = .ok (.ifCond .ne 7, 3) := by decide +kernel
theorem dX13_lacks_17 : decode cX13_lacks 17 = .ok (.iconst 1, 1) := by decide +kernel
theorem dX13_lacks_18 : decode cX13_lacks 18 = .ok (.goto 4, 3) := by decide +kernel
theorem dX13_lacks_21 : decode cX13_lacks 21 = .ok (.iconst 0, 1) := by decide +kernel
theorem dX13_lacks_22 : decode cX13_lacks 22 = .ok (.ireturn, 1) := by decide +kernel
theorem dX13_lacksBoth_0 : decode cX13_lacksBoth 0 = .ok (.aload_n 0, 1) := by decide +kernel
theorem dX13_lacksBoth_1 : decode cX13_lacksBoth 1 = .ok (.iload_n 1, 1) := by decide +kernel
theorem dX13_lacksBoth_2 : decode cX13_lacksBoth 2 = .ok (.invokevirtual 80, 3) := by decide +kernel
theorem dX13_lacksBoth_5 : decode cX13_lacksBoth 5 = .ok (.ifCond .eq 5, 3) := by decide +kernel
theorem dX13_lacksBoth_8 : decode cX13_lacksBoth 8 = .ok (.iconst 1, 1) := by decide +kernel
theorem dX13_lacksBoth_9 : decode cX13_lacksBoth 9 = .ok (.ireturn, 1) := by decide +kernel
theorem dX13_lacksBoth_10 : decode cX13_lacksBoth 10 = .ok (.aload_n 0, 1) := by decide +kernel
theorem dX13_lacksBoth_11 : decode cX13_lacksBoth 11 = .ok (.iload_n 2, 1) := by decide +kernel
theorem dX13_lacksBoth_12 : decode cX13_lacksBoth 12 = .ok (.ifCond .eq 7, 3) := by decide +kernel
theorem dX13_lacksBoth_15 : decode cX13_lacksBoth 15 = .ok (.iconst 0, 1) := by decide +kernel
theorem dX13_lacksBoth_16 : decode cX13_lacksBoth 16 = .ok (.goto 4, 3) := by decide +kernel
theorem dX13_lacksBoth_19 : decode cX13_lacksBoth 19 = .ok (.iconst 2, 1) := by decide +kernel
theorem dX13_lacksBoth_20 : decode cX13_lacksBoth 20 = .ok (.putfield 77, 3) := by decide +kernel
theorem dX13_lacksBoth_23 : decode cX13_lacksBoth 23 = .ok (.aload_n 0, 1) := by decide +kernel
theorem dX13_lacksBoth_24 : decode cX13_lacksBoth 24 = .ok (.getfield 77, 3) := by decide +kernel
theorem dX13_lacksBoth_27 : decode cX13_lacksBoth 27 = .ok (.ifCond .eq 7, 3) := by decide +kernel
theorem dX13_lacksBoth_30 : decode cX13_lacksBoth 30 = .ok (.iconst 1, 1) := by decide +kernel
theorem dX13_lacksBoth_31 : decode cX13_lacksBoth 31 = .ok (.goto 4, 3) := by decide +kernel
theorem dX13_lacksBoth_34 : decode cX13_lacksBoth 34 = .ok (.iconst 0, 1) := by decide +kernel
theorem dX13_lacksBoth_35 : decode cX13_lacksBoth 35 = .ok (.ireturn, 1) := by decide +kernel
theorem dX13_sizeOf_0 : decode cX13_sizeOf 0 = .ok (.iload_n 0, 1) := by decide +kernel
theorem dX13_sizeOf_1 : decode cX13_sizeOf 1 = .ok (.ifCond .ge 8, 3) := by decide +kernel
theorem dX13_sizeOf_4 : decode cX13_sizeOf 4 = .ok (.iload_n 0, 1) := by decide +kernel
theorem dX13_sizeOf_5 : decode cX13_sizeOf 5 = .ok (.ineg, 1) := by decide +kernel
theorem dX13_sizeOf_6 : decode cX13_sizeOf 6 = .ok (.goto 4, 3) := by decide +kernel
theorem dX13_sizeOf_9 : decode cX13_sizeOf 9 = .ok (.iload_n 0, 1) := by decide +kernel
theorem dX13_sizeOf_10 : decode cX13_sizeOf 10 = .ok (.ireturn, 1) := by decide +kernel
theorem dX13_least_0 : decode cX13_least 0 = .ok (.iload_n 0, 1) := by decide +kernel
theorem dX13_least_1 : decode cX13_least 1 = .ok (.iload_n 1, 1) := by decide +kernel
theorem dX13_least_2 : decode cX13_least 2 = .ok (.if_icmp .ge 7, 3) := by decide +kernel
theorem dX13_least_5 : decode cX13_least 5 = .ok (.iload_n 0, 1) := by decide +kernel
theorem dX13_least_6 : decode cX13_least 6 = .ok (.goto 4, 3) := by decide +kernel
theorem dX13_least_9 : decode cX13_least 9 = .ok (.iload_n 1, 1) := by decide +kernel
theorem dX13_least_10 : decode cX13_least 10 = .ok (.ireturn, 1) := by decide +kernel
theorem dX13_most_0 : decode cX13_most 0 = .ok (.iload_n 0, 1) := by decide +kernel
theorem dX13_most_1 : decode cX13_most 1 = .ok (.iload_n 1, 1) := by decide +kernel
theorem dX13_most_2 : decode cX13_most 2 = .ok (.if_icmp .le 7, 3) := by decide +kernel
theorem dX13_most_5 : decode cX13_most 5 = .ok (.iload_n 0, 1) := by decide +kernel
theorem dX13_most_6 : decode cX13_most 6 = .ok (.goto 4, 3) := by decide +kernel
theorem dX13_most_9 : decode cX13_most 9 = .ok (.iload_n 1, 1) := by decide +kernel
theorem dX13_most_10 : decode cX13_most 10 = .ok (.ireturn, 1) := by decide +kernel
theorem dX13_begin_0 : decode cX13_begin 0 = .ok (.iconst 0, 1) := by decide +kernel
theorem dX13_begin_1 : decode cX13_begin 1 = .ok (.istore_n 3, 1) := by decide +kernel
theorem dX13_begin_2 : decode cX13_begin 2 = .ok (.iload_n 3, 1) := by decide +kernel
theorem dX13_begin_3 : decode cX13_begin 3 = .ok (.sipush 184, 3) := by decide +kernel
theorem dX13_begin_6 : decode cX13_begin 6 = .ok (.if_icmp .ge 16, 3) := by decide +kernel
theorem dX13_begin_9 : decode cX13_begin 9 = .ok (.aload_n 0, 1) := by decide +kernel
theorem dX13_begin_10 : decode cX13_begin 10 = .ok (.getfield 31, 3) := by decide +kernel
theorem dX13_begin_13 : decode cX13_begin 13 = .ok (.iload_n 3, 1) := by decide +kernel
theorem dX13_begin_14 : decode cX13_begin 14 = .ok (.iconst 0, 1) := by decide +kernel
theorem dX13_begin_15 : decode cX13_begin 15 = .ok (.iastore, 1) := by decide +kernel
theorem dX13_begin_16 : decode cX13_begin 16 = .ok (.iinc 3 1, 3) := by decide +kernel
theorem dX13_begin_19 : decode cX13_begin 19 = .ok (.goto (-17), 3) := by decide +kernel
theorem dX13_begin_22 : decode cX13_begin 22 = .ok (.aload_n 0, 1) := by decide +kernel
theorem dX13_begin_23 : decode cX13_begin 23 = .ok (.getfield 31, 3) := by decide +kernel
theorem dX13_begin_26 : decode cX13_begin 26 = .ok (.iconst 1, 1) := by decide +kernel
theorem dX13_begin_27 : decode cX13_begin 27 = .ok (.iload_n 1, 1) := by decide +kernel
theorem dX13_begin_28 : decode cX13_begin 28 = .ok (.iastore, 1) := by decide +kernel
theorem dX13_begin_29 : decode cX13_begin 29 = .ok (.aload_n 0, 1) := by decide +kernel
theorem dX13_begin_30 : decode cX13_begin 30 = .ok (.getfield 31, 3) := by decide +kernel
theorem dX13_begin_33 : decode cX13_begin 33 = .ok (.iconst 2, 1) := by decide +kernel
theorem dX13_begin_34 : decode cX13_begin 34 = .ok (.iload_n 2, 1) := by decide +kernel
theorem dX13_begin_35 : decode cX13_begin 35 = .ok (.iastore, 1) := by decide +kernel
theorem dX13_begin_36 : decode cX13_begin 36 = .ok (.return_, 1) := by decide +kernel
theorem dX13_addTrain_0 : decode cX13_addTrain 0 = .ok (.aload_n 0, 1) := by decide +kernel
theorem dX13_addTrain_1 : decode cX13_addTrain 1 = .ok (.getfield 31, 3) := by decide +kernel
theorem dX13_addTrain_4 : decode cX13_addTrain 4 = .ok (.iconst 3, 1) := by decide +kernel
theorem dX13_addTrain_5 : decode cX13_addTrain 5 = .ok (.iaload, 1) := by decide +kernel
theorem dX13_addTrain_6 : decode cX13_addTrain 6 = .ok (.istore 5, 2) := by decide +kernel
theorem dX13_addTrain_8 : decode cX13_addTrain 8 = .ok (.aload_n 0, 1) := by decide +kernel
theorem dX13_addTrain_9 : decode cX13_addTrain 9 = .ok (.getfield 31, 3) := by decide +kernel
theorem dX13_addTrain_12 : decode cX13_addTrain 12 = .ok (.iconst 3, 1) := by decide +kernel
theorem dX13_addTrain_13 : decode cX13_addTrain 13 = .ok (.dup2, 1) := by decide +kernel
theorem dX13_addTrain_14 : decode cX13_addTrain 14 = .ok (.iaload, 1) := by decide +kernel
theorem dX13_addTrain_15 : decode cX13_addTrain 15 = .ok (.iconst 1, 1) := by decide +kernel
theorem dX13_addTrain_16 : decode cX13_addTrain 16 = .ok (.iadd, 1) := by decide +kernel
theorem dX13_addTrain_17 : decode cX13_addTrain 17 = .ok (.iastore, 1) := by decide +kernel
theorem dX13_addTrain_18 : decode cX13_addTrain 18 = .ok (.aload_n 0, 1) := by decide +kernel
theorem dX13_addTrain_19 : decode cX13_addTrain 19 = .ok (.iload 5, 2) := by decide +kernel
theorem dX13_addTrain_21 : decode cX13_addTrain 21 = .ok (.iconst 0, 1) := by decide +kernel
theorem dX13_addTrain_22 : decode cX13_addTrain 22 = .ok (.iload_n 1, 1) := by decide +kernel
theorem dX13_addTrain_23 : decode cX13_addTrain 23 = .ok (.invokevirtual 84, 3) := by decide +kernel
theorem dX13_addTrain_26 : decode cX13_addTrain 26 = .ok (.aload_n 0, 1) := by decide +kernel
theorem dX13_addTrain_27 : decode cX13_addTrain 27 = .ok (.iload 5, 2) := by decide +kernel
theorem dX13_addTrain_29 : decode cX13_addTrain 29 = .ok (.iconst 1, 1) := by decide +kernel
theorem dX13_addTrain_30 : decode cX13_addTrain 30 = .ok (.iload_n 2, 1) := by decide +kernel
theorem dX13_addTrain_31 : decode cX13_addTrain 31 = .ok (.invokevirtual 84, 3) := by decide +kernel
theorem dX13_addTrain_34 : decode cX13_addTrain 34 = .ok (.aload_n 0, 1) := by decide +kernel
theorem dX13_addTrain_35 : decode cX13_addTrain 35 = .ok (.iload 5, 2) := by decide +kernel
theorem dX13_addTrain_37 : decode cX13_addTrain 37 = .ok (.iconst 2, 1) := by decide +kernel
theorem dX13_addTrain_38 : decode cX13_addTrain 38 = .ok (.iload_n 3, 1) := by decide +kernel
theorem dX13_addTrain_39 : decode cX13_addTrain 39 = .ok (.invokevirtual 84, 3) := by decide +kernel
theorem dX13_addTrain_42 : decode cX13_addTrain 42 = .ok (.aload_n 0, 1) := by decide +kernel
theorem dX13_addTrain_43 : decode cX13_addTrain 43 = .ok (.iload 5, 2) := by decide +kernel
theorem dX13_addTrain_45 : decode cX13_addTrain 45 = .ok (.iconst 3, 1) := by decide +kernel
theorem dX13_addTrain_46 : decode cX13_addTrain 46 = .ok (.iload 4, 2) := by decide +kernel
theorem dX13_addTrain_48 : decode cX13_addTrain 48 = .ok (.invokevirtual 84, 3) := by decide +kernel
theorem dX13_addTrain_51 : decode cX13_addTrain 51 = .ok (.return_, 1) := by decide +kernel
theorem dX13_of_0 : decode cX13_of 0 = .ok (.aload_n 0, 1) := by decide +kernel
theorem dX13_of_1 : decode cX13_of 1 = .ok (.getfield 31, 3) := by decide +kernel
theorem dX13_of_4 : decode cX13_of 4 = .ok (.bipush 58, 2) := by decide +kernel
theorem dX13_of_6 : decode cX13_of 6 = .ok (.bipush 15, 2) := by decide +kernel
theorem dX13_of_8 : decode cX13_of 8 = .ok (.iload_n 1, 1) := by decide +kernel
theorem dX13_of_9 : decode cX13_of 9 = .ok (.imul, 1) := by decide +kernel
theorem dX13_of_10 : decode cX13_of 10 = .ok (.iadd, 1) := by decide +kernel
theorem dX13_of_11 : decode cX13_of 11 = .ok (.iload_n 2, 1) := by decide +kernel
theorem dX13_of_12 : decode cX13_of 12 = .ok (.iadd, 1) := by decide +kernel
theorem dX13_of_13 : decode cX13_of 13 = .ok (.iaload, 1) := by decide +kernel
theorem dX13_of_14 : decode cX13_of 14 = .ok (.ireturn, 1) := by decide +kernel
theorem dX13_lay_0 : decode cX13_lay 0 = .ok (.aload_n 0, 1) := by decide +kernel
theorem dX13_lay_1 : decode cX13_lay 1 = .ok (.getfield 31, 3) := by decide +kernel
theorem dX13_lay_4 : decode cX13_lay 4 = .ok (.bipush 58, 2) := by decide +kernel
theorem dX13_lay_6 : decode cX13_lay 6 = .ok (.bipush 15, 2) := by decide +kernel
theorem dX13_lay_8 : decode cX13_lay 8 = .ok (.iload_n 1, 1) := by decide +kernel
theorem dX13_lay_9 : decode cX13_lay 9 = .ok (.imul, 1) := by decide +kernel
theorem dX13_lay_10 : decode cX13_lay 10 = .ok (.iadd, 1) := by decide +kernel
theorem dX13_lay_11 : decode cX13_lay 11 = .ok (.iload_n 2, 1) := by decide +kernel
theorem dX13_lay_12 : decode cX13_lay 12 = .ok (.iadd, 1) := by decide +kernel
theorem dX13_lay_13 : decode cX13_lay 13 = .ok (.iload_n 3, 1) := by decide +kernel
theorem dX13_lay_14 : decode cX13_lay 14 = .ok (.iastore, 1) := by decide +kernel
theorem dX13_lay_15 : decode cX13_lay 15 = .ok (.return_, 1) := by decide +kernel
theorem dX13_add_0 : decode cX13_add 0 = .ok (.aload_n 0, 1) := by decide +kernel
theorem dX13_add_1 : decode cX13_add 1 = .ok (.iload_n 1, 1) := by decide +kernel
theorem dX13_add_2 : decode cX13_add 2 = .ok (.iload_n 2, 1) := by decide +kernel
theorem dX13_add_3 : decode cX13_add 3 = .ok (.aload_n 0, 1) := by decide +kernel
theorem dX13_add_4 : decode cX13_add 4 = .ok (.iload_n 1, 1) := by decide +kernel
theorem dX13_add_5 : decode cX13_add 5 = .ok (.iload_n 2, 1) := by decide +kernel
theorem dX13_add_6 : decode cX13_add 6 = .ok (.invokevirtual 88, 3) := by decide +kernel
theorem dX13_add_9 : decode cX13_add 9 = .ok (.iload_n 3, 1) := by decide +kernel
theorem dX13_add_10 : decode cX13_add 10 = .ok (.iadd, 1) := by decide +kernel
theorem dX13_add_11 : decode cX13_add 11 = .ok (.invokevirtual 84, 3) := by decide +kernel
theorem dX13_add_14 : decode cX13_add 14 = .ok (.return_, 1) := by decide +kernel
theorem dX13_ofPacket_0 : decode cX13_ofPacket 0 = .ok (.aload_n 0, 1) := by decide +kernel
theorem dX13_ofPacket_1 : decode cX13_ofPacket 1 = .ok (.getfield 31, 3) := by decide +kernel
theorem dX13_ofPacket_4 : decode cX13_ofPacket 4 = .ok (.sipush 148, 3) := by decide +kernel
theorem dX13_ofPacket_7 : decode cX13_ofPacket 7 = .ok (.iconst 3, 1) := by decide +kernel
theorem dX13_ofPacket_8 : decode cX13_ofPacket 8 = .ok (.iload_n 1, 1) := by decide +kernel
theorem dX13_ofPacket_9 : decode cX13_ofPacket 9 = .ok (.imul, 1) := by decide +kernel
theorem dX13_ofPacket_10 : decode cX13_ofPacket 10 = .ok (.iadd, 1) := by decide +kernel
theorem dX13_ofPacket_11 : decode cX13_ofPacket 11 = .ok (.iload_n 2, 1) := by decide +kernel
theorem dX13_ofPacket_12 : decode cX13_ofPacket 12 = .ok (.iadd, 1) := by decide +kernel
theorem dX13_ofPacket_13 : decode cX13_ofPacket 13 = .ok (.iaload, 1) := by decide +kernel
theorem dX13_ofPacket_14 : decode cX13_ofPacket 14 = .ok (.ireturn, 1) := by decide +kernel
theorem dX13_isTrain_0 : decode cX13_isTrain 0 = .ok (.iload_n 1, 1) := by decide +kernel
theorem dX13_isTrain_1 : decode cX13_isTrain 1 = .ok (.iconst 0, 1) := by decide +kernel
theorem dX13_isTrain_2 : decode cX13_isTrain 2 = .ok (.aload_n 0, 1) := by decide +kernel
theorem dX13_isTrain_3 : decode cX13_isTrain 3 = .ok (.getfield 31, 3) := by decide +kernel
theorem dX13_isTrain_6 : decode cX13_isTrain 6 = .ok (.iconst 3, 1) := by decide +kernel
theorem dX13_isTrain_7 : decode cX13_isTrain 7 = .ok (.iaload, 1) := by decide +kernel
theorem dX13_isTrain_8 : decode cX13_isTrain 8 = .ok (.iconst 1, 1) := by decide +kernel
theorem dX13_isTrain_9 : decode cX13_isTrain 9 = .ok (.isub, 1) := by decide +kernel
theorem dX13_isTrain_10 : decode cX13_isTrain 10 = .ok (.invokestatic 92, 3) := by decide +kernel
theorem dX13_isTrain_13 : decode cX13_isTrain 13 = .ok (.ireturn, 1) := by decide +kernel
theorem dX13_isSection_0 : decode cX13_isSection 0 = .ok (.iload_n 1, 1) := by decide +kernel
theorem dX13_isSection_1 : decode cX13_isSection 1 = .ok (.iconst 0, 1) := by decide +kernel
theorem dX13_isSection_2 : decode cX13_isSection 2 = .ok (.aload_n 0, 1) := by decide +kernel
theorem dX13_isSection_3 : decode cX13_isSection 3 = .ok (.getfield 31, 3) := by decide +kernel
theorem dX13_isSection_6 : decode cX13_isSection 6 = .ok (.iconst 1, 1) := by decide +kernel
theorem dX13_isSection_7 : decode cX13_isSection 7 = .ok (.iaload, 1) := by decide +kernel
theorem dX13_isSection_8 : decode cX13_isSection 8 = .ok (.iconst 1, 1) := by decide +kernel
theorem dX13_isSection_9 : decode cX13_isSection 9 = .ok (.isub, 1) := by decide +kernel
theorem dX13_isSection_10 : decode cX13_isSection 10 = .ok (.invokestatic 92, 3) := by decide +kernel
theorem dX13_isSection_13 : decode cX13_isSection 13 = .ok (.ireturn, 1) := by decide +kernel
theorem dX13_isPacket_0 : decode cX13_isPacket 0 = .ok (.iload_n 1, 1) := by decide +kernel
theorem dX13_isPacket_1 : decode cX13_isPacket 1 = .ok (.iconst 0, 1) := by decide +kernel
theorem dX13_isPacket_2 : decode cX13_isPacket 2 = .ok (.aload_n 0, 1) := by decide +kernel
theorem dX13_isPacket_3 : decode cX13_isPacket 3 = .ok (.getfield 31, 3) := by decide +kernel
theorem dX13_isPacket_6 : decode cX13_isPacket 6 = .ok (.bipush 6, 2) := by decide +kernel
theorem dX13_isPacket_8 : decode cX13_isPacket 8 = .ok (.iaload, 1) := by decide +kernel
theorem dX13_isPacket_9 : decode cX13_isPacket 9 = .ok (.iconst 1, 1) := by decide +kernel
theorem dX13_isPacket_10 : decode cX13_isPacket 10 = .ok (.isub, 1) := by decide +kernel
theorem dX13_isPacket_11 : decode cX13_isPacket 11 = .ok (.invokestatic 92, 3) := by decide +kernel
theorem dX13_isPacket_14 : decode cX13_isPacket 14 = .ok (.ireturn, 1) := by decide +kernel
theorem dX13_first_0 : decode cX13_first 0 = .ok (.iconst 0, 1) := by decide +kernel
theorem dX13_first_1 : decode cX13_first 1 = .ok (.istore_n 3, 1) := by decide +kernel
theorem dX13_first_2 : decode cX13_first 2 = .ok (.iload_n 3, 1) := by decide +kernel
theorem dX13_first_3 : decode cX13_first 3 = .ok (.aload_n 0, 1) := by decide +kernel
theorem dX13_first_4 : decode cX13_first 4 = .ok (.getfield 31, 3) := by decide +kernel
theorem dX13_first_7 : decode cX13_first 7 = .ok (.iconst 3, 1) := by decide +kernel
theorem dX13_first_8 : decode cX13_first 8 = .ok (.iaload, 1) := by decide +kernel
theorem dX13_first_9 : decode cX13_first 9 = .ok (.if_icmp .ge 21, 3) := by decide +kernel
theorem dX13_first_12 : decode cX13_first 12 = .ok (.aload_n 0, 1) := by decide +kernel
theorem dX13_first_13 : decode cX13_first 13 = .ok (.iload_n 3, 1) := by decide +kernel
theorem dX13_first_14 : decode cX13_first 14 = .ok (.iload_n 1, 1) := by decide +kernel
theorem dX13_first_15 : decode cX13_first 15 = .ok (.invokevirtual 88, 3) := by decide +kernel
theorem dX13_first_18 : decode cX13_first 18 = .ok (.iload_n 2, 1) := by decide +kernel
theorem dX13_first_19 : decode cX13_first 19 = .ok (.if_icmp .ne 5, 3) := by decide +kernel
theorem dX13_first_22 : decode cX13_first 22 = .ok (.iload_n 3, 1) := by decide +kernel
theorem dX13_first_23 : decode cX13_first 23 = .ok (.ireturn, 1) := by decide +kernel
theorem dX13_first_24 : decode cX13_first 24 = .ok (.iinc 3 1, 3) := by decide +kernel
theorem dX13_first_27 : decode cX13_first 27 = .ok (.goto (-25), 3) := by decide +kernel
theorem dX13_first_30 : decode cX13_first 30 = .ok (.iconst (-1), 1) := by decide +kernel
theorem dX13_first_31 : decode cX13_first 31 = .ok (.ireturn, 1) := by decide +kernel
theorem dX13_hasPower_0 : decode cX13_hasPower 0 = .ok (.aload_n 0, 1) := by decide +kernel
theorem dX13_hasPower_1 : decode cX13_hasPower 1 = .ok (.getfield 31, 3) := by decide +kernel
theorem dX13_hasPower_4 : decode cX13_hasPower 4 = .ok (.iconst 4, 1) := by decide +kernel
theorem dX13_hasPower_5 : decode cX13_hasPower 5 = .ok (.iaload, 1) := by decide +kernel
theorem dX13_hasPower_6 : decode cX13_hasPower 6 = .ok (.ifCond .ne 7, 3) := by decide +kernel
theorem dX13_hasPower_9 : decode cX13_hasPower 9 = .ok (.iconst 1, 1) := by decide +kernel
theorem dX13_hasPower_10 : decode cX13_hasPower 10 = .ok (.goto 4, 3) := by decide +kernel
theorem dX13_hasPower_13 : decode cX13_hasPower 13 = .ok (.iconst 0, 1) := by decide +kernel
theorem dX13_hasPower_14 : decode cX13_hasPower 14 = .ok (.ireturn, 1) := by decide +kernel
theorem dX13_behind_0 : decode cX13_behind 0 = .ok (.iload_n 1, 1) := by decide +kernel
theorem dX13_behind_1 : decode cX13_behind 1 = .ok (.iconst 1, 1) := by decide +kernel
theorem dX13_behind_2 : decode cX13_behind 2 = .ok (.iadd, 1) := by decide +kernel
theorem dX13_behind_3 : decode cX13_behind 3 = .ok (.aload_n 0, 1) := by decide +kernel
theorem dX13_behind_4 : decode cX13_behind 4 = .ok (.getfield 31, 3) := by decide +kernel
theorem dX13_behind_7 : decode cX13_behind 7 = .ok (.iconst 1, 1) := by decide +kernel
theorem dX13_behind_8 : decode cX13_behind 8 = .ok (.iaload, 1) := by decide +kernel
theorem dX13_behind_9 : decode cX13_behind 9 = .ok (.irem, 1) := by decide +kernel
theorem dX13_behind_10 : decode cX13_behind 10 = .ok (.ireturn, 1) := by decide +kernel
theorem dX13_tick_0 : decode cX13_tick 0 = .ok (.aload_n 0, 1) := by decide +kernel
theorem dX13_tick_1 : decode cX13_tick 1 = .ok (.iconst 0, 1) := by decide +kernel
theorem dX13_tick_2 : decode cX13_tick 2 = .ok (.putfield 77, 3) := by decide +kernel
theorem dX13_tick_5 : decode cX13_tick 5 = .ok (.aload_n 0, 1) := by decide +kernel
theorem dX13_tick_6 : decode cX13_tick 6 = .ok (.getfield 31, 3) := by decide +kernel
theorem dX13_tick_9 : decode cX13_tick 9 = .ok (.iconst 0, 1) := by decide +kernel
theorem dX13_tick_10 : decode cX13_tick 10 = .ok (.iaload, 1) := by decide +kernel
theorem dX13_tick_11 : decode cX13_tick 11 = .ok (.ireturn, 1) := by decide +kernel
theorem dX13_sectionCount_0 : decode cX13_sectionCount 0 = .ok (.aload_n 0, 1) := by decide +kernel
theorem dX13_sectionCount_1 : decode cX13_sectionCount 1 = .ok (.iconst 0, 1) := by decide +kernel
theorem dX13_sectionCount_2 : decode cX13_sectionCount 2 = .ok (.putfield 77, 3) := by decide +kernel
theorem dX13_sectionCount_5 : decode cX13_sectionCount 5 = .ok (.aload_n 0, 1) := by decide +kernel
theorem dX13_sectionCount_6 : decode cX13_sectionCount 6 = .ok (.getfield 31, 3) := by decide +kernel
theorem dX13_sectionCount_9 : decode cX13_sectionCount 9 = .ok (.iconst 1, 1) := by decide +kernel
theorem dX13_sectionCount_10 : decode cX13_sectionCount 10 = .ok (.iaload, 1) := by decide +kernel
theorem dX13_sectionCount_11 : decode cX13_sectionCount 11 = .ok (.ireturn, 1) := by decide +kernel
theorem dX13_isTunnel_0 : decode cX13_isTunnel 0 = .ok (.aload_n 0, 1) := by decide +kernel
theorem dX13_isTunnel_1 : decode cX13_isTunnel 1 = .ok (.aload_n 0, 1) := by decide +kernel
theorem dX13_isTunnel_2 : decode cX13_isTunnel 2 = .ok (.iload_n 1, 1) := by decide +kernel
theorem dX13_isTunnel_3 : decode cX13_isTunnel 3 = .ok (.invokevirtual 96, 3) := by decide +kernel
theorem dX13_isTunnel_6 : decode cX13_isTunnel 6 = .ok (.invokevirtual 80, 3) := by decide +kernel
theorem dX13_isTunnel_9 : decode cX13_isTunnel 9 = .ok (.ifCond .ne 20, 3) := by decide +kernel
theorem dX13_isTunnel_12 : decode cX13_isTunnel 12 = .ok (.aload_n 0, 1) := by decide +kernel
theorem dX13_isTunnel_13 : decode cX13_isTunnel 13 = .ok (.getfield 31, 3) := by decide +kernel
theorem dX13_isTunnel_16 : decode cX13_isTunnel 16 = .ok (.bipush 10, 2) := by decide +kernel
theorem dX13_isTunnel_18 : decode cX13_isTunnel 18 = .ok (.iload_n 1, 1) := by decide +kernel
theorem dX13_isTunnel_19 : decode cX13_isTunnel 19 = .ok (.iadd, 1) := by decide +kernel
theorem dX13_isTunnel_20 : decode cX13_isTunnel 20 = .ok (.iaload, 1) := by decide +kernel
theorem dX13_isTunnel_21 : decode cX13_isTunnel 21 = .ok (.iconst 1, 1) := by decide +kernel
theorem dX13_isTunnel_22 : decode cX13_isTunnel 22 = .ok (.if_icmp .ne 7, 3) := by decide +kernel
theorem dX13_isTunnel_25 : decode cX13_isTunnel 25 = .ok (.iconst 1, 1) := by decide +kernel
theorem dX13_isTunnel_26 : decode cX13_isTunnel 26 = .ok (.goto 4, 3) := by decide +kernel
theorem dX13_isTunnel_29 : decode cX13_isTunnel 29 = .ok (.iconst 0, 1) := by decide +kernel
theorem dX13_isTunnel_30 : decode cX13_isTunnel 30 = .ok (.ireturn, 1) := by decide +kernel
theorem dX13_hasShort_0 : decode cX13_hasShort 0 = .ok (.aload_n 0, 1) := by decide +kernel
theorem dX13_hasShort_1 : decode cX13_hasShort 1 = .ok (.aload_n 0, 1) := by decide +kernel
theorem dX13_hasShort_2 : decode cX13_hasShort 2 = .ok (.iload_n 1, 1) := by decide +kernel
theorem dX13_hasShort_3 : decode cX13_hasShort 3 = .ok (.invokevirtual 96, 3) := by decide +kernel
theorem dX13_hasShort_6 : decode cX13_hasShort 6 = .ok (.invokevirtual 80, 3) := by decide +kernel
theorem dX13_hasShort_9 : decode cX13_hasShort 9 = .ok (.ifCond .ne 20, 3) := by decide +kernel
theorem dX13_hasShort_12 : decode cX13_hasShort 12 = .ok (.aload_n 0, 1) := by decide +kernel
theorem dX13_hasShort_13 : decode cX13_hasShort 13 = .ok (.getfield 31, 3) := by decide +kernel
theorem dX13_hasShort_16 : decode cX13_hasShort 16 = .ok (.bipush 34, 2) := by decide +kernel
theorem dX13_hasShort_18 : decode cX13_hasShort 18 = .ok (.iload_n 1, 1) := by decide +kernel
theorem dX13_hasShort_19 : decode cX13_hasShort 19 = .ok (.iadd, 1) := by decide +kernel
theorem dX13_hasShort_20 : decode cX13_hasShort 20 = .ok (.iaload, 1) := by decide +kernel
theorem dX13_hasShort_21 : decode cX13_hasShort 21 = .ok (.iconst 1, 1) := by decide +kernel
theorem dX13_hasShort_22 : decode cX13_hasShort 22 = .ok (.if_icmp .ne 7, 3) := by decide +kernel
theorem dX13_hasShort_25 : decode cX13_hasShort 25 = .ok (.iconst 1, 1) := by decide +kernel
theorem dX13_hasShort_26 : decode cX13_hasShort 26 = .ok (.goto 4, 3) := by decide +kernel
theorem dX13_hasShort_29 : decode cX13_hasShort 29 = .ok (.iconst 0, 1) := by decide +kernel
theorem dX13_hasShort_30 : decode cX13_hasShort 30 = .ok (.ireturn, 1) := by decide +kernel
theorem dX13_trainIn_0 : decode cX13_trainIn 0 = .ok (.aload_n 0, 1) := by decide +kernel
theorem dX13_trainIn_1 : decode cX13_trainIn 1 = .ok (.aload_n 0, 1) := by decide +kernel
theorem dX13_trainIn_2 : decode cX13_trainIn 2 = .ok (.iload_n 1, 1) := by decide +kernel
theorem dX13_trainIn_3 : decode cX13_trainIn 3 = .ok (.invokevirtual 96, 3) := by decide +kernel
theorem dX13_trainIn_6 : decode cX13_trainIn 6 = .ok (.invokevirtual 80, 3) := by decide +kernel
theorem dX13_trainIn_9 : decode cX13_trainIn 9 = .ok (.ifCond .eq 7, 3) := by decide +kernel
theorem dX13_trainIn_12 : decode cX13_trainIn 12 = .ok (.iconst 0, 1) := by decide +kernel
theorem dX13_trainIn_13 : decode cX13_trainIn 13 = .ok (.goto 9, 3) := by decide +kernel
theorem dX13_trainIn_16 : decode cX13_trainIn 16 = .ok (.aload_n 0, 1) := by decide +kernel
theorem dX13_trainIn_17 : decode cX13_trainIn 17 = .ok (.iconst 3, 1) := by decide +kernel
theorem dX13_trainIn_18 : decode cX13_trainIn 18 = .ok (.iload_n 1, 1) := by decide +kernel
theorem dX13_trainIn_19 : decode cX13_trainIn 19 = .ok (.invokevirtual 100, 3) := by decide +kernel
theorem dX13_trainIn_22 : decode cX13_trainIn 22 = .ok (.ireturn, 1) := by decide +kernel
theorem dX13_countIn_0 : decode cX13_countIn 0 = .ok (.iconst 0, 1) := by decide +kernel
theorem dX13_countIn_1 : decode cX13_countIn 1 = .ok (.istore_n 2, 1) := by decide +kernel
theorem dX13_countIn_2 : decode cX13_countIn 2 = .ok (.iconst 0, 1) := by decide +kernel
theorem dX13_countIn_3 : decode cX13_countIn 3 = .ok (.istore_n 3, 1) := by decide +kernel
theorem dX13_countIn_4 : decode cX13_countIn 4 = .ok (.iload_n 3, 1) := by decide +kernel
theorem dX13_countIn_5 : decode cX13_countIn 5 = .ok (.aload_n 0, 1) := by decide +kernel
theorem dX13_countIn_6 : decode cX13_countIn 6 = .ok (.getfield 31, 3) := by decide +kernel
theorem dX13_countIn_9 : decode cX13_countIn 9 = .ok (.iconst 1, 1) := by decide +kernel
theorem dX13_countIn_10 : decode cX13_countIn 10 = .ok (.iaload, 1) := by decide +kernel
theorem dX13_countIn_11 : decode cX13_countIn 11 = .ok (.if_icmp .ge 20, 3) := by decide +kernel
theorem dX13_countIn_14 : decode cX13_countIn 14 = .ok (.iload_n 2, 1) := by decide +kernel
theorem dX13_countIn_15 : decode cX13_countIn 15 = .ok (.aload_n 0, 1) := by decide +kernel
theorem dX13_countIn_16 : decode cX13_countIn 16 = .ok (.getfield 31, 3) := by decide +kernel
theorem dX13_countIn_19 : decode cX13_countIn 19 = .ok (.iload_n 1, 1) := by decide +kernel
theorem dX13_countIn_20 : decode cX13_countIn 20 = .ok (.iload_n 3, 1) := by decide +kernel
theorem dX13_countIn_21 : decode cX13_countIn 21 = .ok (.iadd, 1) := by decide +kernel
theorem dX13_countIn_22 : decode cX13_countIn 22 = .ok (.iaload, 1) := by decide +kernel
theorem dX13_countIn_23 : decode cX13_countIn 23 = .ok (.iadd, 1) := by decide +kernel
theorem dX13_countIn_24 : decode cX13_countIn 24 = .ok (.istore_n 2, 1) := by decide +kernel
theorem dX13_countIn_25 : decode cX13_countIn 25 = .ok (.iinc 3 1, 3) := by decide +kernel
theorem dX13_countIn_28 : decode cX13_countIn 28 = .ok (.goto (-24), 3) := by decide +kernel
theorem dX13_countIn_31 : decode cX13_countIn 31 = .ok (.iload_n 2, 1) := by decide +kernel
theorem dX13_countIn_32 : decode cX13_countIn 32 = .ok (.ireturn, 1) := by decide +kernel
theorem dX13_tunnelCount_0 : decode cX13_tunnelCount 0 = .ok (.aload_n 0, 1) := by decide +kernel
theorem dX13_tunnelCount_1 : decode cX13_tunnelCount 1 = .ok (.iconst 0, 1) := by decide +kernel
theorem dX13_tunnelCount_2 : decode cX13_tunnelCount 2 = .ok (.putfield 77, 3) := by decide +kernel
theorem dX13_tunnelCount_5 : decode cX13_tunnelCount 5 = .ok (.aload_n 0, 1) := by decide +kernel
theorem dX13_tunnelCount_6 : decode cX13_tunnelCount 6 = .ok (.bipush 10, 2) := by decide +kernel
theorem dX13_tunnelCount_8 : decode cX13_tunnelCount 8 = .ok (.invokevirtual 103, 3) := by decide +kernel
theorem dX13_tunnelCount_11 : decode cX13_tunnelCount 11 = .ok (.ireturn, 1) := by decide +kernel
theorem dX13_isPowerOn_0 : decode cX13_isPowerOn 0 = .ok (.aload_n 0, 1) := by decide +kernel
theorem dX13_isPowerOn_1 : decode cX13_isPowerOn 1 = .ok (.iconst 0, 1) := by decide +kernel
theorem dX13_isPowerOn_2 : decode cX13_isPowerOn 2 = .ok (.putfield 77, 3) := by decide +kernel
theorem dX13_isPowerOn_5 : decode cX13_isPowerOn 5 = .ok (.aload_n 0, 1) := by decide +kernel
theorem dX13_isPowerOn_6 : decode cX13_isPowerOn 6 = .ok (.invokevirtual 107, 3) := by decide +kernel
theorem dX13_isPowerOn_9 : decode cX13_isPowerOn 9 = .ok (.ireturn, 1) := by decide +kernel
theorem dX13_remainingCutoff_0 : decode cX13_remainingCutoff 0 = .ok (.aload_n 0, 1) := by decide +kernel
theorem dX13_remainingCutoff_1 : decode cX13_remainingCutoff 1 = .ok (.iconst 0, 1) := by decide +kernel
theorem dX13_remainingCutoff_2 : decode cX13_remainingCutoff 2 = .ok (.putfield 77, 3) := by decide +kernel
theorem dX13_remainingCutoff_5 : decode cX13_remainingCutoff 5 = .ok (.aload_n 0, 1) := by decide +kernel
theorem dX13_remainingCutoff_6 : decode cX13_remainingCutoff 6 = .ok (.getfield 31, 3) := by decide +kernel
theorem dX13_remainingCutoff_9 : decode cX13_remainingCutoff 9 = .ok (.iconst 4, 1) := by decide +kernel
theorem dX13_remainingCutoff_10 : decode cX13_remainingCutoff 10 = .ok (.iaload, 1) := by decide +kernel
theorem dX13_remainingCutoff_11 : decode cX13_remainingCutoff 11 = .ok (.ireturn, 1) := by decide +kernel
theorem dX13_cutoffs_0 : decode cX13_cutoffs 0 = .ok (.aload_n 0, 1) := by decide +kernel
theorem dX13_cutoffs_1 : decode cX13_cutoffs 1 = .ok (.iconst 0, 1) := by decide +kernel
theorem dX13_cutoffs_2 : decode cX13_cutoffs 2 = .ok (.putfield 77, 3) := by decide +kernel
theorem dX13_cutoffs_5 : decode cX13_cutoffs 5 = .ok (.aload_n 0, 1) := by decide +kernel
theorem dX13_cutoffs_6 : decode cX13_cutoffs 6 = .ok (.getfield 31, 3) := by decide +kernel
theorem dX13_cutoffs_9 : decode cX13_cutoffs 9 = .ok (.iconst 5, 1) := by decide +kernel
theorem dX13_cutoffs_10 : decode cX13_cutoffs 10 = .ok (.iaload, 1) := by decide +kernel
theorem dX13_cutoffs_11 : decode cX13_cutoffs 11 = .ok (.ireturn, 1) := by decide +kernel
theorem dX13_told_0 : decode cX13_told 0 = .ok (.aload_n 0, 1) := by decide +kernel
theorem dX13_told_1 : decode cX13_told 1 = .ok (.aload_n 0, 1) := by decide +kernel
theorem dX13_told_2 : decode cX13_told 2 = .ok (.iload_n 1, 1) := by decide +kernel
theorem dX13_told_3 : decode cX13_told 3 = .ok (.invokevirtual 111, 3) := by decide +kernel
theorem dX13_told_6 : decode cX13_told 6 = .ok (.invokevirtual 80, 3) := by decide +kernel
theorem dX13_told_9 : decode cX13_told 9 = .ok (.ifCond .eq 7, 3) := by decide +kernel
theorem dX13_told_12 : decode cX13_told 12 = .ok (.iconst 0, 1) := by decide +kernel
theorem dX13_told_13 : decode cX13_told 13 = .ok (.goto 9, 3) := by decide +kernel
theorem dX13_told_16 : decode cX13_told 16 = .ok (.aload_n 0, 1) := by decide +kernel
theorem dX13_told_17 : decode cX13_told 17 = .ok (.iload_n 1, 1) := by decide +kernel
theorem dX13_told_18 : decode cX13_told 18 = .ok (.iload_n 2, 1) := by decide +kernel
theorem dX13_told_19 : decode cX13_told 19 = .ok (.invokevirtual 88, 3) := by decide +kernel
theorem dX13_told_22 : decode cX13_told 22 = .ok (.ireturn, 1) := by decide +kernel
theorem dX13_trainCount_0 : decode cX13_trainCount 0 = .ok (.aload_n 0, 1) := by decide +kernel
theorem dX13_trainCount_1 : decode cX13_trainCount 1 = .ok (.iconst 0, 1) := by decide +kernel
theorem dX13_trainCount_2 : decode cX13_trainCount 2 = .ok (.putfield 77, 3) := by decide +kernel
theorem dX13_trainCount_5 : decode cX13_trainCount 5 = .ok (.aload_n 0, 1) := by decide +kernel
theorem dX13_trainCount_6 : decode cX13_trainCount 6 = .ok (.getfield 31, 3) := by decide +kernel
theorem dX13_trainCount_9 : decode cX13_trainCount 9 = .ok (.iconst 3, 1) := by decide +kernel
theorem dX13_trainCount_10 : decode cX13_trainCount 10 = .ok (.iaload, 1) := by decide +kernel
theorem dX13_trainCount_11 : decode cX13_trainCount 11 = .ok (.ireturn, 1) := by decide +kernel
theorem dX13_address_0 : decode cX13_address 0 = .ok (.aload_n 0, 1) := by decide +kernel
theorem dX13_address_1 : decode cX13_address 1 = .ok (.iload_n 1, 1) := by decide +kernel
theorem dX13_address_2 : decode cX13_address 2 = .ok (.iconst 0, 1) := by decide +kernel
theorem dX13_address_3 : decode cX13_address 3 = .ok (.invokevirtual 114, 3) := by decide +kernel
theorem dX13_address_6 : decode cX13_address 6 = .ok (.ireturn, 1) := by decide +kernel
theorem dX13_trainWith_0 : decode cX13_trainWith 0 = .ok (.aload_n 0, 1) := by decide +kernel
theorem dX13_trainWith_1 : decode cX13_trainWith 1 = .ok (.iconst 0, 1) := by decide +kernel
theorem dX13_trainWith_2 : decode cX13_trainWith 2 = .ok (.putfield 77, 3) := by decide +kernel
theorem dX13_trainWith_5 : decode cX13_trainWith 5 = .ok (.aload_n 0, 1) := by decide +kernel
theorem dX13_trainWith_6 : decode cX13_trainWith 6 = .ok (.iconst 0, 1) := by decide +kernel
theorem dX13_trainWith_7 : decode cX13_trainWith 7 = .ok (.iload_n 1, 1) := by decide +kernel
theorem dX13_trainWith_8 : decode cX13_trainWith 8 = .ok (.invokevirtual 100, 3) := by decide +kernel
theorem dX13_trainWith_11 : decode cX13_trainWith 11 = .ok (.ireturn, 1) := by decide +kernel
theorem dX13_sectionOf_0 : decode cX13_sectionOf 0 = .ok (.aload_n 0, 1) := by decide +kernel
theorem dX13_sectionOf_1 : decode cX13_sectionOf 1 = .ok (.iload_n 1, 1) := by decide +kernel
theorem dX13_sectionOf_2 : decode cX13_sectionOf 2 = .ok (.iconst 3, 1) := by decide +kernel
theorem dX13_sectionOf_3 : decode cX13_sectionOf 3 = .ok (.invokevirtual 114, 3) := by decide +kernel
theorem dX13_sectionOf_6 : decode cX13_sectionOf 6 = .ok (.ireturn, 1) := by decide +kernel
theorem dX13_advance_0 : decode cX13_advance 0 = .ok (.aload_n 0, 1) := by decide +kernel
theorem dX13_advance_1 : decode cX13_advance 1 = .ok (.iload_n 1, 1) := by decide +kernel
theorem dX13_advance_2 : decode cX13_advance 2 = .ok (.iconst 4, 1) := by decide +kernel
theorem dX13_advance_3 : decode cX13_advance 3 = .ok (.invokevirtual 114, 3) := by decide +kernel
theorem dX13_advance_6 : decode cX13_advance 6 = .ok (.ireturn, 1) := by decide +kernel
theorem dX13_speed_0 : decode cX13_speed 0 = .ok (.aload_n 0, 1) := by decide +kernel
theorem dX13_speed_1 : decode cX13_speed 1 = .ok (.iload_n 1, 1) := by decide +kernel
theorem dX13_speed_2 : decode cX13_speed 2 = .ok (.iconst 5, 1) := by decide +kernel
theorem dX13_speed_3 : decode cX13_speed 3 = .ok (.invokevirtual 114, 3) := by decide +kernel
theorem dX13_speed_6 : decode cX13_speed 6 = .ok (.ireturn, 1) := by decide +kernel
theorem dX13_targetSpeed_0 : decode cX13_targetSpeed 0 = .ok (.aload_n 0, 1) := by decide +kernel
theorem dX13_targetSpeed_1 : decode cX13_targetSpeed 1 = .ok (.iload_n 1, 1) := by decide +kernel
theorem dX13_targetSpeed_2 : decode cX13_targetSpeed 2 = .ok (.bipush 6, 2) := by decide +kernel
theorem dX13_targetSpeed_4 : decode cX13_targetSpeed 4 = .ok (.invokevirtual 114, 3) := by decide +kernel
theorem dX13_targetSpeed_7 : decode cX13_targetSpeed 7 = .ok (.ireturn, 1) := by decide +kernel
theorem dX13_brightness_0 : decode cX13_brightness 0 = .ok (.aload_n 0, 1) := by decide +kernel
theorem dX13_brightness_1 : decode cX13_brightness 1 = .ok (.iload_n 1, 1) := by decide +kernel
theorem dX13_brightness_2 : decode cX13_brightness 2 = .ok (.bipush 7, 2) := by decide +kernel
theorem dX13_brightness_4 : decode cX13_brightness 4 = .ok (.invokevirtual 114, 3) := by decide +kernel
theorem dX13_brightness_7 : decode cX13_brightness 7 = .ok (.ireturn, 1) := by decide +kernel
theorem dX13_duty_0 : decode cX13_duty 0 = .ok (.aload_n 0, 1) := by decide +kernel
theorem dX13_duty_1 : decode cX13_duty 1 = .ok (.iload_n 1, 1) := by decide +kernel
theorem dX13_duty_2 : decode cX13_duty 2 = .ok (.bipush 8, 2) := by decide +kernel
theorem dX13_duty_4 : decode cX13_duty 4 = .ok (.invokevirtual 114, 3) := by decide +kernel
theorem dX13_duty_7 : decode cX13_duty 7 = .ok (.ireturn, 1) := by decide +kernel
theorem dX13_silence_0 : decode cX13_silence 0 = .ok (.aload_n 0, 1) := by decide +kernel
theorem dX13_silence_1 : decode cX13_silence 1 = .ok (.iload_n 1, 1) := by decide +kernel
theorem dX13_silence_2 : decode cX13_silence 2 = .ok (.bipush 9, 2) := by decide +kernel
theorem dX13_silence_4 : decode cX13_silence 4 = .ok (.invokevirtual 114, 3) := by decide +kernel
theorem dX13_silence_7 : decode cX13_silence 7 = .ok (.ireturn, 1) := by decide +kernel
theorem dX13_sectionsEntered_0 : decode cX13_sectionsEntered 0 = .ok (.aload_n 0, 1) := by decide +kernel
theorem dX13_sectionsEntered_1 : decode cX13_sectionsEntered 1 = .ok (.iload_n 1, 1) := by decide +kernel
theorem dX13_sectionsEntered_2 : decode cX13_sectionsEntered 2 = .ok (.bipush 10, 2) := by decide +kernel
theorem dX13_sectionsEntered_4 : decode cX13_sectionsEntered 4 = .ok (.invokevirtual 114, 3) := by decide +kernel
theorem dX13_sectionsEntered_7 : decode cX13_sectionsEntered 7 = .ok (.ireturn, 1) := by decide +kernel
theorem dX13_obeyed_0 : decode cX13_obeyed 0 = .ok (.aload_n 0, 1) := by decide +kernel
theorem dX13_obeyed_1 : decode cX13_obeyed 1 = .ok (.iload_n 1, 1) := by decide +kernel
theorem dX13_obeyed_2 : decode cX13_obeyed 2 = .ok (.bipush 11, 2) := by decide +kernel
theorem dX13_obeyed_4 : decode cX13_obeyed 4 = .ok (.invokevirtual 114, 3) := by decide +kernel
theorem dX13_obeyed_7 : decode cX13_obeyed 7 = .ok (.ireturn, 1) := by decide +kernel
theorem dX13_rejected_0 : decode cX13_rejected 0 = .ok (.aload_n 0, 1) := by decide +kernel
theorem dX13_rejected_1 : decode cX13_rejected 1 = .ok (.iload_n 1, 1) := by decide +kernel
theorem dX13_rejected_2 : decode cX13_rejected 2 = .ok (.bipush 12, 2) := by decide +kernel
theorem dX13_rejected_4 : decode cX13_rejected 4 = .ok (.invokevirtual 114, 3) := by decide +kernel
theorem dX13_rejected_7 : decode cX13_rejected 7 = .ok (.ireturn, 1) := by decide +kernel
theorem dX13_unheard_0 : decode cX13_unheard 0 = .ok (.aload_n 0, 1) := by decide +kernel
theorem dX13_unheard_1 : decode cX13_unheard 1 = .ok (.iload_n 1, 1) := by decide +kernel
theorem dX13_unheard_2 : decode cX13_unheard 2 = .ok (.bipush 13, 2) := by decide +kernel
theorem dX13_unheard_4 : decode cX13_unheard 4 = .ok (.invokevirtual 114, 3) := by decide +kernel
theorem dX13_unheard_7 : decode cX13_unheard 7 = .ok (.ireturn, 1) := by decide +kernel
theorem dX13_blockedTicks_0 : decode cX13_blockedTicks 0 = .ok (.aload_n 0, 1) := by decide +kernel
theorem dX13_blockedTicks_1 : decode cX13_blockedTicks 1 = .ok (.iload_n 1, 1) := by decide +kernel
theorem dX13_blockedTicks_2 : decode cX13_blockedTicks 2 = .ok (.bipush 14, 2) := by decide +kernel
theorem dX13_blockedTicks_4 : decode cX13_blockedTicks 4 = .ok (.invokevirtual 114, 3) := by decide +kernel
theorem dX13_blockedTicks_7 : decode cX13_blockedTicks 7 = .ok (.ireturn, 1) := by decide +kernel
theorem dX13_fastestTrain_0 : decode cX13_fastestTrain 0 = .ok (.aload_n 0, 1) := by decide +kernel
theorem dX13_fastestTrain_1 : decode cX13_fastestTrain 1 = .ok (.iconst 0, 1) := by decide +kernel
theorem dX13_fastestTrain_2 : decode cX13_fastestTrain 2 = .ok (.putfield 77, 3) := by decide +kernel
theorem dX13_fastestTrain_5 : decode cX13_fastestTrain 5 = .ok (.iconst 0, 1) := by decide +kernel
theorem dX13_fastestTrain_6 : decode cX13_fastestTrain 6 = .ok (.istore_n 1, 1) := by decide +kernel
theorem dX13_fastestTrain_7 : decode cX13_fastestTrain 7 = .ok (.iconst 1, 1) := by decide +kernel
theorem dX13_fastestTrain_8 : decode cX13_fastestTrain 8 = .ok (.istore_n 2, 1) := by decide +kernel
theorem dX13_fastestTrain_9 : decode cX13_fastestTrain 9 = .ok (.iload_n 2, 1) := by decide +kernel
theorem dX13_fastestTrain_10 : decode cX13_fastestTrain 10 = .ok (.aload_n 0, 1) := by decide +kernel
theorem dX13_fastestTrain_11 : decode cX13_fastestTrain 11 = .ok (.getfield 31, 3) := by decide +kernel
theorem dX13_fastestTrain_14 : decode cX13_fastestTrain 14 = .ok (.iconst 3, 1) := by decide +kernel
theorem dX13_fastestTrain_15 : decode cX13_fastestTrain 15 = .ok (.iaload, 1) := by decide +kernel
theorem dX13_fastestTrain_16 : decode cX13_fastestTrain 16 = .ok (.if_icmp .ge 30, 3) := by decide +kernel
theorem dX13_fastestTrain_19 : decode cX13_fastestTrain 19 = .ok (.aload_n 0, 1) := by decide +kernel
theorem dX13_fastestTrain_20 : decode cX13_fastestTrain 20 = .ok (.iload_n 2, 1) := by decide +kernel
theorem dX13_fastestTrain_21 : decode cX13_fastestTrain 21 = .ok (.iconst 5, 1) := by decide +kernel
theorem dX13_fastestTrain_22 : decode cX13_fastestTrain 22 = .ok (.invokevirtual 88, 3) := by decide +kernel
theorem dX13_fastestTrain_25 : decode cX13_fastestTrain 25 = .ok (.aload_n 0, 1) := by decide +kernel
theorem dX13_fastestTrain_26 : decode cX13_fastestTrain 26 = .ok (.iload_n 1, 1) := by decide +kernel
theorem dX13_fastestTrain_27 : decode cX13_fastestTrain 27 = .ok (.iconst 5, 1) := by decide +kernel
theorem dX13_fastestTrain_28 : decode cX13_fastestTrain 28 = .ok (.invokevirtual 88, 3) := by decide +kernel
theorem dX13_fastestTrain_31 : decode cX13_fastestTrain 31 = .ok (.if_icmp .le 7, 3) := by decide +kernel
theorem dX13_fastestTrain_34 : decode cX13_fastestTrain 34 = .ok (.iload_n 2, 1) := by decide +kernel
theorem dX13_fastestTrain_35 : decode cX13_fastestTrain 35 = .ok (.goto 4, 3) := by decide +kernel
theorem dX13_fastestTrain_38 : decode cX13_fastestTrain 38 = .ok (.iload_n 1, 1) := by decide +kernel
theorem dX13_fastestTrain_39 : decode cX13_fastestTrain 39 = .ok (.istore_n 1, 1) := by decide +kernel
theorem dX13_fastestTrain_40 : decode cX13_fastestTrain 40 = .ok (.iinc 2 1, 3) := by decide +kernel
theorem dX13_fastestTrain_43 : decode cX13_fastestTrain 43 = .ok (.goto (-34), 3) := by decide +kernel
theorem dX13_fastestTrain_46 : decode cX13_fastestTrain 46 = .ok (.iload_n 1, 1) := by decide +kernel
theorem dX13_fastestTrain_47 : decode cX13_fastestTrain 47 = .ok (.ireturn, 1) := by decide +kernel
theorem dX13_freeAhead_0 : decode cX13_freeAhead 0 = .ok (.aload_n 0, 1) := by decide +kernel
theorem dX13_freeAhead_1 : decode cX13_freeAhead 1 = .ok (.aload_n 0, 1) := by decide +kernel
theorem dX13_freeAhead_2 : decode cX13_freeAhead 2 = .ok (.iload_n 1, 1) := by decide +kernel
theorem dX13_freeAhead_3 : decode cX13_freeAhead 3 = .ok (.invokevirtual 111, 3) := by decide +kernel
theorem dX13_freeAhead_6 : decode cX13_freeAhead 6 = .ok (.invokevirtual 80, 3) := by decide +kernel
theorem dX13_freeAhead_9 : decode cX13_freeAhead 9 = .ok (.ifCond .eq 5, 3) := by decide +kernel
theorem dX13_freeAhead_12 : decode cX13_freeAhead 12 = .ok (.iconst 0, 1) := by decide +kernel
theorem dX13_freeAhead_13 : decode cX13_freeAhead 13 = .ok (.ireturn, 1) := by decide +kernel
theorem dX13_freeAhead_14 : decode cX13_freeAhead 14 = .ok (.iconst 0, 1) := by decide +kernel
theorem dX13_freeAhead_15 : decode cX13_freeAhead 15 = .ok (.istore_n 2, 1) := by decide +kernel
theorem dX13_freeAhead_16 : decode cX13_freeAhead 16 = .ok (.aload_n 0, 1) := by decide +kernel
theorem dX13_freeAhead_17 : decode cX13_freeAhead 17 = .ok (.aload_n 0, 1) := by decide +kernel
theorem dX13_freeAhead_18 : decode cX13_freeAhead 18 = .ok (.iload_n 1, 1) := by decide +kernel
theorem dX13_freeAhead_19 : decode cX13_freeAhead 19 = .ok (.iconst 3, 1) := by decide +kernel
theorem dX13_freeAhead_20 : decode cX13_freeAhead 20 = .ok (.invokevirtual 88, 3) := by decide +kernel
theorem dX13_freeAhead_23 : decode cX13_freeAhead 23 = .ok (.invokevirtual 117, 3) := by decide +kernel
theorem dX13_freeAhead_26 : decode cX13_freeAhead 26 = .ok (.istore_n 3, 1) := by decide +kernel
theorem dX13_freeAhead_27 : decode cX13_freeAhead 27 = .ok (.aload_n 0, 1) := by decide +kernel
theorem dX13_freeAhead_28 : decode cX13_freeAhead 28 = .ok (.iconst 3, 1) := by decide +kernel
theorem dX13_freeAhead_29 : decode cX13_freeAhead 29 = .ok (.iload_n 3, 1) := by decide +kernel
theorem dX13_freeAhead_30 : decode cX13_freeAhead 30 = .ok (.invokevirtual 100, 3) := by decide +kernel
theorem dX13_freeAhead_33 : decode cX13_freeAhead 33 = .ok (.iconst (-1), 1) := by decide +kernel
theorem dX13_freeAhead_34 : decode cX13_freeAhead 34 = .ok (.if_icmp .ne 15, 3) := by decide +kernel
theorem dX13_freeAhead_37 : decode cX13_freeAhead 37 = .ok (.iinc 2 1, 3) := by decide +kernel
theorem dX13_freeAhead_40 : decode cX13_freeAhead 40 = .ok (.aload_n 0, 1) := by decide +kernel
theorem dX13_freeAhead_41 : decode cX13_freeAhead 41 = .ok (.iload_n 3, 1) := by decide +kernel
theorem dX13_freeAhead_42 : decode cX13_freeAhead 42 = .ok (.invokevirtual 117, 3) := by decide +kernel
theorem dX13_freeAhead_45 : decode cX13_freeAhead 45 = .ok (.istore_n 3, 1) := by decide +kernel
theorem dX13_freeAhead_46 : decode cX13_freeAhead 46 = .ok (.goto (-19), 3) := by decide +kernel
theorem dX13_freeAhead_49 : decode cX13_freeAhead 49 = .ok (.iload_n 2, 1) := by decide +kernel
theorem dX13_freeAhead_50 : decode cX13_freeAhead 50 = .ok (.ireturn, 1) := by decide +kernel
theorem dX13_sumOf_0 : decode cX13_sumOf 0 = .ok (.iconst 0, 1) := by decide +kernel
theorem dX13_sumOf_1 : decode cX13_sumOf 1 = .ok (.istore_n 2, 1) := by decide +kernel
theorem dX13_sumOf_2 : decode cX13_sumOf 2 = .ok (.iconst 0, 1) := by decide +kernel
theorem dX13_sumOf_3 : decode cX13_sumOf 3 = .ok (.istore_n 3, 1) := by decide +kernel
theorem dX13_sumOf_4 : decode cX13_sumOf 4 = .ok (.iload_n 3, 1) := by decide +kernel
theorem dX13_sumOf_5 : decode cX13_sumOf 5 = .ok (.aload_n 0, 1) := by decide +kernel
theorem dX13_sumOf_6 : decode cX13_sumOf 6 = .ok (.getfield 31, 3) := by decide +kernel
theorem dX13_sumOf_9 : decode cX13_sumOf 9 = .ok (.iconst 3, 1) := by decide +kernel
theorem dX13_sumOf_10 : decode cX13_sumOf 10 = .ok (.iaload, 1) := by decide +kernel
theorem dX13_sumOf_11 : decode cX13_sumOf 11 = .ok (.if_icmp .ge 18, 3) := by decide +kernel
theorem dX13_sumOf_14 : decode cX13_sumOf 14 = .ok (.iload_n 2, 1) := by decide +kernel
theorem dX13_sumOf_15 : decode cX13_sumOf 15 = .ok (.aload_n 0, 1) := by decide +kernel
theorem dX13_sumOf_16 : decode cX13_sumOf 16 = .ok (.iload_n 3, 1) := by decide +kernel
theorem dX13_sumOf_17 : decode cX13_sumOf 17 = .ok (.iload_n 1, 1) := by decide +kernel
theorem dX13_sumOf_18 : decode cX13_sumOf 18 = .ok (.invokevirtual 88, 3) := by decide +kernel
theorem dX13_sumOf_21 : decode cX13_sumOf 21 = .ok (.iadd, 1) := by decide +kernel
theorem dX13_sumOf_22 : decode cX13_sumOf 22 = .ok (.istore_n 2, 1) := by decide +kernel
theorem dX13_sumOf_23 : decode cX13_sumOf 23 = .ok (.iinc 3 1, 3) := by decide +kernel
theorem dX13_sumOf_26 : decode cX13_sumOf 26 = .ok (.goto (-22), 3) := by decide +kernel
theorem dX13_sumOf_29 : decode cX13_sumOf 29 = .ok (.iload_n 2, 1) := by decide +kernel
theorem dX13_sumOf_30 : decode cX13_sumOf 30 = .ok (.ireturn, 1) := by decide +kernel
theorem dX13_meanSpeed_0 : decode cX13_meanSpeed 0 = .ok (.aload_n 0, 1) := by decide +kernel
theorem dX13_meanSpeed_1 : decode cX13_meanSpeed 1 = .ok (.iconst 0, 1) := by decide +kernel
theorem dX13_meanSpeed_2 : decode cX13_meanSpeed 2 = .ok (.putfield 77, 3) := by decide +kernel
theorem dX13_meanSpeed_5 : decode cX13_meanSpeed 5 = .ok (.aload_n 0, 1) := by decide +kernel
theorem dX13_meanSpeed_6 : decode cX13_meanSpeed 6 = .ok (.iconst 5, 1) := by decide +kernel
theorem dX13_meanSpeed_7 : decode cX13_meanSpeed 7 = .ok (.invokevirtual 120, 3) := by decide +kernel
theorem dX13_meanSpeed_10 : decode cX13_meanSpeed 10 = .ok (.i2d, 1) := by decide +kernel
theorem dX13_meanSpeed_11 : decode cX13_meanSpeed 11 = .ok (.aload_n 0, 1) := by decide +kernel
theorem dX13_meanSpeed_12 : decode cX13_meanSpeed 12 = .ok (.getfield 31, 3) := by decide +kernel
theorem dX13_meanSpeed_15 : decode cX13_meanSpeed 15 = .ok (.iconst 3, 1) := by decide +kernel
theorem dX13_meanSpeed_16 : decode cX13_meanSpeed 16 = .ok (.iaload, 1) := by decide +kernel
theorem dX13_meanSpeed_17 : decode cX13_meanSpeed 17 = .ok (.i2d, 1) := by decide +kernel
theorem dX13_meanSpeed_18 : decode cX13_meanSpeed 18 = .ok (.ddiv, 1) := by decide +kernel
theorem dX13_meanSpeed_19 : decode cX13_meanSpeed 19 = .ok (.dreturn, 1) := by decide +kernel
theorem dX13_obeyedShare_0 : decode cX13_obeyedShare 0 = .ok (.aload_n 0, 1) := by decide +kernel
theorem dX13_obeyedShare_1 : decode cX13_obeyedShare 1 = .ok (.iconst 0, 1) := by decide +kernel
theorem dX13_obeyedShare_2 : decode cX13_obeyedShare 2 = .ok (.putfield 77, 3) := by decide +kernel
theorem dX13_obeyedShare_5 : decode cX13_obeyedShare 5 = .ok (.aload_n 0, 1) := by decide +kernel
theorem dX13_obeyedShare_6 : decode cX13_obeyedShare 6 = .ok (.bipush 11, 2) := by decide +kernel
theorem dX13_obeyedShare_8 : decode cX13_obeyedShare 8 = .ok (.invokevirtual 120, 3) := by decide +kernel
theorem dX13_obeyedShare_11 : decode cX13_obeyedShare 11 = .ok (.aload_n 0, 1) := by decide +kernel
theorem dX13_obeyedShare_12 : decode cX13_obeyedShare 12 = .ok (.bipush 12, 2) := by decide +kernel
theorem dX13_obeyedShare_14 : decode cX13_obeyedShare 14 = .ok (.invokevirtual 120, 3) := by decide +kernel
theorem dX13_obeyedShare_17 : decode cX13_obeyedShare 17 = .ok (.iadd, 1) := by decide +kernel
theorem dX13_obeyedShare_18 : decode cX13_obeyedShare 18 = .ok (.aload_n 0, 1) := by decide +kernel
theorem dX13_obeyedShare_19 : decode cX13_obeyedShare 19 = .ok (.bipush 13, 2) := by decide +kernel
theorem dX13_obeyedShare_21 : decode cX13_obeyedShare 21 = .ok (.invokevirtual 120, 3) := by decide +kernel
theorem dX13_obeyedShare_24 : decode cX13_obeyedShare 24 = .ok (.iadd, 1) := by decide +kernel
theorem dX13_obeyedShare_25 : decode cX13_obeyedShare 25 = .ok (.istore_n 1, 1) := by decide +kernel
theorem dX13_obeyedShare_26 : decode cX13_obeyedShare 26 = .ok (.iload_n 1, 1) := by decide +kernel
theorem dX13_obeyedShare_27 : decode cX13_obeyedShare 27 = .ok (.ifCond .ne 7, 3) := by decide +kernel
theorem dX13_obeyedShare_30 : decode cX13_obeyedShare 30 = .ok (.fconst 0, 1) := by decide +kernel
theorem dX13_obeyedShare_31 : decode cX13_obeyedShare 31 = .ok (.goto 13, 3) := by decide +kernel
theorem dX13_obeyedShare_34 : decode cX13_obeyedShare 34 = .ok (.aload_n 0, 1) := by decide +kernel
theorem dX13_obeyedShare_35 : decode cX13_obeyedShare 35 = .ok (.bipush 11, 2) := by decide +kernel
theorem dX13_obeyedShare_37 : decode cX13_obeyedShare 37 = .ok (.invokevirtual 120, 3) := by decide +kernel
theorem dX13_obeyedShare_40 : decode cX13_obeyedShare 40 = .ok (.i2f, 1) := by decide +kernel
theorem dX13_obeyedShare_41 : decode cX13_obeyedShare 41 = .ok (.iload_n 1, 1) := by decide +kernel
theorem dX13_obeyedShare_42 : decode cX13_obeyedShare 42 = .ok (.i2f, 1) := by decide +kernel
theorem dX13_obeyedShare_43 : decode cX13_obeyedShare 43 = .ok (.fdiv, 1) := by decide +kernel
theorem dX13_obeyedShare_44 : decode cX13_obeyedShare 44 = .ok (.freturn, 1) := by decide +kernel
theorem dX13_toldPacket_0 : decode cX13_toldPacket 0 = .ok (.aload_n 0, 1) := by decide +kernel
theorem dX13_toldPacket_1 : decode cX13_toldPacket 1 = .ok (.aload_n 0, 1) := by decide +kernel
theorem dX13_toldPacket_2 : decode cX13_toldPacket 2 = .ok (.iload_n 1, 1) := by decide +kernel
theorem dX13_toldPacket_3 : decode cX13_toldPacket 3 = .ok (.invokevirtual 123, 3) := by decide +kernel
theorem dX13_toldPacket_6 : decode cX13_toldPacket 6 = .ok (.invokevirtual 80, 3) := by decide +kernel
theorem dX13_toldPacket_9 : decode cX13_toldPacket 9 = .ok (.ifCond .eq 7, 3) := by decide +kernel
theorem dX13_toldPacket_12 : decode cX13_toldPacket 12 = .ok (.iconst 0, 1) := by decide +kernel
theorem dX13_toldPacket_13 : decode cX13_toldPacket 13 = .ok (.goto 9, 3) := by decide +kernel
theorem dX13_toldPacket_16 : decode cX13_toldPacket 16 = .ok (.aload_n 0, 1) := by decide +kernel
theorem dX13_toldPacket_17 : decode cX13_toldPacket 17 = .ok (.iload_n 1, 1) := by decide +kernel
theorem dX13_toldPacket_18 : decode cX13_toldPacket 18 = .ok (.iload_n 2, 1) := by decide +kernel
theorem dX13_toldPacket_19 : decode cX13_toldPacket 19 = .ok (.invokevirtual 126, 3) := by decide +kernel
theorem dX13_toldPacket_22 : decode cX13_toldPacket 22 = .ok (.ireturn, 1) := by decide +kernel
theorem dX13_isWhole_0 : decode cX13_isWhole 0 = .ok (.aload_n 0, 1) := by decide +kernel
theorem dX13_isWhole_1 : decode cX13_isWhole 1 = .ok (.iload_n 1, 1) := by decide +kernel
theorem dX13_isWhole_2 : decode cX13_isWhole 2 = .ok (.iconst 0, 1) := by decide +kernel
theorem dX13_isWhole_3 : decode cX13_isWhole 3 = .ok (.invokevirtual 126, 3) := by decide +kernel
theorem dX13_isWhole_6 : decode cX13_isWhole 6 = .ok (.aload_n 0, 1) := by decide +kernel
theorem dX13_isWhole_7 : decode cX13_isWhole 7 = .ok (.iload_n 1, 1) := by decide +kernel
theorem dX13_isWhole_8 : decode cX13_isWhole 8 = .ok (.iconst 1, 1) := by decide +kernel
theorem dX13_isWhole_9 : decode cX13_isWhole 9 = .ok (.invokevirtual 126, 3) := by decide +kernel
theorem dX13_isWhole_12 : decode cX13_isWhole 12 = .ok (.ixor, 1) := by decide +kernel
theorem dX13_isWhole_13 : decode cX13_isWhole 13 = .ok (.aload_n 0, 1) := by decide +kernel
theorem dX13_isWhole_14 : decode cX13_isWhole 14 = .ok (.iload_n 1, 1) := by decide +kernel
theorem dX13_isWhole_15 : decode cX13_isWhole 15 = .ok (.iconst 2, 1) := by decide +kernel
theorem dX13_isWhole_16 : decode cX13_isWhole 16 = .ok (.invokevirtual 126, 3) := by decide +kernel
theorem dX13_isWhole_19 : decode cX13_isWhole 19 = .ok (.if_icmp .ne 7, 3) := by decide +kernel
theorem dX13_isWhole_22 : decode cX13_isWhole 22 = .ok (.iconst 1, 1) := by decide +kernel
theorem dX13_isWhole_23 : decode cX13_isWhole 23 = .ok (.goto 4, 3) := by decide +kernel
theorem dX13_isWhole_26 : decode cX13_isWhole 26 = .ok (.iconst 0, 1) := by decide +kernel
theorem dX13_isWhole_27 : decode cX13_isWhole 27 = .ok (.ireturn, 1) := by decide +kernel
theorem dX13_isFor_0 : decode cX13_isFor 0 = .ok (.aload_n 0, 1) := by decide +kernel
theorem dX13_isFor_1 : decode cX13_isFor 1 = .ok (.iload_n 1, 1) := by decide +kernel
theorem dX13_isFor_2 : decode cX13_isFor 2 = .ok (.iconst 0, 1) := by decide +kernel
theorem dX13_isFor_3 : decode cX13_isFor 3 = .ok (.invokevirtual 126, 3) := by decide +kernel
theorem dX13_isFor_6 : decode cX13_isFor 6 = .ok (.istore_n 3, 1) := by decide +kernel
theorem dX13_isFor_7 : decode cX13_isFor 7 = .ok (.iload_n 3, 1) := by decide +kernel
theorem dX13_isFor_8 : decode cX13_isFor 8 = .ok (.ifCond .eq 13, 3) := by decide +kernel
theorem dX13_isFor_11 : decode cX13_isFor 11 = .ok (.iload_n 3, 1) := by decide +kernel
theorem dX13_isFor_12 : decode cX13_isFor 12 = .ok (.aload_n 0, 1) := by decide +kernel
theorem dX13_isFor_13 : decode cX13_isFor 13 = .ok (.iload_n 2, 1) := by decide +kernel
theorem dX13_isFor_14 : decode cX13_isFor 14 = .ok (.iconst 0, 1) := by decide +kernel
theorem dX13_isFor_15 : decode cX13_isFor 15 = .ok (.invokevirtual 88, 3) := by decide +kernel
theorem dX13_isFor_18 : decode cX13_isFor 18 = .ok (.if_icmp .ne 7, 3) := by decide +kernel
theorem dX13_isFor_21 : decode cX13_isFor 21 = .ok (.iconst 1, 1) := by decide +kernel
theorem dX13_isFor_22 : decode cX13_isFor 22 = .ok (.goto 4, 3) := by decide +kernel
theorem dX13_isFor_25 : decode cX13_isFor 25 = .ok (.iconst 0, 1) := by decide +kernel
theorem dX13_isFor_26 : decode cX13_isFor 26 = .ok (.ireturn, 1) := by decide +kernel
theorem dX13_queueLength_0 : decode cX13_queueLength 0 = .ok (.aload_n 0, 1) := by decide +kernel
theorem dX13_queueLength_1 : decode cX13_queueLength 1 = .ok (.iconst 0, 1) := by decide +kernel
theorem dX13_queueLength_2 : decode cX13_queueLength 2 = .ok (.putfield 77, 3) := by decide +kernel
theorem dX13_queueLength_5 : decode cX13_queueLength 5 = .ok (.aload_n 0, 1) := by decide +kernel
theorem dX13_queueLength_6 : decode cX13_queueLength 6 = .ok (.getfield 31, 3) := by decide +kernel
theorem dX13_queueLength_9 : decode cX13_queueLength 9 = .ok (.bipush 6, 2) := by decide +kernel
theorem dX13_queueLength_11 : decode cX13_queueLength 11 = .ok (.iaload, 1) := by decide +kernel
theorem dX13_queueLength_12 : decode cX13_queueLength 12 = .ok (.ireturn, 1) := by decide +kernel
theorem dX13_packetAddress_0 : decode cX13_packetAddress 0 = .ok (.aload_n 0, 1) := by decide +kernel
theorem dX13_packetAddress_1 : decode cX13_packetAddress 1 = .ok (.iload_n 1, 1) := by decide +kernel
theorem dX13_packetAddress_2 : decode cX13_packetAddress 2 = .ok (.iconst 0, 1) := by decide +kernel
theorem dX13_packetAddress_3 : decode cX13_packetAddress 3 = .ok (.invokevirtual 129, 3) := by decide +kernel
theorem dX13_packetAddress_6 : decode cX13_packetAddress 6 = .ok (.ireturn, 1) := by decide +kernel
theorem dX13_packetCommand_0 : decode cX13_packetCommand 0 = .ok (.aload_n 0, 1) := by decide +kernel
theorem dX13_packetCommand_1 : decode cX13_packetCommand 1 = .ok (.iload_n 1, 1) := by decide +kernel
theorem dX13_packetCommand_2 : decode cX13_packetCommand 2 = .ok (.iconst 1, 1) := by decide +kernel
theorem dX13_packetCommand_3 : decode cX13_packetCommand 3 = .ok (.invokevirtual 129, 3) := by decide +kernel
theorem dX13_packetCommand_6 : decode cX13_packetCommand 6 = .ok (.ireturn, 1) := by decide +kernel
theorem dX13_isIntact_0 : decode cX13_isIntact 0 = .ok (.aload_n 0, 1) := by decide +kernel
theorem dX13_isIntact_1 : decode cX13_isIntact 1 = .ok (.aload_n 0, 1) := by decide +kernel
theorem dX13_isIntact_2 : decode cX13_isIntact 2 = .ok (.iload_n 1, 1) := by decide +kernel
theorem dX13_isIntact_3 : decode cX13_isIntact 3 = .ok (.invokevirtual 123, 3) := by decide +kernel
theorem dX13_isIntact_6 : decode cX13_isIntact 6 = .ok (.invokevirtual 80, 3) := by decide +kernel
theorem dX13_isIntact_9 : decode cX13_isIntact 9 = .ok (.ifCond .ne 15, 3) := by decide +kernel
theorem dX13_isIntact_12 : decode cX13_isIntact 12 = .ok (.aload_n 0, 1) := by decide +kernel
theorem dX13_isIntact_13 : decode cX13_isIntact 13 = .ok (.iload_n 1, 1) := by decide +kernel
theorem dX13_isIntact_14 : decode cX13_isIntact 14 = .ok (.invokevirtual 132, 3) := by decide +kernel
theorem dX13_isIntact_17 : decode cX13_isIntact 17 = .ok (.ifCond .eq 7, 3) := by decide +kernel
theorem dX13_isIntact_20 : decode cX13_isIntact 20 = .ok (.iconst 1, 1) := by decide +kernel
theorem dX13_isIntact_21 : decode cX13_isIntact 21 = .ok (.goto 4, 3) := by decide +kernel
theorem dX13_isIntact_24 : decode cX13_isIntact 24 = .ok (.iconst 0, 1) := by decide +kernel
theorem dX13_isIntact_25 : decode cX13_isIntact 25 = .ok (.ireturn, 1) := by decide +kernel
theorem dX13_packetsFor_0 : decode cX13_packetsFor 0 = .ok (.aload_n 0, 1) := by decide +kernel
theorem dX13_packetsFor_1 : decode cX13_packetsFor 1 = .ok (.aload_n 0, 1) := by decide +kernel
theorem dX13_packetsFor_2 : decode cX13_packetsFor 2 = .ok (.iload_n 1, 1) := by decide +kernel
theorem dX13_packetsFor_3 : decode cX13_packetsFor 3 = .ok (.invokevirtual 111, 3) := by decide +kernel
theorem dX13_packetsFor_6 : decode cX13_packetsFor 6 = .ok (.invokevirtual 80, 3) := by decide +kernel
theorem dX13_packetsFor_9 : decode cX13_packetsFor 9 = .ok (.ifCond .eq 5, 3) := by decide +kernel
theorem dX13_packetsFor_12 : decode cX13_packetsFor 12 = .ok (.iconst 0, 1) := by decide +kernel
theorem dX13_packetsFor_13 : decode cX13_packetsFor 13 = .ok (.ireturn, 1) := by decide +kernel
theorem dX13_packetsFor_14 : decode cX13_packetsFor 14 = .ok (.iconst 0, 1) := by decide +kernel
theorem dX13_packetsFor_15 : decode cX13_packetsFor 15 = .ok (.istore_n 2, 1) := by decide +kernel
theorem dX13_packetsFor_16 : decode cX13_packetsFor 16 = .ok (.iconst 0, 1) := by decide +kernel
theorem dX13_packetsFor_17 : decode cX13_packetsFor 17 = .ok (.istore_n 3, 1) := by decide +kernel
theorem dX13_packetsFor_18 : decode cX13_packetsFor 18 = .ok (.iload_n 3, 1) := by decide +kernel
theorem dX13_packetsFor_19 : decode cX13_packetsFor 19 = .ok (.aload_n 0, 1) := by decide +kernel
theorem dX13_packetsFor_20 : decode cX13_packetsFor 20 = .ok (.getfield 31, 3) := by decide +kernel
theorem dX13_packetsFor_23 : decode cX13_packetsFor 23 = .ok (.bipush 6, 2) := by decide +kernel
theorem dX13_packetsFor_25 : decode cX13_packetsFor 25 = .ok (.iaload, 1) := by decide +kernel
theorem dX13_packetsFor_26 : decode cX13_packetsFor 26 = .ok (.if_icmp .ge 26, 3) := by decide +kernel
theorem dX13_packetsFor_29 : decode cX13_packetsFor 29 = .ok (.iload_n 2, 1) := by decide +kernel
theorem dX13_packetsFor_30 : decode cX13_packetsFor 30 = .ok (.aload_n 0, 1) := by decide +kernel
theorem dX13_packetsFor_31 : decode cX13_packetsFor 31 = .ok (.iload_n 3, 1) := by decide +kernel
theorem dX13_packetsFor_32 : decode cX13_packetsFor 32 = .ok (.iload_n 1, 1) := by decide +kernel
theorem dX13_packetsFor_33 : decode cX13_packetsFor 33 = .ok (.invokevirtual 135, 3) := by decide +kernel
theorem dX13_packetsFor_36 : decode cX13_packetsFor 36 = .ok (.ifCond .eq 7, 3) := by decide +kernel
theorem dX13_packetsFor_39 : decode cX13_packetsFor 39 = .ok (.iconst 1, 1) := by decide +kernel
theorem dX13_packetsFor_40 : decode cX13_packetsFor 40 = .ok (.goto 4, 3) := by decide +kernel
theorem dX13_packetsFor_43 : decode cX13_packetsFor 43 = .ok (.iconst 0, 1) := by decide +kernel
theorem dX13_packetsFor_44 : decode cX13_packetsFor 44 = .ok (.iadd, 1) := by decide +kernel
theorem dX13_packetsFor_45 : decode cX13_packetsFor 45 = .ok (.istore_n 2, 1) := by decide +kernel
theorem dX13_packetsFor_46 : decode cX13_packetsFor 46 = .ok (.iinc 3 1, 3) := by decide +kernel
theorem dX13_packetsFor_49 : decode cX13_packetsFor 49 = .ok (.goto (-31), 3) := by decide +kernel
theorem dX13_packetsFor_52 : decode cX13_packetsFor 52 = .ok (.iload_n 2, 1) := by decide +kernel
theorem dX13_packetsFor_53 : decode cX13_packetsFor 53 = .ok (.ireturn, 1) := by decide +kernel
theorem dX13_sentPackets_0 : decode cX13_sentPackets 0 = .ok (.aload_n 0, 1) := by decide +kernel
theorem dX13_sentPackets_1 : decode cX13_sentPackets 1 = .ok (.iconst 0, 1) := by decide +kernel
theorem dX13_sentPackets_2 : decode cX13_sentPackets 2 = .ok (.putfield 77, 3) := by decide +kernel
theorem dX13_sentPackets_5 : decode cX13_sentPackets 5 = .ok (.aload_n 0, 1) := by decide +kernel
theorem dX13_sentPackets_6 : decode cX13_sentPackets 6 = .ok (.getfield 31, 3) := by decide +kernel
theorem dX13_sentPackets_9 : decode cX13_sentPackets 9 = .ok (.bipush 8, 2) := by decide +kernel
theorem dX13_sentPackets_11 : decode cX13_sentPackets 11 = .ok (.iaload, 1) := by decide +kernel
theorem dX13_sentPackets_12 : decode cX13_sentPackets 12 = .ok (.ireturn, 1) := by decide +kernel
theorem dX13_isByte_0 : decode cX13_isByte 0 = .ok (.iload_n 0, 1) := by decide +kernel
theorem dX13_isByte_1 : decode cX13_isByte 1 = .ok (.iconst 0, 1) := by decide +kernel
theorem dX13_isByte_2 : decode cX13_isByte 2 = .ok (.sipush 255, 3) := by decide +kernel
theorem dX13_isByte_5 : decode cX13_isByte 5 = .ok (.invokestatic 92, 3) := by decide +kernel
theorem dX13_isByte_8 : decode cX13_isByte 8 = .ok (.ireturn, 1) := by decide +kernel
theorem dX13_checkOf_0 : decode cX13_checkOf 0 = .ok (.aload_n 0, 1) := by decide +kernel
theorem dX13_checkOf_1 : decode cX13_checkOf 1 = .ok (.iload_n 1, 1) := by decide +kernel
theorem dX13_checkOf_2 : decode cX13_checkOf 2 = .ok (.invokestatic 139, 3) := by decide +kernel
theorem dX13_checkOf_5 : decode cX13_checkOf 5 = .ok (.ifCond .eq 14, 3) := by decide +kernel
theorem dX13_checkOf_8 : decode cX13_checkOf 8 = .ok (.iload_n 2, 1) := by decide +kernel
theorem dX13_checkOf_9 : decode cX13_checkOf 9 = .ok (.invokestatic 139, 3) := by decide +kernel
theorem dX13_checkOf_12 : decode cX13_checkOf 12 = .ok (.ifCond .eq 7, 3) := by decide +kernel
theorem dX13_checkOf_15 : decode cX13_checkOf 15 = .ok (.iconst 1, 1) := by decide +kernel
theorem dX13_checkOf_16 : decode cX13_checkOf 16 = .ok (.goto 4, 3) := by decide +kernel
theorem dX13_checkOf_19 : decode cX13_checkOf 19 = .ok (.iconst 0, 1) := by decide +kernel
theorem dX13_checkOf_20 : decode cX13_checkOf 20 = .ok (.invokevirtual 80, 3) := by decide +kernel
theorem dX13_checkOf_23 : decode cX13_checkOf 23 = .ok (.ifCond .eq 7, 3) := by decide +kernel
theorem dX13_checkOf_26 : decode cX13_checkOf 26 = .ok (.iconst 0, 1) := by decide +kernel
theorem dX13_checkOf_27 : decode cX13_checkOf 27 = .ok (.goto 6, 3) := by decide +kernel
theorem dX13_checkOf_30 : decode cX13_checkOf 30 = .ok (.iload_n 1, 1) := by decide +kernel
theorem dX13_checkOf_31 : decode cX13_checkOf 31 = .ok (.iload_n 2, 1) := by decide +kernel
theorem dX13_checkOf_32 : decode cX13_checkOf 32 = .ok (.ixor, 1) := by decide +kernel
theorem dX13_checkOf_33 : decode cX13_checkOf 33 = .ok (.ireturn, 1) := by decide +kernel
theorem dX13_gap_0 : decode cX13_gap 0 = .ok (.aload_n 0, 1) := by decide +kernel
theorem dX13_gap_1 : decode cX13_gap 1 = .ok (.iconst 0, 1) := by decide +kernel
theorem dX13_gap_2 : decode cX13_gap 2 = .ok (.putfield 77, 3) := by decide +kernel
theorem dX13_gap_5 : decode cX13_gap 5 = .ok (.iconst 0, 1) := by decide +kernel
theorem dX13_gap_6 : decode cX13_gap 6 = .ok (.istore_n 1, 1) := by decide +kernel
theorem dX13_gap_7 : decode cX13_gap 7 = .ok (.iconst 0, 1) := by decide +kernel
theorem dX13_gap_8 : decode cX13_gap 8 = .ok (.istore_n 2, 1) := by decide +kernel
theorem dX13_gap_9 : decode cX13_gap 9 = .ok (.iload_n 2, 1) := by decide +kernel
theorem dX13_gap_10 : decode cX13_gap 10 = .ok (.aload_n 0, 1) := by decide +kernel
theorem dX13_gap_11 : decode cX13_gap 11 = .ok (.getfield 31, 3) := by decide +kernel
theorem dX13_gap_14 : decode cX13_gap 14 = .ok (.iconst 3, 1) := by decide +kernel
theorem dX13_gap_15 : decode cX13_gap 15 = .ok (.iaload, 1) := by decide +kernel
theorem dX13_gap_16 : decode cX13_gap 16 = .ok (.if_icmp .ge 45, 3) := by decide +kernel
theorem dX13_gap_19 : decode cX13_gap 19 = .ok (.iconst 0, 1) := by decide +kernel
theorem dX13_gap_20 : decode cX13_gap 20 = .ok (.istore_n 3, 1) := by decide +kernel
theorem dX13_gap_21 : decode cX13_gap 21 = .ok (.iload_n 3, 1) := by decide +kernel
theorem dX13_gap_22 : decode cX13_gap 22 = .ok (.iload_n 2, 1) := by decide +kernel
theorem dX13_gap_23 : decode cX13_gap 23 = .ok (.if_icmp .ge 32, 3) := by decide +kernel
theorem dX13_gap_26 : decode cX13_gap 26 = .ok (.iload_n 1, 1) := by decide +kernel
theorem dX13_gap_27 : decode cX13_gap 27 = .ok (.aload_n 0, 1) := by decide +kernel
theorem dX13_gap_28 : decode cX13_gap 28 = .ok (.iload_n 2, 1) := by decide +kernel
theorem dX13_gap_29 : decode cX13_gap 29 = .ok (.iconst 3, 1) := by decide +kernel
theorem dX13_gap_30 : decode cX13_gap 30 = .ok (.invokevirtual 88, 3) := by decide +kernel
theorem dX13_gap_33 : decode cX13_gap 33 = .ok (.aload_n 0, 1) := by decide +kernel
theorem dX13_gap_34 : decode cX13_gap 34 = .ok (.iload_n 3, 1) := by decide +kernel
theorem dX13_gap_35 : decode cX13_gap 35 = .ok (.iconst 3, 1) := by decide +kernel
theorem dX13_gap_36 : decode cX13_gap 36 = .ok (.invokevirtual 88, 3) := by decide +kernel
theorem dX13_gap_39 : decode cX13_gap 39 = .ok (.if_icmp .ne 7, 3) := by decide +kernel
theorem dX13_gap_42 : decode cX13_gap 42 = .ok (.iconst 1, 1) := by decide +kernel
theorem dX13_gap_43 : decode cX13_gap 43 = .ok (.goto 4, 3) := by decide +kernel
theorem dX13_gap_46 : decode cX13_gap 46 = .ok (.iconst 0, 1) := by decide +kernel
theorem dX13_gap_47 : decode cX13_gap 47 = .ok (.iadd, 1) := by decide +kernel
theorem dX13_gap_48 : decode cX13_gap 48 = .ok (.istore_n 1, 1) := by decide +kernel
theorem dX13_gap_49 : decode cX13_gap 49 = .ok (.iinc 3 1, 3) := by decide +kernel
theorem dX13_gap_52 : decode cX13_gap 52 = .ok (.goto (-31), 3) := by decide +kernel
theorem dX13_gap_55 : decode cX13_gap 55 = .ok (.iinc 2 1, 3) := by decide +kernel
theorem dX13_gap_58 : decode cX13_gap 58 = .ok (.goto (-49), 3) := by decide +kernel
theorem dX13_gap_61 : decode cX13_gap 61 = .ok (.aload_n 0, 1) := by decide +kernel
theorem dX13_gap_62 : decode cX13_gap 62 = .ok (.getfield 31, 3) := by decide +kernel
theorem dX13_gap_65 : decode cX13_gap 65 = .ok (.bipush 7, 2) := by decide +kernel
theorem dX13_gap_67 : decode cX13_gap 67 = .ok (.iaload, 1) := by decide +kernel
theorem dX13_gap_68 : decode cX13_gap 68 = .ok (.aload_n 0, 1) := by decide +kernel
theorem dX13_gap_69 : decode cX13_gap 69 = .ok (.getfield 31, 3) := by decide +kernel
theorem dX13_gap_72 : decode cX13_gap 72 = .ok (.bipush 8, 2) := by decide +kernel
theorem dX13_gap_74 : decode cX13_gap 74 = .ok (.iaload, 1) := by decide +kernel
theorem dX13_gap_75 : decode cX13_gap 75 = .ok (.isub, 1) := by decide +kernel
theorem dX13_gap_76 : decode cX13_gap 76 = .ok (.aload_n 0, 1) := by decide +kernel
theorem dX13_gap_77 : decode cX13_gap 77 = .ok (.getfield 31, 3) := by decide +kernel
theorem dX13_gap_80 : decode cX13_gap 80 = .ok (.bipush 9, 2) := by decide +kernel
theorem dX13_gap_82 : decode cX13_gap 82 = .ok (.iaload, 1) := by decide +kernel
theorem dX13_gap_83 : decode cX13_gap 83 = .ok (.isub, 1) := by decide +kernel
theorem dX13_gap_84 : decode cX13_gap 84 = .ok (.aload_n 0, 1) := by decide +kernel
theorem dX13_gap_85 : decode cX13_gap 85 = .ok (.getfield 31, 3) := by decide +kernel
theorem dX13_gap_88 : decode cX13_gap 88 = .ok (.bipush 6, 2) := by decide +kernel
theorem dX13_gap_90 : decode cX13_gap 90 = .ok (.iaload, 1) := by decide +kernel
theorem dX13_gap_91 : decode cX13_gap 91 = .ok (.isub, 1) := by decide +kernel
theorem dX13_gap_92 : decode cX13_gap 92 = .ok (.invokestatic 142, 3) := by decide +kernel
theorem dX13_gap_95 : decode cX13_gap 95 = .ok (.iload_n 1, 1) := by decide +kernel
theorem dX13_gap_96 : decode cX13_gap 96 = .ok (.iadd, 1) := by decide +kernel
theorem dX13_gap_97 : decode cX13_gap 97 = .ok (.ireturn, 1) := by decide +kernel
theorem dX13_obey_0 : decode cX13_obey 0 = .ok (.iload_n 2, 1) := by decide +kernel
theorem dX13_obey_1 : decode cX13_obey 1 = .ok (.bipush 64, 2) := by decide +kernel
theorem dX13_obey_3 : decode cX13_obey 3 = .ok (.irem, 1) := by decide +kernel
theorem dX13_obey_4 : decode cX13_obey 4 = .ok (.istore_n 3, 1) := by decide +kernel
theorem dX13_obey_5 : decode cX13_obey 5 = .ok (.iload_n 2, 1) := by decide +kernel
theorem dX13_obey_6 : decode cX13_obey 6 = .ok (.bipush 64, 2) := by decide +kernel
theorem dX13_obey_8 : decode cX13_obey 8 = .ok (.idiv, 1) := by decide +kernel
theorem dX13_obey_9 : decode cX13_obey 9 = .ok (.tableswitch 75 0 2 #[27, 43, 57], 27) := by decide +kernel
theorem dX13_obey_36 : decode cX13_obey 36 = .ok (.aload_n 0, 1) := by decide +kernel
theorem dX13_obey_37 : decode cX13_obey 37 = .ok (.iload_n 1, 1) := by decide +kernel
theorem dX13_obey_38 : decode cX13_obey 38 = .ok (.bipush 6, 2) := by decide +kernel
theorem dX13_obey_40 : decode cX13_obey 40 = .ok (.bipush 28, 2) := by decide +kernel
theorem dX13_obey_42 : decode cX13_obey 42 = .ok (.iload_n 3, 1) := by decide +kernel
theorem dX13_obey_43 : decode cX13_obey 43 = .ok (.invokestatic 145, 3) := by decide +kernel
theorem dX13_obey_46 : decode cX13_obey 46 = .ok (.invokevirtual 84, 3) := by decide +kernel
theorem dX13_obey_49 : decode cX13_obey 49 = .ok (.goto 35, 3) := by decide +kernel
theorem dX13_obey_52 : decode cX13_obey 52 = .ok (.aload_n 0, 1) := by decide +kernel
theorem dX13_obey_53 : decode cX13_obey 53 = .ok (.iload_n 1, 1) := by decide +kernel
theorem dX13_obey_54 : decode cX13_obey 54 = .ok (.bipush 8, 2) := by decide +kernel
theorem dX13_obey_56 : decode cX13_obey 56 = .ok (.iload_n 3, 1) := by decide +kernel
theorem dX13_obey_57 : decode cX13_obey 57 = .ok (.bipush 16, 2) := by decide +kernel
theorem dX13_obey_59 : decode cX13_obey 59 = .ok (.irem, 1) := by decide +kernel
theorem dX13_obey_60 : decode cX13_obey 60 = .ok (.invokevirtual 84, 3) := by decide +kernel
theorem dX13_obey_63 : decode cX13_obey 63 = .ok (.goto 21, 3) := by decide +kernel
theorem dX13_obey_66 : decode cX13_obey 66 = .ok (.aload_n 0, 1) := by decide +kernel
theorem dX13_obey_67 : decode cX13_obey 67 = .ok (.iload_n 1, 1) := by decide +kernel
theorem dX13_obey_68 : decode cX13_obey 68 = .ok (.iconst 5, 1) := by decide +kernel
theorem dX13_obey_69 : decode cX13_obey 69 = .ok (.iconst 0, 1) := by decide +kernel
theorem dX13_obey_70 : decode cX13_obey 70 = .ok (.invokevirtual 84, 3) := by decide +kernel
theorem dX13_obey_73 : decode cX13_obey 73 = .ok (.aload_n 0, 1) := by decide +kernel
theorem dX13_obey_74 : decode cX13_obey 74 = .ok (.iload_n 1, 1) := by decide +kernel
theorem dX13_obey_75 : decode cX13_obey 75 = .ok (.bipush 6, 2) := by decide +kernel
theorem dX13_obey_77 : decode cX13_obey 77 = .ok (.iconst 0, 1) := by decide +kernel
theorem dX13_obey_78 : decode cX13_obey 78 = .ok (.invokevirtual 84, 3) := by decide +kernel
theorem dX13_obey_81 : decode cX13_obey 81 = .ok (.goto 3, 3) := by decide +kernel
theorem dX13_obey_84 : decode cX13_obey 84 = .ok (.aload_n 0, 1) := by decide +kernel
theorem dX13_obey_85 : decode cX13_obey 85 = .ok (.iload_n 1, 1) := by decide +kernel
theorem dX13_obey_86 : decode cX13_obey 86 = .ok (.bipush 11, 2) := by decide +kernel
theorem dX13_obey_88 : decode cX13_obey 88 = .ok (.iconst 1, 1) := by decide +kernel
theorem dX13_obey_89 : decode cX13_obey 89 = .ok (.invokevirtual 148, 3) := by decide +kernel
theorem dX13_obey_92 : decode cX13_obey 92 = .ok (.aload_n 0, 1) := by decide +kernel
theorem dX13_obey_93 : decode cX13_obey 93 = .ok (.getfield 28, 3) := by decide +kernel
theorem dX13_obey_96 : decode cX13_obey 96 = .ok (.iload_n 1, 1) := by decide +kernel
theorem dX13_obey_97 : decode cX13_obey 97 = .ok (.iconst 1, 1) := by decide +kernel
theorem dX13_obey_98 : decode cX13_obey 98 = .ok (.iastore, 1) := by decide +kernel
theorem dX13_obey_99 : decode cX13_obey 99 = .ok (.return_, 1) := by decide +kernel
theorem dX13_receive_0 : decode cX13_receive 0 = .ok (.aload_n 0, 1) := by decide +kernel
theorem dX13_receive_1 : decode cX13_receive 1 = .ok (.getfield 31, 3) := by decide +kernel
theorem dX13_receive_4 : decode cX13_receive 4 = .ok (.bipush 10, 2) := by decide +kernel
theorem dX13_receive_6 : decode cX13_receive 6 = .ok (.aload_n 0, 1) := by decide +kernel
theorem dX13_receive_7 : decode cX13_receive 7 = .ok (.iload_n 1, 1) := by decide +kernel
theorem dX13_receive_8 : decode cX13_receive 8 = .ok (.iconst 3, 1) := by decide +kernel
theorem dX13_receive_9 : decode cX13_receive 9 = .ok (.invokevirtual 88, 3) := by decide +kernel
theorem dX13_receive_12 : decode cX13_receive 12 = .ok (.iadd, 1) := by decide +kernel
theorem dX13_receive_13 : decode cX13_receive 13 = .ok (.iaload, 1) := by decide +kernel
theorem dX13_receive_14 : decode cX13_receive 14 = .ok (.iconst 1, 1) := by decide +kernel
theorem dX13_receive_15 : decode cX13_receive 15 = .ok (.if_icmp .ne 14, 3) := by decide +kernel
theorem dX13_receive_18 : decode cX13_receive 18 = .ok (.aload_n 0, 1) := by decide +kernel
theorem dX13_receive_19 : decode cX13_receive 19 = .ok (.iload_n 1, 1) := by decide +kernel
theorem dX13_receive_20 : decode cX13_receive 20 = .ok (.bipush 13, 2) := by decide +kernel
theorem dX13_receive_22 : decode cX13_receive 22 = .ok (.iconst 1, 1) := by decide +kernel
theorem dX13_receive_23 : decode cX13_receive 23 = .ok (.invokevirtual 148, 3) := by decide +kernel
theorem dX13_receive_26 : decode cX13_receive 26 = .ok (.goto 33, 3) := by decide +kernel
theorem dX13_receive_29 : decode cX13_receive 29 = .ok (.aload_n 0, 1) := by decide +kernel
theorem dX13_receive_30 : decode cX13_receive 30 = .ok (.iconst 0, 1) := by decide +kernel
theorem dX13_receive_31 : decode cX13_receive 31 = .ok (.invokevirtual 132, 3) := by decide +kernel
theorem dX13_receive_34 : decode cX13_receive 34 = .ok (.ifCond .eq 17, 3) := by decide +kernel
theorem dX13_receive_37 : decode cX13_receive 37 = .ok (.aload_n 0, 1) := by decide +kernel
theorem dX13_receive_38 : decode cX13_receive 38 = .ok (.iload_n 1, 1) := by decide +kernel
theorem dX13_receive_39 : decode cX13_receive 39 = .ok (.aload_n 0, 1) := by decide +kernel
theorem dX13_receive_40 : decode cX13_receive 40 = .ok (.iconst 0, 1) := by decide +kernel
theorem dX13_receive_41 : decode cX13_receive 41 = .ok (.iconst 1, 1) := by decide +kernel
theorem dX13_receive_42 : decode cX13_receive 42 = .ok (.invokevirtual 126, 3) := by decide +kernel
theorem dX13_receive_45 : decode cX13_receive 45 = .ok (.invokevirtual 151, 3) := by decide +kernel
theorem dX13_receive_48 : decode cX13_receive 48 = .ok (.goto 11, 3) := by decide +kernel
theorem dX13_receive_51 : decode cX13_receive 51 = .ok (.aload_n 0, 1) := by decide +kernel
theorem dX13_receive_52 : decode cX13_receive 52 = .ok (.iload_n 1, 1) := by decide +kernel
theorem dX13_receive_53 : decode cX13_receive 53 = .ok (.bipush 12, 2) := by decide +kernel
theorem dX13_receive_55 : decode cX13_receive 55 = .ok (.iconst 1, 1) := by decide +kernel
theorem dX13_receive_56 : decode cX13_receive 56 = .ok (.invokevirtual 148, 3) := by decide +kernel
theorem dX13_receive_59 : decode cX13_receive 59 = .ok (.return_, 1) := by decide +kernel
theorem dX13_send_0 : decode cX13_send 0 = .ok (.aload_n 0, 1) := by decide +kernel
theorem dX13_send_1 : decode cX13_send 1 = .ok (.invokevirtual 107, 3) := by decide +kernel
theorem dX13_send_4 : decode cX13_send 4 = .ok (.ifCond .eq 13, 3) := by decide +kernel
theorem dX13_send_7 : decode cX13_send 7 = .ok (.aload_n 0, 1) := by decide +kernel
theorem dX13_send_8 : decode cX13_send 8 = .ok (.getfield 31, 3) := by decide +kernel
theorem dX13_send_11 : decode cX13_send 11 = .ok (.bipush 6, 2) := by decide +kernel
theorem dX13_send_13 : decode cX13_send 13 = .ok (.iaload, 1) := by decide +kernel
theorem dX13_send_14 : decode cX13_send 14 = .ok (.ifCond .ne 5, 3) := by decide +kernel
theorem dX13_send_17 : decode cX13_send 17 = .ok (.iconst 0, 1) := by decide +kernel
theorem dX13_send_18 : decode cX13_send 18 = .ok (.ireturn, 1) := by decide +kernel
theorem dX13_send_19 : decode cX13_send 19 = .ok (.iconst 0, 1) := by decide +kernel
theorem dX13_send_20 : decode cX13_send 20 = .ok (.istore_n 1, 1) := by decide +kernel
theorem dX13_send_21 : decode cX13_send 21 = .ok (.iload_n 1, 1) := by decide +kernel
theorem dX13_send_22 : decode cX13_send 22 = .ok (.aload_n 0, 1) := by decide +kernel
theorem dX13_send_23 : decode cX13_send 23 = .ok (.getfield 31, 3) := by decide +kernel
theorem dX13_send_26 : decode cX13_send 26 = .ok (.iconst 3, 1) := by decide +kernel
theorem dX13_send_27 : decode cX13_send 27 = .ok (.iaload, 1) := by decide +kernel
theorem dX13_send_28 : decode cX13_send 28 = .ok (.if_icmp .ge 23, 3) := by decide +kernel
theorem dX13_send_31 : decode cX13_send 31 = .ok (.aload_n 0, 1) := by decide +kernel
theorem dX13_send_32 : decode cX13_send 32 = .ok (.iconst 0, 1) := by decide +kernel
theorem dX13_send_33 : decode cX13_send 33 = .ok (.iload_n 1, 1) := by decide +kernel
theorem dX13_send_34 : decode cX13_send 34 = .ok (.invokevirtual 135, 3) := by decide +kernel
theorem dX13_send_37 : decode cX13_send 37 = .ok (.ifCond .eq 8, 3) := by decide +kernel
theorem dX13_send_40 : decode cX13_send 40 = .ok (.aload_n 0, 1) := by decide +kernel
theorem dX13_send_41 : decode cX13_send 41 = .ok (.iload_n 1, 1) := by decide +kernel
theorem dX13_send_42 : decode cX13_send 42 = .ok (.invokevirtual 154, 3) := by decide +kernel
theorem dX13_send_45 : decode cX13_send 45 = .ok (.iinc 1 1, 3) := by decide +kernel
theorem dX13_send_48 : decode cX13_send 48 = .ok (.goto (-27), 3) := by decide +kernel
theorem dX13_send_51 : decode cX13_send 51 = .ok (.aload_n 0, 1) := by decide +kernel
theorem dX13_send_52 : decode cX13_send 52 = .ok (.getfield 31, 3) := by decide +kernel
theorem dX13_send_55 : decode cX13_send 55 = .ok (.bipush 6, 2) := by decide +kernel
theorem dX13_send_57 : decode cX13_send 57 = .ok (.dup2, 1) := by decide +kernel
theorem dX13_send_58 : decode cX13_send 58 = .ok (.iaload, 1) := by decide +kernel
theorem dX13_send_59 : decode cX13_send 59 = .ok (.iconst 1, 1) := by decide +kernel
theorem dX13_send_60 : decode cX13_send 60 = .ok (.isub, 1) := by decide +kernel
theorem dX13_send_61 : decode cX13_send 61 = .ok (.iastore, 1) := by decide +kernel
theorem dX13_send_62 : decode cX13_send 62 = .ok (.aload_n 0, 1) := by decide +kernel
theorem dX13_send_63 : decode cX13_send 63 = .ok (.getfield 31, 3) := by decide +kernel
theorem dX13_send_66 : decode cX13_send 66 = .ok (.sipush 151, 3) := by decide +kernel
theorem dX13_send_69 : decode cX13_send 69 = .ok (.aload_n 0, 1) := by decide +kernel
theorem dX13_send_70 : decode cX13_send 70 = .ok (.getfield 31, 3) := by decide +kernel
theorem dX13_send_73 : decode cX13_send 73 = .ok (.sipush 148, 3) := by decide +kernel
theorem dX13_send_76 : decode cX13_send 76 = .ok (.iconst 3, 1) := by decide +kernel
theorem dX13_send_77 : decode cX13_send 77 = .ok (.aload_n 0, 1) := by decide +kernel
theorem dX13_send_78 : decode cX13_send 78 = .ok (.getfield 31, 3) := by decide +kernel
theorem dX13_send_81 : decode cX13_send 81 = .ok (.bipush 6, 2) := by decide +kernel
theorem dX13_send_83 : decode cX13_send 83 = .ok (.iaload, 1) := by decide +kernel
theorem dX13_send_84 : decode cX13_send 84 = .ok (.imul, 1) := by decide +kernel
theorem dX13_send_85 : decode cX13_send 85 = .ok (.invokestatic 158, 3) := by decide +kernel
theorem dX13_send_88 : decode cX13_send 88 = .ok (.aload_n 0, 1) := by decide +kernel
theorem dX13_send_89 : decode cX13_send 89 = .ok (.getfield 31, 3) := by decide +kernel
theorem dX13_send_92 : decode cX13_send 92 = .ok (.bipush 8, 2) := by decide +kernel
theorem dX13_send_94 : decode cX13_send 94 = .ok (.dup2, 1) := by decide +kernel
theorem dX13_send_95 : decode cX13_send 95 = .ok (.iaload, 1) := by decide +kernel
theorem dX13_send_96 : decode cX13_send 96 = .ok (.iconst 1, 1) := by decide +kernel
theorem dX13_send_97 : decode cX13_send 97 = .ok (.iadd, 1) := by decide +kernel
theorem dX13_send_98 : decode cX13_send 98 = .ok (.iastore, 1) := by decide +kernel
theorem dX13_send_99 : decode cX13_send 99 = .ok (.iconst 1, 1) := by decide +kernel
theorem dX13_send_100 : decode cX13_send 100 = .ok (.ireturn, 1) := by decide +kernel
theorem dX13_listen_0 : decode cX13_listen 0 = .ok (.aload_n 0, 1) := by decide +kernel
theorem dX13_listen_1 : decode cX13_listen 1 = .ok (.iload_n 1, 1) := by decide +kernel
theorem dX13_listen_2 : decode cX13_listen 2 = .ok (.bipush 9, 2) := by decide +kernel
theorem dX13_listen_4 : decode cX13_listen 4 = .ok (.aload_n 0, 1) := by decide +kernel
theorem dX13_listen_5 : decode cX13_listen 5 = .ok (.getfield 28, 3) := by decide +kernel
theorem dX13_listen_8 : decode cX13_listen 8 = .ok (.iload_n 1, 1) := by decide +kernel
theorem dX13_listen_9 : decode cX13_listen 9 = .ok (.iaload, 1) := by decide +kernel
theorem dX13_listen_10 : decode cX13_listen 10 = .ok (.iconst 1, 1) := by decide +kernel
theorem dX13_listen_11 : decode cX13_listen 11 = .ok (.if_icmp .ne 7, 3) := by decide +kernel
theorem dX13_listen_14 : decode cX13_listen 14 = .ok (.iconst 0, 1) := by decide +kernel
theorem dX13_listen_15 : decode cX13_listen 15 = .ok (.goto 12, 3) := by decide +kernel
theorem dX13_listen_18 : decode cX13_listen 18 = .ok (.aload_n 0, 1) := by decide +kernel
theorem dX13_listen_19 : decode cX13_listen 19 = .ok (.iload_n 1, 1) := by decide +kernel
theorem dX13_listen_20 : decode cX13_listen 20 = .ok (.bipush 9, 2) := by decide +kernel
theorem dX13_listen_22 : decode cX13_listen 22 = .ok (.invokevirtual 88, 3) := by decide +kernel
theorem dX13_listen_25 : decode cX13_listen 25 = .ok (.iconst 1, 1) := by decide +kernel
theorem dX13_listen_26 : decode cX13_listen 26 = .ok (.iadd, 1) := by decide +kernel
theorem dX13_listen_27 : decode cX13_listen 27 = .ok (.invokevirtual 84, 3) := by decide +kernel
theorem dX13_listen_30 : decode cX13_listen 30 = .ok (.aload_n 0, 1) := by decide +kernel
theorem dX13_listen_31 : decode cX13_listen 31 = .ok (.iload_n 1, 1) := by decide +kernel
theorem dX13_listen_32 : decode cX13_listen 32 = .ok (.bipush 9, 2) := by decide +kernel
theorem dX13_listen_34 : decode cX13_listen 34 = .ok (.invokevirtual 88, 3) := by decide +kernel
theorem dX13_listen_37 : decode cX13_listen 37 = .ok (.bipush 40, 2) := by decide +kernel
theorem dX13_listen_39 : decode cX13_listen 39 = .ok (.if_icmp .lt 11, 3) := by decide +kernel
theorem dX13_listen_42 : decode cX13_listen 42 = .ok (.aload_n 0, 1) := by decide +kernel
theorem dX13_listen_43 : decode cX13_listen 43 = .ok (.iload_n 1, 1) := by decide +kernel
theorem dX13_listen_44 : decode cX13_listen 44 = .ok (.bipush 6, 2) := by decide +kernel
theorem dX13_listen_46 : decode cX13_listen 46 = .ok (.iconst 0, 1) := by decide +kernel
theorem dX13_listen_47 : decode cX13_listen 47 = .ok (.invokevirtual 84, 3) := by decide +kernel
theorem dX13_listen_50 : decode cX13_listen 50 = .ok (.return_, 1) := by decide +kernel
theorem dX13_braked_0 : decode cX13_braked 0 = .ok (.iload_n 0, 1) := by decide +kernel
theorem dX13_braked_1 : decode cX13_braked 1 = .ok (.iconst 1, 1) := by decide +kernel
theorem dX13_braked_2 : decode cX13_braked 2 = .ok (.iload_n 0, 1) := by decide +kernel
theorem dX13_braked_3 : decode cX13_braked 3 = .ok (.iload_n 1, 1) := by decide +kernel
theorem dX13_braked_4 : decode cX13_braked 4 = .ok (.idiv, 1) := by decide +kernel
theorem dX13_braked_5 : decode cX13_braked 5 = .ok (.invokestatic 164, 3) := by decide +kernel
theorem dX13_braked_8 : decode cX13_braked 8 = .ok (.isub, 1) := by decide +kernel
theorem dX13_braked_9 : decode cX13_braked 9 = .ok (.ireturn, 1) := by decide +kernel
theorem dX13_changeSpeed_0 : decode cX13_changeSpeed 0 = .ok (.aload_n 0, 1) := by decide +kernel
theorem dX13_changeSpeed_1 : decode cX13_changeSpeed 1 = .ok (.iload_n 1, 1) := by decide +kernel
theorem dX13_changeSpeed_2 : decode cX13_changeSpeed 2 = .ok (.iconst 5, 1) := by decide +kernel
theorem dX13_changeSpeed_3 : decode cX13_changeSpeed 3 = .ok (.invokevirtual 88, 3) := by decide +kernel
theorem dX13_changeSpeed_6 : decode cX13_changeSpeed 6 = .ok (.istore_n 2, 1) := by decide +kernel
theorem dX13_changeSpeed_7 : decode cX13_changeSpeed 7 = .ok (.aload_n 0, 1) := by decide +kernel
theorem dX13_changeSpeed_8 : decode cX13_changeSpeed 8 = .ok (.iload_n 1, 1) := by decide +kernel
theorem dX13_changeSpeed_9 : decode cX13_changeSpeed 9 = .ok (.bipush 6, 2) := by decide +kernel
theorem dX13_changeSpeed_11 : decode cX13_changeSpeed 11 = .ok (.invokevirtual 88, 3) := by decide +kernel
theorem dX13_changeSpeed_14 : decode cX13_changeSpeed 14 = .ok (.istore_n 3, 1) := by decide +kernel
theorem dX13_changeSpeed_15 : decode cX13_changeSpeed 15 = .ok (.aload_n 0, 1) := by decide +kernel
theorem dX13_changeSpeed_16 : decode cX13_changeSpeed 16 = .ok (.invokevirtual 107, 3) := by decide +kernel
theorem dX13_changeSpeed_19 : decode cX13_changeSpeed 19 = .ok (.ifCond .ne 14, 3) := by decide +kernel
theorem dX13_changeSpeed_22 : decode cX13_changeSpeed 22 = .ok (.iconst 0, 1) := by decide +kernel
theorem dX13_changeSpeed_23 : decode cX13_changeSpeed 23 = .ok (.iload_n 2, 1) := by decide +kernel
theorem dX13_changeSpeed_24 : decode cX13_changeSpeed 24 = .ok (.iconst 5, 1) := by decide +kernel
theorem dX13_changeSpeed_25 : decode cX13_changeSpeed 25 = .ok (.isub, 1) := by decide +kernel
theorem dX13_changeSpeed_26 : decode cX13_changeSpeed 26 = .ok (.invokestatic 164, 3) := by decide +kernel
theorem dX13_changeSpeed_29 : decode cX13_changeSpeed 29 = .ok (.istore_n 2, 1) := by decide +kernel
theorem dX13_changeSpeed_30 : decode cX13_changeSpeed 30 = .ok (.goto 44, 3) := by decide +kernel
theorem dX13_changeSpeed_33 : decode cX13_changeSpeed 33 = .ok (.iload_n 2, 1) := by decide +kernel
theorem dX13_changeSpeed_34 : decode cX13_changeSpeed 34 = .ok (.iload_n 3, 1) := by decide +kernel
theorem dX13_changeSpeed_35 : decode cX13_changeSpeed 35 = .ok (.if_icmp .ge 19, 3) := by decide +kernel
theorem dX13_changeSpeed_38 : decode cX13_changeSpeed 38 = .ok (.iload_n 3, 1) := by decide +kernel
theorem dX13_changeSpeed_39 : decode cX13_changeSpeed 39 = .ok (.iload_n 2, 1) := by decide +kernel
theorem dX13_changeSpeed_40 : decode cX13_changeSpeed 40 = .ok (.aload_n 0, 1) := by decide +kernel
theorem dX13_changeSpeed_41 : decode cX13_changeSpeed 41 = .ok (.iload_n 1, 1) := by decide +kernel
theorem dX13_changeSpeed_42 : decode cX13_changeSpeed 42 = .ok (.iconst 1, 1) := by decide +kernel
theorem dX13_changeSpeed_43 : decode cX13_changeSpeed 43 = .ok (.invokevirtual 88, 3) := by decide +kernel
theorem dX13_changeSpeed_46 : decode cX13_changeSpeed 46 = .ok (.iadd, 1) := by decide +kernel
theorem dX13_changeSpeed_47 : decode cX13_changeSpeed 47 = .ok (.invokestatic 145, 3) := by decide +kernel
theorem dX13_changeSpeed_50 : decode cX13_changeSpeed 50 = .ok (.istore_n 2, 1) := by decide +kernel
theorem dX13_changeSpeed_51 : decode cX13_changeSpeed 51 = .ok (.goto 23, 3) := by decide +kernel
theorem dX13_changeSpeed_54 : decode cX13_changeSpeed 54 = .ok (.iload_n 2, 1) := by decide +kernel
theorem dX13_changeSpeed_55 : decode cX13_changeSpeed 55 = .ok (.iload_n 3, 1) := by decide +kernel
theorem dX13_changeSpeed_56 : decode cX13_changeSpeed 56 = .ok (.if_icmp .le 18, 3) := by decide +kernel
theorem dX13_changeSpeed_59 : decode cX13_changeSpeed 59 = .ok (.iload_n 3, 1) := by decide +kernel
theorem dX13_changeSpeed_60 : decode cX13_changeSpeed 60 = .ok (.iload_n 2, 1) := by decide +kernel
theorem dX13_changeSpeed_61 : decode cX13_changeSpeed 61 = .ok (.aload_n 0, 1) := by decide +kernel
theorem dX13_changeSpeed_62 : decode cX13_changeSpeed 62 = .ok (.iload_n 1, 1) := by decide +kernel
theorem dX13_changeSpeed_63 : decode cX13_changeSpeed 63 = .ok (.iconst 2, 1) := by decide +kernel
theorem dX13_changeSpeed_64 : decode cX13_changeSpeed 64 = .ok (.invokevirtual 88, 3) := by decide +kernel
theorem dX13_changeSpeed_67 : decode cX13_changeSpeed 67 = .ok (.invokestatic 167, 3) := by decide +kernel
theorem dX13_changeSpeed_70 : decode cX13_changeSpeed 70 = .ok (.invokestatic 164, 3) := by decide +kernel
theorem dX13_changeSpeed_73 : decode cX13_changeSpeed 73 = .ok (.istore_n 2, 1) := by decide +kernel
theorem dX13_changeSpeed_74 : decode cX13_changeSpeed 74 = .ok (.aload_n 0, 1) := by decide +kernel
theorem dX13_changeSpeed_75 : decode cX13_changeSpeed 75 = .ok (.iload_n 1, 1) := by decide +kernel
theorem dX13_changeSpeed_76 : decode cX13_changeSpeed 76 = .ok (.iconst 5, 1) := by decide +kernel
theorem dX13_changeSpeed_77 : decode cX13_changeSpeed 77 = .ok (.iload_n 2, 1) := by decide +kernel
theorem dX13_changeSpeed_78 : decode cX13_changeSpeed 78 = .ok (.invokevirtual 84, 3) := by decide +kernel
theorem dX13_changeSpeed_81 : decode cX13_changeSpeed 81 = .ok (.return_, 1) := by decide +kernel
theorem dX13_dim_0 : decode cX13_dim 0 = .ok (.aload_n 0, 1) := by decide +kernel
theorem dX13_dim_1 : decode cX13_dim 1 = .ok (.iload_n 1, 1) := by decide +kernel
theorem dX13_dim_2 : decode cX13_dim 2 = .ok (.bipush 8, 2) := by decide +kernel
theorem dX13_dim_4 : decode cX13_dim 4 = .ok (.invokevirtual 88, 3) := by decide +kernel
theorem dX13_dim_7 : decode cX13_dim 7 = .ok (.aload_n 0, 1) := by decide +kernel
theorem dX13_dim_8 : decode cX13_dim 8 = .ok (.iload_n 1, 1) := by decide +kernel
theorem dX13_dim_9 : decode cX13_dim 9 = .ok (.bipush 7, 2) := by decide +kernel
theorem dX13_dim_11 : decode cX13_dim 11 = .ok (.invokevirtual 88, 3) := by decide +kernel
theorem dX13_dim_14 : decode cX13_dim 14 = .ok (.isub, 1) := by decide +kernel
theorem dX13_dim_15 : decode cX13_dim 15 = .ok (.istore_n 2, 1) := by decide +kernel
theorem dX13_dim_16 : decode cX13_dim 16 = .ok (.iload_n 2, 1) := by decide +kernel
theorem dX13_dim_17 : decode cX13_dim 17 = .ok (.ifCond .le 7, 3) := by decide +kernel
theorem dX13_dim_20 : decode cX13_dim 20 = .ok (.iconst 1, 1) := by decide +kernel
theorem dX13_dim_21 : decode cX13_dim 21 = .ok (.goto 12, 3) := by decide +kernel
theorem dX13_dim_24 : decode cX13_dim 24 = .ok (.iload_n 2, 1) := by decide +kernel
theorem dX13_dim_25 : decode cX13_dim 25 = .ok (.ifCond .ge 7, 3) := by decide +kernel
theorem dX13_dim_28 : decode cX13_dim 28 = .ok (.iconst (-1), 1) := by decide +kernel
theorem dX13_dim_29 : decode cX13_dim 29 = .ok (.goto 4, 3) := by decide +kernel
theorem dX13_dim_32 : decode cX13_dim 32 = .ok (.iconst 0, 1) := by decide +kernel
theorem dX13_dim_33 : decode cX13_dim 33 = .ok (.istore_n 3, 1) := by decide +kernel
theorem dX13_dim_34 : decode cX13_dim 34 = .ok (.aload_n 0, 1) := by decide +kernel
theorem dX13_dim_35 : decode cX13_dim 35 = .ok (.iload_n 1, 1) := by decide +kernel
theorem dX13_dim_36 : decode cX13_dim 36 = .ok (.bipush 7, 2) := by decide +kernel
theorem dX13_dim_38 : decode cX13_dim 38 = .ok (.aload_n 0, 1) := by decide +kernel
theorem dX13_dim_39 : decode cX13_dim 39 = .ok (.invokevirtual 107, 3) := by decide +kernel
theorem dX13_dim_42 : decode cX13_dim 42 = .ok (.ifCond .eq 15, 3) := by decide +kernel
theorem dX13_dim_45 : decode cX13_dim 45 = .ok (.aload_n 0, 1) := by decide +kernel
theorem dX13_dim_46 : decode cX13_dim 46 = .ok (.iload_n 1, 1) := by decide +kernel
theorem dX13_dim_47 : decode cX13_dim 47 = .ok (.bipush 7, 2) := by decide +kernel
theorem dX13_dim_49 : decode cX13_dim 49 = .ok (.invokevirtual 88, 3) := by decide +kernel
theorem dX13_dim_52 : decode cX13_dim 52 = .ok (.iload_n 3, 1) := by decide +kernel
theorem dX13_dim_53 : decode cX13_dim 53 = .ok (.iadd, 1) := by decide +kernel
theorem dX13_dim_54 : decode cX13_dim 54 = .ok (.goto 4, 3) := by decide +kernel
theorem dX13_dim_57 : decode cX13_dim 57 = .ok (.iconst 0, 1) := by decide +kernel
theorem dX13_dim_58 : decode cX13_dim 58 = .ok (.invokevirtual 84, 3) := by decide +kernel
theorem dX13_dim_61 : decode cX13_dim 61 = .ok (.return_, 1) := by decide +kernel
theorem dX13_moveTrain_0 : decode cX13_moveTrain 0 = .ok (.aload_n 0, 1) := by decide +kernel
theorem dX13_moveTrain_1 : decode cX13_moveTrain 1 = .ok (.iload_n 1, 1) := by decide +kernel
theorem dX13_moveTrain_2 : decode cX13_moveTrain 2 = .ok (.iconst 4, 1) := by decide +kernel
theorem dX13_moveTrain_3 : decode cX13_moveTrain 3 = .ok (.invokevirtual 88, 3) := by decide +kernel
theorem dX13_moveTrain_6 : decode cX13_moveTrain 6 = .ok (.aload_n 0, 1) := by decide +kernel
theorem dX13_moveTrain_7 : decode cX13_moveTrain 7 = .ok (.iload_n 1, 1) := by decide +kernel
theorem dX13_moveTrain_8 : decode cX13_moveTrain 8 = .ok (.iconst 5, 1) := by decide +kernel
theorem dX13_moveTrain_9 : decode cX13_moveTrain 9 = .ok (.invokevirtual 88, 3) := by decide +kernel
theorem dX13_moveTrain_12 : decode cX13_moveTrain 12 = .ok (.iadd, 1) := by decide +kernel
theorem dX13_moveTrain_13 : decode cX13_moveTrain 13 = .ok (.istore_n 2, 1) := by decide +kernel
theorem dX13_moveTrain_14 : decode cX13_moveTrain 14 = .ok (.aload_n 0, 1) := by decide +kernel
theorem dX13_moveTrain_15 : decode cX13_moveTrain 15 = .ok (.iload_n 1, 1) := by decide +kernel
theorem dX13_moveTrain_16 : decode cX13_moveTrain 16 = .ok (.iconst 4, 1) := by decide +kernel
theorem dX13_moveTrain_17 : decode cX13_moveTrain 17 = .ok (.iload_n 2, 1) := by decide +kernel
theorem dX13_moveTrain_18 : decode cX13_moveTrain 18 = .ok (.invokevirtual 84, 3) := by decide +kernel
theorem dX13_moveTrain_21 : decode cX13_moveTrain 21 = .ok (.iload_n 2, 1) := by decide +kernel
theorem dX13_moveTrain_22 : decode cX13_moveTrain 22 = .ok (.bipush 100, 2) := by decide +kernel
theorem dX13_moveTrain_24 : decode cX13_moveTrain 24 = .ok (.if_icmp .ge 4, 3) := by decide +kernel
theorem dX13_moveTrain_27 : decode cX13_moveTrain 27 = .ok (.return_, 1) := by decide +kernel
theorem dX13_moveTrain_28 : decode cX13_moveTrain 28 = .ok (.aload_n 0, 1) := by decide +kernel
theorem dX13_moveTrain_29 : decode cX13_moveTrain 29 = .ok (.aload_n 0, 1) := by decide +kernel
theorem dX13_moveTrain_30 : decode cX13_moveTrain 30 = .ok (.iload_n 1, 1) := by decide +kernel
theorem dX13_moveTrain_31 : decode cX13_moveTrain 31 = .ok (.iconst 3, 1) := by decide +kernel
theorem dX13_moveTrain_32 : decode cX13_moveTrain 32 = .ok (.invokevirtual 88, 3) := by decide +kernel
theorem dX13_moveTrain_35 : decode cX13_moveTrain 35 = .ok (.invokevirtual 117, 3) := by decide +kernel
theorem dX13_moveTrain_38 : decode cX13_moveTrain 38 = .ok (.istore_n 3, 1) := by decide +kernel
theorem dX13_moveTrain_39 : decode cX13_moveTrain 39 = .ok (.aload_n 0, 1) := by decide +kernel
theorem dX13_moveTrain_40 : decode cX13_moveTrain 40 = .ok (.iconst 3, 1) := by decide +kernel
theorem dX13_moveTrain_41 : decode cX13_moveTrain 41 = .ok (.iload_n 3, 1) := by decide +kernel
theorem dX13_moveTrain_42 : decode cX13_moveTrain 42 = .ok (.invokevirtual 100, 3) := by decide +kernel
theorem dX13_moveTrain_45 : decode cX13_moveTrain 45 = .ok (.iconst (-1), 1) := by decide +kernel
theorem dX13_moveTrain_46 : decode cX13_moveTrain 46 = .ok (.if_icmp .ne 31, 3) := by decide +kernel
theorem dX13_moveTrain_49 : decode cX13_moveTrain 49 = .ok (.aload_n 0, 1) := by decide +kernel
theorem dX13_moveTrain_50 : decode cX13_moveTrain 50 = .ok (.iload_n 1, 1) := by decide +kernel
theorem dX13_moveTrain_51 : decode cX13_moveTrain 51 = .ok (.iconst 3, 1) := by decide +kernel
theorem dX13_moveTrain_52 : decode cX13_moveTrain 52 = .ok (.iload_n 3, 1) := by decide +kernel
theorem dX13_moveTrain_53 : decode cX13_moveTrain 53 = .ok (.invokevirtual 84, 3) := by decide +kernel
theorem dX13_moveTrain_56 : decode cX13_moveTrain 56 = .ok (.aload_n 0, 1) := by decide +kernel
theorem dX13_moveTrain_57 : decode cX13_moveTrain 57 = .ok (.iload_n 1, 1) := by decide +kernel
theorem dX13_moveTrain_58 : decode cX13_moveTrain 58 = .ok (.iconst 4, 1) := by decide +kernel
theorem dX13_moveTrain_59 : decode cX13_moveTrain 59 = .ok (.iload_n 2, 1) := by decide +kernel
theorem dX13_moveTrain_60 : decode cX13_moveTrain 60 = .ok (.bipush 100, 2) := by decide +kernel
theorem dX13_moveTrain_62 : decode cX13_moveTrain 62 = .ok (.isub, 1) := by decide +kernel
theorem dX13_moveTrain_63 : decode cX13_moveTrain 63 = .ok (.invokevirtual 84, 3) := by decide +kernel
theorem dX13_moveTrain_66 : decode cX13_moveTrain 66 = .ok (.aload_n 0, 1) := by decide +kernel
theorem dX13_moveTrain_67 : decode cX13_moveTrain 67 = .ok (.iload_n 1, 1) := by decide +kernel
theorem dX13_moveTrain_68 : decode cX13_moveTrain 68 = .ok (.bipush 10, 2) := by decide +kernel
theorem dX13_moveTrain_70 : decode cX13_moveTrain 70 = .ok (.iconst 1, 1) := by decide +kernel
theorem dX13_moveTrain_71 : decode cX13_moveTrain 71 = .ok (.invokevirtual 148, 3) := by decide +kernel
theorem dX13_moveTrain_74 : decode cX13_moveTrain 74 = .ok (.goto 26, 3) := by decide +kernel
theorem dX13_moveTrain_77 : decode cX13_moveTrain 77 = .ok (.aload_n 0, 1) := by decide +kernel
theorem dX13_moveTrain_78 : decode cX13_moveTrain 78 = .ok (.iload_n 1, 1) := by decide +kernel
theorem dX13_moveTrain_79 : decode cX13_moveTrain 79 = .ok (.iconst 4, 1) := by decide +kernel
theorem dX13_moveTrain_80 : decode cX13_moveTrain 80 = .ok (.bipush 99, 2) := by decide +kernel
theorem dX13_moveTrain_82 : decode cX13_moveTrain 82 = .ok (.invokevirtual 84, 3) := by decide +kernel
theorem dX13_moveTrain_85 : decode cX13_moveTrain 85 = .ok (.aload_n 0, 1) := by decide +kernel
theorem dX13_moveTrain_86 : decode cX13_moveTrain 86 = .ok (.iload_n 1, 1) := by decide +kernel
theorem dX13_moveTrain_87 : decode cX13_moveTrain 87 = .ok (.iconst 5, 1) := by decide +kernel
theorem dX13_moveTrain_88 : decode cX13_moveTrain 88 = .ok (.iconst 0, 1) := by decide +kernel
theorem dX13_moveTrain_89 : decode cX13_moveTrain 89 = .ok (.invokevirtual 84, 3) := by decide +kernel
theorem dX13_moveTrain_92 : decode cX13_moveTrain 92 = .ok (.aload_n 0, 1) := by decide +kernel
theorem dX13_moveTrain_93 : decode cX13_moveTrain 93 = .ok (.iload_n 1, 1) := by decide +kernel
theorem dX13_moveTrain_94 : decode cX13_moveTrain 94 = .ok (.bipush 14, 2) := by decide +kernel
theorem dX13_moveTrain_96 : decode cX13_moveTrain 96 = .ok (.iconst 1, 1) := by decide +kernel
theorem dX13_moveTrain_97 : decode cX13_moveTrain 97 = .ok (.invokevirtual 148, 3) := by decide +kernel
theorem dX13_moveTrain_100 : decode cX13_moveTrain 100 = .ok (.return_, 1) := by decide +kernel
theorem dX13_isShorted_0 : decode cX13_isShorted 0 = .ok (.iconst 0, 1) := by decide +kernel
theorem dX13_isShorted_1 : decode cX13_isShorted 1 = .ok (.istore_n 1, 1) := by decide +kernel
theorem dX13_isShorted_2 : decode cX13_isShorted 2 = .ok (.iload_n 1, 1) := by decide +kernel
theorem dX13_isShorted_3 : decode cX13_isShorted 3 = .ok (.aload_n 0, 1) := by decide +kernel
theorem dX13_isShorted_4 : decode cX13_isShorted 4 = .ok (.getfield 31, 3) := by decide +kernel
theorem dX13_isShorted_7 : decode cX13_isShorted 7 = .ok (.iconst 3, 1) := by decide +kernel
theorem dX13_isShorted_8 : decode cX13_isShorted 8 = .ok (.iaload, 1) := by decide +kernel
theorem dX13_isShorted_9 : decode cX13_isShorted 9 = .ok (.if_icmp .ge 29, 3) := by decide +kernel
theorem dX13_isShorted_12 : decode cX13_isShorted 12 = .ok (.aload_n 0, 1) := by decide +kernel
theorem dX13_isShorted_13 : decode cX13_isShorted 13 = .ok (.getfield 31, 3) := by decide +kernel
theorem dX13_isShorted_16 : decode cX13_isShorted 16 = .ok (.bipush 34, 2) := by decide +kernel
theorem dX13_isShorted_18 : decode cX13_isShorted 18 = .ok (.aload_n 0, 1) := by decide +kernel
theorem dX13_isShorted_19 : decode cX13_isShorted 19 = .ok (.iload_n 1, 1) := by decide +kernel
theorem dX13_isShorted_20 : decode cX13_isShorted 20 = .ok (.iconst 3, 1) := by decide +kernel
theorem dX13_isShorted_21 : decode cX13_isShorted 21 = .ok (.invokevirtual 88, 3) := by decide +kernel
theorem dX13_isShorted_24 : decode cX13_isShorted 24 = .ok (.iadd, 1) := by decide +kernel
theorem dX13_isShorted_25 : decode cX13_isShorted 25 = .ok (.iaload, 1) := by decide +kernel
theorem dX13_isShorted_26 : decode cX13_isShorted 26 = .ok (.iconst 1, 1) := by decide +kernel
theorem dX13_isShorted_27 : decode cX13_isShorted 27 = .ok (.if_icmp .ne 5, 3) := by decide +kernel
theorem dX13_isShorted_30 : decode cX13_isShorted 30 = .ok (.iconst 1, 1) := by decide +kernel
theorem dX13_isShorted_31 : decode cX13_isShorted 31 = .ok (.ireturn, 1) := by decide +kernel
theorem dX13_isShorted_32 : decode cX13_isShorted 32 = .ok (.iinc 1 1, 3) := by decide +kernel
theorem dX13_isShorted_35 : decode cX13_isShorted 35 = .ok (.goto (-33), 3) := by decide +kernel
theorem dX13_isShorted_38 : decode cX13_isShorted 38 = .ok (.iconst 0, 1) := by decide +kernel
theorem dX13_isShorted_39 : decode cX13_isShorted 39 = .ok (.ireturn, 1) := by decide +kernel
theorem dX13_watchPower_0 : decode cX13_watchPower 0 = .ok (.aload_n 0, 1) := by decide +kernel
theorem dX13_watchPower_1 : decode cX13_watchPower 1 = .ok (.invokevirtual 107, 3) := by decide +kernel
theorem dX13_watchPower_4 : decode cX13_watchPower 4 = .ok (.ifCond .ne 16, 3) := by decide +kernel
theorem dX13_watchPower_7 : decode cX13_watchPower 7 = .ok (.aload_n 0, 1) := by decide +kernel
theorem dX13_watchPower_8 : decode cX13_watchPower 8 = .ok (.getfield 31, 3) := by decide +kernel
theorem dX13_watchPower_11 : decode cX13_watchPower 11 = .ok (.iconst 4, 1) := by decide +kernel
theorem dX13_watchPower_12 : decode cX13_watchPower 12 = .ok (.dup2, 1) := by decide +kernel
theorem dX13_watchPower_13 : decode cX13_watchPower 13 = .ok (.iaload, 1) := by decide +kernel
theorem dX13_watchPower_14 : decode cX13_watchPower 14 = .ok (.iconst 1, 1) := by decide +kernel
theorem dX13_watchPower_15 : decode cX13_watchPower 15 = .ok (.isub, 1) := by decide +kernel
theorem dX13_watchPower_16 : decode cX13_watchPower 16 = .ok (.iastore, 1) := by decide +kernel
theorem dX13_watchPower_17 : decode cX13_watchPower 17 = .ok (.goto 32, 3) := by decide +kernel
theorem dX13_watchPower_20 : decode cX13_watchPower 20 = .ok (.aload_n 0, 1) := by decide +kernel
theorem dX13_watchPower_21 : decode cX13_watchPower 21 = .ok (.invokevirtual 170, 3) := by decide +kernel
theorem dX13_watchPower_24 : decode cX13_watchPower 24 = .ok (.ifCond .eq 25, 3) := by decide +kernel
theorem dX13_watchPower_27 : decode cX13_watchPower 27 = .ok (.aload_n 0, 1) := by decide +kernel
theorem dX13_watchPower_28 : decode cX13_watchPower 28 = .ok (.getfield 31, 3) := by decide +kernel
theorem dX13_watchPower_31 : decode cX13_watchPower 31 = .ok (.iconst 4, 1) := by decide +kernel
theorem dX13_watchPower_32 : decode cX13_watchPower 32 = .ok (.aload_n 0, 1) := by decide +kernel
theorem dX13_watchPower_33 : decode cX13_watchPower 33 = .ok (.getfield 31, 3) := by decide +kernel
theorem dX13_watchPower_36 : decode cX13_watchPower 36 = .ok (.iconst 2, 1) := by decide +kernel
theorem dX13_watchPower_37 : decode cX13_watchPower 37 = .ok (.iaload, 1) := by decide +kernel
theorem dX13_watchPower_38 : decode cX13_watchPower 38 = .ok (.iastore, 1) := by decide +kernel
theorem dX13_watchPower_39 : decode cX13_watchPower 39 = .ok (.aload_n 0, 1) := by decide +kernel
theorem dX13_watchPower_40 : decode cX13_watchPower 40 = .ok (.getfield 31, 3) := by decide +kernel
theorem dX13_watchPower_43 : decode cX13_watchPower 43 = .ok (.iconst 5, 1) := by decide +kernel
theorem dX13_watchPower_44 : decode cX13_watchPower 44 = .ok (.dup2, 1) := by decide +kernel
theorem dX13_watchPower_45 : decode cX13_watchPower 45 = .ok (.iaload, 1) := by decide +kernel
theorem dX13_watchPower_46 : decode cX13_watchPower 46 = .ok (.iconst 1, 1) := by decide +kernel
theorem dX13_watchPower_47 : decode cX13_watchPower 47 = .ok (.iadd, 1) := by decide +kernel
theorem dX13_watchPower_48 : decode cX13_watchPower 48 = .ok (.iastore, 1) := by decide +kernel
theorem dX13_watchPower_49 : decode cX13_watchPower 49 = .ok (.return_, 1) := by decide +kernel
theorem dX13_passTick_0 : decode cX13_passTick 0 = .ok (.aload_n 0, 1) := by decide +kernel
theorem dX13_passTick_1 : decode cX13_passTick 1 = .ok (.getfield 31, 3) := by decide +kernel
theorem dX13_passTick_4 : decode cX13_passTick 4 = .ok (.iconst 0, 1) := by decide +kernel
theorem dX13_passTick_5 : decode cX13_passTick 5 = .ok (.iaload, 1) := by decide +kernel
theorem dX13_passTick_6 : decode cX13_passTick 6 = .ok (.sipush 10000, 3) := by decide +kernel
theorem dX13_passTick_9 : decode cX13_passTick 9 = .ok (.if_icmp .ne 5, 3) := by decide +kernel
theorem dX13_passTick_12 : decode cX13_passTick 12 = .ok (.iconst 0, 1) := by decide +kernel
theorem dX13_passTick_13 : decode cX13_passTick 13 = .ok (.ireturn, 1) := by decide +kernel
theorem dX13_passTick_14 : decode cX13_passTick 14 = .ok (.iconst 0, 1) := by decide +kernel
theorem dX13_passTick_15 : decode cX13_passTick 15 = .ok (.istore_n 1, 1) := by decide +kernel
theorem dX13_passTick_16 : decode cX13_passTick 16 = .ok (.iload_n 1, 1) := by decide +kernel
theorem dX13_passTick_17 : decode cX13_passTick 17 = .ok (.aload_n 0, 1) := by decide +kernel
theorem dX13_passTick_18 : decode cX13_passTick 18 = .ok (.getfield 31, 3) := by decide +kernel
theorem dX13_passTick_21 : decode cX13_passTick 21 = .ok (.iconst 3, 1) := by decide +kernel
theorem dX13_passTick_22 : decode cX13_passTick 22 = .ok (.iaload, 1) := by decide +kernel
theorem dX13_passTick_23 : decode cX13_passTick 23 = .ok (.if_icmp .ge 16, 3) := by decide +kernel
theorem dX13_passTick_26 : decode cX13_passTick 26 = .ok (.aload_n 0, 1) := by decide +kernel
theorem dX13_passTick_27 : decode cX13_passTick 27 = .ok (.getfield 28, 3) := by decide +kernel
theorem dX13_passTick_30 : decode cX13_passTick 30 = .ok (.iload_n 1, 1) := by decide +kernel
theorem dX13_passTick_31 : decode cX13_passTick 31 = .ok (.iconst 0, 1) := by decide +kernel
theorem dX13_passTick_32 : decode cX13_passTick 32 = .ok (.iastore, 1) := by decide +kernel
theorem dX13_passTick_33 : decode cX13_passTick 33 = .ok (.iinc 1 1, 3) := by decide +kernel
theorem dX13_passTick_36 : decode cX13_passTick 36 = .ok (.goto (-20), 3) := by decide +kernel
theorem dX13_passTick_39 : decode cX13_passTick 39 = .ok (.aload_n 0, 1) := by decide +kernel
theorem dX13_passTick_40 : decode cX13_passTick 40 = .ok (.invokevirtual 173, 3) := by decide +kernel
theorem dX13_passTick_43 : decode cX13_passTick 43 = .ok (.istore_n 1, 1) := by decide +kernel
theorem dX13_passTick_44 : decode cX13_passTick 44 = .ok (.iconst 0, 1) := by decide +kernel
theorem dX13_passTick_45 : decode cX13_passTick 45 = .ok (.istore_n 2, 1) := by decide +kernel
theorem dX13_passTick_46 : decode cX13_passTick 46 = .ok (.iload_n 2, 1) := by decide +kernel
theorem dX13_passTick_47 : decode cX13_passTick 47 = .ok (.aload_n 0, 1) := by decide +kernel
theorem dX13_passTick_48 : decode cX13_passTick 48 = .ok (.getfield 31, 3) := by decide +kernel
theorem dX13_passTick_51 : decode cX13_passTick 51 = .ok (.iconst 3, 1) := by decide +kernel
theorem dX13_passTick_52 : decode cX13_passTick 52 = .ok (.iaload, 1) := by decide +kernel
theorem dX13_passTick_53 : decode cX13_passTick 53 = .ok (.if_icmp .ge 24, 3) := by decide +kernel
theorem dX13_passTick_56 : decode cX13_passTick 56 = .ok (.aload_n 0, 1) := by decide +kernel
theorem dX13_passTick_57 : decode cX13_passTick 57 = .ok (.iload_n 2, 1) := by decide +kernel
theorem dX13_passTick_58 : decode cX13_passTick 58 = .ok (.invokevirtual 177, 3) := by decide +kernel
theorem dX13_passTick_61 : decode cX13_passTick 61 = .ok (.aload_n 0, 1) := by decide +kernel
theorem dX13_passTick_62 : decode cX13_passTick 62 = .ok (.iload_n 2, 1) := by decide +kernel
theorem dX13_passTick_63 : decode cX13_passTick 63 = .ok (.invokevirtual 180, 3) := by decide +kernel
theorem dX13_passTick_66 : decode cX13_passTick 66 = .ok (.aload_n 0, 1) := by decide +kernel
theorem dX13_passTick_67 : decode cX13_passTick 67 = .ok (.iload_n 2, 1) := by decide +kernel
theorem dX13_passTick_68 : decode cX13_passTick 68 = .ok (.invokevirtual 183, 3) := by decide +kernel
theorem dX13_passTick_71 : decode cX13_passTick 71 = .ok (.iinc 2 1, 3) := by decide +kernel
theorem dX13_passTick_74 : decode cX13_passTick 74 = .ok (.goto (-28), 3) := by decide +kernel
theorem dX13_passTick_77 : decode cX13_passTick 77 = .ok (.iconst 0, 1) := by decide +kernel
theorem dX13_passTick_78 : decode cX13_passTick 78 = .ok (.istore_n 2, 1) := by decide +kernel
theorem dX13_passTick_79 : decode cX13_passTick 79 = .ok (.iload_n 2, 1) := by decide +kernel
theorem dX13_passTick_80 : decode cX13_passTick 80 = .ok (.aload_n 0, 1) := by decide +kernel
theorem dX13_passTick_81 : decode cX13_passTick 81 = .ok (.getfield 31, 3) := by decide +kernel
theorem dX13_passTick_84 : decode cX13_passTick 84 = .ok (.iconst 3, 1) := by decide +kernel
theorem dX13_passTick_85 : decode cX13_passTick 85 = .ok (.iaload, 1) := by decide +kernel
theorem dX13_passTick_86 : decode cX13_passTick 86 = .ok (.if_icmp .ge 14, 3) := by decide +kernel
theorem dX13_passTick_89 : decode cX13_passTick 89 = .ok (.aload_n 0, 1) := by decide +kernel
theorem dX13_passTick_90 : decode cX13_passTick 90 = .ok (.iload_n 2, 1) := by decide +kernel
theorem dX13_passTick_91 : decode cX13_passTick 91 = .ok (.invokevirtual 186, 3) := by decide +kernel
theorem dX13_passTick_94 : decode cX13_passTick 94 = .ok (.iinc 2 1, 3) := by decide +kernel
theorem dX13_passTick_97 : decode cX13_passTick 97 = .ok (.goto (-18), 3) := by decide +kernel
theorem dX13_passTick_100 : decode cX13_passTick 100 = .ok (.aload_n 0, 1) := by decide +kernel
theorem dX13_passTick_101 : decode cX13_passTick 101 = .ok (.invokevirtual 189, 3) := by decide +kernel
theorem dX13_passTick_104 : decode cX13_passTick 104 = .ok (.aload_n 0, 1) := by decide +kernel
theorem dX13_passTick_105 : decode cX13_passTick 105 = .ok (.getfield 31, 3) := by decide +kernel
theorem dX13_passTick_108 : decode cX13_passTick 108 = .ok (.iconst 0, 1) := by decide +kernel
theorem dX13_passTick_109 : decode cX13_passTick 109 = .ok (.dup2, 1) := by decide +kernel
theorem dX13_passTick_110 : decode cX13_passTick 110 = .ok (.iaload, 1) := by decide +kernel
theorem dX13_passTick_111 : decode cX13_passTick 111 = .ok (.iconst 1, 1) := by decide +kernel
theorem dX13_passTick_112 : decode cX13_passTick 112 = .ok (.iadd, 1) := by decide +kernel
theorem dX13_passTick_113 : decode cX13_passTick 113 = .ok (.iastore, 1) := by decide +kernel
theorem dX13_passTick_114 : decode cX13_passTick 114 = .ok (.iload_n 1, 1) := by decide +kernel
theorem dX13_passTick_115 : decode cX13_passTick 115 = .ok (.ireturn, 1) := by decide +kernel
theorem dX13_pass_0 : decode cX13_pass 0 = .ok (.iconst 0, 1) := by decide +kernel
theorem dX13_pass_1 : decode cX13_pass 1 = .ok (.istore_n 2, 1) := by decide +kernel
theorem dX13_pass_2 : decode cX13_pass 2 = .ok (.iconst 0, 1) := by decide +kernel
theorem dX13_pass_3 : decode cX13_pass 3 = .ok (.istore_n 3, 1) := by decide +kernel
theorem dX13_pass_4 : decode cX13_pass 4 = .ok (.iload_n 3, 1) := by decide +kernel
theorem dX13_pass_5 : decode cX13_pass 5 = .ok (.iload_n 1, 1) := by decide +kernel
theorem dX13_pass_6 : decode cX13_pass 6 = .ok (.if_icmp .ge 16, 3) := by decide +kernel
theorem dX13_pass_9 : decode cX13_pass 9 = .ok (.iload_n 2, 1) := by decide +kernel
theorem dX13_pass_10 : decode cX13_pass 10 = .ok (.aload_n 0, 1) := by decide +kernel
theorem dX13_pass_11 : decode cX13_pass 11 = .ok (.invokevirtual 192, 3) := by decide +kernel
theorem dX13_pass_14 : decode cX13_pass 14 = .ok (.iadd, 1) := by decide +kernel
theorem dX13_pass_15 : decode cX13_pass 15 = .ok (.istore_n 2, 1) := by decide +kernel
theorem dX13_pass_16 : decode cX13_pass 16 = .ok (.iinc 3 1, 3) := by decide +kernel
theorem dX13_pass_19 : decode cX13_pass 19 = .ok (.goto (-15), 3) := by decide +kernel
theorem dX13_pass_22 : decode cX13_pass 22 = .ok (.iload_n 2, 1) := by decide +kernel
theorem dX13_pass_23 : decode cX13_pass 23 = .ok (.ireturn, 1) := by decide +kernel
theorem dX13_braking_0 : decode cX13_braking 0 = .ok (.aload_n 0, 1) := by decide +kernel
theorem dX13_braking_1 : decode cX13_braking 1 = .ok (.iload_n 1, 1) := by decide +kernel
theorem dX13_braking_2 : decode cX13_braking 2 = .ok (.iconst 5, 1) := by decide +kernel
theorem dX13_braking_3 : decode cX13_braking 3 = .ok (.invokevirtual 88, 3) := by decide +kernel
theorem dX13_braking_6 : decode cX13_braking 6 = .ok (.istore_n 3, 1) := by decide +kernel
theorem dX13_braking_7 : decode cX13_braking 7 = .ok (.iconst 0, 1) := by decide +kernel
theorem dX13_braking_8 : decode cX13_braking 8 = .ok (.istore 4, 2) := by decide +kernel
theorem dX13_braking_10 : decode cX13_braking 10 = .ok (.iload_n 3, 1) := by decide +kernel
theorem dX13_braking_11 : decode cX13_braking 11 = .ok (.ifCond .le 31, 3) := by decide +kernel
theorem dX13_braking_14 : decode cX13_braking 14 = .ok (.iload_n 3, 1) := by decide +kernel
theorem dX13_braking_15 : decode cX13_braking 15 = .ok (.aload_n 0, 1) := by decide +kernel
theorem dX13_braking_16 : decode cX13_braking 16 = .ok (.iload_n 1, 1) := by decide +kernel
theorem dX13_braking_17 : decode cX13_braking 17 = .ok (.iconst 2, 1) := by decide +kernel
theorem dX13_braking_18 : decode cX13_braking 18 = .ok (.invokevirtual 88, 3) := by decide +kernel
theorem dX13_braking_21 : decode cX13_braking 21 = .ok (.invokestatic 167, 3) := by decide +kernel
theorem dX13_braking_24 : decode cX13_braking 24 = .ok (.istore_n 3, 1) := by decide +kernel
theorem dX13_braking_25 : decode cX13_braking 25 = .ok (.iload 4, 2) := by decide +kernel
theorem dX13_braking_27 : decode cX13_braking 27 = .ok (.iload_n 2, 1) := by decide +kernel
theorem dX13_braking_28 : decode cX13_braking 28 = .ok (.ifCond .eq 7, 3) := by decide +kernel
theorem dX13_braking_31 : decode cX13_braking 31 = .ok (.iload_n 3, 1) := by decide +kernel
theorem dX13_braking_32 : decode cX13_braking 32 = .ok (.goto 4, 3) := by decide +kernel
theorem dX13_braking_35 : decode cX13_braking 35 = .ok (.iconst 1, 1) := by decide +kernel
theorem dX13_braking_36 : decode cX13_braking 36 = .ok (.iadd, 1) := by decide +kernel
theorem dX13_braking_37 : decode cX13_braking 37 = .ok (.istore 4, 2) := by decide +kernel
theorem dX13_braking_39 : decode cX13_braking 39 = .ok (.goto (-29), 3) := by decide +kernel
theorem dX13_braking_42 : decode cX13_braking 42 = .ok (.iload 4, 2) := by decide +kernel
theorem dX13_braking_44 : decode cX13_braking 44 = .ok (.ireturn, 1) := by decide +kernel
theorem dX13_brakingTicks_0 : decode cX13_brakingTicks 0 = .ok (.aload_n 0, 1) := by decide +kernel
theorem dX13_brakingTicks_1 : decode cX13_brakingTicks 1 = .ok (.aload_n 0, 1) := by decide +kernel
theorem dX13_brakingTicks_2 : decode cX13_brakingTicks 2 = .ok (.iload_n 1, 1) := by decide +kernel
theorem dX13_brakingTicks_3 : decode cX13_brakingTicks 3 = .ok (.invokevirtual 111, 3) := by decide +kernel
theorem dX13_brakingTicks_6 : decode cX13_brakingTicks 6 = .ok (.invokevirtual 80, 3) := by decide +kernel
theorem dX13_brakingTicks_9 : decode cX13_brakingTicks 9 = .ok (.ifCond .eq 7, 3) := by decide +kernel
theorem dX13_brakingTicks_12 : decode cX13_brakingTicks 12 = .ok (.iconst 0, 1) := by decide +kernel
theorem dX13_brakingTicks_13 : decode cX13_brakingTicks 13 = .ok (.goto 9, 3) := by decide +kernel
theorem dX13_brakingTicks_16 : decode cX13_brakingTicks 16 = .ok (.aload_n 0, 1) := by decide +kernel
theorem dX13_brakingTicks_17 : decode cX13_brakingTicks 17 = .ok (.iload_n 1, 1) := by decide +kernel
theorem dX13_brakingTicks_18 : decode cX13_brakingTicks 18 = .ok (.iconst 0, 1) := by decide +kernel
theorem dX13_brakingTicks_19 : decode cX13_brakingTicks 19 = .ok (.invokevirtual 195, 3) := by decide +kernel
theorem dX13_brakingTicks_22 : decode cX13_brakingTicks 22 = .ok (.ireturn, 1) := by decide +kernel
theorem dX13_brakingDistance_0 : decode cX13_brakingDistance 0 = .ok (.aload_n 0, 1) := by decide +kernel
theorem dX13_brakingDistance_1 : decode cX13_brakingDistance 1 = .ok (.aload_n 0, 1) := by decide +kernel
theorem dX13_brakingDistance_2 : decode cX13_brakingDistance 2 = .ok (.iload_n 1, 1) := by decide +kernel
theorem dX13_brakingDistance_3 : decode cX13_brakingDistance 3 = .ok (.invokevirtual 111, 3) := by decide +kernel
theorem dX13_brakingDistance_6 : decode cX13_brakingDistance 6 = .ok (.invokevirtual 80, 3) := by decide +kernel
theorem dX13_brakingDistance_9 : decode cX13_brakingDistance 9 = .ok (.ifCond .eq 7, 3) := by decide +kernel
theorem dX13_brakingDistance_12 : decode cX13_brakingDistance 12 = .ok (.iconst 0, 1) := by decide +kernel
theorem dX13_brakingDistance_13 : decode cX13_brakingDistance 13 = .ok (.goto 9, 3) := by decide +kernel
theorem dX13_brakingDistance_16 : decode cX13_brakingDistance 16 = .ok (.aload_n 0, 1) := by decide +kernel
theorem dX13_brakingDistance_17 : decode cX13_brakingDistance 17 = .ok (.iload_n 1, 1) := by decide +kernel
theorem dX13_brakingDistance_18 : decode cX13_brakingDistance 18 = .ok (.iconst 1, 1) := by decide +kernel
theorem dX13_brakingDistance_19 : decode cX13_brakingDistance 19 = .ok (.invokevirtual 195, 3) := by decide +kernel
theorem dX13_brakingDistance_22 : decode cX13_brakingDistance 22 = .ok (.ireturn, 1) := by decide +kernel
theorem dX13_copy_0 : decode cX13_copy 0 = .ok (.aload_n 0, 1) := by decide +kernel
theorem dX13_copy_1 : decode cX13_copy 1 = .ok (.sipush 184, 3) := by decide +kernel
theorem dX13_copy_4 : decode cX13_copy 4 = .ok (.iload_n 1, 1) := by decide +kernel
theorem dX13_copy_5 : decode cX13_copy 5 = .ok (.imul, 1) := by decide +kernel
theorem dX13_copy_6 : decode cX13_copy 6 = .ok (.aload_n 2, 1) := by decide +kernel
theorem dX13_copy_7 : decode cX13_copy 7 = .ok (.sipush 184, 3) := by decide +kernel
theorem dX13_copy_10 : decode cX13_copy 10 = .ok (.iload_n 3, 1) := by decide +kernel
theorem dX13_copy_11 : decode cX13_copy 11 = .ok (.imul, 1) := by decide +kernel
theorem dX13_copy_12 : decode cX13_copy 12 = .ok (.sipush 184, 3) := by decide +kernel
theorem dX13_copy_15 : decode cX13_copy 15 = .ok (.invokestatic 158, 3) := by decide +kernel
theorem dX13_copy_18 : decode cX13_copy 18 = .ok (.return_, 1) := by decide +kernel
theorem dX13_foresee_0 : decode cX13_foresee 0 = .ok (.aload_n 0, 1) := by decide +kernel
theorem dX13_foresee_1 : decode cX13_foresee 1 = .ok (.getfield 31, 3) := by decide +kernel
theorem dX13_foresee_4 : decode cX13_foresee 4 = .ok (.iconst 0, 1) := by decide +kernel
theorem dX13_foresee_5 : decode cX13_foresee 5 = .ok (.aload_n 0, 1) := by decide +kernel
theorem dX13_foresee_6 : decode cX13_foresee 6 = .ok (.getfield 16, 3) := by decide +kernel
theorem dX13_foresee_9 : decode cX13_foresee 9 = .ok (.iconst 0, 1) := by decide +kernel
theorem dX13_foresee_10 : decode cX13_foresee 10 = .ok (.invokestatic 199, 3) := by decide +kernel
theorem dX13_foresee_13 : decode cX13_foresee 13 = .ok (.aload_n 0, 1) := by decide +kernel
theorem dX13_foresee_14 : decode cX13_foresee 14 = .ok (.iload_n 1, 1) := by decide +kernel
theorem dX13_foresee_15 : decode cX13_foresee 15 = .ok (.invokevirtual 203, 3) := by decide +kernel
theorem dX13_foresee_18 : decode cX13_foresee 18 = .ok (.istore_n 2, 1) := by decide +kernel
theorem dX13_foresee_19 : decode cX13_foresee 19 = .ok (.return_, 1) := by decide +kernel
theorem dX13_laidBack_0 : decode cX13_laidBack 0 = .ok (.aload_n 0, 1) := by decide +kernel
theorem dX13_laidBack_1 : decode cX13_laidBack 1 = .ok (.getfield 16, 3) := by decide +kernel
theorem dX13_laidBack_4 : decode cX13_laidBack 4 = .ok (.iconst 0, 1) := by decide +kernel
theorem dX13_laidBack_5 : decode cX13_laidBack 5 = .ok (.aload_n 0, 1) := by decide +kernel
theorem dX13_laidBack_6 : decode cX13_laidBack 6 = .ok (.getfield 31, 3) := by decide +kernel
theorem dX13_laidBack_9 : decode cX13_laidBack 9 = .ok (.iconst 0, 1) := by decide +kernel
theorem dX13_laidBack_10 : decode cX13_laidBack 10 = .ok (.invokestatic 199, 3) := by decide +kernel
theorem dX13_laidBack_13 : decode cX13_laidBack 13 = .ok (.iload_n 1, 1) := by decide +kernel
theorem dX13_laidBack_14 : decode cX13_laidBack 14 = .ok (.ireturn, 1) := by decide +kernel
theorem dX13_after_0 : decode cX13_after 0 = .ok (.aload_n 0, 1) := by decide +kernel
theorem dX13_after_1 : decode cX13_after 1 = .ok (.aload_n 0, 1) := by decide +kernel
theorem dX13_after_2 : decode cX13_after 2 = .ok (.iload_n 1, 1) := by decide +kernel
theorem dX13_after_3 : decode cX13_after 3 = .ok (.invokevirtual 111, 3) := by decide +kernel
theorem dX13_after_6 : decode cX13_after 6 = .ok (.iload_n 2, 1) := by decide +kernel
theorem dX13_after_7 : decode cX13_after 7 = .ok (.iconst 0, 1) := by decide +kernel
theorem dX13_after_8 : decode cX13_after 8 = .ok (.sipush 200, 3) := by decide +kernel
theorem dX13_after_11 : decode cX13_after 11 = .ok (.invokestatic 92, 3) := by decide +kernel
theorem dX13_after_14 : decode cX13_after 14 = .ok (.invokevirtual 206, 3) := by decide +kernel
theorem dX13_after_17 : decode cX13_after 17 = .ok (.ifCond .eq 5, 3) := by decide +kernel
theorem dX13_after_20 : decode cX13_after 20 = .ok (.iconst 0, 1) := by decide +kernel
theorem dX13_after_21 : decode cX13_after 21 = .ok (.ireturn, 1) := by decide +kernel
theorem dX13_after_22 : decode cX13_after 22 = .ok (.aload_n 0, 1) := by decide +kernel
theorem dX13_after_23 : decode cX13_after 23 = .ok (.iload_n 2, 1) := by decide +kernel
theorem dX13_after_24 : decode cX13_after 24 = .ok (.invokevirtual 210, 3) := by decide +kernel
theorem dX13_after_27 : decode cX13_after 27 = .ok (.aload_n 0, 1) := by decide +kernel
theorem dX13_after_28 : decode cX13_after 28 = .ok (.aload_n 0, 1) := by decide +kernel
theorem dX13_after_29 : decode cX13_after 29 = .ok (.iload_n 1, 1) := by decide +kernel
theorem dX13_after_30 : decode cX13_after 30 = .ok (.iload_n 3, 1) := by decide +kernel
theorem dX13_after_31 : decode cX13_after 31 = .ok (.invokevirtual 88, 3) := by decide +kernel
theorem dX13_after_34 : decode cX13_after 34 = .ok (.invokevirtual 213, 3) := by decide +kernel
theorem dX13_after_37 : decode cX13_after 37 = .ok (.ireturn, 1) := by decide +kernel
theorem dX13_sectionAfter_0 : decode cX13_sectionAfter 0 = .ok (.aload_n 0, 1) := by decide +kernel
theorem dX13_sectionAfter_1 : decode cX13_sectionAfter 1 = .ok (.iload_n 1, 1) := by decide +kernel
theorem dX13_sectionAfter_2 : decode cX13_sectionAfter 2 = .ok (.iload_n 2, 1) := by decide +kernel
theorem dX13_sectionAfter_3 : decode cX13_sectionAfter 3 = .ok (.iconst 3, 1) := by decide +kernel
theorem dX13_sectionAfter_4 : decode cX13_sectionAfter 4 = .ok (.invokevirtual 216, 3) := by decide +kernel
theorem dX13_sectionAfter_7 : decode cX13_sectionAfter 7 = .ok (.ireturn, 1) := by decide +kernel
theorem dX13_speedAfter_0 : decode cX13_speedAfter 0 = .ok (.aload_n 0, 1) := by decide +kernel
theorem dX13_speedAfter_1 : decode cX13_speedAfter 1 = .ok (.iload_n 1, 1) := by decide +kernel
theorem dX13_speedAfter_2 : decode cX13_speedAfter 2 = .ok (.iload_n 2, 1) := by decide +kernel
theorem dX13_speedAfter_3 : decode cX13_speedAfter 3 = .ok (.iconst 5, 1) := by decide +kernel
theorem dX13_speedAfter_4 : decode cX13_speedAfter 4 = .ok (.invokevirtual 216, 3) := by decide +kernel
theorem dX13_speedAfter_7 : decode cX13_speedAfter 7 = .ok (.ireturn, 1) := by decide +kernel
theorem dX13_untilCutoff_0 : decode cX13_untilCutoff 0 = .ok (.aload_n 0, 1) := by decide +kernel
theorem dX13_untilCutoff_1 : decode cX13_untilCutoff 1 = .ok (.getfield 31, 3) := by decide +kernel
theorem dX13_untilCutoff_4 : decode cX13_untilCutoff 4 = .ok (.iconst 5, 1) := by decide +kernel
theorem dX13_untilCutoff_5 : decode cX13_untilCutoff 5 = .ok (.iaload, 1) := by decide +kernel
theorem dX13_untilCutoff_6 : decode cX13_untilCutoff 6 = .ok (.istore_n 1, 1) := by decide +kernel
theorem dX13_untilCutoff_7 : decode cX13_untilCutoff 7 = .ok (.iconst 1, 1) := by decide +kernel
theorem dX13_untilCutoff_8 : decode cX13_untilCutoff 8 = .ok (.istore_n 2, 1) := by decide +kernel
theorem dX13_untilCutoff_9 : decode cX13_untilCutoff 9 = .ok (.iload_n 2, 1) := by decide +kernel
theorem dX13_untilCutoff_10 : decode cX13_untilCutoff 10 = .ok (.sipush 200, 3) := by decide +kernel
theorem dX13_untilCutoff_13 : decode cX13_untilCutoff 13 = .ok (.if_icmp .gt 26, 3) := by decide +kernel
theorem dX13_untilCutoff_16 : decode cX13_untilCutoff 16 = .ok (.aload_n 0, 1) := by decide +kernel
theorem dX13_untilCutoff_17 : decode cX13_untilCutoff 17 = .ok (.invokevirtual 192, 3) := by decide +kernel
theorem dX13_untilCutoff_20 : decode cX13_untilCutoff 20 = .ok (.istore_n 3, 1) := by decide +kernel
theorem dX13_untilCutoff_21 : decode cX13_untilCutoff 21 = .ok (.aload_n 0, 1) := by decide +kernel
theorem dX13_untilCutoff_22 : decode cX13_untilCutoff 22 = .ok (.getfield 31, 3) := by decide +kernel
theorem dX13_untilCutoff_25 : decode cX13_untilCutoff 25 = .ok (.iconst 5, 1) := by decide +kernel
theorem dX13_untilCutoff_26 : decode cX13_untilCutoff 26 = .ok (.iaload, 1) := by decide +kernel
theorem dX13_untilCutoff_27 : decode cX13_untilCutoff 27 = .ok (.iload_n 1, 1) := by decide +kernel
theorem dX13_untilCutoff_28 : decode cX13_untilCutoff 28 = .ok (.if_icmp .le 5, 3) := by decide +kernel
theorem dX13_untilCutoff_31 : decode cX13_untilCutoff 31 = .ok (.iload_n 2, 1) := by decide +kernel
theorem dX13_untilCutoff_32 : decode cX13_untilCutoff 32 = .ok (.ireturn, 1) := by decide +kernel
theorem dX13_untilCutoff_33 : decode cX13_untilCutoff 33 = .ok (.iinc 2 1, 3) := by decide +kernel
theorem dX13_untilCutoff_36 : decode cX13_untilCutoff 36 = .ok (.goto (-27), 3) := by decide +kernel
theorem dX13_untilCutoff_39 : decode cX13_untilCutoff 39 = .ok (.iconst (-1), 1) := by decide +kernel
theorem dX13_untilCutoff_40 : decode cX13_untilCutoff 40 = .ok (.ireturn, 1) := by decide +kernel
theorem dX13_ticksToCutoff_0 : decode cX13_ticksToCutoff 0 = .ok (.aload_n 0, 1) := by decide +kernel
theorem dX13_ticksToCutoff_1 : decode cX13_ticksToCutoff 1 = .ok (.iconst 0, 1) := by decide +kernel
theorem dX13_ticksToCutoff_2 : decode cX13_ticksToCutoff 2 = .ok (.putfield 77, 3) := by decide +kernel
theorem dX13_ticksToCutoff_5 : decode cX13_ticksToCutoff 5 = .ok (.aload_n 0, 1) := by decide +kernel
theorem dX13_ticksToCutoff_6 : decode cX13_ticksToCutoff 6 = .ok (.iconst 0, 1) := by decide +kernel
theorem dX13_ticksToCutoff_7 : decode cX13_ticksToCutoff 7 = .ok (.invokevirtual 210, 3) := by decide +kernel
theorem dX13_ticksToCutoff_10 : decode cX13_ticksToCutoff 10 = .ok (.aload_n 0, 1) := by decide +kernel
theorem dX13_ticksToCutoff_11 : decode cX13_ticksToCutoff 11 = .ok (.aload_n 0, 1) := by decide +kernel
theorem dX13_ticksToCutoff_12 : decode cX13_ticksToCutoff 12 = .ok (.invokevirtual 220, 3) := by decide +kernel
theorem dX13_ticksToCutoff_15 : decode cX13_ticksToCutoff 15 = .ok (.invokevirtual 213, 3) := by decide +kernel
theorem dX13_ticksToCutoff_18 : decode cX13_ticksToCutoff 18 = .ok (.ireturn, 1) := by decide +kernel
theorem dX13_doPacket_0 : decode cX13_doPacket 0 = .ok (.aload_n 0, 1) := by decide +kernel
theorem dX13_doPacket_1 : decode cX13_doPacket 1 = .ok (.getfield 31, 3) := by decide +kernel
theorem dX13_doPacket_4 : decode cX13_doPacket 4 = .ok (.bipush 6, 2) := by decide +kernel
theorem dX13_doPacket_6 : decode cX13_doPacket 6 = .ok (.iaload, 1) := by decide +kernel
theorem dX13_doPacket_7 : decode cX13_doPacket 7 = .ok (.bipush 12, 2) := by decide +kernel
theorem dX13_doPacket_9 : decode cX13_doPacket 9 = .ok (.if_icmp .ne 5, 3) := by decide +kernel
theorem dX13_doPacket_12 : decode cX13_doPacket 12 = .ok (.iconst 2, 1) := by decide +kernel
theorem dX13_doPacket_13 : decode cX13_doPacket 13 = .ok (.ireturn, 1) := by decide +kernel
theorem dX13_doPacket_14 : decode cX13_doPacket 14 = .ok (.sipush 148, 3) := by decide +kernel
theorem dX13_doPacket_17 : decode cX13_doPacket 17 = .ok (.iconst 3, 1) := by decide +kernel
theorem dX13_doPacket_18 : decode cX13_doPacket 18 = .ok (.iload_n 1, 1) := by decide +kernel
theorem dX13_doPacket_19 : decode cX13_doPacket 19 = .ok (.imul, 1) := by decide +kernel
theorem dX13_doPacket_20 : decode cX13_doPacket 20 = .ok (.iadd, 1) := by decide +kernel
theorem dX13_doPacket_21 : decode cX13_doPacket 21 = .ok (.istore 5, 2) := by decide +kernel
theorem dX13_doPacket_23 : decode cX13_doPacket 23 = .ok (.aload_n 0, 1) := by decide +kernel
theorem dX13_doPacket_24 : decode cX13_doPacket 24 = .ok (.getfield 31, 3) := by decide +kernel
theorem dX13_doPacket_27 : decode cX13_doPacket 27 = .ok (.iload 5, 2) := by decide +kernel
theorem dX13_doPacket_29 : decode cX13_doPacket 29 = .ok (.aload_n 0, 1) := by decide +kernel
theorem dX13_doPacket_30 : decode cX13_doPacket 30 = .ok (.getfield 31, 3) := by decide +kernel
theorem dX13_doPacket_33 : decode cX13_doPacket 33 = .ok (.iload 5, 2) := by decide +kernel
theorem dX13_doPacket_35 : decode cX13_doPacket 35 = .ok (.iconst 3, 1) := by decide +kernel
theorem dX13_doPacket_36 : decode cX13_doPacket 36 = .ok (.iadd, 1) := by decide +kernel
theorem dX13_doPacket_37 : decode cX13_doPacket 37 = .ok (.iconst 3, 1) := by decide +kernel
theorem dX13_doPacket_38 : decode cX13_doPacket 38 = .ok (.aload_n 0, 1) := by decide +kernel
theorem dX13_doPacket_39 : decode cX13_doPacket 39 = .ok (.getfield 31, 3) := by decide +kernel
theorem dX13_doPacket_42 : decode cX13_doPacket 42 = .ok (.bipush 6, 2) := by decide +kernel
theorem dX13_doPacket_44 : decode cX13_doPacket 44 = .ok (.iaload, 1) := by decide +kernel
theorem dX13_doPacket_45 : decode cX13_doPacket 45 = .ok (.iload_n 1, 1) := by decide +kernel
theorem dX13_doPacket_46 : decode cX13_doPacket 46 = .ok (.isub, 1) := by decide +kernel
theorem dX13_doPacket_47 : decode cX13_doPacket 47 = .ok (.imul, 1) := by decide +kernel
theorem dX13_doPacket_48 : decode cX13_doPacket 48 = .ok (.invokestatic 158, 3) := by decide +kernel
theorem dX13_doPacket_51 : decode cX13_doPacket 51 = .ok (.aload_n 0, 1) := by decide +kernel
theorem dX13_doPacket_52 : decode cX13_doPacket 52 = .ok (.getfield 31, 3) := by decide +kernel
theorem dX13_doPacket_55 : decode cX13_doPacket 55 = .ok (.iload 5, 2) := by decide +kernel
theorem dX13_doPacket_57 : decode cX13_doPacket 57 = .ok (.iconst 0, 1) := by decide +kernel
theorem dX13_doPacket_58 : decode cX13_doPacket 58 = .ok (.iadd, 1) := by decide +kernel
theorem dX13_doPacket_59 : decode cX13_doPacket 59 = .ok (.iload_n 2, 1) := by decide +kernel
theorem dX13_doPacket_60 : decode cX13_doPacket 60 = .ok (.iastore, 1) := by decide +kernel
theorem dX13_doPacket_61 : decode cX13_doPacket 61 = .ok (.aload_n 0, 1) := by decide +kernel
theorem dX13_doPacket_62 : decode cX13_doPacket 62 = .ok (.getfield 31, 3) := by decide +kernel
theorem dX13_doPacket_65 : decode cX13_doPacket 65 = .ok (.iload 5, 2) := by decide +kernel
theorem dX13_doPacket_67 : decode cX13_doPacket 67 = .ok (.iconst 1, 1) := by decide +kernel
theorem dX13_doPacket_68 : decode cX13_doPacket 68 = .ok (.iadd, 1) := by decide +kernel
theorem dX13_doPacket_69 : decode cX13_doPacket 69 = .ok (.iload_n 3, 1) := by decide +kernel
theorem dX13_doPacket_70 : decode cX13_doPacket 70 = .ok (.iastore, 1) := by decide +kernel
theorem dX13_doPacket_71 : decode cX13_doPacket 71 = .ok (.aload_n 0, 1) := by decide +kernel
theorem dX13_doPacket_72 : decode cX13_doPacket 72 = .ok (.getfield 31, 3) := by decide +kernel
theorem dX13_doPacket_75 : decode cX13_doPacket 75 = .ok (.iload 5, 2) := by decide +kernel
theorem dX13_doPacket_77 : decode cX13_doPacket 77 = .ok (.iconst 2, 1) := by decide +kernel
theorem dX13_doPacket_78 : decode cX13_doPacket 78 = .ok (.iadd, 1) := by decide +kernel
theorem dX13_doPacket_79 : decode cX13_doPacket 79 = .ok (.iload 4, 2) := by decide +kernel
theorem dX13_doPacket_81 : decode cX13_doPacket 81 = .ok (.iastore, 1) := by decide +kernel
theorem dX13_doPacket_82 : decode cX13_doPacket 82 = .ok (.aload_n 0, 1) := by decide +kernel
theorem dX13_doPacket_83 : decode cX13_doPacket 83 = .ok (.getfield 31, 3) := by decide +kernel
theorem dX13_doPacket_86 : decode cX13_doPacket 86 = .ok (.bipush 6, 2) := by decide +kernel
theorem dX13_doPacket_88 : decode cX13_doPacket 88 = .ok (.dup2, 1) := by decide +kernel
theorem dX13_doPacket_89 : decode cX13_doPacket 89 = .ok (.iaload, 1) := by decide +kernel
theorem dX13_doPacket_90 : decode cX13_doPacket 90 = .ok (.iconst 1, 1) := by decide +kernel
theorem dX13_doPacket_91 : decode cX13_doPacket 91 = .ok (.iadd, 1) := by decide +kernel
theorem dX13_doPacket_92 : decode cX13_doPacket 92 = .ok (.iastore, 1) := by decide +kernel
theorem dX13_doPacket_93 : decode cX13_doPacket 93 = .ok (.aload_n 0, 1) := by decide +kernel
theorem dX13_doPacket_94 : decode cX13_doPacket 94 = .ok (.getfield 31, 3) := by decide +kernel
theorem dX13_doPacket_97 : decode cX13_doPacket 97 = .ok (.bipush 7, 2) := by decide +kernel
theorem dX13_doPacket_99 : decode cX13_doPacket 99 = .ok (.dup2, 1) := by decide +kernel
theorem dX13_doPacket_100 : decode cX13_doPacket 100 = .ok (.iaload, 1) := by decide +kernel
theorem dX13_doPacket_101 : decode cX13_doPacket 101 = .ok (.iconst 1, 1) := by decide +kernel
theorem dX13_doPacket_102 : decode cX13_doPacket 102 = .ok (.iadd, 1) := by decide +kernel
theorem dX13_doPacket_103 : decode cX13_doPacket 103 = .ok (.iastore, 1) := by decide +kernel
theorem dX13_doPacket_104 : decode cX13_doPacket 104 = .ok (.aload_n 0, 1) := by decide +kernel
theorem dX13_doPacket_105 : decode cX13_doPacket 105 = .ok (.aload_n 0, 1) := by decide +kernel
theorem dX13_doPacket_106 : decode cX13_doPacket 106 = .ok (.getfield 31, 3) := by decide +kernel
theorem dX13_doPacket_109 : decode cX13_doPacket 109 = .ok (.bipush 6, 2) := by decide +kernel
theorem dX13_doPacket_111 : decode cX13_doPacket 111 = .ok (.iaload, 1) := by decide +kernel
theorem dX13_doPacket_112 : decode cX13_doPacket 112 = .ok (.putfield 223, 3) := by decide +kernel
theorem dX13_doPacket_115 : decode cX13_doPacket 115 = .ok (.iconst 0, 1) := by decide +kernel
theorem dX13_doPacket_116 : decode cX13_doPacket 116 = .ok (.ireturn, 1) := by decide +kernel
theorem dX13_doIntact_0 : decode cX13_doIntact 0 = .ok (.aload_n 0, 1) := by decide +kernel
theorem dX13_doIntact_1 : decode cX13_doIntact 1 = .ok (.iload_n 1, 1) := by decide +kernel
theorem dX13_doIntact_2 : decode cX13_doIntact 2 = .ok (.iload_n 2, 1) := by decide +kernel
theorem dX13_doIntact_3 : decode cX13_doIntact 3 = .ok (.iload_n 3, 1) := by decide +kernel
theorem dX13_doIntact_4 : decode cX13_doIntact 4 = .ok (.iload_n 2, 1) := by decide +kernel
theorem dX13_doIntact_5 : decode cX13_doIntact 5 = .ok (.iload_n 3, 1) := by decide +kernel
theorem dX13_doIntact_6 : decode cX13_doIntact 6 = .ok (.ixor, 1) := by decide +kernel
theorem dX13_doIntact_7 : decode cX13_doIntact 7 = .ok (.invokevirtual 226, 3) := by decide +kernel
theorem dX13_doIntact_10 : decode cX13_doIntact 10 = .ok (.ireturn, 1) := by decide +kernel
theorem dX13_doSpeed_0 : decode cX13_doSpeed 0 = .ok (.aload_n 0, 1) := by decide +kernel
theorem dX13_doSpeed_1 : decode cX13_doSpeed 1 = .ok (.aload_n 0, 1) := by decide +kernel
theorem dX13_doSpeed_2 : decode cX13_doSpeed 2 = .ok (.getfield 31, 3) := by decide +kernel
theorem dX13_doSpeed_5 : decode cX13_doSpeed 5 = .ok (.bipush 6, 2) := by decide +kernel
theorem dX13_doSpeed_7 : decode cX13_doSpeed 7 = .ok (.iaload, 1) := by decide +kernel
theorem dX13_doSpeed_8 : decode cX13_doSpeed 8 = .ok (.iload_n 1, 1) := by decide +kernel
theorem dX13_doSpeed_9 : decode cX13_doSpeed 9 = .ok (.iload_n 2, 1) := by decide +kernel
theorem dX13_doSpeed_10 : decode cX13_doSpeed 10 = .ok (.invokevirtual 230, 3) := by decide +kernel
theorem dX13_doSpeed_13 : decode cX13_doSpeed 13 = .ok (.ireturn, 1) := by decide +kernel
theorem dX13_doLamp_0 : decode cX13_doLamp 0 = .ok (.aload_n 0, 1) := by decide +kernel
theorem dX13_doLamp_1 : decode cX13_doLamp 1 = .ok (.aload_n 0, 1) := by decide +kernel
theorem dX13_doLamp_2 : decode cX13_doLamp 2 = .ok (.getfield 31, 3) := by decide +kernel
theorem dX13_doLamp_5 : decode cX13_doLamp 5 = .ok (.bipush 6, 2) := by decide +kernel
theorem dX13_doLamp_7 : decode cX13_doLamp 7 = .ok (.iaload, 1) := by decide +kernel
theorem dX13_doLamp_8 : decode cX13_doLamp 8 = .ok (.iload_n 1, 1) := by decide +kernel
theorem dX13_doLamp_9 : decode cX13_doLamp 9 = .ok (.bipush 64, 2) := by decide +kernel
theorem dX13_doLamp_11 : decode cX13_doLamp 11 = .ok (.iload_n 2, 1) := by decide +kernel
theorem dX13_doLamp_12 : decode cX13_doLamp 12 = .ok (.iadd, 1) := by decide +kernel
theorem dX13_doLamp_13 : decode cX13_doLamp 13 = .ok (.invokevirtual 230, 3) := by decide +kernel
theorem dX13_doLamp_16 : decode cX13_doLamp 16 = .ok (.ireturn, 1) := by decide +kernel
theorem dX13_doStop_0 : decode cX13_doStop 0 = .ok (.aload_n 0, 1) := by decide +kernel
theorem dX13_doStop_1 : decode cX13_doStop 1 = .ok (.iconst 0, 1) := by decide +kernel
theorem dX13_doStop_2 : decode cX13_doStop 2 = .ok (.iload_n 1, 1) := by decide +kernel
theorem dX13_doStop_3 : decode cX13_doStop 3 = .ok (.sipush 128, 3) := by decide +kernel
theorem dX13_doStop_6 : decode cX13_doStop 6 = .ok (.invokevirtual 230, 3) := by decide +kernel
theorem dX13_doStop_9 : decode cX13_doStop 9 = .ok (.ireturn, 1) := by decide +kernel
theorem dX13_doShort_0 : decode cX13_doShort 0 = .ok (.aload_n 0, 1) := by decide +kernel
theorem dX13_doShort_1 : decode cX13_doShort 1 = .ok (.iload_n 1, 1) := by decide +kernel
theorem dX13_doShort_2 : decode cX13_doShort 2 = .ok (.invokevirtual 96, 3) := by decide +kernel
theorem dX13_doShort_5 : decode cX13_doShort 5 = .ok (.ifCond .ne 5, 3) := by decide +kernel
theorem dX13_doShort_8 : decode cX13_doShort 8 = .ok (.iconst 1, 1) := by decide +kernel
theorem dX13_doShort_9 : decode cX13_doShort 9 = .ok (.ireturn, 1) := by decide +kernel
theorem dX13_doShort_10 : decode cX13_doShort 10 = .ok (.aload_n 0, 1) := by decide +kernel
theorem dX13_doShort_11 : decode cX13_doShort 11 = .ok (.getfield 31, 3) := by decide +kernel
theorem dX13_doShort_14 : decode cX13_doShort 14 = .ok (.bipush 34, 2) := by decide +kernel
theorem dX13_doShort_16 : decode cX13_doShort 16 = .ok (.iload_n 1, 1) := by decide +kernel
theorem dX13_doShort_17 : decode cX13_doShort 17 = .ok (.iadd, 1) := by decide +kernel
theorem dX13_doShort_18 : decode cX13_doShort 18 = .ok (.iload_n 2, 1) := by decide +kernel
theorem dX13_doShort_19 : decode cX13_doShort 19 = .ok (.iastore, 1) := by decide +kernel
theorem dX13_doShort_20 : decode cX13_doShort 20 = .ok (.aload_n 0, 1) := by decide +kernel
theorem dX13_doShort_21 : decode cX13_doShort 21 = .ok (.aload_n 0, 1) := by decide +kernel
theorem dX13_doShort_22 : decode cX13_doShort 22 = .ok (.bipush 34, 2) := by decide +kernel
theorem dX13_doShort_24 : decode cX13_doShort 24 = .ok (.invokevirtual 103, 3) := by decide +kernel
theorem dX13_doShort_27 : decode cX13_doShort 27 = .ok (.putfield 223, 3) := by decide +kernel
theorem dX13_doShort_30 : decode cX13_doShort 30 = .ok (.iconst 0, 1) := by decide +kernel
theorem dX13_doShort_31 : decode cX13_doShort 31 = .ok (.ireturn, 1) := by decide +kernel
theorem dX13_doClear_0 : decode cX13_doClear 0 = .ok (.aload_n 0, 1) := by decide +kernel
theorem dX13_doClear_1 : decode cX13_doClear 1 = .ok (.aload_n 0, 1) := by decide +kernel
theorem dX13_doClear_2 : decode cX13_doClear 2 = .ok (.getfield 31, 3) := by decide +kernel
theorem dX13_doClear_5 : decode cX13_doClear 5 = .ok (.bipush 6, 2) := by decide +kernel
theorem dX13_doClear_7 : decode cX13_doClear 7 = .ok (.iaload, 1) := by decide +kernel
theorem dX13_doClear_8 : decode cX13_doClear 8 = .ok (.putfield 223, 3) := by decide +kernel
theorem dX13_doClear_11 : decode cX13_doClear 11 = .ok (.aload_n 0, 1) := by decide +kernel
theorem dX13_doClear_12 : decode cX13_doClear 12 = .ok (.getfield 31, 3) := by decide +kernel
theorem dX13_doClear_15 : decode cX13_doClear 15 = .ok (.bipush 9, 2) := by decide +kernel
theorem dX13_doClear_17 : decode cX13_doClear 17 = .ok (.dup2, 1) := by decide +kernel
theorem dX13_doClear_18 : decode cX13_doClear 18 = .ok (.iaload, 1) := by decide +kernel
theorem dX13_doClear_19 : decode cX13_doClear 19 = .ok (.aload_n 0, 1) := by decide +kernel
theorem dX13_doClear_20 : decode cX13_doClear 20 = .ok (.getfield 31, 3) := by decide +kernel
theorem dX13_doClear_23 : decode cX13_doClear 23 = .ok (.bipush 6, 2) := by decide +kernel
theorem dX13_doClear_25 : decode cX13_doClear 25 = .ok (.iaload, 1) := by decide +kernel
theorem dX13_doClear_26 : decode cX13_doClear 26 = .ok (.iadd, 1) := by decide +kernel
theorem dX13_doClear_27 : decode cX13_doClear 27 = .ok (.iastore, 1) := by decide +kernel
theorem dX13_doClear_28 : decode cX13_doClear 28 = .ok (.aload_n 0, 1) := by decide +kernel
theorem dX13_doClear_29 : decode cX13_doClear 29 = .ok (.getfield 31, 3) := by decide +kernel
theorem dX13_doClear_32 : decode cX13_doClear 32 = .ok (.bipush 6, 2) := by decide +kernel
theorem dX13_doClear_34 : decode cX13_doClear 34 = .ok (.iconst 0, 1) := by decide +kernel
theorem dX13_doClear_35 : decode cX13_doClear 35 = .ok (.iastore, 1) := by decide +kernel
theorem dX13_doClear_36 : decode cX13_doClear 36 = .ok (.iconst 0, 1) := by decide +kernel
theorem dX13_doClear_37 : decode cX13_doClear 37 = .ok (.ireturn, 1) := by decide +kernel
theorem dX13_doReaddress_0 : decode cX13_doReaddress 0 = .ok (.aload_n 0, 1) := by decide +kernel
theorem dX13_doReaddress_1 : decode cX13_doReaddress 1 = .ok (.iload_n 1, 1) := by decide +kernel
theorem dX13_doReaddress_2 : decode cX13_doReaddress 2 = .ok (.iconst 5, 1) := by decide +kernel
theorem dX13_doReaddress_3 : decode cX13_doReaddress 3 = .ok (.invokevirtual 88, 3) := by decide +kernel
theorem dX13_doReaddress_6 : decode cX13_doReaddress 6 = .ok (.ifCond .ne 13, 3) := by decide +kernel
theorem dX13_doReaddress_9 : decode cX13_doReaddress 9 = .ok (.aload_n 0, 1) := by decide +kernel
theorem dX13_doReaddress_10 : decode cX13_doReaddress 10 = .ok (.iconst 0, 1) := by decide +kernel
theorem dX13_doReaddress_11 : decode cX13_doReaddress 11 = .ok (.iload_n 2, 1) := by decide +kernel
theorem dX13_doReaddress_12 : decode cX13_doReaddress 12 = .ok (.invokevirtual 100, 3) := by decide +kernel
theorem dX13_doReaddress_15 : decode cX13_doReaddress 15 = .ok (.iconst (-1), 1) := by decide +kernel
theorem dX13_doReaddress_16 : decode cX13_doReaddress 16 = .ok (.if_icmp .eq 5, 3) := by decide +kernel
theorem dX13_doReaddress_19 : decode cX13_doReaddress 19 = .ok (.iconst 3, 1) := by decide +kernel
theorem dX13_doReaddress_20 : decode cX13_doReaddress 20 = .ok (.ireturn, 1) := by decide +kernel
theorem dX13_doReaddress_21 : decode cX13_doReaddress 21 = .ok (.aload_n 0, 1) := by decide +kernel
theorem dX13_doReaddress_22 : decode cX13_doReaddress 22 = .ok (.aload_n 0, 1) := by decide +kernel
theorem dX13_doReaddress_23 : decode cX13_doReaddress 23 = .ok (.iload_n 1, 1) := by decide +kernel
theorem dX13_doReaddress_24 : decode cX13_doReaddress 24 = .ok (.iconst 0, 1) := by decide +kernel
theorem dX13_doReaddress_25 : decode cX13_doReaddress 25 = .ok (.invokevirtual 88, 3) := by decide +kernel
theorem dX13_doReaddress_28 : decode cX13_doReaddress 28 = .ok (.putfield 223, 3) := by decide +kernel
theorem dX13_doReaddress_31 : decode cX13_doReaddress 31 = .ok (.aload_n 0, 1) := by decide +kernel
theorem dX13_doReaddress_32 : decode cX13_doReaddress 32 = .ok (.iload_n 1, 1) := by decide +kernel
theorem dX13_doReaddress_33 : decode cX13_doReaddress 33 = .ok (.iconst 0, 1) := by decide +kernel
theorem dX13_doReaddress_34 : decode cX13_doReaddress 34 = .ok (.iload_n 2, 1) := by decide +kernel
theorem dX13_doReaddress_35 : decode cX13_doReaddress 35 = .ok (.invokevirtual 84, 3) := by decide +kernel
theorem dX13_doReaddress_38 : decode cX13_doReaddress 38 = .ok (.iconst 0, 1) := by decide +kernel
theorem dX13_doReaddress_39 : decode cX13_doReaddress 39 = .ok (.ireturn, 1) := by decide +kernel
theorem dX13_doWait_0 : decode cX13_doWait 0 = .ok (.aload_n 0, 1) := by decide +kernel
theorem dX13_doWait_1 : decode cX13_doWait 1 = .ok (.getfield 31, 3) := by decide +kernel
theorem dX13_doWait_4 : decode cX13_doWait 4 = .ok (.iconst 0, 1) := by decide +kernel
theorem dX13_doWait_5 : decode cX13_doWait 5 = .ok (.iaload, 1) := by decide +kernel
theorem dX13_doWait_6 : decode cX13_doWait 6 = .ok (.iload_n 1, 1) := by decide +kernel
theorem dX13_doWait_7 : decode cX13_doWait 7 = .ok (.iadd, 1) := by decide +kernel
theorem dX13_doWait_8 : decode cX13_doWait 8 = .ok (.sipush 10000, 3) := by decide +kernel
theorem dX13_doWait_11 : decode cX13_doWait 11 = .ok (.if_icmp .le 5, 3) := by decide +kernel
theorem dX13_doWait_14 : decode cX13_doWait 14 = .ok (.iconst 2, 1) := by decide +kernel
theorem dX13_doWait_15 : decode cX13_doWait 15 = .ok (.ireturn, 1) := by decide +kernel
theorem dX13_doWait_16 : decode cX13_doWait 16 = .ok (.aload_n 0, 1) := by decide +kernel
theorem dX13_doWait_17 : decode cX13_doWait 17 = .ok (.aload_n 0, 1) := by decide +kernel
theorem dX13_doWait_18 : decode cX13_doWait 18 = .ok (.iload_n 1, 1) := by decide +kernel
theorem dX13_doWait_19 : decode cX13_doWait 19 = .ok (.invokevirtual 203, 3) := by decide +kernel
theorem dX13_doWait_22 : decode cX13_doWait 22 = .ok (.putfield 223, 3) := by decide +kernel
theorem dX13_doWait_25 : decode cX13_doWait 25 = .ok (.iconst 0, 1) := by decide +kernel
theorem dX13_doWait_26 : decode cX13_doWait 26 = .ok (.ireturn, 1) := by decide +kernel
theorem dX13_keep_0 : decode cX13_keep 0 = .ok (.aload_n 0, 1) := by decide +kernel
theorem dX13_keep_1 : decode cX13_keep 1 = .ok (.getfield 9, 3) := by decide +kernel
theorem dX13_keep_4 : decode cX13_keep 4 = .ok (.iconst 0, 1) := by decide +kernel
theorem dX13_keep_5 : decode cX13_keep 5 = .ok (.aload_n 0, 1) := by decide +kernel
theorem dX13_keep_6 : decode cX13_keep 6 = .ok (.getfield 19, 3) := by decide +kernel
theorem dX13_keep_9 : decode cX13_keep 9 = .ok (.iconst 0, 1) := by decide +kernel
theorem dX13_keep_10 : decode cX13_keep 10 = .ok (.invokestatic 199, 3) := by decide +kernel
theorem dX13_keep_13 : decode cX13_keep 13 = .ok (.return_, 1) := by decide +kernel
theorem dX13_record_0 : decode cX13_record 0 = .ok (.aload_n 0, 1) := by decide +kernel
theorem dX13_record_1 : decode cX13_record 1 = .ok (.getfield 233, 3) := by decide +kernel
theorem dX13_record_4 : decode cX13_record 4 = .ok (.bipush 8, 2) := by decide +kernel
theorem dX13_record_6 : decode cX13_record 6 = .ok (.if_icmp .ne 42, 3) := by decide +kernel
theorem dX13_record_9 : decode cX13_record 9 = .ok (.iconst 1, 1) := by decide +kernel
theorem dX13_record_10 : decode cX13_record 10 = .ok (.istore_n 1, 1) := by decide +kernel
theorem dX13_record_11 : decode cX13_record 11 = .ok (.iload_n 1, 1) := by decide +kernel
theorem dX13_record_12 : decode cX13_record 12 = .ok (.bipush 8, 2) := by decide +kernel
theorem dX13_record_14 : decode cX13_record 14 = .ok (.if_icmp .ge 24, 3) := by decide +kernel
theorem dX13_record_17 : decode cX13_record 17 = .ok (.aload_n 0, 1) := by decide +kernel
theorem dX13_record_18 : decode cX13_record 18 = .ok (.getfield 25, 3) := by decide +kernel
theorem dX13_record_21 : decode cX13_record 21 = .ok (.iload_n 1, 1) := by decide +kernel
theorem dX13_record_22 : decode cX13_record 22 = .ok (.aload_n 0, 1) := by decide +kernel
theorem dX13_record_23 : decode cX13_record 23 = .ok (.getfield 25, 3) := by decide +kernel
theorem dX13_record_26 : decode cX13_record 26 = .ok (.iload_n 1, 1) := by decide +kernel
theorem dX13_record_27 : decode cX13_record 27 = .ok (.iconst 1, 1) := by decide +kernel
theorem dX13_record_28 : decode cX13_record 28 = .ok (.isub, 1) := by decide +kernel
theorem dX13_record_29 : decode cX13_record 29 = .ok (.invokestatic 199, 3) := by decide +kernel
theorem dX13_record_32 : decode cX13_record 32 = .ok (.iinc 1 1, 3) := by decide +kernel
theorem dX13_record_35 : decode cX13_record 35 = .ok (.goto (-24), 3) := by decide +kernel
theorem dX13_record_38 : decode cX13_record 38 = .ok (.aload_n 0, 1) := by decide +kernel
theorem dX13_record_39 : decode cX13_record 39 = .ok (.dup, 1) := by decide +kernel
theorem dX13_record_40 : decode cX13_record 40 = .ok (.getfield 233, 3) := by decide +kernel
theorem dX13_record_43 : decode cX13_record 43 = .ok (.iconst 1, 1) := by decide +kernel
theorem dX13_record_44 : decode cX13_record 44 = .ok (.isub, 1) := by decide +kernel
theorem dX13_record_45 : decode cX13_record 45 = .ok (.putfield 233, 3) := by decide +kernel
theorem dX13_record_48 : decode cX13_record 48 = .ok (.aload_n 0, 1) := by decide +kernel
theorem dX13_record_49 : decode cX13_record 49 = .ok (.getfield 19, 3) := by decide +kernel
theorem dX13_record_52 : decode cX13_record 52 = .ok (.iconst 0, 1) := by decide +kernel
theorem dX13_record_53 : decode cX13_record 53 = .ok (.aload_n 0, 1) := by decide +kernel
theorem dX13_record_54 : decode cX13_record 54 = .ok (.getfield 25, 3) := by decide +kernel
theorem dX13_record_57 : decode cX13_record 57 = .ok (.aload_n 0, 1) := by decide +kernel
theorem dX13_record_58 : decode cX13_record 58 = .ok (.getfield 233, 3) := by decide +kernel
theorem dX13_record_61 : decode cX13_record 61 = .ok (.invokestatic 199, 3) := by decide +kernel
theorem dX13_record_64 : decode cX13_record 64 = .ok (.aload_n 0, 1) := by decide +kernel
theorem dX13_record_65 : decode cX13_record 65 = .ok (.dup, 1) := by decide +kernel
theorem dX13_record_66 : decode cX13_record 66 = .ok (.getfield 233, 3) := by decide +kernel
theorem dX13_record_69 : decode cX13_record 69 = .ok (.iconst 1, 1) := by decide +kernel
theorem dX13_record_70 : decode cX13_record 70 = .ok (.iadd, 1) := by decide +kernel
theorem dX13_record_71 : decode cX13_record 71 = .ok (.putfield 233, 3) := by decide +kernel
theorem dX13_record_74 : decode cX13_record 74 = .ok (.return_, 1) := by decide +kernel
theorem dX13_ends_0 : decode cX13_ends 0 = .ok (.aload_n 0, 1) := by decide +kernel
theorem dX13_ends_1 : decode cX13_ends 1 = .ok (.iload_n 1, 1) := by decide +kernel
theorem dX13_ends_2 : decode cX13_ends 2 = .ok (.putfield 77, 3) := by decide +kernel
theorem dX13_ends_5 : decode cX13_ends 5 = .ok (.iload_n 1, 1) := by decide +kernel
theorem dX13_ends_6 : decode cX13_ends 6 = .ok (.ifCond .eq 5, 3) := by decide +kernel
theorem dX13_ends_9 : decode cX13_ends 9 = .ok (.iconst 0, 1) := by decide +kernel
theorem dX13_ends_10 : decode cX13_ends 10 = .ok (.ireturn, 1) := by decide +kernel
theorem dX13_ends_11 : decode cX13_ends 11 = .ok (.aload_n 0, 1) := by decide +kernel
theorem dX13_ends_12 : decode cX13_ends 12 = .ok (.invokevirtual 236, 3) := by decide +kernel
theorem dX13_ends_15 : decode cX13_ends 15 = .ok (.aload_n 0, 1) := by decide +kernel
theorem dX13_ends_16 : decode cX13_ends 16 = .ok (.getfield 223, 3) := by decide +kernel
theorem dX13_ends_19 : decode cX13_ends 19 = .ok (.ireturn, 1) := by decide +kernel
theorem dX13_sendPacket_0 : decode cX13_sendPacket 0 = .ok (.aload_n 0, 1) := by decide +kernel
theorem dX13_sendPacket_1 : decode cX13_sendPacket 1 = .ok (.iload_n 1, 1) := by decide +kernel
theorem dX13_sendPacket_2 : decode cX13_sendPacket 2 = .ok (.invokestatic 139, 3) := by decide +kernel
theorem dX13_sendPacket_5 : decode cX13_sendPacket 5 = .ok (.ifCond .eq 21, 3) := by decide +kernel
theorem dX13_sendPacket_8 : decode cX13_sendPacket 8 = .ok (.iload_n 2, 1) := by decide +kernel
theorem dX13_sendPacket_9 : decode cX13_sendPacket 9 = .ok (.invokestatic 139, 3) := by decide +kernel
theorem dX13_sendPacket_12 : decode cX13_sendPacket 12 = .ok (.ifCond .eq 14, 3) := by decide +kernel
theorem dX13_sendPacket_15 : decode cX13_sendPacket 15 = .ok (.iload_n 3, 1) := by decide +kernel
theorem dX13_sendPacket_16 : decode cX13_sendPacket 16 = .ok (.invokestatic 139, 3) := by decide +kernel
theorem dX13_sendPacket_19 : decode cX13_sendPacket 19 = .ok (.ifCond .eq 7, 3) := by decide +kernel
theorem dX13_sendPacket_22 : decode cX13_sendPacket 22 = .ok (.iconst 1, 1) := by decide +kernel
theorem dX13_sendPacket_23 : decode cX13_sendPacket 23 = .ok (.goto 4, 3) := by decide +kernel
theorem dX13_sendPacket_26 : decode cX13_sendPacket 26 = .ok (.iconst 0, 1) := by decide +kernel
theorem dX13_sendPacket_27 : decode cX13_sendPacket 27 = .ok (.invokevirtual 80, 3) := by decide +kernel
theorem dX13_sendPacket_30 : decode cX13_sendPacket 30 = .ok (.ifCond .eq 5, 3) := by decide +kernel
theorem dX13_sendPacket_33 : decode cX13_sendPacket 33 = .ok (.iconst 0, 1) := by decide +kernel
theorem dX13_sendPacket_34 : decode cX13_sendPacket 34 = .ok (.ireturn, 1) := by decide +kernel
theorem dX13_sendPacket_35 : decode cX13_sendPacket 35 = .ok (.aload_n 0, 1) := by decide +kernel
theorem dX13_sendPacket_36 : decode cX13_sendPacket 36 = .ok (.invokevirtual 239, 3) := by decide +kernel
theorem dX13_sendPacket_39 : decode cX13_sendPacket 39 = .ok (.aload_n 0, 1) := by decide +kernel
theorem dX13_sendPacket_40 : decode cX13_sendPacket 40 = .ok (.aload_n 0, 1) := by decide +kernel
theorem dX13_sendPacket_41 : decode cX13_sendPacket 41 = .ok (.aload_n 0, 1) := by decide +kernel
theorem dX13_sendPacket_42 : decode cX13_sendPacket 42 = .ok (.getfield 31, 3) := by decide +kernel
theorem dX13_sendPacket_45 : decode cX13_sendPacket 45 = .ok (.bipush 6, 2) := by decide +kernel
theorem dX13_sendPacket_47 : decode cX13_sendPacket 47 = .ok (.iaload, 1) := by decide +kernel
theorem dX13_sendPacket_48 : decode cX13_sendPacket 48 = .ok (.iload_n 1, 1) := by decide +kernel
theorem dX13_sendPacket_49 : decode cX13_sendPacket 49 = .ok (.iload_n 2, 1) := by decide +kernel
theorem dX13_sendPacket_50 : decode cX13_sendPacket 50 = .ok (.iload_n 3, 1) := by decide +kernel
theorem dX13_sendPacket_51 : decode cX13_sendPacket 51 = .ok (.invokevirtual 226, 3) := by decide +kernel
theorem dX13_sendPacket_54 : decode cX13_sendPacket 54 = .ok (.invokevirtual 242, 3) := by decide +kernel
theorem dX13_sendPacket_57 : decode cX13_sendPacket 57 = .ok (.ireturn, 1) := by decide +kernel
theorem dX13_isAddress_0 : decode cX13_isAddress 0 = .ok (.iload_n 0, 1) := by decide +kernel
theorem dX13_isAddress_1 : decode cX13_isAddress 1 = .ok (.iconst 0, 1) := by decide +kernel
theorem dX13_isAddress_2 : decode cX13_isAddress 2 = .ok (.bipush 127, 2) := by decide +kernel
theorem dX13_isAddress_4 : decode cX13_isAddress 4 = .ok (.invokestatic 92, 3) := by decide +kernel
theorem dX13_isAddress_7 : decode cX13_isAddress 7 = .ok (.ireturn, 1) := by decide +kernel
theorem dX13_setSpeed_0 : decode cX13_setSpeed 0 = .ok (.aload_n 0, 1) := by decide +kernel
theorem dX13_setSpeed_1 : decode cX13_setSpeed 1 = .ok (.iload_n 1, 1) := by decide +kernel
theorem dX13_setSpeed_2 : decode cX13_setSpeed 2 = .ok (.invokestatic 245, 3) := by decide +kernel
theorem dX13_setSpeed_5 : decode cX13_setSpeed 5 = .ok (.ifCond .eq 17, 3) := by decide +kernel
theorem dX13_setSpeed_8 : decode cX13_setSpeed 8 = .ok (.iload_n 2, 1) := by decide +kernel
theorem dX13_setSpeed_9 : decode cX13_setSpeed 9 = .ok (.iconst 0, 1) := by decide +kernel
theorem dX13_setSpeed_10 : decode cX13_setSpeed 10 = .ok (.bipush 28, 2) := by decide +kernel
theorem dX13_setSpeed_12 : decode cX13_setSpeed 12 = .ok (.invokestatic 92, 3) := by decide +kernel
theorem dX13_setSpeed_15 : decode cX13_setSpeed 15 = .ok (.ifCond .eq 7, 3) := by decide +kernel
theorem dX13_setSpeed_18 : decode cX13_setSpeed 18 = .ok (.iconst 1, 1) := by decide +kernel
theorem dX13_setSpeed_19 : decode cX13_setSpeed 19 = .ok (.goto 4, 3) := by decide +kernel
theorem dX13_setSpeed_22 : decode cX13_setSpeed 22 = .ok (.iconst 0, 1) := by decide +kernel
theorem dX13_setSpeed_23 : decode cX13_setSpeed 23 = .ok (.invokevirtual 80, 3) := by decide +kernel
theorem dX13_setSpeed_26 : decode cX13_setSpeed 26 = .ok (.ifCond .eq 5, 3) := by decide +kernel
theorem dX13_setSpeed_29 : decode cX13_setSpeed 29 = .ok (.iconst 0, 1) := by decide +kernel
theorem dX13_setSpeed_30 : decode cX13_setSpeed 30 = .ok (.ireturn, 1) := by decide +kernel
theorem dX13_setSpeed_31 : decode cX13_setSpeed 31 = .ok (.aload_n 0, 1) := by decide +kernel
theorem dX13_setSpeed_32 : decode cX13_setSpeed 32 = .ok (.invokevirtual 239, 3) := by decide +kernel
theorem dX13_setSpeed_35 : decode cX13_setSpeed 35 = .ok (.aload_n 0, 1) := by decide +kernel
theorem dX13_setSpeed_36 : decode cX13_setSpeed 36 = .ok (.aload_n 0, 1) := by decide +kernel
theorem dX13_setSpeed_37 : decode cX13_setSpeed 37 = .ok (.iload_n 1, 1) := by decide +kernel
theorem dX13_setSpeed_38 : decode cX13_setSpeed 38 = .ok (.iload_n 2, 1) := by decide +kernel
theorem dX13_setSpeed_39 : decode cX13_setSpeed 39 = .ok (.invokevirtual 248, 3) := by decide +kernel
theorem dX13_setSpeed_42 : decode cX13_setSpeed 42 = .ok (.invokevirtual 242, 3) := by decide +kernel
theorem dX13_setSpeed_45 : decode cX13_setSpeed 45 = .ok (.ireturn, 1) := by decide +kernel
theorem dX13_setLamp_0 : decode cX13_setLamp 0 = .ok (.aload_n 0, 1) := by decide +kernel
theorem dX13_setLamp_1 : decode cX13_setLamp 1 = .ok (.iload_n 1, 1) := by decide +kernel
theorem dX13_setLamp_2 : decode cX13_setLamp 2 = .ok (.invokestatic 245, 3) := by decide +kernel
theorem dX13_setLamp_5 : decode cX13_setLamp 5 = .ok (.ifCond .eq 17, 3) := by decide +kernel
theorem dX13_setLamp_8 : decode cX13_setLamp 8 = .ok (.iload_n 2, 1) := by decide +kernel
theorem dX13_setLamp_9 : decode cX13_setLamp 9 = .ok (.iconst 0, 1) := by decide +kernel
theorem dX13_setLamp_10 : decode cX13_setLamp 10 = .ok (.bipush 15, 2) := by decide +kernel
theorem dX13_setLamp_12 : decode cX13_setLamp 12 = .ok (.invokestatic 92, 3) := by decide +kernel
theorem dX13_setLamp_15 : decode cX13_setLamp 15 = .ok (.ifCond .eq 7, 3) := by decide +kernel
theorem dX13_setLamp_18 : decode cX13_setLamp 18 = .ok (.iconst 1, 1) := by decide +kernel
theorem dX13_setLamp_19 : decode cX13_setLamp 19 = .ok (.goto 4, 3) := by decide +kernel
theorem dX13_setLamp_22 : decode cX13_setLamp 22 = .ok (.iconst 0, 1) := by decide +kernel
theorem dX13_setLamp_23 : decode cX13_setLamp 23 = .ok (.invokevirtual 80, 3) := by decide +kernel
theorem dX13_setLamp_26 : decode cX13_setLamp 26 = .ok (.ifCond .eq 5, 3) := by decide +kernel
theorem dX13_setLamp_29 : decode cX13_setLamp 29 = .ok (.iconst 0, 1) := by decide +kernel
theorem dX13_setLamp_30 : decode cX13_setLamp 30 = .ok (.ireturn, 1) := by decide +kernel
theorem dX13_setLamp_31 : decode cX13_setLamp 31 = .ok (.aload_n 0, 1) := by decide +kernel
theorem dX13_setLamp_32 : decode cX13_setLamp 32 = .ok (.invokevirtual 239, 3) := by decide +kernel
theorem dX13_setLamp_35 : decode cX13_setLamp 35 = .ok (.aload_n 0, 1) := by decide +kernel
theorem dX13_setLamp_36 : decode cX13_setLamp 36 = .ok (.aload_n 0, 1) := by decide +kernel
theorem dX13_setLamp_37 : decode cX13_setLamp 37 = .ok (.iload_n 1, 1) := by decide +kernel
theorem dX13_setLamp_38 : decode cX13_setLamp 38 = .ok (.iload_n 2, 1) := by decide +kernel
theorem dX13_setLamp_39 : decode cX13_setLamp 39 = .ok (.invokevirtual 251, 3) := by decide +kernel
theorem dX13_setLamp_42 : decode cX13_setLamp 42 = .ok (.invokevirtual 242, 3) := by decide +kernel
theorem dX13_setLamp_45 : decode cX13_setLamp 45 = .ok (.ireturn, 1) := by decide +kernel
theorem dX13_stop_0 : decode cX13_stop 0 = .ok (.aload_n 0, 1) := by decide +kernel
theorem dX13_stop_1 : decode cX13_stop 1 = .ok (.iload_n 1, 1) := by decide +kernel
theorem dX13_stop_2 : decode cX13_stop 2 = .ok (.invokestatic 245, 3) := by decide +kernel
theorem dX13_stop_5 : decode cX13_stop 5 = .ok (.invokevirtual 80, 3) := by decide +kernel
theorem dX13_stop_8 : decode cX13_stop 8 = .ok (.ifCond .eq 5, 3) := by decide +kernel
theorem dX13_stop_11 : decode cX13_stop 11 = .ok (.iconst 0, 1) := by decide +kernel
theorem dX13_stop_12 : decode cX13_stop 12 = .ok (.ireturn, 1) := by decide +kernel
theorem dX13_stop_13 : decode cX13_stop 13 = .ok (.aload_n 0, 1) := by decide +kernel
theorem dX13_stop_14 : decode cX13_stop 14 = .ok (.invokevirtual 239, 3) := by decide +kernel
theorem dX13_stop_17 : decode cX13_stop 17 = .ok (.aload_n 0, 1) := by decide +kernel
theorem dX13_stop_18 : decode cX13_stop 18 = .ok (.aload_n 0, 1) := by decide +kernel
theorem dX13_stop_19 : decode cX13_stop 19 = .ok (.iload_n 1, 1) := by decide +kernel
theorem dX13_stop_20 : decode cX13_stop 20 = .ok (.invokevirtual 254, 3) := by decide +kernel
theorem dX13_stop_23 : decode cX13_stop 23 = .ok (.invokevirtual 242, 3) := by decide +kernel
theorem dX13_stop_26 : decode cX13_stop 26 = .ok (.ireturn, 1) := by decide +kernel
theorem dX13_setShort_0 : decode cX13_setShort 0 = .ok (.aload_n 0, 1) := by decide +kernel
theorem dX13_setShort_1 : decode cX13_setShort 1 = .ok (.invokevirtual 239, 3) := by decide +kernel
theorem dX13_setShort_4 : decode cX13_setShort 4 = .ok (.aload_n 0, 1) := by decide +kernel
theorem dX13_setShort_5 : decode cX13_setShort 5 = .ok (.aload_n 0, 1) := by decide +kernel
theorem dX13_setShort_6 : decode cX13_setShort 6 = .ok (.iload_n 1, 1) := by decide +kernel
theorem dX13_setShort_7 : decode cX13_setShort 7 = .ok (.iload_n 2, 1) := by decide +kernel
theorem dX13_setShort_8 : decode cX13_setShort 8 = .ok (.ifCond .eq 7, 3) := by decide +kernel
theorem dX13_setShort_11 : decode cX13_setShort 11 = .ok (.iconst 1, 1) := by decide +kernel
theorem dX13_setShort_12 : decode cX13_setShort 12 = .ok (.goto 4, 3) := by decide +kernel
theorem dX13_setShort_15 : decode cX13_setShort 15 = .ok (.iconst 0, 1) := by decide +kernel
theorem dX13_setShort_16 : decode cX13_setShort 16 = .ok (.invokevirtual 257, 3) := by decide +kernel
theorem dX13_setShort_19 : decode cX13_setShort 19 = .ok (.invokevirtual 242, 3) := by decide +kernel
theorem dX13_setShort_22 : decode cX13_setShort 22 = .ok (.ireturn, 1) := by decide +kernel
theorem dX13_clearQueue_0 : decode cX13_clearQueue 0 = .ok (.aload_n 0, 1) := by decide +kernel
theorem dX13_clearQueue_1 : decode cX13_clearQueue 1 = .ok (.invokevirtual 239, 3) := by decide +kernel
theorem dX13_clearQueue_4 : decode cX13_clearQueue 4 = .ok (.aload_n 0, 1) := by decide +kernel
theorem dX13_clearQueue_5 : decode cX13_clearQueue 5 = .ok (.aload_n 0, 1) := by decide +kernel
theorem dX13_clearQueue_6 : decode cX13_clearQueue 6 = .ok (.invokevirtual 260, 3) := by decide +kernel
theorem dX13_clearQueue_9 : decode cX13_clearQueue 9 = .ok (.invokevirtual 242, 3) := by decide +kernel
theorem dX13_clearQueue_12 : decode cX13_clearQueue 12 = .ok (.ireturn, 1) := by decide +kernel
theorem dX13_readdress_0 : decode cX13_readdress 0 = .ok (.aload_n 0, 1) := by decide +kernel
theorem dX13_readdress_1 : decode cX13_readdress 1 = .ok (.aload_n 0, 1) := by decide +kernel
theorem dX13_readdress_2 : decode cX13_readdress 2 = .ok (.iload_n 1, 1) := by decide +kernel
theorem dX13_readdress_3 : decode cX13_readdress 3 = .ok (.invokevirtual 111, 3) := by decide +kernel
theorem dX13_readdress_6 : decode cX13_readdress 6 = .ok (.iload_n 2, 1) := by decide +kernel
theorem dX13_readdress_7 : decode cX13_readdress 7 = .ok (.iconst 1, 1) := by decide +kernel
theorem dX13_readdress_8 : decode cX13_readdress 8 = .ok (.bipush 127, 2) := by decide +kernel
theorem dX13_readdress_10 : decode cX13_readdress 10 = .ok (.invokestatic 92, 3) := by decide +kernel
theorem dX13_readdress_13 : decode cX13_readdress 13 = .ok (.invokevirtual 206, 3) := by decide +kernel
theorem dX13_readdress_16 : decode cX13_readdress 16 = .ok (.ifCond .eq 5, 3) := by decide +kernel
theorem dX13_readdress_19 : decode cX13_readdress 19 = .ok (.iconst 0, 1) := by decide +kernel
theorem dX13_readdress_20 : decode cX13_readdress 20 = .ok (.ireturn, 1) := by decide +kernel
theorem dX13_readdress_21 : decode cX13_readdress 21 = .ok (.aload_n 0, 1) := by decide +kernel
theorem dX13_readdress_22 : decode cX13_readdress 22 = .ok (.invokevirtual 239, 3) := by decide +kernel
theorem dX13_readdress_25 : decode cX13_readdress 25 = .ok (.aload_n 0, 1) := by decide +kernel
theorem dX13_readdress_26 : decode cX13_readdress 26 = .ok (.aload_n 0, 1) := by decide +kernel
theorem dX13_readdress_27 : decode cX13_readdress 27 = .ok (.iload_n 1, 1) := by decide +kernel
theorem dX13_readdress_28 : decode cX13_readdress 28 = .ok (.iload_n 2, 1) := by decide +kernel
theorem dX13_readdress_29 : decode cX13_readdress 29 = .ok (.invokevirtual 263, 3) := by decide +kernel
theorem dX13_readdress_32 : decode cX13_readdress 32 = .ok (.invokevirtual 242, 3) := by decide +kernel
theorem dX13_readdress_35 : decode cX13_readdress 35 = .ok (.ireturn, 1) := by decide +kernel
theorem dX13_passTicks_0 : decode cX13_passTicks 0 = .ok (.aload_n 0, 1) := by decide +kernel
theorem dX13_passTicks_1 : decode cX13_passTicks 1 = .ok (.iload_n 1, 1) := by decide +kernel
theorem dX13_passTicks_2 : decode cX13_passTicks 2 = .ok (.iconst 1, 1) := by decide +kernel
theorem dX13_passTicks_3 : decode cX13_passTicks 3 = .ok (.bipush 60, 2) := by decide +kernel
theorem dX13_passTicks_5 : decode cX13_passTicks 5 = .ok (.invokestatic 92, 3) := by decide +kernel
theorem dX13_passTicks_8 : decode cX13_passTicks 8 = .ok (.invokevirtual 80, 3) := by decide +kernel
theorem dX13_passTicks_11 : decode cX13_passTicks 11 = .ok (.ifCond .eq 5, 3) := by decide +kernel
theorem dX13_passTicks_14 : decode cX13_passTicks 14 = .ok (.iconst 0, 1) := by decide +kernel
theorem dX13_passTicks_15 : decode cX13_passTicks 15 = .ok (.ireturn, 1) := by decide +kernel
theorem dX13_passTicks_16 : decode cX13_passTicks 16 = .ok (.aload_n 0, 1) := by decide +kernel
theorem dX13_passTicks_17 : decode cX13_passTicks 17 = .ok (.invokevirtual 239, 3) := by decide +kernel
theorem dX13_passTicks_20 : decode cX13_passTicks 20 = .ok (.aload_n 0, 1) := by decide +kernel
theorem dX13_passTicks_21 : decode cX13_passTicks 21 = .ok (.aload_n 0, 1) := by decide +kernel
theorem dX13_passTicks_22 : decode cX13_passTicks 22 = .ok (.iload_n 1, 1) := by decide +kernel
theorem dX13_passTicks_23 : decode cX13_passTicks 23 = .ok (.invokevirtual 266, 3) := by decide +kernel
theorem dX13_passTicks_26 : decode cX13_passTicks 26 = .ok (.invokevirtual 242, 3) := by decide +kernel
theorem dX13_passTicks_29 : decode cX13_passTicks 29 = .ok (.ireturn, 1) := by decide +kernel
theorem dX13_signOf_0 : decode cX13_signOf 0 = .ok (.aload_n 0, 1) := by decide +kernel
theorem dX13_signOf_1 : decode cX13_signOf 1 = .ok (.iconst 3, 1) := by decide +kernel
theorem dX13_signOf_2 : decode cX13_signOf 2 = .ok (.iload_n 1, 1) := by decide +kernel
theorem dX13_signOf_3 : decode cX13_signOf 3 = .ok (.invokevirtual 100, 3) := by decide +kernel
theorem dX13_signOf_6 : decode cX13_signOf 6 = .ok (.istore_n 2, 1) := by decide +kernel
theorem dX13_signOf_7 : decode cX13_signOf 7 = .ok (.iload_n 2, 1) := by decide +kernel
theorem dX13_signOf_8 : decode cX13_signOf 8 = .ok (.iconst (-1), 1) := by decide +kernel
theorem dX13_signOf_9 : decode cX13_signOf 9 = .ok (.if_icmp .eq 10, 3) := by decide +kernel
theorem dX13_signOf_12 : decode cX13_signOf 12 = .ok (.bipush 48, 2) := by decide +kernel
theorem dX13_signOf_14 : decode cX13_signOf 14 = .ok (.iload_n 2, 1) := by decide +kernel
theorem dX13_signOf_15 : decode cX13_signOf 15 = .ok (.iadd, 1) := by decide +kernel
theorem dX13_signOf_16 : decode cX13_signOf 16 = .ok (.goto 41, 3) := by decide +kernel
theorem dX13_signOf_19 : decode cX13_signOf 19 = .ok (.aload_n 0, 1) := by decide +kernel
theorem dX13_signOf_20 : decode cX13_signOf 20 = .ok (.getfield 31, 3) := by decide +kernel
theorem dX13_signOf_23 : decode cX13_signOf 23 = .ok (.bipush 34, 2) := by decide +kernel
theorem dX13_signOf_25 : decode cX13_signOf 25 = .ok (.iload_n 1, 1) := by decide +kernel
theorem dX13_signOf_26 : decode cX13_signOf 26 = .ok (.iadd, 1) := by decide +kernel
theorem dX13_signOf_27 : decode cX13_signOf 27 = .ok (.iaload, 1) := by decide +kernel
theorem dX13_signOf_28 : decode cX13_signOf 28 = .ok (.iconst 1, 1) := by decide +kernel
theorem dX13_signOf_29 : decode cX13_signOf 29 = .ok (.if_icmp .ne 8, 3) := by decide +kernel
theorem dX13_signOf_32 : decode cX13_signOf 32 = .ok (.bipush 33, 2) := by decide +kernel
theorem dX13_signOf_34 : decode cX13_signOf 34 = .ok (.goto 23, 3) := by decide +kernel
theorem dX13_signOf_37 : decode cX13_signOf 37 = .ok (.aload_n 0, 1) := by decide +kernel
theorem dX13_signOf_38 : decode cX13_signOf 38 = .ok (.getfield 31, 3) := by decide +kernel
theorem dX13_signOf_41 : decode cX13_signOf 41 = .ok (.bipush 10, 2) := by decide +kernel
theorem dX13_signOf_43 : decode cX13_signOf 43 = .ok (.iload_n 1, 1) := by decide +kernel
theorem dX13_signOf_44 : decode cX13_signOf 44 = .ok (.iadd, 1) := by decide +kernel
theorem dX13_signOf_45 : decode cX13_signOf 45 = .ok (.iaload, 1) := by decide +kernel
theorem dX13_signOf_46 : decode cX13_signOf 46 = .ok (.iconst 1, 1) := by decide +kernel
theorem dX13_signOf_47 : decode cX13_signOf 47 = .ok (.if_icmp .ne 8, 3) := by decide +kernel
theorem dX13_signOf_50 : decode cX13_signOf 50 = .ok (.bipush 110, 2) := by decide +kernel
theorem dX13_signOf_52 : decode cX13_signOf 52 = .ok (.goto 5, 3) := by decide +kernel
theorem dX13_signOf_55 : decode cX13_signOf 55 = .ok (.bipush 45, 2) := by decide +kernel
theorem dX13_signOf_57 : decode cX13_signOf 57 = .ok (.ireturn, 1) := by decide +kernel
theorem dX13_writeTrack_0 : decode cX13_writeTrack 0 = .ok (.aload_n 0, 1) := by decide +kernel
theorem dX13_writeTrack_1 : decode cX13_writeTrack 1 = .ok (.iconst 0, 1) := by decide +kernel
theorem dX13_writeTrack_2 : decode cX13_writeTrack 2 = .ok (.putfield 77, 3) := by decide +kernel
theorem dX13_writeTrack_5 : decode cX13_writeTrack 5 = .ok (.aload_n 0, 1) := by decide +kernel
theorem dX13_writeTrack_6 : decode cX13_writeTrack 6 = .ok (.aload_n 0, 1) := by decide +kernel
theorem dX13_writeTrack_7 : decode cX13_writeTrack 7 = .ok (.getfield 31, 3) := by decide +kernel
theorem dX13_writeTrack_10 : decode cX13_writeTrack 10 = .ok (.iconst 1, 1) := by decide +kernel
theorem dX13_writeTrack_11 : decode cX13_writeTrack 11 = .ok (.iaload, 1) := by decide +kernel
theorem dX13_writeTrack_12 : decode cX13_writeTrack 12 = .ok (.putfield 269, 3) := by decide +kernel
theorem dX13_writeTrack_15 : decode cX13_writeTrack 15 = .ok (.iconst 0, 1) := by decide +kernel
theorem dX13_writeTrack_16 : decode cX13_writeTrack 16 = .ok (.istore_n 1, 1) := by decide +kernel
theorem dX13_writeTrack_17 : decode cX13_writeTrack 17 = .ok (.iload_n 1, 1) := by decide +kernel
theorem dX13_writeTrack_18 : decode cX13_writeTrack 18 = .ok (.aload_n 0, 1) := by decide +kernel
theorem dX13_writeTrack_19 : decode cX13_writeTrack 19 = .ok (.getfield 269, 3) := by decide +kernel
theorem dX13_writeTrack_22 : decode cX13_writeTrack 22 = .ok (.if_icmp .ge 20, 3) := by decide +kernel
theorem dX13_writeTrack_25 : decode cX13_writeTrack 25 = .ok (.aload_n 0, 1) := by decide +kernel
theorem dX13_writeTrack_26 : decode cX13_writeTrack 26 = .ok (.getfield 34, 3) := by decide +kernel
theorem dX13_writeTrack_29 : decode cX13_writeTrack 29 = .ok (.iload_n 1, 1) := by decide +kernel
theorem dX13_writeTrack_30 : decode cX13_writeTrack 30 = .ok (.aload_n 0, 1) := by decide +kernel
theorem dX13_writeTrack_31 : decode cX13_writeTrack 31 = .ok (.iload_n 1, 1) := by decide +kernel
theorem dX13_writeTrack_32 : decode cX13_writeTrack 32 = .ok (.invokevirtual 272, 3) := by decide +kernel
theorem dX13_writeTrack_35 : decode cX13_writeTrack 35 = .ok (.iastore, 1) := by decide +kernel
theorem dX13_writeTrack_36 : decode cX13_writeTrack 36 = .ok (.iinc 1 1, 3) := by decide +kernel
theorem dX13_writeTrack_39 : decode cX13_writeTrack 39 = .ok (.goto (-22), 3) := by decide +kernel
theorem dX13_writeTrack_42 : decode cX13_writeTrack 42 = .ok (.aload_n 0, 1) := by decide +kernel
theorem dX13_writeTrack_43 : decode cX13_writeTrack 43 = .ok (.getfield 269, 3) := by decide +kernel
theorem dX13_writeTrack_46 : decode cX13_writeTrack 46 = .ok (.ireturn, 1) := by decide +kernel
theorem dX13_outputByte_0 : decode cX13_outputByte 0 = .ok (.aload_n 0, 1) := by decide +kernel
theorem dX13_outputByte_1 : decode cX13_outputByte 1 = .ok (.iload_n 1, 1) := by decide +kernel
theorem dX13_outputByte_2 : decode cX13_outputByte 2 = .ok (.iconst 0, 1) := by decide +kernel
theorem dX13_outputByte_3 : decode cX13_outputByte 3 = .ok (.aload_n 0, 1) := by decide +kernel
theorem dX13_outputByte_4 : decode cX13_outputByte 4 = .ok (.getfield 269, 3) := by decide +kernel
theorem dX13_outputByte_7 : decode cX13_outputByte 7 = .ok (.iconst 1, 1) := by decide +kernel
theorem dX13_outputByte_8 : decode cX13_outputByte 8 = .ok (.isub, 1) := by decide +kernel
theorem dX13_outputByte_9 : decode cX13_outputByte 9 = .ok (.invokestatic 92, 3) := by decide +kernel
theorem dX13_outputByte_12 : decode cX13_outputByte 12 = .ok (.invokevirtual 80, 3) := by decide +kernel
theorem dX13_outputByte_15 : decode cX13_outputByte 15 = .ok (.ifCond .eq 7, 3) := by decide +kernel
theorem dX13_outputByte_18 : decode cX13_outputByte 18 = .ok (.iconst 0, 1) := by decide +kernel
theorem dX13_outputByte_19 : decode cX13_outputByte 19 = .ok (.goto 9, 3) := by decide +kernel
theorem dX13_outputByte_22 : decode cX13_outputByte 22 = .ok (.aload_n 0, 1) := by decide +kernel
theorem dX13_outputByte_23 : decode cX13_outputByte 23 = .ok (.getfield 34, 3) := by decide +kernel
theorem dX13_outputByte_26 : decode cX13_outputByte 26 = .ok (.iload_n 1, 1) := by decide +kernel
theorem dX13_outputByte_27 : decode cX13_outputByte 27 = .ok (.iaload, 1) := by decide +kernel
theorem dX13_outputByte_28 : decode cX13_outputByte 28 = .ok (.ireturn, 1) := by decide +kernel
theorem dX13_undoableCount_0 : decode cX13_undoableCount 0 = .ok (.aload_n 0, 1) := by decide +kernel
theorem dX13_undoableCount_1 : decode cX13_undoableCount 1 = .ok (.iconst 0, 1) := by decide +kernel
theorem dX13_undoableCount_2 : decode cX13_undoableCount 2 = .ok (.putfield 77, 3) := by decide +kernel
theorem dX13_undoableCount_5 : decode cX13_undoableCount 5 = .ok (.aload_n 0, 1) := by decide +kernel
theorem dX13_undoableCount_6 : decode cX13_undoableCount 6 = .ok (.getfield 233, 3) := by decide +kernel
theorem dX13_undoableCount_9 : decode cX13_undoableCount 9 = .ok (.ireturn, 1) := by decide +kernel
theorem dX13_undo_0 : decode cX13_undo 0 = .ok (.aload_n 0, 1) := by decide +kernel
theorem dX13_undo_1 : decode cX13_undo 1 = .ok (.aload_n 0, 1) := by decide +kernel
theorem dX13_undo_2 : decode cX13_undo 2 = .ok (.getfield 233, 3) := by decide +kernel
theorem dX13_undo_5 : decode cX13_undo 5 = .ok (.ifCond .le 7, 3) := by decide +kernel
theorem dX13_undo_8 : decode cX13_undo 8 = .ok (.iconst 1, 1) := by decide +kernel
theorem dX13_undo_9 : decode cX13_undo 9 = .ok (.goto 4, 3) := by decide +kernel
theorem dX13_undo_12 : decode cX13_undo 12 = .ok (.iconst 0, 1) := by decide +kernel
theorem dX13_undo_13 : decode cX13_undo 13 = .ok (.invokevirtual 80, 3) := by decide +kernel
theorem dX13_undo_16 : decode cX13_undo 16 = .ok (.ifCond .eq 5, 3) := by decide +kernel
theorem dX13_undo_19 : decode cX13_undo 19 = .ok (.iconst 0, 1) := by decide +kernel
theorem dX13_undo_20 : decode cX13_undo 20 = .ok (.ireturn, 1) := by decide +kernel
theorem dX13_undo_21 : decode cX13_undo 21 = .ok (.aload_n 0, 1) := by decide +kernel
theorem dX13_undo_22 : decode cX13_undo 22 = .ok (.dup, 1) := by decide +kernel
theorem dX13_undo_23 : decode cX13_undo 23 = .ok (.getfield 233, 3) := by decide +kernel
theorem dX13_undo_26 : decode cX13_undo 26 = .ok (.iconst 1, 1) := by decide +kernel
theorem dX13_undo_27 : decode cX13_undo 27 = .ok (.isub, 1) := by decide +kernel
theorem dX13_undo_28 : decode cX13_undo 28 = .ok (.putfield 233, 3) := by decide +kernel
theorem dX13_undo_31 : decode cX13_undo 31 = .ok (.aload_n 0, 1) := by decide +kernel
theorem dX13_undo_32 : decode cX13_undo 32 = .ok (.getfield 25, 3) := by decide +kernel
theorem dX13_undo_35 : decode cX13_undo 35 = .ok (.aload_n 0, 1) := by decide +kernel
theorem dX13_undo_36 : decode cX13_undo 36 = .ok (.getfield 233, 3) := by decide +kernel
theorem dX13_undo_39 : decode cX13_undo 39 = .ok (.aload_n 0, 1) := by decide +kernel
theorem dX13_undo_40 : decode cX13_undo 40 = .ok (.getfield 9, 3) := by decide +kernel
theorem dX13_undo_43 : decode cX13_undo 43 = .ok (.iconst 0, 1) := by decide +kernel
theorem dX13_undo_44 : decode cX13_undo 44 = .ok (.invokestatic 199, 3) := by decide +kernel
theorem dX13_undo_47 : decode cX13_undo 47 = .ok (.aload_n 0, 1) := by decide +kernel
theorem dX13_undo_48 : decode cX13_undo 48 = .ok (.getfield 233, 3) := by decide +kernel
theorem dX13_undo_51 : decode cX13_undo 51 = .ok (.ireturn, 1) := by decide +kernel
theorem dX13_saveSnapshot_0 : decode cX13_saveSnapshot 0 = .ok (.aload_n 0, 1) := by decide +kernel
theorem dX13_saveSnapshot_1 : decode cX13_saveSnapshot 1 = .ok (.iconst 0, 1) := by decide +kernel
theorem dX13_saveSnapshot_2 : decode cX13_saveSnapshot 2 = .ok (.putfield 77, 3) := by decide +kernel
theorem dX13_saveSnapshot_5 : decode cX13_saveSnapshot 5 = .ok (.aload_n 0, 1) := by decide +kernel
theorem dX13_saveSnapshot_6 : decode cX13_saveSnapshot 6 = .ok (.getfield 9, 3) := by decide +kernel
theorem dX13_saveSnapshot_9 : decode cX13_saveSnapshot 9 = .ok (.iconst 0, 1) := by decide +kernel
theorem dX13_saveSnapshot_10 : decode cX13_saveSnapshot 10 = .ok (.aload_n 0, 1) := by decide +kernel
theorem dX13_saveSnapshot_11 : decode cX13_saveSnapshot 11 = .ok (.getfield 22, 3) := by decide +kernel
theorem dX13_saveSnapshot_14 : decode cX13_saveSnapshot 14 = .ok (.iconst 0, 1) := by decide +kernel
theorem dX13_saveSnapshot_15 : decode cX13_saveSnapshot 15 = .ok (.invokestatic 199, 3) := by decide +kernel
theorem dX13_saveSnapshot_18 : decode cX13_saveSnapshot 18 = .ok (.aload_n 0, 1) := by decide +kernel
theorem dX13_saveSnapshot_19 : decode cX13_saveSnapshot 19 = .ok (.iconst 1, 1) := by decide +kernel
theorem dX13_saveSnapshot_20 : decode cX13_saveSnapshot 20 = .ok (.putfield 275, 3) := by decide +kernel
theorem dX13_saveSnapshot_23 : decode cX13_saveSnapshot 23 = .ok (.return_, 1) := by decide +kernel
theorem dX13_restoreSnapshot_0 : decode cX13_restoreSnapshot 0 = .ok (.aload_n 0, 1) := by decide +kernel
theorem dX13_restoreSnapshot_1 : decode cX13_restoreSnapshot 1 = .ok (.aload_n 0, 1) := by decide +kernel
theorem dX13_restoreSnapshot_2 : decode cX13_restoreSnapshot 2 = .ok (.getfield 275, 3) := by decide +kernel
theorem dX13_restoreSnapshot_5 : decode cX13_restoreSnapshot 5 = .ok (.invokevirtual 80, 3) := by decide +kernel
theorem dX13_restoreSnapshot_8 : decode cX13_restoreSnapshot 8 = .ok (.ifCond .eq 5, 3) := by decide +kernel
theorem dX13_restoreSnapshot_11 : decode cX13_restoreSnapshot 11 = .ok (.iconst 0, 1) := by decide +kernel
theorem dX13_restoreSnapshot_12 : decode cX13_restoreSnapshot 12 = .ok (.ireturn, 1) := by decide +kernel
theorem dX13_restoreSnapshot_13 : decode cX13_restoreSnapshot 13 = .ok (.aload_n 0, 1) := by decide +kernel
theorem dX13_restoreSnapshot_14 : decode cX13_restoreSnapshot 14 = .ok (.getfield 22, 3) := by decide +kernel
theorem dX13_restoreSnapshot_17 : decode cX13_restoreSnapshot 17 = .ok (.iconst 0, 1) := by decide +kernel
theorem dX13_restoreSnapshot_18 : decode cX13_restoreSnapshot 18 = .ok (.aload_n 0, 1) := by decide +kernel
theorem dX13_restoreSnapshot_19 : decode cX13_restoreSnapshot 19 = .ok (.getfield 9, 3) := by decide +kernel
theorem dX13_restoreSnapshot_22 : decode cX13_restoreSnapshot 22 = .ok (.iconst 0, 1) := by decide +kernel
theorem dX13_restoreSnapshot_23 : decode cX13_restoreSnapshot 23 = .ok (.invokestatic 199, 3) := by decide +kernel
theorem dX13_restoreSnapshot_26 : decode cX13_restoreSnapshot 26 = .ok (.aload_n 0, 1) := by decide +kernel
theorem dX13_restoreSnapshot_27 : decode cX13_restoreSnapshot 27 = .ok (.iconst 0, 1) := by decide +kernel
theorem dX13_restoreSnapshot_28 : decode cX13_restoreSnapshot 28 = .ok (.putfield 233, 3) := by decide +kernel
theorem dX13_restoreSnapshot_31 : decode cX13_restoreSnapshot 31 = .ok (.aload_n 0, 1) := by decide +kernel
theorem dX13_restoreSnapshot_32 : decode cX13_restoreSnapshot 32 = .ok (.getfield 31, 3) := by decide +kernel
theorem dX13_restoreSnapshot_35 : decode cX13_restoreSnapshot 35 = .ok (.iconst 0, 1) := by decide +kernel
theorem dX13_restoreSnapshot_36 : decode cX13_restoreSnapshot 36 = .ok (.iaload, 1) := by decide +kernel
theorem dX13_restoreSnapshot_37 : decode cX13_restoreSnapshot 37 = .ok (.ireturn, 1) := by decide +kernel
theorem dX13_appendText_0 : decode cX13_appendText 0 = .ok (.aload_n 0, 1) := by decide +kernel
theorem dX13_appendText_1 : decode cX13_appendText 1 = .ok (.iconst 0, 1) := by decide +kernel
theorem dX13_appendText_2 : decode cX13_appendText 2 = .ok (.putfield 77, 3) := by decide +kernel
theorem dX13_appendText_5 : decode cX13_appendText 5 = .ok (.aload_n 0, 1) := by decide +kernel
theorem dX13_appendText_6 : decode cX13_appendText 6 = .ok (.getfield 279, 3) := by decide +kernel
theorem dX13_appendText_9 : decode cX13_appendText 9 = .ok (.bipush 20, 2) := by decide +kernel
theorem dX13_appendText_11 : decode cX13_appendText 11 = .ok (.iadd, 1) := by decide +kernel
theorem dX13_appendText_12 : decode cX13_appendText 12 = .ok (.sipush 500, 3) := by decide +kernel
theorem dX13_appendText_15 : decode cX13_appendText 15 = .ok (.if_icmp .le 5, 3) := by decide +kernel
theorem dX13_appendText_18 : decode cX13_appendText 18 = .ok (.iconst (-1), 1) := by decide +kernel
theorem dX13_appendText_19 : decode cX13_appendText 19 = .ok (.ireturn, 1) := by decide +kernel
theorem dX13_appendText_20 : decode cX13_appendText 20 = .ok (.iconst 0, 1) := by decide +kernel
theorem dX13_appendText_21 : decode cX13_appendText 21 = .ok (.istore 6, 2) := by decide +kernel
theorem dX13_appendText_23 : decode cX13_appendText 23 = .ok (.iload 6, 2) := by decide +kernel
theorem dX13_appendText_25 : decode cX13_appendText 25 = .ok (.bipush 20, 2) := by decide +kernel
theorem dX13_appendText_27 : decode cX13_appendText 27 = .ok (.if_icmp .ge 93, 3) := by decide +kernel
theorem dX13_appendText_30 : decode cX13_appendText 30 = .ok (.iload 6, 2) := by decide +kernel
theorem dX13_appendText_32 : decode cX13_appendText 32 = .ok (.iconst 4, 1) := by decide +kernel
theorem dX13_appendText_33 : decode cX13_appendText 33 = .ok (.if_icmp .ge 7, 3) := by decide +kernel
theorem dX13_appendText_36 : decode cX13_appendText 36 = .ok (.iload_n 1, 1) := by decide +kernel
theorem dX13_appendText_37 : decode cX13_appendText 37 = .ok (.goto 39, 3) := by decide +kernel
theorem dX13_appendText_40 : decode cX13_appendText 40 = .ok (.iload 6, 2) := by decide +kernel
theorem dX13_appendText_42 : decode cX13_appendText 42 = .ok (.bipush 8, 2) := by decide +kernel
theorem dX13_appendText_44 : decode cX13_appendText 44 = .ok (.if_icmp .ge 7, 3) := by decide +kernel
theorem dX13_appendText_47 : decode cX13_appendText 47 = .ok (.iload_n 2, 1) := by decide +kernel
theorem dX13_appendText_48 : decode cX13_appendText 48 = .ok (.goto 28, 3) := by decide +kernel
theorem dX13_appendText_51 : decode cX13_appendText 51 = .ok (.iload 6, 2) := by decide +kernel
theorem dX13_appendText_53 : decode cX13_appendText 53 = .ok (.bipush 12, 2) := by decide +kernel
theorem dX13_appendText_55 : decode cX13_appendText 55 = .ok (.if_icmp .ge 7, 3) := by decide +kernel
theorem dX13_appendText_58 : decode cX13_appendText 58 = .ok (.iload_n 3, 1) := by decide +kernel
theorem dX13_appendText_59 : decode cX13_appendText 59 = .ok (.goto 17, 3) := by decide +kernel
theorem dX13_appendText_62 : decode cX13_appendText 62 = .ok (.iload 6, 2) := by decide +kernel
theorem dX13_appendText_64 : decode cX13_appendText 64 = .ok (.bipush 16, 2) := by decide +kernel
theorem dX13_appendText_66 : decode cX13_appendText 66 = .ok (.if_icmp .ge 8, 3) := by decide +kernel
theorem dX13_appendText_69 : decode cX13_appendText 69 = .ok (.iload 4, 2) := by decide +kernel
theorem dX13_appendText_71 : decode cX13_appendText 71 = .ok (.goto 5, 3) := by decide +kernel
theorem dX13_appendText_74 : decode cX13_appendText 74 = .ok (.iload 5, 2) := by decide +kernel
theorem dX13_appendText_76 : decode cX13_appendText 76 = .ok (.istore 7, 2) := by decide +kernel
theorem dX13_appendText_78 : decode cX13_appendText 78 = .ok (.aload_n 0, 1) := by decide +kernel
theorem dX13_appendText_79 : decode cX13_appendText 79 = .ok (.getfield 37, 3) := by decide +kernel
theorem dX13_appendText_82 : decode cX13_appendText 82 = .ok (.aload_n 0, 1) := by decide +kernel
theorem dX13_appendText_83 : decode cX13_appendText 83 = .ok (.getfield 279, 3) := by decide +kernel
theorem dX13_appendText_86 : decode cX13_appendText 86 = .ok (.iload 7, 2) := by decide +kernel
theorem dX13_appendText_88 : decode cX13_appendText 88 = .ok (.bipush 24, 2) := by decide +kernel
theorem dX13_appendText_90 : decode cX13_appendText 90 = .ok (.bipush 8, 2) := by decide +kernel
theorem dX13_appendText_92 : decode cX13_appendText 92 = .ok (.iload 6, 2) := by decide +kernel
theorem dX13_appendText_94 : decode cX13_appendText 94 = .ok (.iconst 4, 1) := by decide +kernel
theorem dX13_appendText_95 : decode cX13_appendText 95 = .ok (.irem, 1) := by decide +kernel
theorem dX13_appendText_96 : decode cX13_appendText 96 = .ok (.imul, 1) := by decide +kernel
theorem dX13_appendText_97 : decode cX13_appendText 97 = .ok (.isub, 1) := by decide +kernel
theorem dX13_appendText_98 : decode cX13_appendText 98 = .ok (.ishr, 1) := by decide +kernel
theorem dX13_appendText_99 : decode cX13_appendText 99 = .ok (.sipush 255, 3) := by decide +kernel
theorem dX13_appendText_102 : decode cX13_appendText 102 = .ok (.iand, 1) := by decide +kernel
theorem dX13_appendText_103 : decode cX13_appendText 103 = .ok (.iastore, 1) := by decide +kernel
theorem dX13_appendText_104 : decode cX13_appendText 104 = .ok (.aload_n 0, 1) := by decide +kernel
theorem dX13_appendText_105 : decode cX13_appendText 105 = .ok (.dup, 1) := by decide +kernel
theorem dX13_appendText_106 : decode cX13_appendText 106 = .ok (.getfield 279, 3) := by decide +kernel
theorem dX13_appendText_109 : decode cX13_appendText 109 = .ok (.iconst 1, 1) := by decide +kernel
theorem dX13_appendText_110 : decode cX13_appendText 110 = .ok (.iadd, 1) := by decide +kernel
theorem dX13_appendText_111 : decode cX13_appendText 111 = .ok (.putfield 279, 3) := by decide +kernel
theorem dX13_appendText_114 : decode cX13_appendText 114 = .ok (.iinc 6 1, 3) := by decide +kernel
theorem dX13_appendText_117 : decode cX13_appendText 117 = .ok (.goto (-94), 3) := by decide +kernel
theorem dX13_appendText_120 : decode cX13_appendText 120 = .ok (.aload_n 0, 1) := by decide +kernel
theorem dX13_appendText_121 : decode cX13_appendText 121 = .ok (.getfield 279, 3) := by decide +kernel
theorem dX13_appendText_124 : decode cX13_appendText 124 = .ok (.ireturn, 1) := by decide +kernel
theorem dX13_errorOffset_0 : decode cX13_errorOffset 0 = .ok (.aload_n 0, 1) := by decide +kernel
theorem dX13_errorOffset_1 : decode cX13_errorOffset 1 = .ok (.iconst 0, 1) := by decide +kernel
theorem dX13_errorOffset_2 : decode cX13_errorOffset 2 = .ok (.putfield 77, 3) := by decide +kernel
theorem dX13_errorOffset_5 : decode cX13_errorOffset 5 = .ok (.aload_n 0, 1) := by decide +kernel
theorem dX13_errorOffset_6 : decode cX13_errorOffset 6 = .ok (.getfield 40, 3) := by decide +kernel
theorem dX13_errorOffset_9 : decode cX13_errorOffset 9 = .ok (.ireturn, 1) := by decide +kernel
theorem dX13_byteAt_0 : decode cX13_byteAt 0 = .ok (.iload_n 1, 1) := by decide +kernel
theorem dX13_byteAt_1 : decode cX13_byteAt 1 = .ok (.aload_n 0, 1) := by decide +kernel
theorem dX13_byteAt_2 : decode cX13_byteAt 2 = .ok (.getfield 282, 3) := by decide +kernel
theorem dX13_byteAt_5 : decode cX13_byteAt 5 = .ok (.if_icmp .ge 12, 3) := by decide +kernel
theorem dX13_byteAt_8 : decode cX13_byteAt 8 = .ok (.aload_n 0, 1) := by decide +kernel
theorem dX13_byteAt_9 : decode cX13_byteAt 9 = .ok (.getfield 37, 3) := by decide +kernel
theorem dX13_byteAt_12 : decode cX13_byteAt 12 = .ok (.iload_n 1, 1) := by decide +kernel
theorem dX13_byteAt_13 : decode cX13_byteAt 13 = .ok (.iaload, 1) := by decide +kernel
theorem dX13_byteAt_14 : decode cX13_byteAt 14 = .ok (.goto 4, 3) := by decide +kernel
theorem dX13_byteAt_17 : decode cX13_byteAt 17 = .ok (.iconst (-1), 1) := by decide +kernel
theorem dX13_byteAt_18 : decode cX13_byteAt 18 = .ok (.ireturn, 1) := by decide +kernel
theorem dX13_isLetter_0 : decode cX13_isLetter 0 = .ok (.aload_n 0, 1) := by decide +kernel
theorem dX13_isLetter_1 : decode cX13_isLetter 1 = .ok (.iload_n 1, 1) := by decide +kernel
theorem dX13_isLetter_2 : decode cX13_isLetter 2 = .ok (.invokevirtual 285, 3) := by decide +kernel
theorem dX13_isLetter_5 : decode cX13_isLetter 5 = .ok (.bipush 97, 2) := by decide +kernel
theorem dX13_isLetter_7 : decode cX13_isLetter 7 = .ok (.if_icmp .lt 17, 3) := by decide +kernel
theorem dX13_isLetter_10 : decode cX13_isLetter 10 = .ok (.aload_n 0, 1) := by decide +kernel
theorem dX13_isLetter_11 : decode cX13_isLetter 11 = .ok (.iload_n 1, 1) := by decide +kernel
theorem dX13_isLetter_12 : decode cX13_isLetter 12 = .ok (.invokevirtual 285, 3) := by decide +kernel
theorem dX13_isLetter_15 : decode cX13_isLetter 15 = .ok (.bipush 122, 2) := by decide +kernel
theorem dX13_isLetter_17 : decode cX13_isLetter 17 = .ok (.if_icmp .gt 7, 3) := by decide +kernel
theorem dX13_isLetter_20 : decode cX13_isLetter 20 = .ok (.iconst 1, 1) := by decide +kernel
theorem dX13_isLetter_21 : decode cX13_isLetter 21 = .ok (.goto 4, 3) := by decide +kernel
theorem dX13_isLetter_24 : decode cX13_isLetter 24 = .ok (.iconst 0, 1) := by decide +kernel
theorem dX13_isLetter_25 : decode cX13_isLetter 25 = .ok (.ireturn, 1) := by decide +kernel
theorem dX13_isDigit_0 : decode cX13_isDigit 0 = .ok (.aload_n 0, 1) := by decide +kernel
theorem dX13_isDigit_1 : decode cX13_isDigit 1 = .ok (.iload_n 1, 1) := by decide +kernel
theorem dX13_isDigit_2 : decode cX13_isDigit 2 = .ok (.invokevirtual 285, 3) := by decide +kernel
theorem dX13_isDigit_5 : decode cX13_isDigit 5 = .ok (.bipush 48, 2) := by decide +kernel
theorem dX13_isDigit_7 : decode cX13_isDigit 7 = .ok (.if_icmp .lt 17, 3) := by decide +kernel
theorem dX13_isDigit_10 : decode cX13_isDigit 10 = .ok (.aload_n 0, 1) := by decide +kernel
theorem dX13_isDigit_11 : decode cX13_isDigit 11 = .ok (.iload_n 1, 1) := by decide +kernel
theorem dX13_isDigit_12 : decode cX13_isDigit 12 = .ok (.invokevirtual 285, 3) := by decide +kernel
theorem dX13_isDigit_15 : decode cX13_isDigit 15 = .ok (.bipush 57, 2) := by decide +kernel
theorem dX13_isDigit_17 : decode cX13_isDigit 17 = .ok (.if_icmp .gt 7, 3) := by decide +kernel
theorem dX13_isDigit_20 : decode cX13_isDigit 20 = .ok (.iconst 1, 1) := by decide +kernel
theorem dX13_isDigit_21 : decode cX13_isDigit 21 = .ok (.goto 4, 3) := by decide +kernel
theorem dX13_isDigit_24 : decode cX13_isDigit 24 = .ok (.iconst 0, 1) := by decide +kernel
theorem dX13_isDigit_25 : decode cX13_isDigit 25 = .ok (.ireturn, 1) := by decide +kernel
theorem dX13_scan_0 : decode cX13_scan 0 = .ok (.aload_n 0, 1) := by decide +kernel
theorem dX13_scan_1 : decode cX13_scan 1 = .ok (.aload_n 0, 1) := by decide +kernel
theorem dX13_scan_2 : decode cX13_scan 2 = .ok (.getfield 288, 3) := by decide +kernel
theorem dX13_scan_5 : decode cX13_scan 5 = .ok (.invokevirtual 285, 3) := by decide +kernel
theorem dX13_scan_8 : decode cX13_scan 8 = .ok (.bipush 32, 2) := by decide +kernel
theorem dX13_scan_10 : decode cX13_scan 10 = .ok (.if_icmp .eq 16, 3) := by decide +kernel
theorem dX13_scan_13 : decode cX13_scan 13 = .ok (.aload_n 0, 1) := by decide +kernel
theorem dX13_scan_14 : decode cX13_scan 14 = .ok (.aload_n 0, 1) := by decide +kernel
theorem dX13_scan_15 : decode cX13_scan 15 = .ok (.getfield 288, 3) := by decide +kernel
theorem dX13_scan_18 : decode cX13_scan 18 = .ok (.invokevirtual 285, 3) := by decide +kernel
theorem dX13_scan_21 : decode cX13_scan 21 = .ok (.bipush 10, 2) := by decide +kernel
theorem dX13_scan_23 : decode cX13_scan 23 = .ok (.if_icmp .ne 16, 3) := by decide +kernel
theorem dX13_scan_26 : decode cX13_scan 26 = .ok (.aload_n 0, 1) := by decide +kernel
theorem dX13_scan_27 : decode cX13_scan 27 = .ok (.dup, 1) := by decide +kernel
theorem dX13_scan_28 : decode cX13_scan 28 = .ok (.getfield 288, 3) := by decide +kernel
theorem dX13_scan_31 : decode cX13_scan 31 = .ok (.iconst 1, 1) := by decide +kernel
theorem dX13_scan_32 : decode cX13_scan 32 = .ok (.iadd, 1) := by decide +kernel
theorem dX13_scan_33 : decode cX13_scan 33 = .ok (.putfield 288, 3) := by decide +kernel
theorem dX13_scan_36 : decode cX13_scan 36 = .ok (.goto (-36), 3) := by decide +kernel
theorem dX13_scan_39 : decode cX13_scan 39 = .ok (.aload_n 0, 1) := by decide +kernel
theorem dX13_scan_40 : decode cX13_scan 40 = .ok (.aload_n 0, 1) := by decide +kernel
theorem dX13_scan_41 : decode cX13_scan 41 = .ok (.getfield 288, 3) := by decide +kernel
theorem dX13_scan_44 : decode cX13_scan 44 = .ok (.putfield 291, 3) := by decide +kernel
theorem dX13_scan_47 : decode cX13_scan 47 = .ok (.aload_n 0, 1) := by decide +kernel
theorem dX13_scan_48 : decode cX13_scan 48 = .ok (.getfield 288, 3) := by decide +kernel
theorem dX13_scan_51 : decode cX13_scan 51 = .ok (.aload_n 0, 1) := by decide +kernel
theorem dX13_scan_52 : decode cX13_scan 52 = .ok (.getfield 282, 3) := by decide +kernel
theorem dX13_scan_55 : decode cX13_scan 55 = .ok (.if_icmp .lt 11, 3) := by decide +kernel
theorem dX13_scan_58 : decode cX13_scan 58 = .ok (.aload_n 0, 1) := by decide +kernel
theorem dX13_scan_59 : decode cX13_scan 59 = .ok (.iconst 0, 1) := by decide +kernel
theorem dX13_scan_60 : decode cX13_scan 60 = .ok (.putfield 294, 3) := by decide +kernel
theorem dX13_scan_63 : decode cX13_scan 63 = .ok (.goto 104, 3) := by decide +kernel
theorem dX13_scan_66 : decode cX13_scan 66 = .ok (.aload_n 0, 1) := by decide +kernel
theorem dX13_scan_67 : decode cX13_scan 67 = .ok (.aload_n 0, 1) := by decide +kernel
theorem dX13_scan_68 : decode cX13_scan 68 = .ok (.getfield 288, 3) := by decide +kernel
theorem dX13_scan_71 : decode cX13_scan 71 = .ok (.invokevirtual 297, 3) := by decide +kernel
theorem dX13_scan_74 : decode cX13_scan 74 = .ok (.ifCond .eq 35, 3) := by decide +kernel
theorem dX13_scan_77 : decode cX13_scan 77 = .ok (.aload_n 0, 1) := by decide +kernel
theorem dX13_scan_78 : decode cX13_scan 78 = .ok (.aload_n 0, 1) := by decide +kernel
theorem dX13_scan_79 : decode cX13_scan 79 = .ok (.getfield 288, 3) := by decide +kernel
theorem dX13_scan_82 : decode cX13_scan 82 = .ok (.invokevirtual 297, 3) := by decide +kernel
theorem dX13_scan_85 : decode cX13_scan 85 = .ok (.ifCond .eq 16, 3) := by decide +kernel
theorem dX13_scan_88 : decode cX13_scan 88 = .ok (.aload_n 0, 1) := by decide +kernel
theorem dX13_scan_89 : decode cX13_scan 89 = .ok (.dup, 1) := by decide +kernel
theorem dX13_scan_90 : decode cX13_scan 90 = .ok (.getfield 288, 3) := by decide +kernel
theorem dX13_scan_93 : decode cX13_scan 93 = .ok (.iconst 1, 1) := by decide +kernel
theorem dX13_scan_94 : decode cX13_scan 94 = .ok (.iadd, 1) := by decide +kernel
theorem dX13_scan_95 : decode cX13_scan 95 = .ok (.putfield 288, 3) := by decide +kernel
theorem dX13_scan_98 : decode cX13_scan 98 = .ok (.goto (-21), 3) := by decide +kernel
theorem dX13_scan_101 : decode cX13_scan 101 = .ok (.aload_n 0, 1) := by decide +kernel
theorem dX13_scan_102 : decode cX13_scan 102 = .ok (.iconst 1, 1) := by decide +kernel
theorem dX13_scan_103 : decode cX13_scan 103 = .ok (.putfield 294, 3) := by decide +kernel
theorem dX13_scan_106 : decode cX13_scan 106 = .ok (.goto 61, 3) := by decide +kernel
theorem dX13_scan_109 : decode cX13_scan 109 = .ok (.aload_n 0, 1) := by decide +kernel
theorem dX13_scan_110 : decode cX13_scan 110 = .ok (.aload_n 0, 1) := by decide +kernel
theorem dX13_scan_111 : decode cX13_scan 111 = .ok (.getfield 288, 3) := by decide +kernel
theorem dX13_scan_114 : decode cX13_scan 114 = .ok (.invokevirtual 300, 3) := by decide +kernel
theorem dX13_scan_117 : decode cX13_scan 117 = .ok (.ifCond .eq 35, 3) := by decide +kernel
theorem dX13_scan_120 : decode cX13_scan 120 = .ok (.aload_n 0, 1) := by decide +kernel
theorem dX13_scan_121 : decode cX13_scan 121 = .ok (.aload_n 0, 1) := by decide +kernel
theorem dX13_scan_122 : decode cX13_scan 122 = .ok (.getfield 288, 3) := by decide +kernel
theorem dX13_scan_125 : decode cX13_scan 125 = .ok (.invokevirtual 300, 3) := by decide +kernel
theorem dX13_scan_128 : decode cX13_scan 128 = .ok (.ifCond .eq 16, 3) := by decide +kernel
theorem dX13_scan_131 : decode cX13_scan 131 = .ok (.aload_n 0, 1) := by decide +kernel
theorem dX13_scan_132 : decode cX13_scan 132 = .ok (.dup, 1) := by decide +kernel
theorem dX13_scan_133 : decode cX13_scan 133 = .ok (.getfield 288, 3) := by decide +kernel
theorem dX13_scan_136 : decode cX13_scan 136 = .ok (.iconst 1, 1) := by decide +kernel
theorem dX13_scan_137 : decode cX13_scan 137 = .ok (.iadd, 1) := by decide +kernel
theorem dX13_scan_138 : decode cX13_scan 138 = .ok (.putfield 288, 3) := by decide +kernel
theorem dX13_scan_141 : decode cX13_scan 141 = .ok (.goto (-21), 3) := by decide +kernel
theorem dX13_scan_144 : decode cX13_scan 144 = .ok (.aload_n 0, 1) := by decide +kernel
theorem dX13_scan_145 : decode cX13_scan 145 = .ok (.iconst 2, 1) := by decide +kernel
theorem dX13_scan_146 : decode cX13_scan 146 = .ok (.putfield 294, 3) := by decide +kernel
theorem dX13_scan_149 : decode cX13_scan 149 = .ok (.goto 18, 3) := by decide +kernel
theorem dX13_scan_152 : decode cX13_scan 152 = .ok (.aload_n 0, 1) := by decide +kernel
theorem dX13_scan_153 : decode cX13_scan 153 = .ok (.dup, 1) := by decide +kernel
theorem dX13_scan_154 : decode cX13_scan 154 = .ok (.getfield 288, 3) := by decide +kernel
theorem dX13_scan_157 : decode cX13_scan 157 = .ok (.iconst 1, 1) := by decide +kernel
theorem dX13_scan_158 : decode cX13_scan 158 = .ok (.iadd, 1) := by decide +kernel
theorem dX13_scan_159 : decode cX13_scan 159 = .ok (.putfield 288, 3) := by decide +kernel
theorem dX13_scan_162 : decode cX13_scan 162 = .ok (.aload_n 0, 1) := by decide +kernel
theorem dX13_scan_163 : decode cX13_scan 163 = .ok (.iconst 3, 1) := by decide +kernel
theorem dX13_scan_164 : decode cX13_scan 164 = .ok (.putfield 294, 3) := by decide +kernel
theorem dX13_scan_167 : decode cX13_scan 167 = .ok (.return_, 1) := by decide +kernel
theorem dX13_startText_0 : decode cX13_startText 0 = .ok (.aload_n 0, 1) := by decide +kernel
theorem dX13_startText_1 : decode cX13_startText 1 = .ok (.iload_n 1, 1) := by decide +kernel
theorem dX13_startText_2 : decode cX13_startText 2 = .ok (.putfield 282, 3) := by decide +kernel
theorem dX13_startText_5 : decode cX13_startText 5 = .ok (.aload_n 0, 1) := by decide +kernel
theorem dX13_startText_6 : decode cX13_startText 6 = .ok (.iconst 0, 1) := by decide +kernel
theorem dX13_startText_7 : decode cX13_startText 7 = .ok (.putfield 288, 3) := by decide +kernel
theorem dX13_startText_10 : decode cX13_startText 10 = .ok (.aload_n 0, 1) := by decide +kernel
theorem dX13_startText_11 : decode cX13_startText 11 = .ok (.iconst 0, 1) := by decide +kernel
theorem dX13_startText_12 : decode cX13_startText 12 = .ok (.putfield 303, 3) := by decide +kernel
theorem dX13_startText_15 : decode cX13_startText 15 = .ok (.aload_n 0, 1) := by decide +kernel
theorem dX13_startText_16 : decode cX13_startText 16 = .ok (.iconst 0, 1) := by decide +kernel
theorem dX13_startText_17 : decode cX13_startText 17 = .ok (.putfield 306, 3) := by decide +kernel
theorem dX13_startText_20 : decode cX13_startText 20 = .ok (.aload_n 0, 1) := by decide +kernel
theorem dX13_startText_21 : decode cX13_startText 21 = .ok (.invokevirtual 309, 3) := by decide +kernel
theorem dX13_startText_24 : decode cX13_startText 24 = .ok (.return_, 1) := by decide +kernel
theorem dX13_finish_0 : decode cX13_finish 0 = .ok (.aload_n 0, 1) := by decide +kernel
theorem dX13_finish_1 : decode cX13_finish 1 = .ok (.iconst 0, 1) := by decide +kernel
theorem dX13_finish_2 : decode cX13_finish 2 = .ok (.putfield 279, 3) := by decide +kernel
theorem dX13_finish_5 : decode cX13_finish 5 = .ok (.aload_n 0, 1) := by decide +kernel
theorem dX13_finish_6 : decode cX13_finish 6 = .ok (.aload_n 0, 1) := by decide +kernel
theorem dX13_finish_7 : decode cX13_finish 7 = .ok (.getfield 303, 3) := by decide +kernel
theorem dX13_finish_10 : decode cX13_finish 10 = .ok (.ifCond .ne 7, 3) := by decide +kernel
theorem dX13_finish_13 : decode cX13_finish 13 = .ok (.iconst (-1), 1) := by decide +kernel
theorem dX13_finish_14 : decode cX13_finish 14 = .ok (.goto 7, 3) := by decide +kernel
theorem dX13_finish_17 : decode cX13_finish 17 = .ok (.aload_n 0, 1) := by decide +kernel
theorem dX13_finish_18 : decode cX13_finish 18 = .ok (.getfield 312, 3) := by decide +kernel
theorem dX13_finish_21 : decode cX13_finish 21 = .ok (.putfield 40, 3) := by decide +kernel
theorem dX13_finish_24 : decode cX13_finish 24 = .ok (.aload_n 0, 1) := by decide +kernel
theorem dX13_finish_25 : decode cX13_finish 25 = .ok (.getfield 303, 3) := by decide +kernel
theorem dX13_finish_28 : decode cX13_finish 28 = .ok (.ireturn, 1) := by decide +kernel
theorem dX13_check_0 : decode cX13_check 0 = .ok (.iload_n 1, 1) := by decide +kernel
theorem dX13_check_1 : decode cX13_check 1 = .ok (.ifCond .ne 23, 3) := by decide +kernel
theorem dX13_check_4 : decode cX13_check 4 = .ok (.aload_n 0, 1) := by decide +kernel
theorem dX13_check_5 : decode cX13_check 5 = .ok (.getfield 303, 3) := by decide +kernel
theorem dX13_check_8 : decode cX13_check 8 = .ok (.ifCond .ne 16, 3) := by decide +kernel
theorem dX13_check_11 : decode cX13_check 11 = .ok (.aload_n 0, 1) := by decide +kernel
theorem dX13_check_12 : decode cX13_check 12 = .ok (.iload_n 2, 1) := by decide +kernel
theorem dX13_check_13 : decode cX13_check 13 = .ok (.putfield 303, 3) := by decide +kernel
theorem dX13_check_16 : decode cX13_check 16 = .ok (.aload_n 0, 1) := by decide +kernel
theorem dX13_check_17 : decode cX13_check 17 = .ok (.aload_n 0, 1) := by decide +kernel
theorem dX13_check_18 : decode cX13_check 18 = .ok (.getfield 291, 3) := by decide +kernel
theorem dX13_check_21 : decode cX13_check 21 = .ok (.putfield 312, 3) := by decide +kernel
theorem dX13_check_24 : decode cX13_check 24 = .ok (.return_, 1) := by decide +kernel
theorem dX13_goOn_0 : decode cX13_goOn 0 = .ok (.aload_n 0, 1) := by decide +kernel
theorem dX13_goOn_1 : decode cX13_goOn 1 = .ok (.getfield 303, 3) := by decide +kernel
theorem dX13_goOn_4 : decode cX13_goOn 4 = .ok (.ifCond .ne 7, 3) := by decide +kernel
theorem dX13_goOn_7 : decode cX13_goOn 7 = .ok (.aload_n 0, 1) := by decide +kernel
theorem dX13_goOn_8 : decode cX13_goOn 8 = .ok (.invokevirtual 309, 3) := by decide +kernel
theorem dX13_goOn_11 : decode cX13_goOn 11 = .ok (.return_, 1) := by decide +kernel
theorem dX13_isSymbol_0 : decode cX13_isSymbol 0 = .ok (.aload_n 0, 1) := by decide +kernel
theorem dX13_isSymbol_1 : decode cX13_isSymbol 1 = .ok (.getfield 303, 3) := by decide +kernel
theorem dX13_isSymbol_4 : decode cX13_isSymbol 4 = .ok (.ifCond .ne 28, 3) := by decide +kernel
theorem dX13_isSymbol_7 : decode cX13_isSymbol 7 = .ok (.aload_n 0, 1) := by decide +kernel
theorem dX13_isSymbol_8 : decode cX13_isSymbol 8 = .ok (.getfield 294, 3) := by decide +kernel
theorem dX13_isSymbol_11 : decode cX13_isSymbol 11 = .ok (.iconst 3, 1) := by decide +kernel
theorem dX13_isSymbol_12 : decode cX13_isSymbol 12 = .ok (.if_icmp .ne 20, 3) := by decide +kernel
theorem dX13_isSymbol_15 : decode cX13_isSymbol 15 = .ok (.aload_n 0, 1) := by decide +kernel
theorem dX13_isSymbol_16 : decode cX13_isSymbol 16 = .ok (.getfield 37, 3) := by decide +kernel
theorem dX13_isSymbol_19 : decode cX13_isSymbol 19 = .ok (.aload_n 0, 1) := by decide +kernel
theorem dX13_isSymbol_20 : decode cX13_isSymbol 20 = .ok (.getfield 291, 3) := by decide +kernel
theorem dX13_isSymbol_23 : decode cX13_isSymbol 23 = .ok (.iaload, 1) := by decide +kernel
theorem dX13_isSymbol_24 : decode cX13_isSymbol 24 = .ok (.iload_n 1, 1) := by decide +kernel
theorem dX13_isSymbol_25 : decode cX13_isSymbol 25 = .ok (.if_icmp .ne 7, 3) := by decide +kernel
theorem dX13_isSymbol_28 : decode cX13_isSymbol 28 = .ok (.iconst 1, 1) := by decide +kernel
theorem dX13_isSymbol_29 : decode cX13_isSymbol 29 = .ok (.goto 4, 3) := by decide +kernel
theorem dX13_isSymbol_32 : decode cX13_isSymbol 32 = .ok (.iconst 0, 1) := by decide +kernel
theorem dX13_isSymbol_33 : decode cX13_isSymbol 33 = .ok (.ireturn, 1) := by decide +kernel
theorem dX13_isWord_0 : decode cX13_isWord 0 = .ok (.aload_n 0, 1) := by decide +kernel
theorem dX13_isWord_1 : decode cX13_isWord 1 = .ok (.getfield 303, 3) := by decide +kernel
theorem dX13_isWord_4 : decode cX13_isWord 4 = .ok (.ifCond .ne 31, 3) := by decide +kernel
theorem dX13_isWord_7 : decode cX13_isWord 7 = .ok (.aload_n 0, 1) := by decide +kernel
theorem dX13_isWord_8 : decode cX13_isWord 8 = .ok (.getfield 294, 3) := by decide +kernel
theorem dX13_isWord_11 : decode cX13_isWord 11 = .ok (.iconst 1, 1) := by decide +kernel
theorem dX13_isWord_12 : decode cX13_isWord 12 = .ok (.if_icmp .ne 23, 3) := by decide +kernel
theorem dX13_isWord_15 : decode cX13_isWord 15 = .ok (.aload_n 1, 1) := by decide +kernel
theorem dX13_isWord_16 : decode cX13_isWord 16 = .ok (.invokevirtual 315, 3) := by decide +kernel
theorem dX13_isWord_19 : decode cX13_isWord 19 = .ok (.aload_n 0, 1) := by decide +kernel
theorem dX13_isWord_20 : decode cX13_isWord 20 = .ok (.getfield 288, 3) := by decide +kernel
theorem dX13_isWord_23 : decode cX13_isWord 23 = .ok (.aload_n 0, 1) := by decide +kernel
theorem dX13_isWord_24 : decode cX13_isWord 24 = .ok (.getfield 291, 3) := by decide +kernel
theorem dX13_isWord_27 : decode cX13_isWord 27 = .ok (.isub, 1) := by decide +kernel
theorem dX13_isWord_28 : decode cX13_isWord 28 = .ok (.if_icmp .ne 7, 3) := by decide +kernel
theorem dX13_isWord_31 : decode cX13_isWord 31 = .ok (.iconst 1, 1) := by decide +kernel
theorem dX13_isWord_32 : decode cX13_isWord 32 = .ok (.goto 4, 3) := by decide +kernel
theorem dX13_isWord_35 : decode cX13_isWord 35 = .ok (.iconst 0, 1) := by decide +kernel
theorem dX13_isWord_36 : decode cX13_isWord 36 = .ok (.istore_n 2, 1) := by decide +kernel
theorem dX13_isWord_37 : decode cX13_isWord 37 = .ok (.iconst 0, 1) := by decide +kernel
theorem dX13_isWord_38 : decode cX13_isWord 38 = .ok (.istore_n 3, 1) := by decide +kernel
theorem dX13_isWord_39 : decode cX13_isWord 39 = .ok (.iload_n 2, 1) := by decide +kernel
theorem dX13_isWord_40 : decode cX13_isWord 40 = .ok (.ifCond .eq 42, 3) := by decide +kernel
theorem dX13_isWord_43 : decode cX13_isWord 43 = .ok (.iload_n 3, 1) := by decide +kernel
theorem dX13_isWord_44 : decode cX13_isWord 44 = .ok (.aload_n 1, 1) := by decide +kernel
theorem dX13_isWord_45 : decode cX13_isWord 45 = .ok (.invokevirtual 315, 3) := by decide +kernel
theorem dX13_isWord_48 : decode cX13_isWord 48 = .ok (.if_icmp .ge 34, 3) := by decide +kernel
theorem dX13_isWord_51 : decode cX13_isWord 51 = .ok (.aload_n 1, 1) := by decide +kernel
theorem dX13_isWord_52 : decode cX13_isWord 52 = .ok (.iload_n 3, 1) := by decide +kernel
theorem dX13_isWord_53 : decode cX13_isWord 53 = .ok (.invokevirtual 318, 3) := by decide +kernel
theorem dX13_isWord_56 : decode cX13_isWord 56 = .ok (.aload_n 0, 1) := by decide +kernel
theorem dX13_isWord_57 : decode cX13_isWord 57 = .ok (.getfield 37, 3) := by decide +kernel
theorem dX13_isWord_60 : decode cX13_isWord 60 = .ok (.aload_n 0, 1) := by decide +kernel
theorem dX13_isWord_61 : decode cX13_isWord 61 = .ok (.getfield 291, 3) := by decide +kernel
theorem dX13_isWord_64 : decode cX13_isWord 64 = .ok (.iload_n 3, 1) := by decide +kernel
theorem dX13_isWord_65 : decode cX13_isWord 65 = .ok (.iadd, 1) := by decide +kernel
theorem dX13_isWord_66 : decode cX13_isWord 66 = .ok (.iaload, 1) := by decide +kernel
theorem dX13_isWord_67 : decode cX13_isWord 67 = .ok (.if_icmp .ne 7, 3) := by decide +kernel
theorem dX13_isWord_70 : decode cX13_isWord 70 = .ok (.iconst 1, 1) := by decide +kernel
theorem dX13_isWord_71 : decode cX13_isWord 71 = .ok (.goto 4, 3) := by decide +kernel
theorem dX13_isWord_74 : decode cX13_isWord 74 = .ok (.iconst 0, 1) := by decide +kernel
theorem dX13_isWord_75 : decode cX13_isWord 75 = .ok (.istore_n 2, 1) := by decide +kernel
theorem dX13_isWord_76 : decode cX13_isWord 76 = .ok (.iinc 3 1, 3) := by decide +kernel
theorem dX13_isWord_79 : decode cX13_isWord 79 = .ok (.goto (-40), 3) := by decide +kernel
theorem dX13_isWord_82 : decode cX13_isWord 82 = .ok (.iload_n 2, 1) := by decide +kernel
theorem dX13_isWord_83 : decode cX13_isWord 83 = .ok (.ireturn, 1) := by decide +kernel
theorem dX13_expect_0 : decode cX13_expect 0 = .ok (.aload_n 0, 1) := by decide +kernel
theorem dX13_expect_1 : decode cX13_expect 1 = .ok (.aload_n 0, 1) := by decide +kernel
theorem dX13_expect_2 : decode cX13_expect 2 = .ok (.iload_n 1, 1) := by decide +kernel
theorem dX13_expect_3 : decode cX13_expect 3 = .ok (.invokevirtual 326, 3) := by decide +kernel
theorem dX13_expect_6 : decode cX13_expect 6 = .ok (.iconst 1, 1) := by decide +kernel
theorem dX13_expect_7 : decode cX13_expect 7 = .ok (.invokevirtual 329, 3) := by decide +kernel
theorem dX13_expect_10 : decode cX13_expect 10 = .ok (.aload_n 0, 1) := by decide +kernel
theorem dX13_expect_11 : decode cX13_expect 11 = .ok (.invokevirtual 333, 3) := by decide +kernel
theorem dX13_expect_14 : decode cX13_expect 14 = .ok (.return_, 1) := by decide +kernel
theorem dX13_value_0 : decode cX13_value 0 = .ok (.iconst 0, 1) := by decide +kernel
theorem dX13_value_1 : decode cX13_value 1 = .ok (.istore_n 1, 1) := by decide +kernel
theorem dX13_value_2 : decode cX13_value 2 = .ok (.aload_n 0, 1) := by decide +kernel
theorem dX13_value_3 : decode cX13_value 3 = .ok (.getfield 291, 3) := by decide +kernel
theorem dX13_value_6 : decode cX13_value 6 = .ok (.istore_n 2, 1) := by decide +kernel
theorem dX13_value_7 : decode cX13_value 7 = .ok (.iload_n 2, 1) := by decide +kernel
theorem dX13_value_8 : decode cX13_value 8 = .ok (.aload_n 0, 1) := by decide +kernel
theorem dX13_value_9 : decode cX13_value 9 = .ok (.getfield 288, 3) := by decide +kernel
theorem dX13_value_12 : decode cX13_value 12 = .ok (.if_icmp .ge 43, 3) := by decide +kernel
theorem dX13_value_15 : decode cX13_value 15 = .ok (.aload_n 0, 1) := by decide +kernel
theorem dX13_value_16 : decode cX13_value 16 = .ok (.getfield 294, 3) := by decide +kernel
theorem dX13_value_19 : decode cX13_value 19 = .ok (.iconst 2, 1) := by decide +kernel
theorem dX13_value_20 : decode cX13_value 20 = .ok (.if_icmp .ne 35, 3) := by decide +kernel
theorem dX13_value_23 : decode cX13_value 23 = .ok (.iload_n 1, 1) := by decide +kernel
theorem dX13_value_24 : decode cX13_value 24 = .ok (.ldc_w 336, 3) := by decide +kernel
theorem dX13_value_27 : decode cX13_value 27 = .ok (.if_icmp .le 7, 3) := by decide +kernel
theorem dX13_value_30 : decode cX13_value 30 = .ok (.iload_n 1, 1) := by decide +kernel
theorem dX13_value_31 : decode cX13_value 31 = .ok (.goto 17, 3) := by decide +kernel
theorem dX13_value_34 : decode cX13_value 34 = .ok (.bipush 10, 2) := by decide +kernel
theorem dX13_value_36 : decode cX13_value 36 = .ok (.iload_n 1, 1) := by decide +kernel
theorem dX13_value_37 : decode cX13_value 37 = .ok (.imul, 1) := by decide +kernel
theorem dX13_value_38 : decode cX13_value 38 = .ok (.aload_n 0, 1) := by decide +kernel
theorem dX13_value_39 : decode cX13_value 39 = .ok (.getfield 37, 3) := by decide +kernel
theorem dX13_value_42 : decode cX13_value 42 = .ok (.iload_n 2, 1) := by decide +kernel
theorem dX13_value_43 : decode cX13_value 43 = .ok (.iaload, 1) := by decide +kernel
theorem dX13_value_44 : decode cX13_value 44 = .ok (.iadd, 1) := by decide +kernel
theorem dX13_value_45 : decode cX13_value 45 = .ok (.bipush 48, 2) := by decide +kernel
theorem dX13_value_47 : decode cX13_value 47 = .ok (.isub, 1) := by decide +kernel
theorem dX13_value_48 : decode cX13_value 48 = .ok (.istore_n 1, 1) := by decide +kernel
theorem dX13_value_49 : decode cX13_value 49 = .ok (.iinc 2 1, 3) := by decide +kernel
theorem dX13_value_52 : decode cX13_value 52 = .ok (.goto (-45), 3) := by decide +kernel
theorem dX13_value_55 : decode cX13_value 55 = .ok (.iload_n 1, 1) := by decide +kernel
theorem dX13_value_56 : decode cX13_value 56 = .ok (.ireturn, 1) := by decide +kernel
theorem dX13_look_0 : decode cX13_look 0 = .ok (.aload_n 0, 1) := by decide +kernel
theorem dX13_look_1 : decode cX13_look 1 = .ok (.aload_n 0, 1) := by decide +kernel
theorem dX13_look_2 : decode cX13_look 2 = .ok (.getfield 294, 3) := by decide +kernel
theorem dX13_look_5 : decode cX13_look 5 = .ok (.iconst 2, 1) := by decide +kernel
theorem dX13_look_6 : decode cX13_look 6 = .ok (.if_icmp .ne 7, 3) := by decide +kernel
theorem dX13_look_9 : decode cX13_look 9 = .ok (.iconst 1, 1) := by decide +kernel
theorem dX13_look_10 : decode cX13_look 10 = .ok (.goto 4, 3) := by decide +kernel
theorem dX13_look_13 : decode cX13_look 13 = .ok (.iconst 0, 1) := by decide +kernel
theorem dX13_look_14 : decode cX13_look 14 = .ok (.iconst 1, 1) := by decide +kernel
theorem dX13_look_15 : decode cX13_look 15 = .ok (.invokevirtual 329, 3) := by decide +kernel
theorem dX13_look_18 : decode cX13_look 18 = .ok (.aload_n 0, 1) := by decide +kernel
theorem dX13_look_19 : decode cX13_look 19 = .ok (.invokevirtual 337, 3) := by decide +kernel
theorem dX13_look_22 : decode cX13_look 22 = .ok (.istore_n 3, 1) := by decide +kernel
theorem dX13_look_23 : decode cX13_look 23 = .ok (.aload_n 0, 1) := by decide +kernel
theorem dX13_look_24 : decode cX13_look 24 = .ok (.iload_n 3, 1) := by decide +kernel
theorem dX13_look_25 : decode cX13_look 25 = .ok (.iload_n 1, 1) := by decide +kernel
theorem dX13_look_26 : decode cX13_look 26 = .ok (.iload_n 2, 1) := by decide +kernel
theorem dX13_look_27 : decode cX13_look 27 = .ok (.invokestatic 92, 3) := by decide +kernel
theorem dX13_look_30 : decode cX13_look 30 = .ok (.iconst 2, 1) := by decide +kernel
theorem dX13_look_31 : decode cX13_look 31 = .ok (.invokevirtual 329, 3) := by decide +kernel
theorem dX13_look_34 : decode cX13_look 34 = .ok (.aload_n 0, 1) := by decide +kernel
theorem dX13_look_35 : decode cX13_look 35 = .ok (.getfield 303, 3) := by decide +kernel
theorem dX13_look_38 : decode cX13_look 38 = .ok (.ifCond .ne 7, 3) := by decide +kernel
theorem dX13_look_41 : decode cX13_look 41 = .ok (.iload_n 3, 1) := by decide +kernel
theorem dX13_look_42 : decode cX13_look 42 = .ok (.goto 4, 3) := by decide +kernel
theorem dX13_look_45 : decode cX13_look 45 = .ok (.iload_n 1, 1) := by decide +kernel
theorem dX13_look_46 : decode cX13_look 46 = .ok (.ireturn, 1) := by decide +kernel
theorem dX13_readNumber_0 : decode cX13_readNumber 0 = .ok (.aload_n 0, 1) := by decide +kernel
theorem dX13_readNumber_1 : decode cX13_readNumber 1 = .ok (.iload_n 1, 1) := by decide +kernel
theorem dX13_readNumber_2 : decode cX13_readNumber 2 = .ok (.iload_n 2, 1) := by decide +kernel
theorem dX13_readNumber_3 : decode cX13_readNumber 3 = .ok (.invokevirtual 340, 3) := by decide +kernel
theorem dX13_readNumber_6 : decode cX13_readNumber 6 = .ok (.istore_n 3, 1) := by decide +kernel
theorem dX13_readNumber_7 : decode cX13_readNumber 7 = .ok (.aload_n 0, 1) := by decide +kernel
theorem dX13_readNumber_8 : decode cX13_readNumber 8 = .ok (.invokevirtual 333, 3) := by decide +kernel
theorem dX13_readNumber_11 : decode cX13_readNumber 11 = .ok (.iload_n 3, 1) := by decide +kernel
theorem dX13_readNumber_12 : decode cX13_readNumber 12 = .ok (.ireturn, 1) := by decide +kernel
theorem dX13_errorCode_0 : decode cX13_errorCode 0 = .ok (.aload_n 0, 1) := by decide +kernel
theorem dX13_errorCode_1 : decode cX13_errorCode 1 = .ok (.iconst 0, 1) := by decide +kernel
theorem dX13_errorCode_2 : decode cX13_errorCode 2 = .ok (.putfield 77, 3) := by decide +kernel
theorem dX13_errorCode_5 : decode cX13_errorCode 5 = .ok (.aload_n 0, 1) := by decide +kernel
theorem dX13_errorCode_6 : decode cX13_errorCode 6 = .ok (.getfield 343, 3) := by decide +kernel
theorem dX13_errorCode_9 : decode cX13_errorCode 9 = .ok (.ireturn, 1) := by decide +kernel
theorem dX13_isFaulty_0 : decode cX13_isFaulty 0 = .ok (.aload_n 0, 1) := by decide +kernel
theorem dX13_isFaulty_1 : decode cX13_isFaulty 1 = .ok (.aload_n 0, 1) := by decide +kernel
theorem dX13_isFaulty_2 : decode cX13_isFaulty 2 = .ok (.invokevirtual 346, 3) := by decide +kernel
theorem dX13_isFaulty_5 : decode cX13_isFaulty 5 = .ok (.putfield 343, 3) := by decide +kernel
theorem dX13_isFaulty_8 : decode cX13_isFaulty 8 = .ok (.aload_n 0, 1) := by decide +kernel
theorem dX13_isFaulty_9 : decode cX13_isFaulty 9 = .ok (.getfield 343, 3) := by decide +kernel
theorem dX13_isFaulty_12 : decode cX13_isFaulty 12 = .ok (.ifCond .eq 7, 3) := by decide +kernel
theorem dX13_isFaulty_15 : decode cX13_isFaulty 15 = .ok (.iconst 1, 1) := by decide +kernel
theorem dX13_isFaulty_16 : decode cX13_isFaulty 16 = .ok (.goto 4, 3) := by decide +kernel
theorem dX13_isFaulty_19 : decode cX13_isFaulty 19 = .ok (.iconst 0, 1) := by decide +kernel
theorem dX13_isFaulty_20 : decode cX13_isFaulty 20 = .ok (.ireturn, 1) := by decide +kernel
theorem dX13_isLength_0 : decode cX13_isLength 0 = .ok (.iload_n 1, 1) := by decide +kernel
theorem dX13_isLength_1 : decode cX13_isLength 1 = .ok (.iconst 0, 1) := by decide +kernel
theorem dX13_isLength_2 : decode cX13_isLength 2 = .ok (.aload_n 0, 1) := by decide +kernel
theorem dX13_isLength_3 : decode cX13_isLength 3 = .ok (.getfield 279, 3) := by decide +kernel
theorem dX13_isLength_6 : decode cX13_isLength 6 = .ok (.invokestatic 92, 3) := by decide +kernel
theorem dX13_isLength_9 : decode cX13_isLength 9 = .ok (.ireturn, 1) := by decide +kernel
theorem dX13_readSection_0 : decode cX13_readSection 0 = .ok (.aload_n 0, 1) := by decide +kernel
theorem dX13_readSection_1 : decode cX13_readSection 1 = .ok (.invokevirtual 333, 3) := by decide +kernel
theorem dX13_readSection_4 : decode cX13_readSection 4 = .ok (.aload_n 0, 1) := by decide +kernel
theorem dX13_readSection_5 : decode cX13_readSection 5 = .ok (.iconst 0, 1) := by decide +kernel
theorem dX13_readSection_6 : decode cX13_readSection 6 = .ok (.aload_n 0, 1) := by decide +kernel
theorem dX13_readSection_7 : decode cX13_readSection 7 = .ok (.getfield 31, 3) := by decide +kernel
theorem dX13_readSection_10 : decode cX13_readSection 10 = .ok (.iconst 1, 1) := by decide +kernel
theorem dX13_readSection_11 : decode cX13_readSection 11 = .ok (.iaload, 1) := by decide +kernel
theorem dX13_readSection_12 : decode cX13_readSection 12 = .ok (.iconst 1, 1) := by decide +kernel
theorem dX13_readSection_13 : decode cX13_readSection 13 = .ok (.isub, 1) := by decide +kernel
theorem dX13_readSection_14 : decode cX13_readSection 14 = .ok (.invokevirtual 349, 3) := by decide +kernel
theorem dX13_readSection_17 : decode cX13_readSection 17 = .ok (.istore_n 2, 1) := by decide +kernel
theorem dX13_readSection_18 : decode cX13_readSection 18 = .ok (.aload_n 0, 1) := by decide +kernel
theorem dX13_readSection_19 : decode cX13_readSection 19 = .ok (.bipush 59, 2) := by decide +kernel
theorem dX13_readSection_21 : decode cX13_readSection 21 = .ok (.invokevirtual 352, 3) := by decide +kernel
theorem dX13_readSection_24 : decode cX13_readSection 24 = .ok (.aload_n 0, 1) := by decide +kernel
theorem dX13_readSection_25 : decode cX13_readSection 25 = .ok (.getfield 303, 3) := by decide +kernel
theorem dX13_readSection_28 : decode cX13_readSection 28 = .ok (.ifCond .ne 12, 3) := by decide +kernel
theorem dX13_readSection_31 : decode cX13_readSection 31 = .ok (.aload_n 0, 1) := by decide +kernel
theorem dX13_readSection_32 : decode cX13_readSection 32 = .ok (.getfield 31, 3) := by decide +kernel
theorem dX13_readSection_35 : decode cX13_readSection 35 = .ok (.iload_n 1, 1) := by decide +kernel
theorem dX13_readSection_36 : decode cX13_readSection 36 = .ok (.iload_n 2, 1) := by decide +kernel
theorem dX13_readSection_37 : decode cX13_readSection 37 = .ok (.iadd, 1) := by decide +kernel
theorem dX13_readSection_38 : decode cX13_readSection 38 = .ok (.iconst 1, 1) := by decide +kernel
theorem dX13_readSection_39 : decode cX13_readSection 39 = .ok (.iastore, 1) := by decide +kernel
theorem dX13_readSection_40 : decode cX13_readSection 40 = .ok (.return_, 1) := by decide +kernel
theorem dX13_readTrain_0 : decode cX13_readTrain 0 = .ok (.aload_n 0, 1) := by decide +kernel
theorem dX13_readTrain_1 : decode cX13_readTrain 1 = .ok (.aload_n 0, 1) := by decide +kernel
theorem dX13_readTrain_2 : decode cX13_readTrain 2 = .ok (.ldc_w 355, 3) := by decide +kernel
theorem dX13_readTrain_5 : decode cX13_readTrain 5 = .ok (.invokevirtual 322, 3) := by decide +kernel
theorem dX13_readTrain_8 : decode cX13_readTrain 8 = .ok (.iconst 1, 1) := by decide +kernel
theorem dX13_readTrain_9 : decode cX13_readTrain 9 = .ok (.invokevirtual 329, 3) := by decide +kernel
theorem dX13_readTrain_12 : decode cX13_readTrain 12 = .ok (.aload_n 0, 1) := by decide +kernel
theorem dX13_readTrain_13 : decode cX13_readTrain 13 = .ok (.aload_n 0, 1) := by decide +kernel
theorem dX13_readTrain_14 : decode cX13_readTrain 14 = .ok (.getfield 303, 3) := by decide +kernel
theorem dX13_readTrain_17 : decode cX13_readTrain 17 = .ok (.ifCond .ne 14, 3) := by decide +kernel
theorem dX13_readTrain_20 : decode cX13_readTrain 20 = .ok (.aload_n 0, 1) := by decide +kernel
theorem dX13_readTrain_21 : decode cX13_readTrain 21 = .ok (.getfield 31, 3) := by decide +kernel
theorem dX13_readTrain_24 : decode cX13_readTrain 24 = .ok (.iconst 3, 1) := by decide +kernel
theorem dX13_readTrain_25 : decode cX13_readTrain 25 = .ok (.iaload, 1) := by decide +kernel
theorem dX13_readTrain_26 : decode cX13_readTrain 26 = .ok (.bipush 6, 2) := by decide +kernel
theorem dX13_readTrain_28 : decode cX13_readTrain 28 = .ok (.if_icmp .ge 7, 3) := by decide +kernel
theorem dX13_readTrain_31 : decode cX13_readTrain 31 = .ok (.iconst 1, 1) := by decide +kernel
theorem dX13_readTrain_32 : decode cX13_readTrain 32 = .ok (.goto 4, 3) := by decide +kernel
theorem dX13_readTrain_35 : decode cX13_readTrain 35 = .ok (.iconst 0, 1) := by decide +kernel
theorem dX13_readTrain_36 : decode cX13_readTrain 36 = .ok (.iconst 4, 1) := by decide +kernel
theorem dX13_readTrain_37 : decode cX13_readTrain 37 = .ok (.invokevirtual 329, 3) := by decide +kernel
theorem dX13_readTrain_40 : decode cX13_readTrain 40 = .ok (.aload_n 0, 1) := by decide +kernel
theorem dX13_readTrain_41 : decode cX13_readTrain 41 = .ok (.invokevirtual 333, 3) := by decide +kernel
theorem dX13_readTrain_44 : decode cX13_readTrain 44 = .ok (.aload_n 0, 1) := by decide +kernel
theorem dX13_readTrain_45 : decode cX13_readTrain 45 = .ok (.iconst 1, 1) := by decide +kernel
theorem dX13_readTrain_46 : decode cX13_readTrain 46 = .ok (.bipush 127, 2) := by decide +kernel
theorem dX13_readTrain_48 : decode cX13_readTrain 48 = .ok (.invokevirtual 340, 3) := by decide +kernel
theorem dX13_readTrain_51 : decode cX13_readTrain 51 = .ok (.istore_n 1, 1) := by decide +kernel
theorem dX13_readTrain_52 : decode cX13_readTrain 52 = .ok (.aload_n 0, 1) := by decide +kernel
theorem dX13_readTrain_53 : decode cX13_readTrain 53 = .ok (.aload_n 0, 1) := by decide +kernel
theorem dX13_readTrain_54 : decode cX13_readTrain 54 = .ok (.getfield 303, 3) := by decide +kernel
theorem dX13_readTrain_57 : decode cX13_readTrain 57 = .ok (.ifCond .ne 13, 3) := by decide +kernel
theorem dX13_readTrain_60 : decode cX13_readTrain 60 = .ok (.aload_n 0, 1) := by decide +kernel
theorem dX13_readTrain_61 : decode cX13_readTrain 61 = .ok (.iconst 0, 1) := by decide +kernel
theorem dX13_readTrain_62 : decode cX13_readTrain 62 = .ok (.iload_n 1, 1) := by decide +kernel
theorem dX13_readTrain_63 : decode cX13_readTrain 63 = .ok (.invokevirtual 100, 3) := by decide +kernel
theorem dX13_readTrain_66 : decode cX13_readTrain 66 = .ok (.iconst (-1), 1) := by decide +kernel
theorem dX13_readTrain_67 : decode cX13_readTrain 67 = .ok (.if_icmp .ne 7, 3) := by decide +kernel
theorem dX13_readTrain_70 : decode cX13_readTrain 70 = .ok (.iconst 1, 1) := by decide +kernel
theorem dX13_readTrain_71 : decode cX13_readTrain 71 = .ok (.goto 4, 3) := by decide +kernel
theorem dX13_readTrain_74 : decode cX13_readTrain 74 = .ok (.iconst 0, 1) := by decide +kernel
theorem dX13_readTrain_75 : decode cX13_readTrain 75 = .ok (.iconst 3, 1) := by decide +kernel
theorem dX13_readTrain_76 : decode cX13_readTrain 76 = .ok (.invokevirtual 329, 3) := by decide +kernel
theorem dX13_readTrain_79 : decode cX13_readTrain 79 = .ok (.aload_n 0, 1) := by decide +kernel
theorem dX13_readTrain_80 : decode cX13_readTrain 80 = .ok (.invokevirtual 333, 3) := by decide +kernel
theorem dX13_readTrain_83 : decode cX13_readTrain 83 = .ok (.aload_n 0, 1) := by decide +kernel
theorem dX13_readTrain_84 : decode cX13_readTrain 84 = .ok (.iconst 1, 1) := by decide +kernel
theorem dX13_readTrain_85 : decode cX13_readTrain 85 = .ok (.iconst 5, 1) := by decide +kernel
theorem dX13_readTrain_86 : decode cX13_readTrain 86 = .ok (.invokevirtual 349, 3) := by decide +kernel
theorem dX13_readTrain_89 : decode cX13_readTrain 89 = .ok (.istore_n 2, 1) := by decide +kernel
theorem dX13_readTrain_90 : decode cX13_readTrain 90 = .ok (.aload_n 0, 1) := by decide +kernel
theorem dX13_readTrain_91 : decode cX13_readTrain 91 = .ok (.iconst 1, 1) := by decide +kernel
theorem dX13_readTrain_92 : decode cX13_readTrain 92 = .ok (.bipush 9, 2) := by decide +kernel
theorem dX13_readTrain_94 : decode cX13_readTrain 94 = .ok (.invokevirtual 349, 3) := by decide +kernel
theorem dX13_readTrain_97 : decode cX13_readTrain 97 = .ok (.istore_n 3, 1) := by decide +kernel
theorem dX13_readTrain_98 : decode cX13_readTrain 98 = .ok (.aload_n 0, 1) := by decide +kernel
theorem dX13_readTrain_99 : decode cX13_readTrain 99 = .ok (.iconst 0, 1) := by decide +kernel
theorem dX13_readTrain_100 : decode cX13_readTrain 100 = .ok (.aload_n 0, 1) := by decide +kernel
theorem dX13_readTrain_101 : decode cX13_readTrain 101 = .ok (.getfield 31, 3) := by decide +kernel
theorem dX13_readTrain_104 : decode cX13_readTrain 104 = .ok (.iconst 1, 1) := by decide +kernel
theorem dX13_readTrain_105 : decode cX13_readTrain 105 = .ok (.iaload, 1) := by decide +kernel
theorem dX13_readTrain_106 : decode cX13_readTrain 106 = .ok (.iconst 1, 1) := by decide +kernel
theorem dX13_readTrain_107 : decode cX13_readTrain 107 = .ok (.isub, 1) := by decide +kernel
theorem dX13_readTrain_108 : decode cX13_readTrain 108 = .ok (.invokevirtual 340, 3) := by decide +kernel
theorem dX13_readTrain_111 : decode cX13_readTrain 111 = .ok (.istore 4, 2) := by decide +kernel
theorem dX13_readTrain_113 : decode cX13_readTrain 113 = .ok (.aload_n 0, 1) := by decide +kernel
theorem dX13_readTrain_114 : decode cX13_readTrain 114 = .ok (.aload_n 0, 1) := by decide +kernel
theorem dX13_readTrain_115 : decode cX13_readTrain 115 = .ok (.getfield 303, 3) := by decide +kernel
theorem dX13_readTrain_118 : decode cX13_readTrain 118 = .ok (.ifCond .ne 14, 3) := by decide +kernel
theorem dX13_readTrain_121 : decode cX13_readTrain 121 = .ok (.aload_n 0, 1) := by decide +kernel
theorem dX13_readTrain_122 : decode cX13_readTrain 122 = .ok (.iconst 3, 1) := by decide +kernel
theorem dX13_readTrain_123 : decode cX13_readTrain 123 = .ok (.iload 4, 2) := by decide +kernel
theorem dX13_readTrain_125 : decode cX13_readTrain 125 = .ok (.invokevirtual 100, 3) := by decide +kernel
theorem dX13_readTrain_128 : decode cX13_readTrain 128 = .ok (.iconst (-1), 1) := by decide +kernel
theorem dX13_readTrain_129 : decode cX13_readTrain 129 = .ok (.if_icmp .ne 7, 3) := by decide +kernel
theorem dX13_readTrain_132 : decode cX13_readTrain 132 = .ok (.iconst 1, 1) := by decide +kernel
theorem dX13_readTrain_133 : decode cX13_readTrain 133 = .ok (.goto 4, 3) := by decide +kernel
theorem dX13_readTrain_136 : decode cX13_readTrain 136 = .ok (.iconst 0, 1) := by decide +kernel
theorem dX13_readTrain_137 : decode cX13_readTrain 137 = .ok (.iconst 3, 1) := by decide +kernel
theorem dX13_readTrain_138 : decode cX13_readTrain 138 = .ok (.invokevirtual 329, 3) := by decide +kernel
theorem dX13_readTrain_141 : decode cX13_readTrain 141 = .ok (.aload_n 0, 1) := by decide +kernel
theorem dX13_readTrain_142 : decode cX13_readTrain 142 = .ok (.invokevirtual 333, 3) := by decide +kernel
theorem dX13_readTrain_145 : decode cX13_readTrain 145 = .ok (.aload_n 0, 1) := by decide +kernel
theorem dX13_readTrain_146 : decode cX13_readTrain 146 = .ok (.bipush 59, 2) := by decide +kernel
theorem dX13_readTrain_148 : decode cX13_readTrain 148 = .ok (.invokevirtual 352, 3) := by decide +kernel
theorem dX13_readTrain_151 : decode cX13_readTrain 151 = .ok (.aload_n 0, 1) := by decide +kernel
theorem dX13_readTrain_152 : decode cX13_readTrain 152 = .ok (.getfield 303, 3) := by decide +kernel
theorem dX13_readTrain_155 : decode cX13_readTrain 155 = .ok (.ifCond .ne 12, 3) := by decide +kernel
theorem dX13_readTrain_158 : decode cX13_readTrain 158 = .ok (.aload_n 0, 1) := by decide +kernel
theorem dX13_readTrain_159 : decode cX13_readTrain 159 = .ok (.iload_n 1, 1) := by decide +kernel
theorem dX13_readTrain_160 : decode cX13_readTrain 160 = .ok (.iload_n 2, 1) := by decide +kernel
theorem dX13_readTrain_161 : decode cX13_readTrain 161 = .ok (.iload_n 3, 1) := by decide +kernel
theorem dX13_readTrain_162 : decode cX13_readTrain 162 = .ok (.iload 4, 2) := by decide +kernel
theorem dX13_readTrain_164 : decode cX13_readTrain 164 = .ok (.invokevirtual 73, 3) := by decide +kernel
theorem dX13_readTrain_167 : decode cX13_readTrain 167 = .ok (.return_, 1) := by decide +kernel
theorem dX13_readRailway_0 : decode cX13_readRailway 0 = .ok (.aload_n 0, 1) := by decide +kernel
theorem dX13_readRailway_1 : decode cX13_readRailway 1 = .ok (.aload_n 0, 1) := by decide +kernel
theorem dX13_readRailway_2 : decode cX13_readRailway 2 = .ok (.ldc_w 357, 3) := by decide +kernel
theorem dX13_readRailway_5 : decode cX13_readRailway 5 = .ok (.invokevirtual 322, 3) := by decide +kernel
theorem dX13_readRailway_8 : decode cX13_readRailway 8 = .ok (.iconst 1, 1) := by decide +kernel
theorem dX13_readRailway_9 : decode cX13_readRailway 9 = .ok (.invokevirtual 329, 3) := by decide +kernel
theorem dX13_readRailway_12 : decode cX13_readRailway 12 = .ok (.aload_n 0, 1) := by decide +kernel
theorem dX13_readRailway_13 : decode cX13_readRailway 13 = .ok (.invokevirtual 333, 3) := by decide +kernel
theorem dX13_readRailway_16 : decode cX13_readRailway 16 = .ok (.aload_n 0, 1) := by decide +kernel
theorem dX13_readRailway_17 : decode cX13_readRailway 17 = .ok (.iconst 4, 1) := by decide +kernel
theorem dX13_readRailway_18 : decode cX13_readRailway 18 = .ok (.bipush 24, 2) := by decide +kernel
theorem dX13_readRailway_20 : decode cX13_readRailway 20 = .ok (.invokevirtual 349, 3) := by decide +kernel
theorem dX13_readRailway_23 : decode cX13_readRailway 23 = .ok (.istore_n 1, 1) := by decide +kernel
theorem dX13_readRailway_24 : decode cX13_readRailway 24 = .ok (.aload_n 0, 1) := by decide +kernel
theorem dX13_readRailway_25 : decode cX13_readRailway 25 = .ok (.iconst 1, 1) := by decide +kernel
theorem dX13_readRailway_26 : decode cX13_readRailway 26 = .ok (.bipush 20, 2) := by decide +kernel
theorem dX13_readRailway_28 : decode cX13_readRailway 28 = .ok (.invokevirtual 349, 3) := by decide +kernel
theorem dX13_readRailway_31 : decode cX13_readRailway 31 = .ok (.istore_n 2, 1) := by decide +kernel
theorem dX13_readRailway_32 : decode cX13_readRailway 32 = .ok (.aload_n 0, 1) := by decide +kernel
theorem dX13_readRailway_33 : decode cX13_readRailway 33 = .ok (.bipush 59, 2) := by decide +kernel
theorem dX13_readRailway_35 : decode cX13_readRailway 35 = .ok (.invokevirtual 352, 3) := by decide +kernel
theorem dX13_readRailway_38 : decode cX13_readRailway 38 = .ok (.aload_n 0, 1) := by decide +kernel
theorem dX13_readRailway_39 : decode cX13_readRailway 39 = .ok (.iload_n 1, 1) := by decide +kernel
theorem dX13_readRailway_40 : decode cX13_readRailway 40 = .ok (.iload_n 2, 1) := by decide +kernel
theorem dX13_readRailway_41 : decode cX13_readRailway 41 = .ok (.invokevirtual 69, 3) := by decide +kernel
theorem dX13_readRailway_44 : decode cX13_readRailway 44 = .ok (.aload_n 0, 1) := by decide +kernel
theorem dX13_readRailway_45 : decode cX13_readRailway 45 = .ok (.ldc_w 359, 3) := by decide +kernel
theorem dX13_readRailway_48 : decode cX13_readRailway 48 = .ok (.invokevirtual 322, 3) := by decide +kernel
theorem dX13_readRailway_51 : decode cX13_readRailway 51 = .ok (.ifCond .ne 12, 3) := by decide +kernel
theorem dX13_readRailway_54 : decode cX13_readRailway 54 = .ok (.aload_n 0, 1) := by decide +kernel
theorem dX13_readRailway_55 : decode cX13_readRailway 55 = .ok (.ldc 57, 2) := by decide +kernel
theorem dX13_readRailway_57 : decode cX13_readRailway 57 = .ok (.invokevirtual 322, 3) := by decide +kernel
theorem dX13_readRailway_60 : decode cX13_readRailway 60 = .ok (.ifCond .eq 27, 3) := by decide +kernel
theorem dX13_readRailway_63 : decode cX13_readRailway 63 = .ok (.aload_n 0, 1) := by decide +kernel
theorem dX13_readRailway_64 : decode cX13_readRailway 64 = .ok (.aload_n 0, 1) := by decide +kernel
theorem dX13_readRailway_65 : decode cX13_readRailway 65 = .ok (.ldc_w 359, 3) := by decide +kernel
theorem dX13_readRailway_68 : decode cX13_readRailway 68 = .ok (.invokevirtual 322, 3) := by decide +kernel
theorem dX13_readRailway_71 : decode cX13_readRailway 71 = .ok (.ifCond .eq 8, 3) := by decide +kernel
theorem dX13_readRailway_74 : decode cX13_readRailway 74 = .ok (.bipush 10, 2) := by decide +kernel
theorem dX13_readRailway_76 : decode cX13_readRailway 76 = .ok (.goto 5, 3) := by decide +kernel
theorem dX13_readRailway_79 : decode cX13_readRailway 79 = .ok (.bipush 34, 2) := by decide +kernel
theorem dX13_readRailway_81 : decode cX13_readRailway 81 = .ok (.invokevirtual 361, 3) := by decide +kernel
theorem dX13_readRailway_84 : decode cX13_readRailway 84 = .ok (.goto (-40), 3) := by decide +kernel
theorem dX13_readRailway_87 : decode cX13_readRailway 87 = .ok (.aload_n 0, 1) := by decide +kernel
theorem dX13_readRailway_88 : decode cX13_readRailway 88 = .ok (.invokevirtual 364, 3) := by decide +kernel
theorem dX13_readRailway_91 : decode cX13_readRailway 91 = .ok (.aload_n 0, 1) := by decide +kernel
theorem dX13_readRailway_92 : decode cX13_readRailway 92 = .ok (.getfield 303, 3) := by decide +kernel
theorem dX13_readRailway_95 : decode cX13_readRailway 95 = .ok (.ifCond .ne 17, 3) := by decide +kernel
theorem dX13_readRailway_98 : decode cX13_readRailway 98 = .ok (.aload_n 0, 1) := by decide +kernel
theorem dX13_readRailway_99 : decode cX13_readRailway 99 = .ok (.getfield 294, 3) := by decide +kernel
theorem dX13_readRailway_102 : decode cX13_readRailway 102 = .ok (.ifCond .eq 10, 3) := by decide +kernel
theorem dX13_readRailway_105 : decode cX13_readRailway 105 = .ok (.aload_n 0, 1) := by decide +kernel
theorem dX13_readRailway_106 : decode cX13_readRailway 106 = .ok (.invokevirtual 364, 3) := by decide +kernel
theorem dX13_readRailway_109 : decode cX13_readRailway 109 = .ok (.goto (-18), 3) := by decide +kernel
theorem dX13_readRailway_112 : decode cX13_readRailway 112 = .ok (.return_, 1) := by decide +kernel
theorem dX13_loadRailway_0 : decode cX13_loadRailway 0 = .ok (.aload_n 0, 1) := by decide +kernel
theorem dX13_loadRailway_1 : decode cX13_loadRailway 1 = .ok (.aload_n 0, 1) := by decide +kernel
theorem dX13_loadRailway_2 : decode cX13_loadRailway 2 = .ok (.iload_n 1, 1) := by decide +kernel
theorem dX13_loadRailway_3 : decode cX13_loadRailway 3 = .ok (.invokevirtual 367, 3) := by decide +kernel
theorem dX13_loadRailway_6 : decode cX13_loadRailway 6 = .ok (.invokevirtual 80, 3) := by decide +kernel
theorem dX13_loadRailway_9 : decode cX13_loadRailway 9 = .ok (.ifCond .eq 5, 3) := by decide +kernel
theorem dX13_loadRailway_12 : decode cX13_loadRailway 12 = .ok (.iconst 0, 1) := by decide +kernel
theorem dX13_loadRailway_13 : decode cX13_loadRailway 13 = .ok (.ireturn, 1) := by decide +kernel
theorem dX13_loadRailway_14 : decode cX13_loadRailway 14 = .ok (.aload_n 0, 1) := by decide +kernel
theorem dX13_loadRailway_15 : decode cX13_loadRailway 15 = .ok (.iload_n 1, 1) := by decide +kernel
theorem dX13_loadRailway_16 : decode cX13_loadRailway 16 = .ok (.invokevirtual 370, 3) := by decide +kernel
theorem dX13_loadRailway_19 : decode cX13_loadRailway 19 = .ok (.aload_n 0, 1) := by decide +kernel
theorem dX13_loadRailway_20 : decode cX13_loadRailway 20 = .ok (.aload_n 0, 1) := by decide +kernel
theorem dX13_loadRailway_21 : decode cX13_loadRailway 21 = .ok (.getfield 13, 3) := by decide +kernel
theorem dX13_loadRailway_24 : decode cX13_loadRailway 24 = .ok (.putfield 31, 3) := by decide +kernel
theorem dX13_loadRailway_27 : decode cX13_loadRailway 27 = .ok (.aload_n 0, 1) := by decide +kernel
theorem dX13_loadRailway_28 : decode cX13_loadRailway 28 = .ok (.invokevirtual 373, 3) := by decide +kernel
theorem dX13_loadRailway_31 : decode cX13_loadRailway 31 = .ok (.aload_n 0, 1) := by decide +kernel
theorem dX13_loadRailway_32 : decode cX13_loadRailway 32 = .ok (.aload_n 0, 1) := by decide +kernel
theorem dX13_loadRailway_33 : decode cX13_loadRailway 33 = .ok (.getfield 9, 3) := by decide +kernel
theorem dX13_loadRailway_36 : decode cX13_loadRailway 36 = .ok (.putfield 31, 3) := by decide +kernel
theorem dX13_loadRailway_39 : decode cX13_loadRailway 39 = .ok (.aload_n 0, 1) := by decide +kernel
theorem dX13_loadRailway_40 : decode cX13_loadRailway 40 = .ok (.invokevirtual 376, 3) := by decide +kernel
theorem dX13_loadRailway_43 : decode cX13_loadRailway 43 = .ok (.ifCond .eq 5, 3) := by decide +kernel
theorem dX13_loadRailway_46 : decode cX13_loadRailway 46 = .ok (.iconst (-1), 1) := by decide +kernel
theorem dX13_loadRailway_47 : decode cX13_loadRailway 47 = .ok (.ireturn, 1) := by decide +kernel
theorem dX13_loadRailway_48 : decode cX13_loadRailway 48 = .ok (.aload_n 0, 1) := by decide +kernel
theorem dX13_loadRailway_49 : decode cX13_loadRailway 49 = .ok (.getfield 13, 3) := by decide +kernel
theorem dX13_loadRailway_52 : decode cX13_loadRailway 52 = .ok (.iconst 0, 1) := by decide +kernel
theorem dX13_loadRailway_53 : decode cX13_loadRailway 53 = .ok (.aload_n 0, 1) := by decide +kernel
theorem dX13_loadRailway_54 : decode cX13_loadRailway 54 = .ok (.getfield 9, 3) := by decide +kernel
theorem dX13_loadRailway_57 : decode cX13_loadRailway 57 = .ok (.iconst 0, 1) := by decide +kernel
theorem dX13_loadRailway_58 : decode cX13_loadRailway 58 = .ok (.invokestatic 199, 3) := by decide +kernel
theorem dX13_loadRailway_61 : decode cX13_loadRailway 61 = .ok (.aload_n 0, 1) := by decide +kernel
theorem dX13_loadRailway_62 : decode cX13_loadRailway 62 = .ok (.iconst 0, 1) := by decide +kernel
theorem dX13_loadRailway_63 : decode cX13_loadRailway 63 = .ok (.putfield 233, 3) := by decide +kernel
theorem dX13_loadRailway_66 : decode cX13_loadRailway 66 = .ok (.aload_n 0, 1) := by decide +kernel
theorem dX13_loadRailway_67 : decode cX13_loadRailway 67 = .ok (.iconst 0, 1) := by decide +kernel
theorem dX13_loadRailway_68 : decode cX13_loadRailway 68 = .ok (.putfield 275, 3) := by decide +kernel
theorem dX13_loadRailway_71 : decode cX13_loadRailway 71 = .ok (.aload_n 0, 1) := by decide +kernel
theorem dX13_loadRailway_72 : decode cX13_loadRailway 72 = .ok (.getfield 31, 3) := by decide +kernel
theorem dX13_loadRailway_75 : decode cX13_loadRailway 75 = .ok (.iconst 3, 1) := by decide +kernel
theorem dX13_loadRailway_76 : decode cX13_loadRailway 76 = .ok (.iaload, 1) := by decide +kernel
theorem dX13_loadRailway_77 : decode cX13_loadRailway 77 = .ok (.ireturn, 1) := by decide +kernel
theorem dX13_orderHere_0 : decode cX13_orderHere 0 = .ok (.iconst 0, 1) := by decide +kernel
theorem dX13_orderHere_1 : decode cX13_orderHere 1 = .ok (.istore_n 1, 1) := by decide +kernel
theorem dX13_orderHere_2 : decode cX13_orderHere 2 = .ok (.iload_n 1, 1) := by decide +kernel
theorem dX13_orderHere_3 : decode cX13_orderHere 3 = .ok (.aload_n 0, 1) := by decide +kernel
theorem dX13_orderHere_4 : decode cX13_orderHere 4 = .ok (.getfield 65, 3) := by decide +kernel
theorem dX13_orderHere_7 : decode cX13_orderHere 7 = .ok (.arraylength, 1) := by decide +kernel
theorem dX13_orderHere_8 : decode cX13_orderHere 8 = .ok (.if_icmp .ge 24, 3) := by decide +kernel
theorem dX13_orderHere_11 : decode cX13_orderHere 11 = .ok (.aload_n 0, 1) := by decide +kernel
theorem dX13_orderHere_12 : decode cX13_orderHere 12 = .ok (.aload_n 0, 1) := by decide +kernel
theorem dX13_orderHere_13 : decode cX13_orderHere 13 = .ok (.getfield 65, 3) := by decide +kernel
theorem dX13_orderHere_16 : decode cX13_orderHere 16 = .ok (.iload_n 1, 1) := by decide +kernel
theorem dX13_orderHere_17 : decode cX13_orderHere 17 = .ok (.aaload, 1) := by decide +kernel
theorem dX13_orderHere_18 : decode cX13_orderHere 18 = .ok (.invokevirtual 322, 3) := by decide +kernel
theorem dX13_orderHere_21 : decode cX13_orderHere 21 = .ok (.ifCond .eq 5, 3) := by decide +kernel
theorem dX13_orderHere_24 : decode cX13_orderHere 24 = .ok (.iload_n 1, 1) := by decide +kernel
theorem dX13_orderHere_25 : decode cX13_orderHere 25 = .ok (.ireturn, 1) := by decide +kernel
theorem dX13_orderHere_26 : decode cX13_orderHere 26 = .ok (.iinc 1 1, 3) := by decide +kernel
theorem dX13_orderHere_29 : decode cX13_orderHere 29 = .ok (.goto (-27), 3) := by decide +kernel
theorem dX13_orderHere_32 : decode cX13_orderHere 32 = .ok (.iconst (-1), 1) := by decide +kernel
theorem dX13_orderHere_33 : decode cX13_orderHere 33 = .ok (.ireturn, 1) := by decide +kernel
theorem dX13_readFirst_0 : decode cX13_readFirst 0 = .ok (.iload_n 1, 1) := by decide +kernel
theorem dX13_readFirst_1 : decode cX13_readFirst 1 = .ok (.tableswitch 68 0 6 #[43, 68, 68, 68, 52, 52, 60], 43) := by decide +kernel
theorem dX13_readFirst_44 : decode cX13_readFirst 44 = .ok (.aload_n 0, 1) := by decide +kernel
theorem dX13_readFirst_45 : decode cX13_readFirst 45 = .ok (.iconst 0, 1) := by decide +kernel
theorem dX13_readFirst_46 : decode cX13_readFirst 46 = .ok (.sipush 255, 3) := by decide +kernel
theorem dX13_readFirst_49 : decode cX13_readFirst 49 = .ok (.invokevirtual 349, 3) := by decide +kernel
theorem dX13_readFirst_52 : decode cX13_readFirst 52 = .ok (.ireturn, 1) := by decide +kernel
theorem dX13_readFirst_53 : decode cX13_readFirst 53 = .ok (.aload_n 0, 1) := by decide +kernel
theorem dX13_readFirst_54 : decode cX13_readFirst 54 = .ok (.iconst 0, 1) := by decide +kernel
theorem dX13_readFirst_55 : decode cX13_readFirst 55 = .ok (.bipush 23, 2) := by decide +kernel
theorem dX13_readFirst_57 : decode cX13_readFirst 57 = .ok (.invokevirtual 349, 3) := by decide +kernel
theorem dX13_readFirst_60 : decode cX13_readFirst 60 = .ok (.ireturn, 1) := by decide +kernel
theorem dX13_readFirst_61 : decode cX13_readFirst 61 = .ok (.aload_n 0, 1) := by decide +kernel
theorem dX13_readFirst_62 : decode cX13_readFirst 62 = .ok (.iconst 1, 1) := by decide +kernel
theorem dX13_readFirst_63 : decode cX13_readFirst 63 = .ok (.bipush 60, 2) := by decide +kernel
theorem dX13_readFirst_65 : decode cX13_readFirst 65 = .ok (.invokevirtual 349, 3) := by decide +kernel
theorem dX13_readFirst_68 : decode cX13_readFirst 68 = .ok (.ireturn, 1) := by decide +kernel
theorem dX13_readFirst_69 : decode cX13_readFirst 69 = .ok (.aload_n 0, 1) := by decide +kernel
theorem dX13_readFirst_70 : decode cX13_readFirst 70 = .ok (.iconst 0, 1) := by decide +kernel
theorem dX13_readFirst_71 : decode cX13_readFirst 71 = .ok (.bipush 127, 2) := by decide +kernel
theorem dX13_readFirst_73 : decode cX13_readFirst 73 = .ok (.invokevirtual 349, 3) := by decide +kernel
theorem dX13_readFirst_76 : decode cX13_readFirst 76 = .ok (.ireturn, 1) := by decide +kernel
theorem dX13_readSecond_0 : decode cX13_readSecond 0 = .ok (.iload_n 1, 1) := by decide +kernel
theorem dX13_readSecond_1 : decode cX13_readSecond 1 = .ok (.tableswitch 52 0 2 #[27, 36, 44], 27) := by decide +kernel
theorem dX13_readSecond_28 : decode cX13_readSecond 28 = .ok (.aload_n 0, 1) := by decide +kernel
theorem dX13_readSecond_29 : decode cX13_readSecond 29 = .ok (.iconst 0, 1) := by decide +kernel
theorem dX13_readSecond_30 : decode cX13_readSecond 30 = .ok (.sipush 255, 3) := by decide +kernel
theorem dX13_readSecond_33 : decode cX13_readSecond 33 = .ok (.invokevirtual 349, 3) := by decide +kernel
theorem dX13_readSecond_36 : decode cX13_readSecond 36 = .ok (.ireturn, 1) := by decide +kernel
theorem dX13_readSecond_37 : decode cX13_readSecond 37 = .ok (.aload_n 0, 1) := by decide +kernel
theorem dX13_readSecond_38 : decode cX13_readSecond 38 = .ok (.iconst 0, 1) := by decide +kernel
theorem dX13_readSecond_39 : decode cX13_readSecond 39 = .ok (.bipush 28, 2) := by decide +kernel
theorem dX13_readSecond_41 : decode cX13_readSecond 41 = .ok (.invokevirtual 349, 3) := by decide +kernel
theorem dX13_readSecond_44 : decode cX13_readSecond 44 = .ok (.ireturn, 1) := by decide +kernel
theorem dX13_readSecond_45 : decode cX13_readSecond 45 = .ok (.aload_n 0, 1) := by decide +kernel
theorem dX13_readSecond_46 : decode cX13_readSecond 46 = .ok (.iconst 0, 1) := by decide +kernel
theorem dX13_readSecond_47 : decode cX13_readSecond 47 = .ok (.bipush 15, 2) := by decide +kernel
theorem dX13_readSecond_49 : decode cX13_readSecond 49 = .ok (.invokevirtual 349, 3) := by decide +kernel
theorem dX13_readSecond_52 : decode cX13_readSecond 52 = .ok (.ireturn, 1) := by decide +kernel
theorem dX13_readSecond_53 : decode cX13_readSecond 53 = .ok (.iconst 0, 1) := by decide +kernel
theorem dX13_readSecond_54 : decode cX13_readSecond 54 = .ok (.ireturn, 1) := by decide +kernel
theorem dX13_readRepeat_0 : decode cX13_readRepeat 0 = .ok (.aload_n 0, 1) := by decide +kernel
theorem dX13_readRepeat_1 : decode cX13_readRepeat 1 = .ok (.getfield 44, 3) := by decide +kernel
theorem dX13_readRepeat_4 : decode cX13_readRepeat 4 = .ok (.iload_n 1, 1) := by decide +kernel
theorem dX13_readRepeat_5 : decode cX13_readRepeat 5 = .ok (.iconst 1, 1) := by decide +kernel
theorem dX13_readRepeat_6 : decode cX13_readRepeat 6 = .ok (.iadd, 1) := by decide +kernel
theorem dX13_readRepeat_7 : decode cX13_readRepeat 7 = .ok (.aload_n 0, 1) := by decide +kernel
theorem dX13_readRepeat_8 : decode cX13_readRepeat 8 = .ok (.iconst 2, 1) := by decide +kernel
theorem dX13_readRepeat_9 : decode cX13_readRepeat 9 = .ok (.iconst 5, 1) := by decide +kernel
theorem dX13_readRepeat_10 : decode cX13_readRepeat 10 = .ok (.invokevirtual 349, 3) := by decide +kernel
theorem dX13_readRepeat_13 : decode cX13_readRepeat 13 = .ok (.iastore, 1) := by decide +kernel
theorem dX13_readRepeat_14 : decode cX13_readRepeat 14 = .ok (.aload_n 0, 1) := by decide +kernel
theorem dX13_readRepeat_15 : decode cX13_readRepeat 15 = .ok (.bipush 40, 2) := by decide +kernel
theorem dX13_readRepeat_17 : decode cX13_readRepeat 17 = .ok (.invokevirtual 352, 3) := by decide +kernel
theorem dX13_readRepeat_20 : decode cX13_readRepeat 20 = .ok (.aload_n 0, 1) := by decide +kernel
theorem dX13_readRepeat_21 : decode cX13_readRepeat 21 = .ok (.getfield 303, 3) := by decide +kernel
theorem dX13_readRepeat_24 : decode cX13_readRepeat 24 = .ok (.ifCond .ne 22, 3) := by decide +kernel
theorem dX13_readRepeat_27 : decode cX13_readRepeat 27 = .ok (.aload_n 0, 1) := by decide +kernel
theorem dX13_readRepeat_28 : decode cX13_readRepeat 28 = .ok (.bipush 41, 2) := by decide +kernel
theorem dX13_readRepeat_30 : decode cX13_readRepeat 30 = .ok (.invokevirtual 326, 3) := by decide +kernel
theorem dX13_readRepeat_33 : decode cX13_readRepeat 33 = .ok (.ifCond .ne 13, 3) := by decide +kernel
theorem dX13_readRepeat_36 : decode cX13_readRepeat 36 = .ok (.aload_n 0, 1) := by decide +kernel
theorem dX13_readRepeat_37 : decode cX13_readRepeat 37 = .ok (.iload_n 2, 1) := by decide +kernel
theorem dX13_readRepeat_38 : decode cX13_readRepeat 38 = .ok (.iconst 1, 1) := by decide +kernel
theorem dX13_readRepeat_39 : decode cX13_readRepeat 39 = .ok (.iadd, 1) := by decide +kernel
theorem dX13_readRepeat_40 : decode cX13_readRepeat 40 = .ok (.invokevirtual 379, 3) := by decide +kernel
theorem dX13_readRepeat_43 : decode cX13_readRepeat 43 = .ok (.goto (-23), 3) := by decide +kernel
theorem dX13_readRepeat_46 : decode cX13_readRepeat 46 = .ok (.aload_n 0, 1) := by decide +kernel
theorem dX13_readRepeat_47 : decode cX13_readRepeat 47 = .ok (.bipush 41, 2) := by decide +kernel
theorem dX13_readRepeat_49 : decode cX13_readRepeat 49 = .ok (.invokevirtual 352, 3) := by decide +kernel
theorem dX13_readRepeat_52 : decode cX13_readRepeat 52 = .ok (.aload_n 0, 1) := by decide +kernel
theorem dX13_readRepeat_53 : decode cX13_readRepeat 53 = .ok (.getfield 44, 3) := by decide +kernel
theorem dX13_readRepeat_56 : decode cX13_readRepeat 56 = .ok (.iload_n 1, 1) := by decide +kernel
theorem dX13_readRepeat_57 : decode cX13_readRepeat 57 = .ok (.iconst 2, 1) := by decide +kernel
theorem dX13_readRepeat_58 : decode cX13_readRepeat 58 = .ok (.iadd, 1) := by decide +kernel
theorem dX13_readRepeat_59 : decode cX13_readRepeat 59 = .ok (.aload_n 0, 1) := by decide +kernel
theorem dX13_readRepeat_60 : decode cX13_readRepeat 60 = .ok (.getfield 382, 3) := by decide +kernel
theorem dX13_readRepeat_63 : decode cX13_readRepeat 63 = .ok (.iastore, 1) := by decide +kernel
theorem dX13_readRepeat_64 : decode cX13_readRepeat 64 = .ok (.return_, 1) := by decide +kernel
theorem dX13_readOrder_0 : decode cX13_readOrder 0 = .ok (.aload_n 0, 1) := by decide +kernel
theorem dX13_readOrder_1 : decode cX13_readOrder 1 = .ok (.invokevirtual 385, 3) := by decide +kernel
theorem dX13_readOrder_4 : decode cX13_readOrder 4 = .ok (.istore_n 2, 1) := by decide +kernel
theorem dX13_readOrder_5 : decode cX13_readOrder 5 = .ok (.aload_n 0, 1) := by decide +kernel
theorem dX13_readOrder_6 : decode cX13_readOrder 6 = .ok (.iload_n 2, 1) := by decide +kernel
theorem dX13_readOrder_7 : decode cX13_readOrder 7 = .ok (.iconst (-1), 1) := by decide +kernel
theorem dX13_readOrder_8 : decode cX13_readOrder 8 = .ok (.if_icmp .eq 7, 3) := by decide +kernel
theorem dX13_readOrder_11 : decode cX13_readOrder 11 = .ok (.iconst 1, 1) := by decide +kernel
theorem dX13_readOrder_12 : decode cX13_readOrder 12 = .ok (.goto 4, 3) := by decide +kernel
theorem dX13_readOrder_15 : decode cX13_readOrder 15 = .ok (.iconst 0, 1) := by decide +kernel
theorem dX13_readOrder_16 : decode cX13_readOrder 16 = .ok (.iconst 1, 1) := by decide +kernel
theorem dX13_readOrder_17 : decode cX13_readOrder 17 = .ok (.invokevirtual 329, 3) := by decide +kernel
theorem dX13_readOrder_20 : decode cX13_readOrder 20 = .ok (.aload_n 0, 1) := by decide +kernel
theorem dX13_readOrder_21 : decode cX13_readOrder 21 = .ok (.aload_n 0, 1) := by decide +kernel
theorem dX13_readOrder_22 : decode cX13_readOrder 22 = .ok (.getfield 303, 3) := by decide +kernel
theorem dX13_readOrder_25 : decode cX13_readOrder 25 = .ok (.ifCond .ne 23, 3) := by decide +kernel
theorem dX13_readOrder_28 : decode cX13_readOrder 28 = .ok (.aload_n 0, 1) := by decide +kernel
theorem dX13_readOrder_29 : decode cX13_readOrder 29 = .ok (.getfield 382, 3) := by decide +kernel
theorem dX13_readOrder_32 : decode cX13_readOrder 32 = .ok (.bipush 20, 2) := by decide +kernel
theorem dX13_readOrder_34 : decode cX13_readOrder 34 = .ok (.if_icmp .ge 18, 3) := by decide +kernel
theorem dX13_readOrder_37 : decode cX13_readOrder 37 = .ok (.iload_n 2, 1) := by decide +kernel
theorem dX13_readOrder_38 : decode cX13_readOrder 38 = .ok (.bipush 7, 2) := by decide +kernel
theorem dX13_readOrder_40 : decode cX13_readOrder 40 = .ok (.if_icmp .ne 8, 3) := by decide +kernel
theorem dX13_readOrder_43 : decode cX13_readOrder 43 = .ok (.iload_n 1, 1) := by decide +kernel
theorem dX13_readOrder_44 : decode cX13_readOrder 44 = .ok (.iconst 2, 1) := by decide +kernel
theorem dX13_readOrder_45 : decode cX13_readOrder 45 = .ok (.if_icmp .ge 7, 3) := by decide +kernel
theorem dX13_readOrder_48 : decode cX13_readOrder 48 = .ok (.iconst 1, 1) := by decide +kernel
theorem dX13_readOrder_49 : decode cX13_readOrder 49 = .ok (.goto 4, 3) := by decide +kernel
theorem dX13_readOrder_52 : decode cX13_readOrder 52 = .ok (.iconst 0, 1) := by decide +kernel
theorem dX13_readOrder_53 : decode cX13_readOrder 53 = .ok (.iconst 4, 1) := by decide +kernel
theorem dX13_readOrder_54 : decode cX13_readOrder 54 = .ok (.invokevirtual 329, 3) := by decide +kernel
theorem dX13_readOrder_57 : decode cX13_readOrder 57 = .ok (.aload_n 0, 1) := by decide +kernel
theorem dX13_readOrder_58 : decode cX13_readOrder 58 = .ok (.invokevirtual 333, 3) := by decide +kernel
theorem dX13_readOrder_61 : decode cX13_readOrder 61 = .ok (.aload_n 0, 1) := by decide +kernel
theorem dX13_readOrder_62 : decode cX13_readOrder 62 = .ok (.getfield 303, 3) := by decide +kernel
theorem dX13_readOrder_65 : decode cX13_readOrder 65 = .ok (.ifCond .eq 4, 3) := by decide +kernel
theorem dX13_readOrder_68 : decode cX13_readOrder 68 = .ok (.return_, 1) := by decide +kernel
theorem dX13_readOrder_69 : decode cX13_readOrder 69 = .ok (.iconst 4, 1) := by decide +kernel
theorem dX13_readOrder_70 : decode cX13_readOrder 70 = .ok (.aload_n 0, 1) := by decide +kernel
theorem dX13_readOrder_71 : decode cX13_readOrder 71 = .ok (.getfield 382, 3) := by decide +kernel
theorem dX13_readOrder_74 : decode cX13_readOrder 74 = .ok (.imul, 1) := by decide +kernel
theorem dX13_readOrder_75 : decode cX13_readOrder 75 = .ok (.istore_n 3, 1) := by decide +kernel
theorem dX13_readOrder_76 : decode cX13_readOrder 76 = .ok (.aload_n 0, 1) := by decide +kernel
theorem dX13_readOrder_77 : decode cX13_readOrder 77 = .ok (.getfield 44, 3) := by decide +kernel
theorem dX13_readOrder_80 : decode cX13_readOrder 80 = .ok (.iload_n 3, 1) := by decide +kernel
theorem dX13_readOrder_81 : decode cX13_readOrder 81 = .ok (.iload_n 2, 1) := by decide +kernel
theorem dX13_readOrder_82 : decode cX13_readOrder 82 = .ok (.iastore, 1) := by decide +kernel
theorem dX13_readOrder_83 : decode cX13_readOrder 83 = .ok (.aload_n 0, 1) := by decide +kernel
theorem dX13_readOrder_84 : decode cX13_readOrder 84 = .ok (.dup, 1) := by decide +kernel
theorem dX13_readOrder_85 : decode cX13_readOrder 85 = .ok (.getfield 382, 3) := by decide +kernel
theorem dX13_readOrder_88 : decode cX13_readOrder 88 = .ok (.iconst 1, 1) := by decide +kernel
theorem dX13_readOrder_89 : decode cX13_readOrder 89 = .ok (.iadd, 1) := by decide +kernel
theorem dX13_readOrder_90 : decode cX13_readOrder 90 = .ok (.putfield 382, 3) := by decide +kernel
theorem dX13_readOrder_93 : decode cX13_readOrder 93 = .ok (.iload_n 2, 1) := by decide +kernel
theorem dX13_readOrder_94 : decode cX13_readOrder 94 = .ok (.bipush 7, 2) := by decide +kernel
theorem dX13_readOrder_96 : decode cX13_readOrder 96 = .ok (.if_icmp .ne 12, 3) := by decide +kernel
theorem dX13_readOrder_99 : decode cX13_readOrder 99 = .ok (.aload_n 0, 1) := by decide +kernel
theorem dX13_readOrder_100 : decode cX13_readOrder 100 = .ok (.iload_n 3, 1) := by decide +kernel
theorem dX13_readOrder_101 : decode cX13_readOrder 101 = .ok (.iload_n 1, 1) := by decide +kernel
theorem dX13_readOrder_102 : decode cX13_readOrder 102 = .ok (.invokevirtual 388, 3) := by decide +kernel
theorem dX13_readOrder_105 : decode cX13_readOrder 105 = .ok (.goto 53, 3) := by decide +kernel
theorem dX13_readOrder_108 : decode cX13_readOrder 108 = .ok (.aload_n 0, 1) := by decide +kernel
theorem dX13_readOrder_109 : decode cX13_readOrder 109 = .ok (.getfield 44, 3) := by decide +kernel
theorem dX13_readOrder_112 : decode cX13_readOrder 112 = .ok (.iload_n 3, 1) := by decide +kernel
theorem dX13_readOrder_113 : decode cX13_readOrder 113 = .ok (.iconst 1, 1) := by decide +kernel
theorem dX13_readOrder_114 : decode cX13_readOrder 114 = .ok (.iadd, 1) := by decide +kernel
theorem dX13_readOrder_115 : decode cX13_readOrder 115 = .ok (.aload_n 0, 1) := by decide +kernel
theorem dX13_readOrder_116 : decode cX13_readOrder 116 = .ok (.iload_n 2, 1) := by decide +kernel
theorem dX13_readOrder_117 : decode cX13_readOrder 117 = .ok (.invokevirtual 391, 3) := by decide +kernel
theorem dX13_readOrder_120 : decode cX13_readOrder 120 = .ok (.iastore, 1) := by decide +kernel
theorem dX13_readOrder_121 : decode cX13_readOrder 121 = .ok (.aload_n 0, 1) := by decide +kernel
theorem dX13_readOrder_122 : decode cX13_readOrder 122 = .ok (.getfield 44, 3) := by decide +kernel
theorem dX13_readOrder_125 : decode cX13_readOrder 125 = .ok (.iload_n 3, 1) := by decide +kernel
theorem dX13_readOrder_126 : decode cX13_readOrder 126 = .ok (.iconst 2, 1) := by decide +kernel
theorem dX13_readOrder_127 : decode cX13_readOrder 127 = .ok (.iadd, 1) := by decide +kernel
theorem dX13_readOrder_128 : decode cX13_readOrder 128 = .ok (.aload_n 0, 1) := by decide +kernel
theorem dX13_readOrder_129 : decode cX13_readOrder 129 = .ok (.iload_n 2, 1) := by decide +kernel
theorem dX13_readOrder_130 : decode cX13_readOrder 130 = .ok (.invokevirtual 394, 3) := by decide +kernel
theorem dX13_readOrder_133 : decode cX13_readOrder 133 = .ok (.iastore, 1) := by decide +kernel
theorem dX13_readOrder_134 : decode cX13_readOrder 134 = .ok (.aload_n 0, 1) := by decide +kernel
theorem dX13_readOrder_135 : decode cX13_readOrder 135 = .ok (.getfield 44, 3) := by decide +kernel
theorem dX13_readOrder_138 : decode cX13_readOrder 138 = .ok (.iload_n 3, 1) := by decide +kernel
theorem dX13_readOrder_139 : decode cX13_readOrder 139 = .ok (.iconst 3, 1) := by decide +kernel
theorem dX13_readOrder_140 : decode cX13_readOrder 140 = .ok (.iadd, 1) := by decide +kernel
theorem dX13_readOrder_141 : decode cX13_readOrder 141 = .ok (.iload_n 2, 1) := by decide +kernel
theorem dX13_readOrder_142 : decode cX13_readOrder 142 = .ok (.ifCond .ne 14, 3) := by decide +kernel
theorem dX13_readOrder_145 : decode cX13_readOrder 145 = .ok (.aload_n 0, 1) := by decide +kernel
theorem dX13_readOrder_146 : decode cX13_readOrder 146 = .ok (.iconst 0, 1) := by decide +kernel
theorem dX13_readOrder_147 : decode cX13_readOrder 147 = .ok (.sipush 255, 3) := by decide +kernel
theorem dX13_readOrder_150 : decode cX13_readOrder 150 = .ok (.invokevirtual 349, 3) := by decide +kernel
theorem dX13_readOrder_153 : decode cX13_readOrder 153 = .ok (.goto 4, 3) := by decide +kernel
theorem dX13_readOrder_156 : decode cX13_readOrder 156 = .ok (.iconst 0, 1) := by decide +kernel
theorem dX13_readOrder_157 : decode cX13_readOrder 157 = .ok (.iastore, 1) := by decide +kernel
theorem dX13_readOrder_158 : decode cX13_readOrder 158 = .ok (.aload_n 0, 1) := by decide +kernel
theorem dX13_readOrder_159 : decode cX13_readOrder 159 = .ok (.bipush 59, 2) := by decide +kernel
theorem dX13_readOrder_161 : decode cX13_readOrder 161 = .ok (.invokevirtual 352, 3) := by decide +kernel
theorem dX13_readOrder_164 : decode cX13_readOrder 164 = .ok (.return_, 1) := by decide +kernel
theorem dX13_does_0 : decode cX13_does 0 = .ok (.aload_n 0, 1) := by decide +kernel
theorem dX13_does_1 : decode cX13_does 1 = .ok (.getfield 44, 3) := by decide +kernel
theorem dX13_does_4 : decode cX13_does 4 = .ok (.iload_n 1, 1) := by decide +kernel
theorem dX13_does_5 : decode cX13_does 5 = .ok (.iconst 1, 1) := by decide +kernel
theorem dX13_does_6 : decode cX13_does 6 = .ok (.iadd, 1) := by decide +kernel
theorem dX13_does_7 : decode cX13_does 7 = .ok (.iaload, 1) := by decide +kernel
theorem dX13_does_8 : decode cX13_does 8 = .ok (.istore_n 2, 1) := by decide +kernel
theorem dX13_does_9 : decode cX13_does 9 = .ok (.aload_n 0, 1) := by decide +kernel
theorem dX13_does_10 : decode cX13_does 10 = .ok (.getfield 44, 3) := by decide +kernel
theorem dX13_does_13 : decode cX13_does 13 = .ok (.iload_n 1, 1) := by decide +kernel
theorem dX13_does_14 : decode cX13_does 14 = .ok (.iconst 2, 1) := by decide +kernel
theorem dX13_does_15 : decode cX13_does 15 = .ok (.iadd, 1) := by decide +kernel
theorem dX13_does_16 : decode cX13_does 16 = .ok (.iaload, 1) := by decide +kernel
theorem dX13_does_17 : decode cX13_does 17 = .ok (.istore_n 3, 1) := by decide +kernel
theorem dX13_does_18 : decode cX13_does 18 = .ok (.aload_n 0, 1) := by decide +kernel
theorem dX13_does_19 : decode cX13_does 19 = .ok (.getfield 44, 3) := by decide +kernel
theorem dX13_does_22 : decode cX13_does 22 = .ok (.iload_n 1, 1) := by decide +kernel
theorem dX13_does_23 : decode cX13_does 23 = .ok (.iaload, 1) := by decide +kernel
theorem dX13_does_24 : decode cX13_does 24 = .ok (.tableswitch 96 0 5 #[40, 62, 69, 76, 82, 89], 40) := by decide +kernel
theorem dX13_does_64 : decode cX13_does 64 = .ok (.aload_n 0, 1) := by decide +kernel
theorem dX13_does_65 : decode cX13_does 65 = .ok (.aload_n 0, 1) := by decide +kernel
theorem dX13_does_66 : decode cX13_does 66 = .ok (.getfield 31, 3) := by decide +kernel
theorem dX13_does_69 : decode cX13_does 69 = .ok (.bipush 6, 2) := by decide +kernel
theorem dX13_does_71 : decode cX13_does 71 = .ok (.iaload, 1) := by decide +kernel
theorem dX13_does_72 : decode cX13_does 72 = .ok (.iload_n 2, 1) := by decide +kernel
theorem dX13_does_73 : decode cX13_does 73 = .ok (.iload_n 3, 1) := by decide +kernel
theorem dX13_does_74 : decode cX13_does 74 = .ok (.aload_n 0, 1) := by decide +kernel
theorem dX13_does_75 : decode cX13_does 75 = .ok (.getfield 44, 3) := by decide +kernel
theorem dX13_does_78 : decode cX13_does 78 = .ok (.iload_n 1, 1) := by decide +kernel
theorem dX13_does_79 : decode cX13_does 79 = .ok (.iconst 3, 1) := by decide +kernel
theorem dX13_does_80 : decode cX13_does 80 = .ok (.iadd, 1) := by decide +kernel
theorem dX13_does_81 : decode cX13_does 81 = .ok (.iaload, 1) := by decide +kernel
theorem dX13_does_82 : decode cX13_does 82 = .ok (.invokevirtual 226, 3) := by decide +kernel
theorem dX13_does_85 : decode cX13_does 85 = .ok (.ireturn, 1) := by decide +kernel
theorem dX13_does_86 : decode cX13_does 86 = .ok (.aload_n 0, 1) := by decide +kernel
theorem dX13_does_87 : decode cX13_does 87 = .ok (.iload_n 2, 1) := by decide +kernel
theorem dX13_does_88 : decode cX13_does 88 = .ok (.iload_n 3, 1) := by decide +kernel
theorem dX13_does_89 : decode cX13_does 89 = .ok (.invokevirtual 248, 3) := by decide +kernel
theorem dX13_does_92 : decode cX13_does 92 = .ok (.ireturn, 1) := by decide +kernel
theorem dX13_does_93 : decode cX13_does 93 = .ok (.aload_n 0, 1) := by decide +kernel
theorem dX13_does_94 : decode cX13_does 94 = .ok (.iload_n 2, 1) := by decide +kernel
theorem dX13_does_95 : decode cX13_does 95 = .ok (.iload_n 3, 1) := by decide +kernel
theorem dX13_does_96 : decode cX13_does 96 = .ok (.invokevirtual 251, 3) := by decide +kernel
theorem dX13_does_99 : decode cX13_does 99 = .ok (.ireturn, 1) := by decide +kernel
theorem dX13_does_100 : decode cX13_does 100 = .ok (.aload_n 0, 1) := by decide +kernel
theorem dX13_does_101 : decode cX13_does 101 = .ok (.iload_n 2, 1) := by decide +kernel
theorem dX13_does_102 : decode cX13_does 102 = .ok (.invokevirtual 254, 3) := by decide +kernel
theorem dX13_does_105 : decode cX13_does 105 = .ok (.ireturn, 1) := by decide +kernel
theorem dX13_does_106 : decode cX13_does 106 = .ok (.aload_n 0, 1) := by decide +kernel
theorem dX13_does_107 : decode cX13_does 107 = .ok (.iload_n 2, 1) := by decide +kernel
theorem dX13_does_108 : decode cX13_does 108 = .ok (.iconst 1, 1) := by decide +kernel
theorem dX13_does_109 : decode cX13_does 109 = .ok (.invokevirtual 257, 3) := by decide +kernel
theorem dX13_does_112 : decode cX13_does 112 = .ok (.ireturn, 1) := by decide +kernel
theorem dX13_does_113 : decode cX13_does 113 = .ok (.aload_n 0, 1) := by decide +kernel
theorem dX13_does_114 : decode cX13_does 114 = .ok (.iload_n 2, 1) := by decide +kernel
theorem dX13_does_115 : decode cX13_does 115 = .ok (.iconst 0, 1) := by decide +kernel
theorem dX13_does_116 : decode cX13_does 116 = .ok (.invokevirtual 257, 3) := by decide +kernel
theorem dX13_does_119 : decode cX13_does 119 = .ok (.ireturn, 1) := by decide +kernel
theorem dX13_does_120 : decode cX13_does 120 = .ok (.aload_n 0, 1) := by decide +kernel
theorem dX13_does_121 : decode cX13_does 121 = .ok (.iload_n 2, 1) := by decide +kernel
theorem dX13_does_122 : decode cX13_does 122 = .ok (.invokevirtual 266, 3) := by decide +kernel
theorem dX13_does_125 : decode cX13_does 125 = .ok (.ireturn, 1) := by decide +kernel
theorem dX13_isRepeated_0 : decode cX13_isRepeated 0 = .ok (.iconst 0, 1) := by decide +kernel
theorem dX13_isRepeated_1 : decode cX13_isRepeated 1 = .ok (.istore_n 2, 1) := by decide +kernel
theorem dX13_isRepeated_2 : decode cX13_isRepeated 2 = .ok (.iload_n 2, 1) := by decide +kernel
theorem dX13_isRepeated_3 : decode cX13_isRepeated 3 = .ok (.aload_n 0, 1) := by decide +kernel
theorem dX13_isRepeated_4 : decode cX13_isRepeated 4 = .ok (.getfield 44, 3) := by decide +kernel
theorem dX13_isRepeated_7 : decode cX13_isRepeated 7 = .ok (.iconst 4, 1) := by decide +kernel
theorem dX13_isRepeated_8 : decode cX13_isRepeated 8 = .ok (.iload_n 1, 1) := by decide +kernel
theorem dX13_isRepeated_9 : decode cX13_isRepeated 9 = .ok (.imul, 1) := by decide +kernel
theorem dX13_isRepeated_10 : decode cX13_isRepeated 10 = .ok (.iconst 1, 1) := by decide +kernel
theorem dX13_isRepeated_11 : decode cX13_isRepeated 11 = .ok (.iadd, 1) := by decide +kernel
theorem dX13_isRepeated_12 : decode cX13_isRepeated 12 = .ok (.iaload, 1) := by decide +kernel
theorem dX13_isRepeated_13 : decode cX13_isRepeated 13 = .ok (.if_icmp .ge 31, 3) := by decide +kernel
theorem dX13_isRepeated_16 : decode cX13_isRepeated 16 = .ok (.aload_n 0, 1) := by decide +kernel
theorem dX13_isRepeated_17 : decode cX13_isRepeated 17 = .ok (.iload_n 1, 1) := by decide +kernel
theorem dX13_isRepeated_18 : decode cX13_isRepeated 18 = .ok (.iconst 1, 1) := by decide +kernel
theorem dX13_isRepeated_19 : decode cX13_isRepeated 19 = .ok (.iadd, 1) := by decide +kernel
theorem dX13_isRepeated_20 : decode cX13_isRepeated 20 = .ok (.aload_n 0, 1) := by decide +kernel
theorem dX13_isRepeated_21 : decode cX13_isRepeated 21 = .ok (.getfield 44, 3) := by decide +kernel
theorem dX13_isRepeated_24 : decode cX13_isRepeated 24 = .ok (.iconst 4, 1) := by decide +kernel
theorem dX13_isRepeated_25 : decode cX13_isRepeated 25 = .ok (.iload_n 1, 1) := by decide +kernel
theorem dX13_isRepeated_26 : decode cX13_isRepeated 26 = .ok (.imul, 1) := by decide +kernel
theorem dX13_isRepeated_27 : decode cX13_isRepeated 27 = .ok (.iconst 2, 1) := by decide +kernel
theorem dX13_isRepeated_28 : decode cX13_isRepeated 28 = .ok (.iadd, 1) := by decide +kernel
theorem dX13_isRepeated_29 : decode cX13_isRepeated 29 = .ok (.iaload, 1) := by decide +kernel
theorem dX13_isRepeated_30 : decode cX13_isRepeated 30 = .ok (.invokevirtual 397, 3) := by decide +kernel
theorem dX13_isRepeated_33 : decode cX13_isRepeated 33 = .ok (.ifCond .ne 5, 3) := by decide +kernel
theorem dX13_isRepeated_36 : decode cX13_isRepeated 36 = .ok (.iconst 0, 1) := by decide +kernel
theorem dX13_isRepeated_37 : decode cX13_isRepeated 37 = .ok (.ireturn, 1) := by decide +kernel
theorem dX13_isRepeated_38 : decode cX13_isRepeated 38 = .ok (.iinc 2 1, 3) := by decide +kernel
theorem dX13_isRepeated_41 : decode cX13_isRepeated 41 = .ok (.goto (-39), 3) := by decide +kernel
theorem dX13_isRepeated_44 : decode cX13_isRepeated 44 = .ok (.iconst 1, 1) := by decide +kernel
theorem dX13_isRepeated_45 : decode cX13_isRepeated 45 = .ok (.ireturn, 1) := by decide +kernel
theorem dX13_areDone_0 : decode cX13_areDone 0 = .ok (.iload_n 1, 1) := by decide +kernel
theorem dX13_areDone_1 : decode cX13_areDone 1 = .ok (.istore_n 3, 1) := by decide +kernel
theorem dX13_areDone_2 : decode cX13_areDone 2 = .ok (.iload_n 3, 1) := by decide +kernel
theorem dX13_areDone_3 : decode cX13_areDone 3 = .ok (.iload_n 2, 1) := by decide +kernel
theorem dX13_areDone_4 : decode cX13_areDone 4 = .ok (.if_icmp .ge 97, 3) := by decide +kernel
theorem dX13_areDone_7 : decode cX13_areDone 7 = .ok (.iconst 4, 1) := by decide +kernel
theorem dX13_areDone_8 : decode cX13_areDone 8 = .ok (.iload_n 3, 1) := by decide +kernel
theorem dX13_areDone_9 : decode cX13_areDone 9 = .ok (.imul, 1) := by decide +kernel
theorem dX13_areDone_10 : decode cX13_areDone 10 = .ok (.istore 4, 2) := by decide +kernel
theorem dX13_areDone_12 : decode cX13_areDone 12 = .ok (.aload_n 0, 1) := by decide +kernel
theorem dX13_areDone_13 : decode cX13_areDone 13 = .ok (.getfield 44, 3) := by decide +kernel
theorem dX13_areDone_16 : decode cX13_areDone 16 = .ok (.iload 4, 2) := by decide +kernel
theorem dX13_areDone_18 : decode cX13_areDone 18 = .ok (.iaload, 1) := by decide +kernel
theorem dX13_areDone_19 : decode cX13_areDone 19 = .ok (.bipush 7, 2) := by decide +kernel
theorem dX13_areDone_21 : decode cX13_areDone 21 = .ok (.if_icmp .ne 7, 3) := by decide +kernel
theorem dX13_areDone_24 : decode cX13_areDone 24 = .ok (.iconst 1, 1) := by decide +kernel
theorem dX13_areDone_25 : decode cX13_areDone 25 = .ok (.goto 4, 3) := by decide +kernel
theorem dX13_areDone_28 : decode cX13_areDone 28 = .ok (.iconst 0, 1) := by decide +kernel
theorem dX13_areDone_29 : decode cX13_areDone 29 = .ok (.istore 5, 2) := by decide +kernel
theorem dX13_areDone_31 : decode cX13_areDone 31 = .ok (.iload 5, 2) := by decide +kernel
theorem dX13_areDone_33 : decode cX13_areDone 33 = .ok (.ifCond .eq 14, 3) := by decide +kernel
theorem dX13_areDone_36 : decode cX13_areDone 36 = .ok (.aload_n 0, 1) := by decide +kernel
theorem dX13_areDone_37 : decode cX13_areDone 37 = .ok (.iload_n 3, 1) := by decide +kernel
theorem dX13_areDone_38 : decode cX13_areDone 38 = .ok (.invokevirtual 400, 3) := by decide +kernel
theorem dX13_areDone_41 : decode cX13_areDone 41 = .ok (.ifCond .ne 17, 3) := by decide +kernel
theorem dX13_areDone_44 : decode cX13_areDone 44 = .ok (.goto 12, 3) := by decide +kernel
theorem dX13_areDone_47 : decode cX13_areDone 47 = .ok (.aload_n 0, 1) := by decide +kernel
theorem dX13_areDone_48 : decode cX13_areDone 48 = .ok (.iload 4, 2) := by decide +kernel
theorem dX13_areDone_50 : decode cX13_areDone 50 = .ok (.invokevirtual 403, 3) := by decide +kernel
theorem dX13_areDone_53 : decode cX13_areDone 53 = .ok (.ifCond .eq 5, 3) := by decide +kernel
theorem dX13_areDone_56 : decode cX13_areDone 56 = .ok (.iconst 0, 1) := by decide +kernel
theorem dX13_areDone_57 : decode cX13_areDone 57 = .ok (.ireturn, 1) := by decide +kernel
theorem dX13_areDone_58 : decode cX13_areDone 58 = .ok (.aload_n 0, 1) := by decide +kernel
theorem dX13_areDone_59 : decode cX13_areDone 59 = .ok (.dup, 1) := by decide +kernel
theorem dX13_areDone_60 : decode cX13_areDone 60 = .ok (.getfield 406, 3) := by decide +kernel
theorem dX13_areDone_63 : decode cX13_areDone 63 = .ok (.iload 5, 2) := by decide +kernel
theorem dX13_areDone_65 : decode cX13_areDone 65 = .ok (.ifCond .eq 7, 3) := by decide +kernel
theorem dX13_areDone_68 : decode cX13_areDone 68 = .ok (.iconst 0, 1) := by decide +kernel
theorem dX13_areDone_69 : decode cX13_areDone 69 = .ok (.goto 4, 3) := by decide +kernel
theorem dX13_areDone_72 : decode cX13_areDone 72 = .ok (.iconst 1, 1) := by decide +kernel
theorem dX13_areDone_73 : decode cX13_areDone 73 = .ok (.iadd, 1) := by decide +kernel
theorem dX13_areDone_74 : decode cX13_areDone 74 = .ok (.putfield 406, 3) := by decide +kernel
theorem dX13_areDone_77 : decode cX13_areDone 77 = .ok (.iload 5, 2) := by decide +kernel
theorem dX13_areDone_79 : decode cX13_areDone 79 = .ok (.ifCond .eq 15, 3) := by decide +kernel
theorem dX13_areDone_82 : decode cX13_areDone 82 = .ok (.aload_n 0, 1) := by decide +kernel
theorem dX13_areDone_83 : decode cX13_areDone 83 = .ok (.getfield 44, 3) := by decide +kernel
theorem dX13_areDone_86 : decode cX13_areDone 86 = .ok (.iload 4, 2) := by decide +kernel
theorem dX13_areDone_88 : decode cX13_areDone 88 = .ok (.iconst 2, 1) := by decide +kernel
theorem dX13_areDone_89 : decode cX13_areDone 89 = .ok (.iadd, 1) := by decide +kernel
theorem dX13_areDone_90 : decode cX13_areDone 90 = .ok (.iaload, 1) := by decide +kernel
theorem dX13_areDone_91 : decode cX13_areDone 91 = .ok (.goto 6, 3) := by decide +kernel
theorem dX13_areDone_94 : decode cX13_areDone 94 = .ok (.iload_n 3, 1) := by decide +kernel
theorem dX13_areDone_95 : decode cX13_areDone 95 = .ok (.iconst 1, 1) := by decide +kernel
theorem dX13_areDone_96 : decode cX13_areDone 96 = .ok (.iadd, 1) := by decide +kernel
theorem dX13_areDone_97 : decode cX13_areDone 97 = .ok (.istore_n 3, 1) := by decide +kernel
theorem dX13_areDone_98 : decode cX13_areDone 98 = .ok (.goto (-96), 3) := by decide +kernel
theorem dX13_areDone_101 : decode cX13_areDone 101 = .ok (.iconst 1, 1) := by decide +kernel
theorem dX13_areDone_102 : decode cX13_areDone 102 = .ok (.ireturn, 1) := by decide +kernel
theorem dX13_runScript_0 : decode cX13_runScript 0 = .ok (.aload_n 0, 1) := by decide +kernel
theorem dX13_runScript_1 : decode cX13_runScript 1 = .ok (.aload_n 0, 1) := by decide +kernel
theorem dX13_runScript_2 : decode cX13_runScript 2 = .ok (.iload_n 1, 1) := by decide +kernel
theorem dX13_runScript_3 : decode cX13_runScript 3 = .ok (.invokevirtual 367, 3) := by decide +kernel
theorem dX13_runScript_6 : decode cX13_runScript 6 = .ok (.invokevirtual 80, 3) := by decide +kernel
theorem dX13_runScript_9 : decode cX13_runScript 9 = .ok (.ifCond .eq 5, 3) := by decide +kernel
theorem dX13_runScript_12 : decode cX13_runScript 12 = .ok (.iconst 0, 1) := by decide +kernel
theorem dX13_runScript_13 : decode cX13_runScript 13 = .ok (.ireturn, 1) := by decide +kernel
theorem dX13_runScript_14 : decode cX13_runScript 14 = .ok (.aload_n 0, 1) := by decide +kernel
theorem dX13_runScript_15 : decode cX13_runScript 15 = .ok (.iconst 0, 1) := by decide +kernel
theorem dX13_runScript_16 : decode cX13_runScript 16 = .ok (.putfield 382, 3) := by decide +kernel
theorem dX13_runScript_19 : decode cX13_runScript 19 = .ok (.aload_n 0, 1) := by decide +kernel
theorem dX13_runScript_20 : decode cX13_runScript 20 = .ok (.iload_n 1, 1) := by decide +kernel
theorem dX13_runScript_21 : decode cX13_runScript 21 = .ok (.invokevirtual 370, 3) := by decide +kernel
theorem dX13_runScript_24 : decode cX13_runScript 24 = .ok (.aload_n 0, 1) := by decide +kernel
theorem dX13_runScript_25 : decode cX13_runScript 25 = .ok (.getfield 303, 3) := by decide +kernel
theorem dX13_runScript_28 : decode cX13_runScript 28 = .ok (.ifCond .ne 18, 3) := by decide +kernel
theorem dX13_runScript_31 : decode cX13_runScript 31 = .ok (.aload_n 0, 1) := by decide +kernel
theorem dX13_runScript_32 : decode cX13_runScript 32 = .ok (.getfield 294, 3) := by decide +kernel
theorem dX13_runScript_35 : decode cX13_runScript 35 = .ok (.ifCond .eq 11, 3) := by decide +kernel
theorem dX13_runScript_38 : decode cX13_runScript 38 = .ok (.aload_n 0, 1) := by decide +kernel
theorem dX13_runScript_39 : decode cX13_runScript 39 = .ok (.iconst 0, 1) := by decide +kernel
theorem dX13_runScript_40 : decode cX13_runScript 40 = .ok (.invokevirtual 379, 3) := by decide +kernel
theorem dX13_runScript_43 : decode cX13_runScript 43 = .ok (.goto (-19), 3) := by decide +kernel
theorem dX13_runScript_46 : decode cX13_runScript 46 = .ok (.aload_n 0, 1) := by decide +kernel
theorem dX13_runScript_47 : decode cX13_runScript 47 = .ok (.invokevirtual 376, 3) := by decide +kernel
theorem dX13_runScript_50 : decode cX13_runScript 50 = .ok (.ifCond .eq 5, 3) := by decide +kernel
theorem dX13_runScript_53 : decode cX13_runScript 53 = .ok (.iconst (-1), 1) := by decide +kernel
theorem dX13_runScript_54 : decode cX13_runScript 54 = .ok (.ireturn, 1) := by decide +kernel
theorem dX13_runScript_55 : decode cX13_runScript 55 = .ok (.aload_n 0, 1) := by decide +kernel
theorem dX13_runScript_56 : decode cX13_runScript 56 = .ok (.invokevirtual 239, 3) := by decide +kernel
theorem dX13_runScript_59 : decode cX13_runScript 59 = .ok (.aload_n 0, 1) := by decide +kernel
theorem dX13_runScript_60 : decode cX13_runScript 60 = .ok (.invokevirtual 236, 3) := by decide +kernel
theorem dX13_runScript_63 : decode cX13_runScript 63 = .ok (.aload_n 0, 1) := by decide +kernel
theorem dX13_runScript_64 : decode cX13_runScript 64 = .ok (.iconst 0, 1) := by decide +kernel
theorem dX13_runScript_65 : decode cX13_runScript 65 = .ok (.putfield 406, 3) := by decide +kernel
theorem dX13_runScript_68 : decode cX13_runScript 68 = .ok (.aload_n 0, 1) := by decide +kernel
theorem dX13_runScript_69 : decode cX13_runScript 69 = .ok (.iconst 0, 1) := by decide +kernel
theorem dX13_runScript_70 : decode cX13_runScript 70 = .ok (.aload_n 0, 1) := by decide +kernel
theorem dX13_runScript_71 : decode cX13_runScript 71 = .ok (.getfield 382, 3) := by decide +kernel
theorem dX13_runScript_74 : decode cX13_runScript 74 = .ok (.invokevirtual 397, 3) := by decide +kernel
theorem dX13_runScript_77 : decode cX13_runScript 77 = .ok (.istore_n 2, 1) := by decide +kernel
theorem dX13_runScript_78 : decode cX13_runScript 78 = .ok (.aload_n 0, 1) := by decide +kernel
theorem dX13_runScript_79 : decode cX13_runScript 79 = .ok (.getfield 406, 3) := by decide +kernel
theorem dX13_runScript_82 : decode cX13_runScript 82 = .ok (.ireturn, 1) := by decide +kernel
