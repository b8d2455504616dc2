theorem dX4_combine_120 : decode cX4_combine 120 = .ok (.lload_n 2, 1) := by decide +kernel
theorem dX4_combine_121 : decode cX4_combine 121 = .ok (.lload 4, 2) := by decide +kernel
theorem dX4_combine_123 : decode cX4_combine 123 = .ok (.ldiv, 1) := by decide +kernel
theorem dX4_combine_124 : decode cX4_combine 124 = .ok (.lstore 6, 2) := by decide +kernel
theorem dX4_combine_126 : decode cX4_combine 126 = .ok (.goto 73, 3) := by decide +kernel
theorem dX4_combine_129 : decode cX4_combine 129 = .ok (.lload 4, 2) := by decide +kernel
theorem dX4_combine_131 : decode cX4_combine 131 = .ok (.lconst 0, 1) := by decide +kernel
theorem dX4_combine_132 : decode cX4_combine 132 = .ok (.lcmp, 1) := by decide +kernel
theorem dX4_combine_133 : decode cX4_combine 133 = .ok (.ifCond .ne 9, 3) := by decide +kernel
theorem dX4_combine_136 : decode cX4_combine 136 = .ok (.ldc2_w 28, 3) := by decide +kernel
theorem dX4_combine_139 : decode cX4_combine 139 = .ok (.goto 7, 3) := by decide +kernel
theorem dX4_combine_142 : decode cX4_combine 142 = .ok (.lload_n 2, 1) := by decide +kernel
theorem dX4_combine_143 : decode cX4_combine 143 = .ok (.lload 4, 2) := by decide +kernel
theorem dX4_combine_145 : decode cX4_combine 145 = .ok (.lrem, 1) := by decide +kernel
theorem dX4_combine_146 : decode cX4_combine 146 = .ok (.lstore 6, 2) := by decide +kernel
theorem dX4_combine_148 : decode cX4_combine 148 = .ok (.goto 51, 3) := by decide +kernel
theorem dX4_combine_151 : decode cX4_combine 151 = .ok (.lload_n 2, 1) := by decide +kernel
theorem dX4_combine_152 : decode cX4_combine 152 = .ok (.lload 4, 2) := by decide +kernel
theorem dX4_combine_154 : decode cX4_combine 154 = .ok (.lcmp, 1) := by decide +kernel
theorem dX4_combine_155 : decode cX4_combine 155 = .ok (.ifCond .ge 7, 3) := by decide +kernel
theorem dX4_combine_158 : decode cX4_combine 158 = .ok (.lconst 1, 1) := by decide +kernel
theorem dX4_combine_159 : decode cX4_combine 159 = .ok (.goto 4, 3) := by decide +kernel
theorem dX4_combine_162 : decode cX4_combine 162 = .ok (.lconst 0, 1) := by decide +kernel
theorem dX4_combine_163 : decode cX4_combine 163 = .ok (.lstore 6, 2) := by decide +kernel
theorem dX4_combine_165 : decode cX4_combine 165 = .ok (.goto 34, 3) := by decide +kernel
theorem dX4_combine_168 : decode cX4_combine 168 = .ok (.lload_n 2, 1) := by decide +kernel
theorem dX4_combine_169 : decode cX4_combine 169 = .ok (.lload 4, 2) := by decide +kernel
theorem dX4_combine_171 : decode cX4_combine 171 = .ok (.lcmp, 1) := by decide +kernel
theorem dX4_combine_172 : decode cX4_combine 172 = .ok (.ifCond .le 7, 3) := by decide +kernel
theorem dX4_combine_175 : decode cX4_combine 175 = .ok (.lconst 1, 1) := by decide +kernel
theorem dX4_combine_176 : decode cX4_combine 176 = .ok (.goto 4, 3) := by decide +kernel
theorem dX4_combine_179 : decode cX4_combine 179 = .ok (.lconst 0, 1) := by decide +kernel
theorem dX4_combine_180 : decode cX4_combine 180 = .ok (.lstore 6, 2) := by decide +kernel
theorem dX4_combine_182 : decode cX4_combine 182 = .ok (.goto 17, 3) := by decide +kernel
theorem dX4_combine_185 : decode cX4_combine 185 = .ok (.lload_n 2, 1) := by decide +kernel
theorem dX4_combine_186 : decode cX4_combine 186 = .ok (.lload 4, 2) := by decide +kernel
theorem dX4_combine_188 : decode cX4_combine 188 = .ok (.lcmp, 1) := by decide +kernel
theorem dX4_combine_189 : decode cX4_combine 189 = .ok (.ifCond .ne 7, 3) := by decide +kernel
theorem dX4_combine_192 : decode cX4_combine 192 = .ok (.lconst 1, 1) := by decide +kernel
theorem dX4_combine_193 : decode cX4_combine 193 = .ok (.goto 4, 3) := by decide +kernel
theorem dX4_combine_196 : decode cX4_combine 196 = .ok (.lconst 0, 1) := by decide +kernel
theorem dX4_combine_197 : decode cX4_combine 197 = .ok (.lstore 6, 2) := by decide +kernel
theorem dX4_combine_199 : decode cX4_combine 199 = .ok (.lload 6, 2) := by decide +kernel
theorem dX4_combine_201 : decode cX4_combine 201 = .ok (.ldc2_w 30, 3) := by decide +kernel
theorem dX4_combine_204 : decode cX4_combine 204 = .ok (.lcmp, 1) := by decide +kernel
theorem dX4_combine_205 : decode cX4_combine 205 = .ok (.ifCond .gt 12, 3) := by decide +kernel
theorem dX4_combine_208 : decode cX4_combine 208 = .ok (.lload 6, 2) := by decide +kernel
theorem dX4_combine_210 : decode cX4_combine 210 = .ok (.ldc2_w 32, 3) := by decide +kernel
theorem dX4_combine_213 : decode cX4_combine 213 = .ok (.lcmp, 1) := by decide +kernel
theorem dX4_combine_214 : decode cX4_combine 214 = .ok (.ifCond .ge 5, 3) := by decide +kernel
theorem dX4_combine_217 : decode cX4_combine 217 = .ok (.iconst 0, 1) := by decide +kernel
theorem dX4_combine_218 : decode cX4_combine 218 = .ok (.ireturn, 1) := by decide +kernel
theorem dX4_combine_219 : decode cX4_combine 219 = .ok (.aload_n 0, 1) := by decide +kernel
theorem dX4_combine_220 : decode cX4_combine 220 = .ok (.dup, 1) := by decide +kernel
theorem dX4_combine_221 : decode cX4_combine 221 = .ok (.getfield 15, 3) := by decide +kernel
theorem dX4_combine_224 : decode cX4_combine 224 = .ok (.iconst 1, 1) := by decide +kernel
theorem dX4_combine_225 : decode cX4_combine 225 = .ok (.isub, 1) := by decide +kernel
theorem dX4_combine_226 : decode cX4_combine 226 = .ok (.putfield 15, 3) := by decide +kernel
theorem dX4_combine_229 : decode cX4_combine 229 = .ok (.aload_n 0, 1) := by decide +kernel
theorem dX4_combine_230 : decode cX4_combine 230 = .ok (.getfield 11, 3) := by decide +kernel
theorem dX4_combine_233 : decode cX4_combine 233 = .ok (.aload_n 0, 1) := by decide +kernel
theorem dX4_combine_234 : decode cX4_combine 234 = .ok (.getfield 15, 3) := by decide +kernel
theorem dX4_combine_237 : decode cX4_combine 237 = .ok (.iconst 1, 1) := by decide +kernel
theorem dX4_combine_238 : decode cX4_combine 238 = .ok (.isub, 1) := by decide +kernel
theorem dX4_combine_239 : decode cX4_combine 239 = .ok (.lload 6, 2) := by decide +kernel
theorem dX4_combine_241 : decode cX4_combine 241 = .ok (.l2i, 1) := by decide +kernel
theorem dX4_combine_242 : decode cX4_combine 242 = .ok (.iastore, 1) := by decide +kernel
theorem dX4_combine_243 : decode cX4_combine 243 = .ok (.iconst 1, 1) := by decide +kernel
theorem dX4_combine_244 : decode cX4_combine 244 = .ok (.ireturn, 1) := by decide +kernel
theorem dX5_init_0 : decode cX5_init 0 = .ok (.aload_n 0, 1) := by decide +kernel
theorem dX5_init_1 : decode cX5_init 1 = .ok (.invokespecial 3, 3) := by decide +kernel
theorem dX5_init_4 : decode cX5_init 4 = .ok (.aload_n 0, 1) := by decide +kernel
theorem dX5_init_5 : decode cX5_init 5 = .ok (.sipush 400, 3) := by decide +kernel
theorem dX5_init_8 : decode cX5_init 8 = .ok (.newarray .int, 2) := by decide +kernel
theorem dX5_init_10 : decode cX5_init 10 = .ok (.putfield 9, 3) := by decide +kernel
theorem dX5_init_13 : decode cX5_init 13 = .ok (.aload_n 0, 1) := by decide +kernel
theorem dX5_init_14 : decode cX5_init 14 = .ok (.sipush 400, 3) := by decide +kernel
theorem dX5_init_17 : decode cX5_init 17 = .ok (.newarray .int, 2) := by decide +kernel
theorem dX5_init_19 : decode cX5_init 19 = .ok (.putfield 15, 3) := by decide +kernel
theorem dX5_init_22 : decode cX5_init 22 = .ok (.aload_n 0, 1) := by decide +kernel
theorem dX5_init_23 : decode cX5_init 23 = .ok (.sipush 448, 3) := by decide +kernel
theorem dX5_init_26 : decode cX5_init 26 = .ok (.newarray .int, 2) := by decide +kernel
theorem dX5_init_28 : decode cX5_init 28 = .ok (.putfield 18, 3) := by decide +kernel
theorem dX5_init_31 : decode cX5_init 31 = .ok (.aload_n 0, 1) := by decide +kernel
theorem dX5_init_32 : decode cX5_init 32 = .ok (.bipush 72, 2) := by decide +kernel
theorem dX5_init_34 : decode cX5_init 34 = .ok (.newarray .int, 2) := by decide +kernel
theorem dX5_init_36 : decode cX5_init 36 = .ok (.putfield 23, 3) := by decide +kernel
theorem dX5_init_39 : decode cX5_init 39 = .ok (.aload_n 0, 1) := by decide +kernel
theorem dX5_init_40 : decode cX5_init 40 = .ok (.iconst (-1), 1) := by decide +kernel
theorem dX5_init_41 : decode cX5_init 41 = .ok (.putfield 26, 3) := by decide +kernel
theorem dX5_init_44 : decode cX5_init 44 = .ok (.return_, 1) := by decide +kernel
theorem dX5_readText_0 : decode cX5_readText 0 = .ok (.iconst 0, 1) := by decide +kernel
theorem dX5_readText_1 : decode cX5_readText 1 = .ok (.istore 4, 2) := by decide +kernel
theorem dX5_readText_3 : decode cX5_readText 3 = .ok (.iload 4, 2) := by decide +kernel
theorem dX5_readText_5 : decode cX5_readText 5 = .ok (.iload_n 2, 1) := by decide +kernel
theorem dX5_readText_6 : decode cX5_readText 6 = .ok (.if_icmp .ge 34, 3) := by decide +kernel
theorem dX5_readText_9 : decode cX5_readText 9 = .ok (.aload_n 0, 1) := by decide +kernel
theorem dX5_readText_10 : decode cX5_readText 10 = .ok (.getfield 9, 3) := by decide +kernel
theorem dX5_readText_13 : decode cX5_readText 13 = .ok (.iload 4, 2) := by decide +kernel
theorem dX5_readText_15 : decode cX5_readText 15 = .ok (.aload_n 1, 1) := by decide +kernel
theorem dX5_readText_16 : decode cX5_readText 16 = .ok (.iload 4, 2) := by decide +kernel
theorem dX5_readText_18 : decode cX5_readText 18 = .ok (.iaload, 1) := by decide +kernel
theorem dX5_readText_19 : decode cX5_readText 19 = .ok (.iastore, 1) := by decide +kernel
theorem dX5_readText_20 : decode cX5_readText 20 = .ok (.aload_n 0, 1) := by decide +kernel
theorem dX5_readText_21 : decode cX5_readText 21 = .ok (.getfield 15, 3) := by decide +kernel
theorem dX5_readText_24 : decode cX5_readText 24 = .ok (.iload 4, 2) := by decide +kernel
theorem dX5_readText_26 : decode cX5_readText 26 = .ok (.aload_n 1, 1) := by decide +kernel
theorem dX5_readText_27 : decode cX5_readText 27 = .ok (.iload 4, 2) := by decide +kernel
theorem dX5_readText_29 : decode cX5_readText 29 = .ok (.iaload, 1) := by decide +kernel
theorem dX5_readText_30 : decode cX5_readText 30 = .ok (.invokestatic 30, 3) := by decide +kernel
theorem dX5_readText_33 : decode cX5_readText 33 = .ok (.iastore, 1) := by decide +kernel
theorem dX5_readText_34 : decode cX5_readText 34 = .ok (.iinc 4 1, 3) := by decide +kernel
theorem dX5_readText_37 : decode cX5_readText 37 = .ok (.goto (-34), 3) := by decide +kernel
theorem dX5_readText_40 : decode cX5_readText 40 = .ok (.aload_n 0, 1) := by decide +kernel
theorem dX5_readText_41 : decode cX5_readText 41 = .ok (.iload_n 3, 1) := by decide +kernel
theorem dX5_readText_42 : decode cX5_readText 42 = .ok (.putfield 34, 3) := by decide +kernel
theorem dX5_readText_45 : decode cX5_readText 45 = .ok (.aload_n 0, 1) := by decide +kernel
theorem dX5_readText_46 : decode cX5_readText 46 = .ok (.iload_n 2, 1) := by decide +kernel
theorem dX5_readText_47 : decode cX5_readText 47 = .ok (.putfield 38, 3) := by decide +kernel
theorem dX5_readText_50 : decode cX5_readText 50 = .ok (.aload_n 0, 1) := by decide +kernel
theorem dX5_readText_51 : decode cX5_readText 51 = .ok (.iconst 0, 1) := by decide +kernel
theorem dX5_readText_52 : decode cX5_readText 52 = .ok (.putfield 41, 3) := by decide +kernel
theorem dX5_readText_55 : decode cX5_readText 55 = .ok (.aload_n 0, 1) := by decide +kernel
theorem dX5_readText_56 : decode cX5_readText 56 = .ok (.iconst (-1), 1) := by decide +kernel
theorem dX5_readText_57 : decode cX5_readText 57 = .ok (.putfield 26, 3) := by decide +kernel
theorem dX5_readText_60 : decode cX5_readText 60 = .ok (.aload_n 0, 1) := by decide +kernel
theorem dX5_readText_61 : decode cX5_readText 61 = .ok (.iconst 0, 1) := by decide +kernel
theorem dX5_readText_62 : decode cX5_readText 62 = .ok (.putfield 44, 3) := by decide +kernel
theorem dX5_readText_65 : decode cX5_readText 65 = .ok (.aload_n 0, 1) := by decide +kernel
theorem dX5_readText_66 : decode cX5_readText 66 = .ok (.iconst 0, 1) := by decide +kernel
theorem dX5_readText_67 : decode cX5_readText 67 = .ok (.putfield 47, 3) := by decide +kernel
theorem dX5_readText_70 : decode cX5_readText 70 = .ok (.aload_n 0, 1) := by decide +kernel
theorem dX5_readText_71 : decode cX5_readText 71 = .ok (.iconst 0, 1) := by decide +kernel
theorem dX5_readText_72 : decode cX5_readText 72 = .ok (.putfield 50, 3) := by decide +kernel
theorem dX5_readText_75 : decode cX5_readText 75 = .ok (.aload_n 0, 1) := by decide +kernel
theorem dX5_readText_76 : decode cX5_readText 76 = .ok (.invokevirtual 53, 3) := by decide +kernel
theorem dX5_readText_79 : decode cX5_readText 79 = .ok (.iconst 0, 1) := by decide +kernel
theorem dX5_readText_80 : decode cX5_readText 80 = .ok (.istore 4, 2) := by decide +kernel
theorem dX5_readText_82 : decode cX5_readText 82 = .ok (.iload 4, 2) := by decide +kernel
theorem dX5_readText_84 : decode cX5_readText 84 = .ok (.bipush 12, 2) := by decide +kernel
theorem dX5_readText_86 : decode cX5_readText 86 = .ok (.if_icmp .ge 94, 3) := by decide +kernel
theorem dX5_readText_89 : decode cX5_readText 89 = .ok (.aload_n 0, 1) := by decide +kernel
theorem dX5_readText_90 : decode cX5_readText 90 = .ok (.getfield 34, 3) := by decide +kernel
theorem dX5_readText_93 : decode cX5_readText 93 = .ok (.ifCond .eq 13, 3) := by decide +kernel
theorem dX5_readText_96 : decode cX5_readText 96 = .ok (.aload_n 0, 1) := by decide +kernel
theorem dX5_readText_97 : decode cX5_readText 97 = .ok (.invokevirtual 56, 3) := by decide +kernel
theorem dX5_readText_100 : decode cX5_readText 100 = .ok (.ifCond .eq 13, 3) := by decide +kernel
theorem dX5_readText_103 : decode cX5_readText 103 = .ok (.goto 12, 3) := by decide +kernel
theorem dX5_readText_106 : decode cX5_readText 106 = .ok (.aload_n 0, 1) := by decide +kernel
theorem dX5_readText_107 : decode cX5_readText 107 = .ok (.invokevirtual 60, 3) := by decide +kernel
theorem dX5_readText_110 : decode cX5_readText 110 = .ok (.ifCond .ne 5, 3) := by decide +kernel
theorem dX5_readText_113 : decode cX5_readText 113 = .ok (.aconst_null, 1) := by decide +kernel
theorem dX5_readText_114 : decode cX5_readText 114 = .ok (.areturn, 1) := by decide +kernel
theorem dX5_readText_115 : decode cX5_readText 115 = .ok (.aload_n 0, 1) := by decide +kernel
theorem dX5_readText_116 : decode cX5_readText 116 = .ok (.getfield 63, 3) := by decide +kernel
theorem dX5_readText_119 : decode cX5_readText 119 = .ok (.aload_n 0, 1) := by decide +kernel
theorem dX5_readText_120 : decode cX5_readText 120 = .ok (.getfield 38, 3) := by decide +kernel
theorem dX5_readText_123 : decode cX5_readText 123 = .ok (.if_icmp .ne 40, 3) := by decide +kernel
theorem dX5_readText_126 : decode cX5_readText 126 = .ok (.new 21, 3) := by decide +kernel
theorem dX5_readText_129 : decode cX5_readText 129 = .ok (.dup, 1) := by decide +kernel
theorem dX5_readText_130 : decode cX5_readText 130 = .ok (.aload_n 0, 1) := by decide +kernel
theorem dX5_readText_131 : decode cX5_readText 131 = .ok (.getfield 18, 3) := by decide +kernel
theorem dX5_readText_134 : decode cX5_readText 134 = .ok (.aload_n 0, 1) := by decide +kernel
theorem dX5_readText_135 : decode cX5_readText 135 = .ok (.getfield 47, 3) := by decide +kernel
theorem dX5_readText_138 : decode cX5_readText 138 = .ok (.invokestatic 66, 3) := by decide +kernel
theorem dX5_readText_141 : decode cX5_readText 141 = .ok (.aload_n 0, 1) := by decide +kernel
theorem dX5_readText_142 : decode cX5_readText 142 = .ok (.getfield 23, 3) := by decide +kernel
theorem dX5_readText_145 : decode cX5_readText 145 = .ok (.bipush 6, 2) := by decide +kernel
theorem dX5_readText_147 : decode cX5_readText 147 = .ok (.aload_n 0, 1) := by decide +kernel
theorem dX5_readText_148 : decode cX5_readText 148 = .ok (.getfield 50, 3) := by decide +kernel
theorem dX5_readText_151 : decode cX5_readText 151 = .ok (.imul, 1) := by decide +kernel
theorem dX5_readText_152 : decode cX5_readText 152 = .ok (.invokestatic 66, 3) := by decide +kernel
theorem dX5_readText_155 : decode cX5_readText 155 = .ok (.aload_n 0, 1) := by decide +kernel
theorem dX5_readText_156 : decode cX5_readText 156 = .ok (.getfield 50, 3) := by decide +kernel
theorem dX5_readText_159 : decode cX5_readText 159 = .ok (.invokespecial 72, 3) := by decide +kernel
theorem dX5_readText_162 : decode cX5_readText 162 = .ok (.areturn, 1) := by decide +kernel
theorem dX5_readText_163 : decode cX5_readText 163 = .ok (.aload_n 0, 1) := by decide +kernel
theorem dX5_readText_164 : decode cX5_readText 164 = .ok (.ldc 75, 2) := by decide +kernel
theorem dX5_readText_166 : decode cX5_readText 166 = .ok (.invokevirtual 77, 3) := by decide +kernel
theorem dX5_readText_169 : decode cX5_readText 169 = .ok (.ifCond .ne 5, 3) := by decide +kernel
theorem dX5_readText_172 : decode cX5_readText 172 = .ok (.aconst_null, 1) := by decide +kernel
theorem dX5_readText_173 : decode cX5_readText 173 = .ok (.areturn, 1) := by decide +kernel
theorem dX5_readText_174 : decode cX5_readText 174 = .ok (.iinc 4 1, 3) := by decide +kernel
theorem dX5_readText_177 : decode cX5_readText 177 = .ok (.goto (-95), 3) := by decide +kernel
theorem dX5_readText_180 : decode cX5_readText 180 = .ok (.aload_n 0, 1) := by decide +kernel
theorem dX5_readText_181 : decode cX5_readText 181 = .ok (.invokevirtual 81, 3) := by decide +kernel
theorem dX5_readText_184 : decode cX5_readText 184 = .ok (.pop, 1) := by decide +kernel
theorem dX5_readText_185 : decode cX5_readText 185 = .ok (.aconst_null, 1) := by decide +kernel
theorem dX5_readText_186 : decode cX5_readText 186 = .ok (.areturn, 1) := by decide +kernel
theorem dX5_readLawClause_0 : decode cX5_readLawClause 0 = .ok (.aload_n 0, 1) := by decide +kernel
theorem dX5_readLawClause_1 : decode cX5_readLawClause 1 = .ok (.ldc 84, 2) := by decide +kernel
theorem dX5_readLawClause_3 : decode cX5_readLawClause 3 = .ok (.invokevirtual 86, 3) := by decide +kernel
theorem dX5_readLawClause_6 : decode cX5_readLawClause 6 = .ok (.istore_n 1, 1) := by decide +kernel
theorem dX5_readLawClause_7 : decode cX5_readLawClause 7 = .ok (.iload_n 1, 1) := by decide +kernel
theorem dX5_readLawClause_8 : decode cX5_readLawClause 8 = .ok (.iconst (-1), 1) := by decide +kernel
theorem dX5_readLawClause_9 : decode cX5_readLawClause 9 = .ok (.if_icmp .ne 8, 3) := by decide +kernel
theorem dX5_readLawClause_12 : decode cX5_readLawClause 12 = .ok (.aload_n 0, 1) := by decide +kernel
theorem dX5_readLawClause_13 : decode cX5_readLawClause 13 = .ok (.invokevirtual 81, 3) := by decide +kernel
theorem dX5_readLawClause_16 : decode cX5_readLawClause 16 = .ok (.ireturn, 1) := by decide +kernel
theorem dX5_readLawClause_17 : decode cX5_readLawClause 17 = .ok (.aload_n 0, 1) := by decide +kernel
theorem dX5_readLawClause_18 : decode cX5_readLawClause 18 = .ok (.iload_n 1, 1) := by decide +kernel
theorem dX5_readLawClause_19 : decode cX5_readLawClause 19 = .ok (.invokevirtual 90, 3) := by decide +kernel
theorem dX5_readLawClause_22 : decode cX5_readLawClause 22 = .ok (.iload_n 1, 1) := by decide +kernel
theorem dX5_readLawClause_23 : decode cX5_readLawClause 23 = .ok (.ifCond .eq 8, 3) := by decide +kernel
theorem dX5_readLawClause_26 : decode cX5_readLawClause 26 = .ok (.iload_n 1, 1) := by decide +kernel
theorem dX5_readLawClause_27 : decode cX5_readLawClause 27 = .ok (.iconst 1, 1) := by decide +kernel
theorem dX5_readLawClause_28 : decode cX5_readLawClause 28 = .ok (.if_icmp .ne 13, 3) := by decide +kernel
theorem dX5_readLawClause_31 : decode cX5_readLawClause 31 = .ok (.aload_n 0, 1) := by decide +kernel
theorem dX5_readLawClause_32 : decode cX5_readLawClause 32 = .ok (.iconst 0, 1) := by decide +kernel
theorem dX5_readLawClause_33 : decode cX5_readLawClause 33 = .ok (.invokevirtual 94, 3) := by decide +kernel
theorem dX5_readLawClause_36 : decode cX5_readLawClause 36 = .ok (.ifCond .ne 5, 3) := by decide +kernel
theorem dX5_readLawClause_39 : decode cX5_readLawClause 39 = .ok (.iconst 0, 1) := by decide +kernel
theorem dX5_readLawClause_40 : decode cX5_readLawClause 40 = .ok (.ireturn, 1) := by decide +kernel
theorem dX5_readLawClause_41 : decode cX5_readLawClause 41 = .ok (.aload_n 0, 1) := by decide +kernel
theorem dX5_readLawClause_42 : decode cX5_readLawClause 42 = .ok (.invokevirtual 98, 3) := by decide +kernel
theorem dX5_readLawClause_45 : decode cX5_readLawClause 45 = .ok (.ireturn, 1) := by decide +kernel
theorem dX5_readOrderClause_0 : decode cX5_readOrderClause 0 = .ok (.aload_n 0, 1) := by decide +kernel
theorem dX5_readOrderClause_1 : decode cX5_readOrderClause 1 = .ok (.ldc 101, 2) := by decide +kernel
theorem dX5_readOrderClause_3 : decode cX5_readOrderClause 3 = .ok (.invokevirtual 86, 3) := by decide +kernel
theorem dX5_readOrderClause_6 : decode cX5_readOrderClause 6 = .ok (.istore_n 1, 1) := by decide +kernel
theorem dX5_readOrderClause_7 : decode cX5_readOrderClause 7 = .ok (.iload_n 1, 1) := by decide +kernel
theorem dX5_readOrderClause_8 : decode cX5_readOrderClause 8 = .ok (.iconst (-1), 1) := by decide +kernel
theorem dX5_readOrderClause_9 : decode cX5_readOrderClause 9 = .ok (.if_icmp .ne 8, 3) := by decide +kernel
theorem dX5_readOrderClause_12 : decode cX5_readOrderClause 12 = .ok (.aload_n 0, 1) := by decide +kernel
theorem dX5_readOrderClause_13 : decode cX5_readOrderClause 13 = .ok (.invokevirtual 81, 3) := by decide +kernel
theorem dX5_readOrderClause_16 : decode cX5_readOrderClause 16 = .ok (.ireturn, 1) := by decide +kernel
theorem dX5_readOrderClause_17 : decode cX5_readOrderClause 17 = .ok (.aload_n 0, 1) := by decide +kernel
theorem dX5_readOrderClause_18 : decode cX5_readOrderClause 18 = .ok (.iload_n 1, 1) := by decide +kernel
theorem dX5_readOrderClause_19 : decode cX5_readOrderClause 19 = .ok (.invokevirtual 90, 3) := by decide +kernel
theorem dX5_readOrderClause_22 : decode cX5_readOrderClause 22 = .ok (.iload_n 1, 1) := by decide +kernel
theorem dX5_readOrderClause_23 : decode cX5_readOrderClause 23 = .ok (.iconst 3, 1) := by decide +kernel
theorem dX5_readOrderClause_24 : decode cX5_readOrderClause 24 = .ok (.if_icmp .eq 13, 3) := by decide +kernel
theorem dX5_readOrderClause_27 : decode cX5_readOrderClause 27 = .ok (.aload_n 0, 1) := by decide +kernel
theorem dX5_readOrderClause_28 : decode cX5_readOrderClause 28 = .ok (.iconst 0, 1) := by decide +kernel
theorem dX5_readOrderClause_29 : decode cX5_readOrderClause 29 = .ok (.invokevirtual 94, 3) := by decide +kernel
theorem dX5_readOrderClause_32 : decode cX5_readOrderClause 32 = .ok (.ifCond .ne 5, 3) := by decide +kernel
theorem dX5_readOrderClause_35 : decode cX5_readOrderClause 35 = .ok (.iconst 0, 1) := by decide +kernel
theorem dX5_readOrderClause_36 : decode cX5_readOrderClause 36 = .ok (.ireturn, 1) := by decide +kernel
theorem dX5_readOrderClause_37 : decode cX5_readOrderClause 37 = .ok (.iload_n 1, 1) := by decide +kernel
theorem dX5_readOrderClause_38 : decode cX5_readOrderClause 38 = .ok (.ifCond .ne 22, 3) := by decide +kernel
theorem dX5_readOrderClause_41 : decode cX5_readOrderClause 41 = .ok (.aload_n 0, 1) := by decide +kernel
theorem dX5_readOrderClause_42 : decode cX5_readOrderClause 42 = .ok (.ldc 103, 2) := by decide +kernel
theorem dX5_readOrderClause_44 : decode cX5_readOrderClause 44 = .ok (.invokevirtual 77, 3) := by decide +kernel
theorem dX5_readOrderClause_47 : decode cX5_readOrderClause 47 = .ok (.ifCond .eq 11, 3) := by decide +kernel
theorem dX5_readOrderClause_50 : decode cX5_readOrderClause 50 = .ok (.aload_n 0, 1) := by decide +kernel
theorem dX5_readOrderClause_51 : decode cX5_readOrderClause 51 = .ok (.iconst 1, 1) := by decide +kernel
theorem dX5_readOrderClause_52 : decode cX5_readOrderClause 52 = .ok (.invokevirtual 94, 3) := by decide +kernel
theorem dX5_readOrderClause_55 : decode cX5_readOrderClause 55 = .ok (.ifCond .ne 5, 3) := by decide +kernel
theorem dX5_readOrderClause_58 : decode cX5_readOrderClause 58 = .ok (.iconst 0, 1) := by decide +kernel
theorem dX5_readOrderClause_59 : decode cX5_readOrderClause 59 = .ok (.ireturn, 1) := by decide +kernel
theorem dX5_readOrderClause_60 : decode cX5_readOrderClause 60 = .ok (.iload_n 1, 1) := by decide +kernel
theorem dX5_readOrderClause_61 : decode cX5_readOrderClause 61 = .ok (.iconst 1, 1) := by decide +kernel
theorem dX5_readOrderClause_62 : decode cX5_readOrderClause 62 = .ok (.if_icmp .ne 39, 3) := by decide +kernel
theorem dX5_readOrderClause_65 : decode cX5_readOrderClause 65 = .ok (.aload_n 0, 1) := by decide +kernel
theorem dX5_readOrderClause_66 : decode cX5_readOrderClause 66 = .ok (.ldc 105, 2) := by decide +kernel
theorem dX5_readOrderClause_68 : decode cX5_readOrderClause 68 = .ok (.invokevirtual 77, 3) := by decide +kernel
theorem dX5_readOrderClause_71 : decode cX5_readOrderClause 71 = .ok (.ifCond .eq 28, 3) := by decide +kernel
theorem dX5_readOrderClause_74 : decode cX5_readOrderClause 74 = .ok (.aload_n 0, 1) := by decide +kernel
theorem dX5_readOrderClause_75 : decode cX5_readOrderClause 75 = .ok (.iconst 1, 1) := by decide +kernel
theorem dX5_readOrderClause_76 : decode cX5_readOrderClause 76 = .ok (.invokevirtual 94, 3) := by decide +kernel
theorem dX5_readOrderClause_79 : decode cX5_readOrderClause 79 = .ok (.ifCond .eq 20, 3) := by decide +kernel
theorem dX5_readOrderClause_82 : decode cX5_readOrderClause 82 = .ok (.aload_n 0, 1) := by decide +kernel
theorem dX5_readOrderClause_83 : decode cX5_readOrderClause 83 = .ok (.ldc 107, 2) := by decide +kernel
theorem dX5_readOrderClause_85 : decode cX5_readOrderClause 85 = .ok (.invokevirtual 77, 3) := by decide +kernel
theorem dX5_readOrderClause_88 : decode cX5_readOrderClause 88 = .ok (.ifCond .eq 11, 3) := by decide +kernel
theorem dX5_readOrderClause_91 : decode cX5_readOrderClause 91 = .ok (.aload_n 0, 1) := by decide +kernel
theorem dX5_readOrderClause_92 : decode cX5_readOrderClause 92 = .ok (.iconst 2, 1) := by decide +kernel
theorem dX5_readOrderClause_93 : decode cX5_readOrderClause 93 = .ok (.invokevirtual 94, 3) := by decide +kernel
theorem dX5_readOrderClause_96 : decode cX5_readOrderClause 96 = .ok (.ifCond .ne 5, 3) := by decide +kernel
theorem dX5_readOrderClause_99 : decode cX5_readOrderClause 99 = .ok (.iconst 0, 1) := by decide +kernel
theorem dX5_readOrderClause_100 : decode cX5_readOrderClause 100 = .ok (.ireturn, 1) := by decide +kernel
theorem dX5_readOrderClause_101 : decode cX5_readOrderClause 101 = .ok (.aload_n 0, 1) := by decide +kernel
theorem dX5_readOrderClause_102 : decode cX5_readOrderClause 102 = .ok (.invokevirtual 109, 3) := by decide +kernel
theorem dX5_readOrderClause_105 : decode cX5_readOrderClause 105 = .ok (.ifCond .eq 14, 3) := by decide +kernel
theorem dX5_readOrderClause_108 : decode cX5_readOrderClause 108 = .ok (.aload_n 0, 1) := by decide +kernel
theorem dX5_readOrderClause_109 : decode cX5_readOrderClause 109 = .ok (.invokevirtual 98, 3) := by decide +kernel
theorem dX5_readOrderClause_112 : decode cX5_readOrderClause 112 = .ok (.ifCond .eq 7, 3) := by decide +kernel
theorem dX5_readOrderClause_115 : decode cX5_readOrderClause 115 = .ok (.iconst 1, 1) := by decide +kernel
theorem dX5_readOrderClause_116 : decode cX5_readOrderClause 116 = .ok (.goto 4, 3) := by decide +kernel
theorem dX5_readOrderClause_119 : decode cX5_readOrderClause 119 = .ok (.iconst 0, 1) := by decide +kernel
theorem dX5_readOrderClause_120 : decode cX5_readOrderClause 120 = .ok (.ireturn, 1) := by decide +kernel
theorem dX5_openClause_0 : decode cX5_openClause 0 = .ok (.bipush 6, 2) := by decide +kernel
theorem dX5_openClause_2 : decode cX5_openClause 2 = .ok (.aload_n 0, 1) := by decide +kernel
theorem dX5_openClause_3 : decode cX5_openClause 3 = .ok (.getfield 50, 3) := by decide +kernel
theorem dX5_openClause_6 : decode cX5_openClause 6 = .ok (.imul, 1) := by decide +kernel
theorem dX5_openClause_7 : decode cX5_openClause 7 = .ok (.istore_n 2, 1) := by decide +kernel
theorem dX5_openClause_8 : decode cX5_openClause 8 = .ok (.iconst 0, 1) := by decide +kernel
theorem dX5_openClause_9 : decode cX5_openClause 9 = .ok (.istore_n 3, 1) := by decide +kernel
theorem dX5_openClause_10 : decode cX5_openClause 10 = .ok (.iload_n 3, 1) := by decide +kernel
theorem dX5_openClause_11 : decode cX5_openClause 11 = .ok (.bipush 6, 2) := by decide +kernel
theorem dX5_openClause_13 : decode cX5_openClause 13 = .ok (.if_icmp .ge 18, 3) := by decide +kernel
theorem dX5_openClause_16 : decode cX5_openClause 16 = .ok (.aload_n 0, 1) := by decide +kernel
theorem dX5_openClause_17 : decode cX5_openClause 17 = .ok (.getfield 23, 3) := by decide +kernel
theorem dX5_openClause_20 : decode cX5_openClause 20 = .ok (.iload_n 2, 1) := by decide +kernel
theorem dX5_openClause_21 : decode cX5_openClause 21 = .ok (.iload_n 3, 1) := by decide +kernel
theorem dX5_openClause_22 : decode cX5_openClause 22 = .ok (.iadd, 1) := by decide +kernel
theorem dX5_openClause_23 : decode cX5_openClause 23 = .ok (.iconst (-1), 1) := by decide +kernel
theorem dX5_openClause_24 : decode cX5_openClause 24 = .ok (.iastore, 1) := by decide +kernel
theorem dX5_openClause_25 : decode cX5_openClause 25 = .ok (.iinc 3 1, 3) := by decide +kernel
theorem dX5_openClause_28 : decode cX5_openClause 28 = .ok (.goto (-18), 3) := by decide +kernel
theorem dX5_openClause_31 : decode cX5_openClause 31 = .ok (.aload_n 0, 1) := by decide +kernel
theorem dX5_openClause_32 : decode cX5_openClause 32 = .ok (.getfield 23, 3) := by decide +kernel
theorem dX5_openClause_35 : decode cX5_openClause 35 = .ok (.iload_n 2, 1) := by decide +kernel
theorem dX5_openClause_36 : decode cX5_openClause 36 = .ok (.iload_n 1, 1) := by decide +kernel
theorem dX5_openClause_37 : decode cX5_openClause 37 = .ok (.iastore, 1) := by decide +kernel
theorem dX5_openClause_38 : decode cX5_openClause 38 = .ok (.aload_n 0, 1) := by decide +kernel
theorem dX5_openClause_39 : decode cX5_openClause 39 = .ok (.getfield 23, 3) := by decide +kernel
theorem dX5_openClause_42 : decode cX5_openClause 42 = .ok (.iload_n 2, 1) := by decide +kernel
theorem dX5_openClause_43 : decode cX5_openClause 43 = .ok (.iconst 1, 1) := by decide +kernel
theorem dX5_openClause_44 : decode cX5_openClause 44 = .ok (.iadd, 1) := by decide +kernel
theorem dX5_openClause_45 : decode cX5_openClause 45 = .ok (.iconst 1, 1) := by decide +kernel
theorem dX5_openClause_46 : decode cX5_openClause 46 = .ok (.iastore, 1) := by decide +kernel
theorem dX5_openClause_47 : decode cX5_openClause 47 = .ok (.aload_n 0, 1) := by decide +kernel
theorem dX5_openClause_48 : decode cX5_openClause 48 = .ok (.dup, 1) := by decide +kernel
theorem dX5_openClause_49 : decode cX5_openClause 49 = .ok (.getfield 50, 3) := by decide +kernel
theorem dX5_openClause_52 : decode cX5_openClause 52 = .ok (.iconst 1, 1) := by decide +kernel
theorem dX5_openClause_53 : decode cX5_openClause 53 = .ok (.iadd, 1) := by decide +kernel
theorem dX5_openClause_54 : decode cX5_openClause 54 = .ok (.putfield 50, 3) := by decide +kernel
theorem dX5_openClause_57 : decode cX5_openClause 57 = .ok (.aload_n 0, 1) := by decide +kernel
theorem dX5_openClause_58 : decode cX5_openClause 58 = .ok (.invokevirtual 53, 3) := by decide +kernel
theorem dX5_openClause_61 : decode cX5_openClause 61 = .ok (.return_, 1) := by decide +kernel
theorem dX5_readPiece_0 : decode cX5_readPiece 0 = .ok (.aload_n 0, 1) := by decide +kernel
theorem dX5_readPiece_1 : decode cX5_readPiece 1 = .ok (.getfield 23, 3) := by decide +kernel
theorem dX5_readPiece_4 : decode cX5_readPiece 4 = .ok (.bipush 6, 2) := by decide +kernel
theorem dX5_readPiece_6 : decode cX5_readPiece 6 = .ok (.aload_n 0, 1) := by decide +kernel
theorem dX5_readPiece_7 : decode cX5_readPiece 7 = .ok (.getfield 50, 3) := by decide +kernel
theorem dX5_readPiece_10 : decode cX5_readPiece 10 = .ok (.iconst 1, 1) := by decide +kernel
theorem dX5_readPiece_11 : decode cX5_readPiece 11 = .ok (.isub, 1) := by decide +kernel
theorem dX5_readPiece_12 : decode cX5_readPiece 12 = .ok (.imul, 1) := by decide +kernel
theorem dX5_readPiece_13 : decode cX5_readPiece 13 = .ok (.iconst 2, 1) := by decide +kernel
theorem dX5_readPiece_14 : decode cX5_readPiece 14 = .ok (.iadd, 1) := by decide +kernel
theorem dX5_readPiece_15 : decode cX5_readPiece 15 = .ok (.iload_n 1, 1) := by decide +kernel
theorem dX5_readPiece_16 : decode cX5_readPiece 16 = .ok (.iadd, 1) := by decide +kernel
theorem dX5_readPiece_17 : decode cX5_readPiece 17 = .ok (.aload_n 0, 1) := by decide +kernel
theorem dX5_readPiece_18 : decode cX5_readPiece 18 = .ok (.getfield 47, 3) := by decide +kernel
theorem dX5_readPiece_21 : decode cX5_readPiece 21 = .ok (.iastore, 1) := by decide +kernel
theorem dX5_readPiece_22 : decode cX5_readPiece 22 = .ok (.aload_n 0, 1) := by decide +kernel
theorem dX5_readPiece_23 : decode cX5_readPiece 23 = .ok (.iconst 0, 1) := by decide +kernel
theorem dX5_readPiece_24 : decode cX5_readPiece 24 = .ok (.invokevirtual 112, 3) := by decide +kernel
theorem dX5_readPiece_27 : decode cX5_readPiece 27 = .ok (.istore_n 2, 1) := by decide +kernel
theorem dX5_readPiece_28 : decode cX5_readPiece 28 = .ok (.aload_n 0, 1) := by decide +kernel
theorem dX5_readPiece_29 : decode cX5_readPiece 29 = .ok (.iconst 0, 1) := by decide +kernel
theorem dX5_readPiece_30 : decode cX5_readPiece 30 = .ok (.iconst 0, 1) := by decide +kernel
theorem dX5_readPiece_31 : decode cX5_readPiece 31 = .ok (.invokevirtual 117, 3) := by decide +kernel
theorem dX5_readPiece_34 : decode cX5_readPiece 34 = .ok (.pop, 1) := by decide +kernel
theorem dX5_readPiece_35 : decode cX5_readPiece 35 = .ok (.iload_n 2, 1) := by decide +kernel
theorem dX5_readPiece_36 : decode cX5_readPiece 36 = .ok (.ireturn, 1) := by decide +kernel
theorem dX5_readTimes_0 : decode cX5_readTimes 0 = .ok (.aload_n 0, 1) := by decide +kernel
theorem dX5_readTimes_1 : decode cX5_readTimes 1 = .ok (.ldc 121, 2) := by decide +kernel
theorem dX5_readTimes_3 : decode cX5_readTimes 3 = .ok (.invokevirtual 86, 3) := by decide +kernel
theorem dX5_readTimes_6 : decode cX5_readTimes 6 = .ok (.iconst (-1), 1) := by decide +kernel
theorem dX5_readTimes_7 : decode cX5_readTimes 7 = .ok (.if_icmp .ne 5, 3) := by decide +kernel
theorem dX5_readTimes_10 : decode cX5_readTimes 10 = .ok (.iconst 1, 1) := by decide +kernel
theorem dX5_readTimes_11 : decode cX5_readTimes 11 = .ok (.ireturn, 1) := by decide +kernel
theorem dX5_readTimes_12 : decode cX5_readTimes 12 = .ok (.aload_n 0, 1) := by decide +kernel
theorem dX5_readTimes_13 : decode cX5_readTimes 13 = .ok (.invokevirtual 53, 3) := by decide +kernel
theorem dX5_readTimes_16 : decode cX5_readTimes 16 = .ok (.aload_n 0, 1) := by decide +kernel
theorem dX5_readTimes_17 : decode cX5_readTimes 17 = .ok (.bipush 20, 2) := by decide +kernel
theorem dX5_readTimes_19 : decode cX5_readTimes 19 = .ok (.invokevirtual 123, 3) := by decide +kernel
theorem dX5_readTimes_22 : decode cX5_readTimes 22 = .ok (.istore_n 1, 1) := by decide +kernel
theorem dX5_readTimes_23 : decode cX5_readTimes 23 = .ok (.iload_n 1, 1) := by decide +kernel
theorem dX5_readTimes_24 : decode cX5_readTimes 24 = .ok (.iconst 1, 1) := by decide +kernel
theorem dX5_readTimes_25 : decode cX5_readTimes 25 = .ok (.if_icmp .ge 8, 3) := by decide +kernel
theorem dX5_readTimes_28 : decode cX5_readTimes 28 = .ok (.aload_n 0, 1) := by decide +kernel
theorem dX5_readTimes_29 : decode cX5_readTimes 29 = .ok (.invokevirtual 81, 3) := by decide +kernel
theorem dX5_readTimes_32 : decode cX5_readTimes 32 = .ok (.ireturn, 1) := by decide +kernel
theorem dX5_readTimes_33 : decode cX5_readTimes 33 = .ok (.aload_n 0, 1) := by decide +kernel
theorem dX5_readTimes_34 : decode cX5_readTimes 34 = .ok (.getfield 23, 3) := by decide +kernel
theorem dX5_readTimes_37 : decode cX5_readTimes 37 = .ok (.bipush 6, 2) := by decide +kernel
theorem dX5_readTimes_39 : decode cX5_readTimes 39 = .ok (.aload_n 0, 1) := by decide +kernel
theorem dX5_readTimes_40 : decode cX5_readTimes 40 = .ok (.getfield 50, 3) := by decide +kernel
theorem dX5_readTimes_43 : decode cX5_readTimes 43 = .ok (.iconst 1, 1) := by decide +kernel
theorem dX5_readTimes_44 : decode cX5_readTimes 44 = .ok (.isub, 1) := by decide +kernel
theorem dX5_readTimes_45 : decode cX5_readTimes 45 = .ok (.imul, 1) := by decide +kernel
theorem dX5_readTimes_46 : decode cX5_readTimes 46 = .ok (.iconst 1, 1) := by decide +kernel
theorem dX5_readTimes_47 : decode cX5_readTimes 47 = .ok (.iadd, 1) := by decide +kernel
theorem dX5_readTimes_48 : decode cX5_readTimes 48 = .ok (.iload_n 1, 1) := by decide +kernel
theorem dX5_readTimes_49 : decode cX5_readTimes 49 = .ok (.iastore, 1) := by decide +kernel
theorem dX5_readTimes_50 : decode cX5_readTimes 50 = .ok (.aload_n 0, 1) := by decide +kernel
theorem dX5_readTimes_51 : decode cX5_readTimes 51 = .ok (.invokevirtual 53, 3) := by decide +kernel
theorem dX5_readTimes_54 : decode cX5_readTimes 54 = .ok (.iconst 1, 1) := by decide +kernel
theorem dX5_readTimes_55 : decode cX5_readTimes 55 = .ok (.ireturn, 1) := by decide +kernel
theorem dX5_readCondition_0 : decode cX5_readCondition 0 = .ok (.aload_n 0, 1) := by decide +kernel
theorem dX5_readCondition_1 : decode cX5_readCondition 1 = .ok (.ldc 126, 2) := by decide +kernel
theorem dX5_readCondition_3 : decode cX5_readCondition 3 = .ok (.invokevirtual 86, 3) := by decide +kernel
theorem dX5_readCondition_6 : decode cX5_readCondition 6 = .ok (.iconst (-1), 1) := by decide +kernel
theorem dX5_readCondition_7 : decode cX5_readCondition 7 = .ok (.if_icmp .ne 5, 3) := by decide +kernel
theorem dX5_readCondition_10 : decode cX5_readCondition 10 = .ok (.iconst 1, 1) := by decide +kernel
theorem dX5_readCondition_11 : decode cX5_readCondition 11 = .ok (.ireturn, 1) := by decide +kernel
theorem dX5_readCondition_12 : decode cX5_readCondition 12 = .ok (.aload_n 0, 1) := by decide +kernel
theorem dX5_readCondition_13 : decode cX5_readCondition 13 = .ok (.invokevirtual 53, 3) := by decide +kernel
theorem dX5_readCondition_16 : decode cX5_readCondition 16 = .ok (.aload_n 0, 1) := by decide +kernel
theorem dX5_readCondition_17 : decode cX5_readCondition 17 = .ok (.getfield 23, 3) := by decide +kernel
theorem dX5_readCondition_20 : decode cX5_readCondition 20 = .ok (.bipush 6, 2) := by decide +kernel
theorem dX5_readCondition_22 : decode cX5_readCondition 22 = .ok (.aload_n 0, 1) := by decide +kernel
theorem dX5_readCondition_23 : decode cX5_readCondition 23 = .ok (.getfield 50, 3) := by decide +kernel
theorem dX5_readCondition_26 : decode cX5_readCondition 26 = .ok (.iconst 1, 1) := by decide +kernel
theorem dX5_readCondition_27 : decode cX5_readCondition 27 = .ok (.isub, 1) := by decide +kernel
theorem dX5_readCondition_28 : decode cX5_readCondition 28 = .ok (.imul, 1) := by decide +kernel
theorem dX5_readCondition_29 : decode cX5_readCondition 29 = .ok (.iconst 5, 1) := by decide +kernel
theorem dX5_readCondition_30 : decode cX5_readCondition 30 = .ok (.iadd, 1) := by decide +kernel
theorem dX5_readCondition_31 : decode cX5_readCondition 31 = .ok (.aload_n 0, 1) := by decide +kernel
theorem dX5_readCondition_32 : decode cX5_readCondition 32 = .ok (.getfield 47, 3) := by decide +kernel
theorem dX5_readCondition_35 : decode cX5_readCondition 35 = .ok (.iastore, 1) := by decide +kernel
theorem dX5_readCondition_36 : decode cX5_readCondition 36 = .ok (.aload_n 0, 1) := by decide +kernel
theorem dX5_readCondition_37 : decode cX5_readCondition 37 = .ok (.iconst 0, 1) := by decide +kernel
theorem dX5_readCondition_38 : decode cX5_readCondition 38 = .ok (.invokevirtual 128, 3) := by decide +kernel
theorem dX5_readCondition_41 : decode cX5_readCondition 41 = .ok (.istore_n 1, 1) := by decide +kernel
theorem dX5_readCondition_42 : decode cX5_readCondition 42 = .ok (.aload_n 0, 1) := by decide +kernel
theorem dX5_readCondition_43 : decode cX5_readCondition 43 = .ok (.iconst 0, 1) := by decide +kernel
theorem dX5_readCondition_44 : decode cX5_readCondition 44 = .ok (.iconst 0, 1) := by decide +kernel
theorem dX5_readCondition_45 : decode cX5_readCondition 45 = .ok (.invokevirtual 117, 3) := by decide +kernel
theorem dX5_readCondition_48 : decode cX5_readCondition 48 = .ok (.pop, 1) := by decide +kernel
theorem dX5_readCondition_49 : decode cX5_readCondition 49 = .ok (.iload_n 1, 1) := by decide +kernel
theorem dX5_readCondition_50 : decode cX5_readCondition 50 = .ok (.ireturn, 1) := by decide +kernel
theorem dX5_readTest_0 : decode cX5_readTest 0 = .ok (.aload_n 0, 1) := by decide +kernel
theorem dX5_readTest_1 : decode cX5_readTest 1 = .ok (.iload_n 1, 1) := by decide +kernel
theorem dX5_readTest_2 : decode cX5_readTest 2 = .ok (.invokevirtual 131, 3) := by decide +kernel
theorem dX5_readTest_5 : decode cX5_readTest 5 = .ok (.istore_n 2, 1) := by decide +kernel
theorem dX5_readTest_6 : decode cX5_readTest 6 = .ok (.iconst 0, 1) := by decide +kernel
theorem dX5_readTest_7 : decode cX5_readTest 7 = .ok (.istore_n 3, 1) := by decide +kernel
theorem dX5_readTest_8 : decode cX5_readTest 8 = .ok (.iload_n 3, 1) := by decide +kernel
theorem dX5_readTest_9 : decode cX5_readTest 9 = .ok (.aload_n 0, 1) := by decide +kernel
theorem dX5_readTest_10 : decode cX5_readTest 10 = .ok (.getfield 38, 3) := by decide +kernel
theorem dX5_readTest_13 : decode cX5_readTest 13 = .ok (.if_icmp .ge 48, 3) := by decide +kernel
theorem dX5_readTest_16 : decode cX5_readTest 16 = .ok (.iload_n 2, 1) := by decide +kernel
theorem dX5_readTest_17 : decode cX5_readTest 17 = .ok (.ifCond .eq 44, 3) := by decide +kernel
theorem dX5_readTest_20 : decode cX5_readTest 20 = .ok (.aload_n 0, 1) := by decide +kernel
theorem dX5_readTest_21 : decode cX5_readTest 21 = .ok (.ldc 134, 2) := by decide +kernel
theorem dX5_readTest_23 : decode cX5_readTest 23 = .ok (.invokevirtual 86, 3) := by decide +kernel
theorem dX5_readTest_26 : decode cX5_readTest 26 = .ok (.iconst (-1), 1) := by decide +kernel
theorem dX5_readTest_27 : decode cX5_readTest 27 = .ok (.if_icmp .eq 34, 3) := by decide +kernel
theorem dX5_readTest_30 : decode cX5_readTest 30 = .ok (.aload_n 0, 1) := by decide +kernel
theorem dX5_readTest_31 : decode cX5_readTest 31 = .ok (.invokevirtual 53, 3) := by decide +kernel
theorem dX5_readTest_34 : decode cX5_readTest 34 = .ok (.aload_n 0, 1) := by decide +kernel
theorem dX5_readTest_35 : decode cX5_readTest 35 = .ok (.bipush 13, 2) := by decide +kernel
theorem dX5_readTest_37 : decode cX5_readTest 37 = .ok (.iconst 0, 1) := by decide +kernel
theorem dX5_readTest_38 : decode cX5_readTest 38 = .ok (.invokevirtual 117, 3) := by decide +kernel
theorem dX5_readTest_41 : decode cX5_readTest 41 = .ok (.istore 4, 2) := by decide +kernel
theorem dX5_readTest_43 : decode cX5_readTest 43 = .ok (.aload_n 0, 1) := by decide +kernel
theorem dX5_readTest_44 : decode cX5_readTest 44 = .ok (.iload_n 1, 1) := by decide +kernel
theorem dX5_readTest_45 : decode cX5_readTest 45 = .ok (.invokevirtual 131, 3) := by decide +kernel
theorem dX5_readTest_48 : decode cX5_readTest 48 = .ok (.istore_n 2, 1) := by decide +kernel
theorem dX5_readTest_49 : decode cX5_readTest 49 = .ok (.aload_n 0, 1) := by decide +kernel
theorem dX5_readTest_50 : decode cX5_readTest 50 = .ok (.iload 4, 2) := by decide +kernel
theorem dX5_readTest_52 : decode cX5_readTest 52 = .ok (.invokevirtual 136, 3) := by decide +kernel
theorem dX5_readTest_55 : decode cX5_readTest 55 = .ok (.iinc 3 1, 3) := by decide +kernel
theorem dX5_readTest_58 : decode cX5_readTest 58 = .ok (.goto (-50), 3) := by decide +kernel
theorem dX5_readTest_61 : decode cX5_readTest 61 = .ok (.iload_n 2, 1) := by decide +kernel
theorem dX5_readTest_62 : decode cX5_readTest 62 = .ok (.ireturn, 1) := by decide +kernel
theorem dX5_readBoth_0 : decode cX5_readBoth 0 = .ok (.aload_n 0, 1) := by decide +kernel
theorem dX5_readBoth_1 : decode cX5_readBoth 1 = .ok (.iload_n 1, 1) := by decide +kernel
theorem dX5_readBoth_2 : decode cX5_readBoth 2 = .ok (.invokevirtual 139, 3) := by decide +kernel
theorem dX5_readBoth_5 : decode cX5_readBoth 5 = .ok (.istore_n 2, 1) := by decide +kernel
theorem dX5_readBoth_6 : decode cX5_readBoth 6 = .ok (.iconst 0, 1) := by decide +kernel
theorem dX5_readBoth_7 : decode cX5_readBoth 7 = .ok (.istore_n 3, 1) := by decide +kernel
theorem dX5_readBoth_8 : decode cX5_readBoth 8 = .ok (.iload_n 3, 1) := by decide +kernel
theorem dX5_readBoth_9 : decode cX5_readBoth 9 = .ok (.aload_n 0, 1) := by decide +kernel
theorem dX5_readBoth_10 : decode cX5_readBoth 10 = .ok (.getfield 38, 3) := by decide +kernel
theorem dX5_readBoth_13 : decode cX5_readBoth 13 = .ok (.if_icmp .ge 48, 3) := by decide +kernel
theorem dX5_readBoth_16 : decode cX5_readBoth 16 = .ok (.iload_n 2, 1) := by decide +kernel
theorem dX5_readBoth_17 : decode cX5_readBoth 17 = .ok (.ifCond .eq 44, 3) := by decide +kernel
theorem dX5_readBoth_20 : decode cX5_readBoth 20 = .ok (.aload_n 0, 1) := by decide +kernel
theorem dX5_readBoth_21 : decode cX5_readBoth 21 = .ok (.ldc 142, 2) := by decide +kernel
theorem dX5_readBoth_23 : decode cX5_readBoth 23 = .ok (.invokevirtual 86, 3) := by decide +kernel
theorem dX5_readBoth_26 : decode cX5_readBoth 26 = .ok (.iconst (-1), 1) := by decide +kernel
theorem dX5_readBoth_27 : decode cX5_readBoth 27 = .ok (.if_icmp .eq 34, 3) := by decide +kernel
theorem dX5_readBoth_30 : decode cX5_readBoth 30 = .ok (.aload_n 0, 1) := by decide +kernel
theorem dX5_readBoth_31 : decode cX5_readBoth 31 = .ok (.invokevirtual 53, 3) := by decide +kernel
theorem dX5_readBoth_34 : decode cX5_readBoth 34 = .ok (.aload_n 0, 1) := by decide +kernel
theorem dX5_readBoth_35 : decode cX5_readBoth 35 = .ok (.bipush 12, 2) := by decide +kernel
theorem dX5_readBoth_37 : decode cX5_readBoth 37 = .ok (.iconst 0, 1) := by decide +kernel
theorem dX5_readBoth_38 : decode cX5_readBoth 38 = .ok (.invokevirtual 117, 3) := by decide +kernel
theorem dX5_readBoth_41 : decode cX5_readBoth 41 = .ok (.istore 4, 2) := by decide +kernel
theorem dX5_readBoth_43 : decode cX5_readBoth 43 = .ok (.aload_n 0, 1) := by decide +kernel
theorem dX5_readBoth_44 : decode cX5_readBoth 44 = .ok (.iload_n 1, 1) := by decide +kernel
theorem dX5_readBoth_45 : decode cX5_readBoth 45 = .ok (.invokevirtual 139, 3) := by decide +kernel
theorem dX5_readBoth_48 : decode cX5_readBoth 48 = .ok (.istore_n 2, 1) := by decide +kernel
theorem dX5_readBoth_49 : decode cX5_readBoth 49 = .ok (.aload_n 0, 1) := by decide +kernel
theorem dX5_readBoth_50 : decode cX5_readBoth 50 = .ok (.iload 4, 2) := by decide +kernel
theorem dX5_readBoth_52 : decode cX5_readBoth 52 = .ok (.invokevirtual 136, 3) := by decide +kernel
theorem dX5_readBoth_55 : decode cX5_readBoth 55 = .ok (.iinc 3 1, 3) := by decide +kernel
theorem dX5_readBoth_58 : decode cX5_readBoth 58 = .ok (.goto (-50), 3) := by decide +kernel
theorem dX5_readBoth_61 : decode cX5_readBoth 61 = .ok (.iload_n 2, 1) := by decide +kernel
theorem dX5_readBoth_62 : decode cX5_readBoth 62 = .ok (.ireturn, 1) := by decide +kernel
theorem dX5_readPlain_0 : decode cX5_readPlain 0 = .ok (.iconst 0, 1) := by decide +kernel
theorem dX5_readPlain_1 : decode cX5_readPlain 1 = .ok (.istore_n 2, 1) := by decide +kernel
theorem dX5_readPlain_2 : decode cX5_readPlain 2 = .ok (.iload_n 2, 1) := by decide +kernel
theorem dX5_readPlain_3 : decode cX5_readPlain 3 = .ok (.aload_n 0, 1) := by decide +kernel
theorem dX5_readPlain_4 : decode cX5_readPlain 4 = .ok (.getfield 38, 3) := by decide +kernel
theorem dX5_readPlain_7 : decode cX5_readPlain 7 = .ok (.if_icmp .ge 23, 3) := by decide +kernel
theorem dX5_readPlain_10 : decode cX5_readPlain 10 = .ok (.aload_n 0, 1) := by decide +kernel
theorem dX5_readPlain_11 : decode cX5_readPlain 11 = .ok (.ldc 144, 2) := by decide +kernel
theorem dX5_readPlain_13 : decode cX5_readPlain 13 = .ok (.invokevirtual 86, 3) := by decide +kernel
theorem dX5_readPlain_16 : decode cX5_readPlain 16 = .ok (.iconst (-1), 1) := by decide +kernel
theorem dX5_readPlain_17 : decode cX5_readPlain 17 = .ok (.if_icmp .eq 13, 3) := by decide +kernel
theorem dX5_readPlain_20 : decode cX5_readPlain 20 = .ok (.aload_n 0, 1) := by decide +kernel
theorem dX5_readPlain_21 : decode cX5_readPlain 21 = .ok (.invokevirtual 53, 3) := by decide +kernel
theorem dX5_readPlain_24 : decode cX5_readPlain 24 = .ok (.iinc 2 1, 3) := by decide +kernel
theorem dX5_readPlain_27 : decode cX5_readPlain 27 = .ok (.goto (-25), 3) := by decide +kernel
theorem dX5_readPlain_30 : decode cX5_readPlain 30 = .ok (.aload_n 0, 1) := by decide +kernel
theorem dX5_readPlain_31 : decode cX5_readPlain 31 = .ok (.ldc 146, 2) := by decide +kernel
theorem dX5_readPlain_33 : decode cX5_readPlain 33 = .ok (.invokevirtual 86, 3) := by decide +kernel
theorem dX5_readPlain_36 : decode cX5_readPlain 36 = .ok (.iconst (-1), 1) := by decide +kernel
theorem dX5_readPlain_37 : decode cX5_readPlain 37 = .ok (.if_icmp .eq 39, 3) := by decide +kernel
theorem dX5_readPlain_40 : decode cX5_readPlain 40 = .ok (.iload_n 1, 1) := by decide +kernel
theorem dX5_readPlain_41 : decode cX5_readPlain 41 = .ok (.bipush 8, 2) := by decide +kernel
theorem dX5_readPlain_43 : decode cX5_readPlain 43 = .ok (.if_icmp .lt 8, 3) := by decide +kernel
theorem dX5_readPlain_46 : decode cX5_readPlain 46 = .ok (.aload_n 0, 1) := by decide +kernel
theorem dX5_readPlain_47 : decode cX5_readPlain 47 = .ok (.invokevirtual 81, 3) := by decide +kernel
theorem dX5_readPlain_50 : decode cX5_readPlain 50 = .ok (.ireturn, 1) := by decide +kernel
theorem dX5_readPlain_51 : decode cX5_readPlain 51 = .ok (.aload_n 0, 1) := by decide +kernel
theorem dX5_readPlain_52 : decode cX5_readPlain 52 = .ok (.invokevirtual 53, 3) := by decide +kernel
theorem dX5_readPlain_55 : decode cX5_readPlain 55 = .ok (.aload_n 0, 1) := by decide +kernel
theorem dX5_readPlain_56 : decode cX5_readPlain 56 = .ok (.iload_n 1, 1) := by decide +kernel
theorem dX5_readPlain_57 : decode cX5_readPlain 57 = .ok (.iconst 1, 1) := by decide +kernel
theorem dX5_readPlain_58 : decode cX5_readPlain 58 = .ok (.iadd, 1) := by decide +kernel
theorem dX5_readPlain_59 : decode cX5_readPlain 59 = .ok (.invokevirtual 128, 3) := by decide +kernel
theorem dX5_readPlain_62 : decode cX5_readPlain 62 = .ok (.ifCond .eq 12, 3) := by decide +kernel
theorem dX5_readPlain_65 : decode cX5_readPlain 65 = .ok (.aload_n 0, 1) := by decide +kernel
theorem dX5_readPlain_66 : decode cX5_readPlain 66 = .ok (.ldc 148, 2) := by decide +kernel
theorem dX5_readPlain_68 : decode cX5_readPlain 68 = .ok (.invokevirtual 77, 3) := by decide +kernel
theorem dX5_readPlain_71 : decode cX5_readPlain 71 = .ok (.ifCond .ne 56, 3) := by decide +kernel
theorem dX5_readPlain_74 : decode cX5_readPlain 74 = .ok (.iconst 0, 1) := by decide +kernel
theorem dX5_readPlain_75 : decode cX5_readPlain 75 = .ok (.ireturn, 1) := by decide +kernel
theorem dX5_readPlain_76 : decode cX5_readPlain 76 = .ok (.aload_n 0, 1) := by decide +kernel
theorem dX5_readPlain_77 : decode cX5_readPlain 77 = .ok (.iload_n 1, 1) := by decide +kernel
theorem dX5_readPlain_78 : decode cX5_readPlain 78 = .ok (.invokevirtual 112, 3) := by decide +kernel
theorem dX5_readPlain_81 : decode cX5_readPlain 81 = .ok (.ifCond .ne 5, 3) := by decide +kernel
theorem dX5_readPlain_84 : decode cX5_readPlain 84 = .ok (.iconst 0, 1) := by decide +kernel
theorem dX5_readPlain_85 : decode cX5_readPlain 85 = .ok (.ireturn, 1) := by decide +kernel
theorem dX5_readPlain_86 : decode cX5_readPlain 86 = .ok (.aload_n 0, 1) := by decide +kernel
theorem dX5_readPlain_87 : decode cX5_readPlain 87 = .ok (.ldc 150, 2) := by decide +kernel
theorem dX5_readPlain_89 : decode cX5_readPlain 89 = .ok (.invokevirtual 86, 3) := by decide +kernel
theorem dX5_readPlain_92 : decode cX5_readPlain 92 = .ok (.istore_n 3, 1) := by decide +kernel
theorem dX5_readPlain_93 : decode cX5_readPlain 93 = .ok (.iload_n 3, 1) := by decide +kernel
theorem dX5_readPlain_94 : decode cX5_readPlain 94 = .ok (.iconst (-1), 1) := by decide +kernel
theorem dX5_readPlain_95 : decode cX5_readPlain 95 = .ok (.if_icmp .ne 8, 3) := by decide +kernel
theorem dX5_readPlain_98 : decode cX5_readPlain 98 = .ok (.aload_n 0, 1) := by decide +kernel
theorem dX5_readPlain_99 : decode cX5_readPlain 99 = .ok (.invokevirtual 81, 3) := by decide +kernel
theorem dX5_readPlain_102 : decode cX5_readPlain 102 = .ok (.ireturn, 1) := by decide +kernel
theorem dX5_readPlain_103 : decode cX5_readPlain 103 = .ok (.aload_n 0, 1) := by decide +kernel
theorem dX5_readPlain_104 : decode cX5_readPlain 104 = .ok (.invokevirtual 53, 3) := by decide +kernel
theorem dX5_readPlain_107 : decode cX5_readPlain 107 = .ok (.aload_n 0, 1) := by decide +kernel
theorem dX5_readPlain_108 : decode cX5_readPlain 108 = .ok (.iload_n 1, 1) := by decide +kernel
theorem dX5_readPlain_109 : decode cX5_readPlain 109 = .ok (.invokevirtual 112, 3) := by decide +kernel
theorem dX5_readPlain_112 : decode cX5_readPlain 112 = .ok (.ifCond .ne 5, 3) := by decide +kernel
theorem dX5_readPlain_115 : decode cX5_readPlain 115 = .ok (.iconst 0, 1) := by decide +kernel
theorem dX5_readPlain_116 : decode cX5_readPlain 116 = .ok (.ireturn, 1) := by decide +kernel
theorem dX5_readPlain_117 : decode cX5_readPlain 117 = .ok (.aload_n 0, 1) := by decide +kernel
theorem dX5_readPlain_118 : decode cX5_readPlain 118 = .ok (.bipush 8, 2) := by decide +kernel
theorem dX5_readPlain_120 : decode cX5_readPlain 120 = .ok (.iload_n 3, 1) := by decide +kernel
theorem dX5_readPlain_121 : decode cX5_readPlain 121 = .ok (.iadd, 1) := by decide +kernel
theorem dX5_readPlain_122 : decode cX5_readPlain 122 = .ok (.iconst 0, 1) := by decide +kernel
theorem dX5_readPlain_123 : decode cX5_readPlain 123 = .ok (.invokevirtual 117, 3) := by decide +kernel
theorem dX5_readPlain_126 : decode cX5_readPlain 126 = .ok (.pop, 1) := by decide +kernel
theorem dX5_readPlain_127 : decode cX5_readPlain 127 = .ok (.iload_n 2, 1) := by decide +kernel
theorem dX5_readPlain_128 : decode cX5_readPlain 128 = .ok (.iconst 2, 1) := by decide +kernel
theorem dX5_readPlain_129 : decode cX5_readPlain 129 = .ok (.irem, 1) := by decide +kernel
theorem dX5_readPlain_130 : decode cX5_readPlain 130 = .ok (.iconst 1, 1) := by decide +kernel
theorem dX5_readPlain_131 : decode cX5_readPlain 131 = .ok (.if_icmp .ne 11, 3) := by decide +kernel
theorem dX5_readPlain_134 : decode cX5_readPlain 134 = .ok (.aload_n 0, 1) := by decide +kernel
theorem dX5_readPlain_135 : decode cX5_readPlain 135 = .ok (.bipush 11, 2) := by decide +kernel
theorem dX5_readPlain_137 : decode cX5_readPlain 137 = .ok (.iconst 0, 1) := by decide +kernel
theorem dX5_readPlain_138 : decode cX5_readPlain 138 = .ok (.invokevirtual 117, 3) := by decide +kernel
theorem dX5_readPlain_141 : decode cX5_readPlain 141 = .ok (.pop, 1) := by decide +kernel
theorem dX5_readPlain_142 : decode cX5_readPlain 142 = .ok (.iconst 1, 1) := by decide +kernel
theorem dX5_readPlain_143 : decode cX5_readPlain 143 = .ok (.ireturn, 1) := by decide +kernel
theorem dX5_readSum_0 : decode cX5_readSum 0 = .ok (.aload_n 0, 1) := by decide +kernel
theorem dX5_readSum_1 : decode cX5_readSum 1 = .ok (.iload_n 1, 1) := by decide +kernel
theorem dX5_readSum_2 : decode cX5_readSum 2 = .ok (.invokevirtual 152, 3) := by decide +kernel
theorem dX5_readSum_5 : decode cX5_readSum 5 = .ok (.istore_n 2, 1) := by decide +kernel
theorem dX5_readSum_6 : decode cX5_readSum 6 = .ok (.iconst 0, 1) := by decide +kernel
theorem dX5_readSum_7 : decode cX5_readSum 7 = .ok (.istore_n 3, 1) := by decide +kernel
theorem dX5_readSum_8 : decode cX5_readSum 8 = .ok (.iload_n 3, 1) := by decide +kernel
theorem dX5_readSum_9 : decode cX5_readSum 9 = .ok (.aload_n 0, 1) := by decide +kernel
theorem dX5_readSum_10 : decode cX5_readSum 10 = .ok (.getfield 38, 3) := by decide +kernel
theorem dX5_readSum_13 : decode cX5_readSum 13 = .ok (.if_icmp .ge 49, 3) := by decide +kernel
theorem dX5_readSum_16 : decode cX5_readSum 16 = .ok (.iload_n 2, 1) := by decide +kernel
theorem dX5_readSum_17 : decode cX5_readSum 17 = .ok (.ifCond .eq 45, 3) := by decide +kernel
theorem dX5_readSum_20 : decode cX5_readSum 20 = .ok (.aload_n 0, 1) := by decide +kernel
theorem dX5_readSum_21 : decode cX5_readSum 21 = .ok (.ldc 155, 2) := by decide +kernel
theorem dX5_readSum_23 : decode cX5_readSum 23 = .ok (.invokevirtual 86, 3) := by decide +kernel
theorem dX5_readSum_26 : decode cX5_readSum 26 = .ok (.istore 4, 2) := by decide +kernel
theorem dX5_readSum_28 : decode cX5_readSum 28 = .ok (.iload 4, 2) := by decide +kernel
theorem dX5_readSum_30 : decode cX5_readSum 30 = .ok (.iconst (-1), 1) := by decide +kernel
theorem dX5_readSum_31 : decode cX5_readSum 31 = .ok (.if_icmp .ne 5, 3) := by decide +kernel
theorem dX5_readSum_34 : decode cX5_readSum 34 = .ok (.iconst 1, 1) := by decide +kernel
theorem dX5_readSum_35 : decode cX5_readSum 35 = .ok (.ireturn, 1) := by decide +kernel
theorem dX5_readSum_36 : decode cX5_readSum 36 = .ok (.aload_n 0, 1) := by decide +kernel
theorem dX5_readSum_37 : decode cX5_readSum 37 = .ok (.invokevirtual 53, 3) := by decide +kernel
theorem dX5_readSum_40 : decode cX5_readSum 40 = .ok (.aload_n 0, 1) := by decide +kernel
theorem dX5_readSum_41 : decode cX5_readSum 41 = .ok (.iload_n 1, 1) := by decide +kernel
theorem dX5_readSum_42 : decode cX5_readSum 42 = .ok (.invokevirtual 152, 3) := by decide +kernel
theorem dX5_readSum_45 : decode cX5_readSum 45 = .ok (.istore_n 2, 1) := by decide +kernel
theorem dX5_readSum_46 : decode cX5_readSum 46 = .ok (.aload_n 0, 1) := by decide +kernel
theorem dX5_readSum_47 : decode cX5_readSum 47 = .ok (.iconst 3, 1) := by decide +kernel
theorem dX5_readSum_48 : decode cX5_readSum 48 = .ok (.iload 4, 2) := by decide +kernel
theorem dX5_readSum_50 : decode cX5_readSum 50 = .ok (.iadd, 1) := by decide +kernel
theorem dX5_readSum_51 : decode cX5_readSum 51 = .ok (.iconst 0, 1) := by decide +kernel
theorem dX5_readSum_52 : decode cX5_readSum 52 = .ok (.invokevirtual 117, 3) := by decide +kernel
theorem dX5_readSum_55 : decode cX5_readSum 55 = .ok (.pop, 1) := by decide +kernel
theorem dX5_readSum_56 : decode cX5_readSum 56 = .ok (.iinc 3 1, 3) := by decide +kernel
theorem dX5_readSum_59 : decode cX5_readSum 59 = .ok (.goto (-51), 3) := by decide +kernel
theorem dX5_readSum_62 : decode cX5_readSum 62 = .ok (.iload_n 2, 1) := by decide +kernel
theorem dX5_readSum_63 : decode cX5_readSum 63 = .ok (.ireturn, 1) := by decide +kernel
theorem dX5_readTerm_0 : decode cX5_readTerm 0 = .ok (.aload_n 0, 1) := by decide +kernel
theorem dX5_readTerm_1 : decode cX5_readTerm 1 = .ok (.iload_n 1, 1) := by decide +kernel
theorem dX5_readTerm_2 : decode cX5_readTerm 2 = .ok (.invokevirtual 157, 3) := by decide +kernel
theorem dX5_readTerm_5 : decode cX5_readTerm 5 = .ok (.istore_n 2, 1) := by decide +kernel
theorem dX5_readTerm_6 : decode cX5_readTerm 6 = .ok (.iconst 0, 1) := by decide +kernel
theorem dX5_readTerm_7 : decode cX5_readTerm 7 = .ok (.istore_n 3, 1) := by decide +kernel
theorem dX5_readTerm_8 : decode cX5_readTerm 8 = .ok (.iload_n 3, 1) := by decide +kernel
theorem dX5_readTerm_9 : decode cX5_readTerm 9 = .ok (.aload_n 0, 1) := by decide +kernel
theorem dX5_readTerm_10 : decode cX5_readTerm 10 = .ok (.getfield 38, 3) := by decide +kernel
theorem dX5_readTerm_13 : decode cX5_readTerm 13 = .ok (.if_icmp .ge 49, 3) := by decide +kernel
theorem dX5_readTerm_16 : decode cX5_readTerm 16 = .ok (.iload_n 2, 1) := by decide +kernel
theorem dX5_readTerm_17 : decode cX5_readTerm 17 = .ok (.ifCond .eq 45, 3) := by decide +kernel
theorem dX5_readTerm_20 : decode cX5_readTerm 20 = .ok (.aload_n 0, 1) := by decide +kernel
theorem dX5_readTerm_21 : decode cX5_readTerm 21 = .ok (.ldc 160, 2) := by decide +kernel
theorem dX5_readTerm_23 : decode cX5_readTerm 23 = .ok (.invokevirtual 86, 3) := by decide +kernel
theorem dX5_readTerm_26 : decode cX5_readTerm 26 = .ok (.istore 4, 2) := by decide +kernel
theorem dX5_readTerm_28 : decode cX5_readTerm 28 = .ok (.iload 4, 2) := by decide +kernel
theorem dX5_readTerm_30 : decode cX5_readTerm 30 = .ok (.iconst (-1), 1) := by decide +kernel
theorem dX5_readTerm_31 : decode cX5_readTerm 31 = .ok (.if_icmp .ne 5, 3) := by decide +kernel
theorem dX5_readTerm_34 : decode cX5_readTerm 34 = .ok (.iconst 1, 1) := by decide +kernel
theorem dX5_readTerm_35 : decode cX5_readTerm 35 = .ok (.ireturn, 1) := by decide +kernel
theorem dX5_readTerm_36 : decode cX5_readTerm 36 = .ok (.aload_n 0, 1) := by decide +kernel
theorem dX5_readTerm_37 : decode cX5_readTerm 37 = .ok (.invokevirtual 53, 3) := by decide +kernel
theorem dX5_readTerm_40 : decode cX5_readTerm 40 = .ok (.aload_n 0, 1) := by decide +kernel
theorem dX5_readTerm_41 : decode cX5_readTerm 41 = .ok (.iload_n 1, 1) := by decide +kernel
theorem dX5_readTerm_42 : decode cX5_readTerm 42 = .ok (.invokevirtual 157, 3) := by decide +kernel
theorem dX5_readTerm_45 : decode cX5_readTerm 45 = .ok (.istore_n 2, 1) := by decide +kernel
theorem dX5_readTerm_46 : decode cX5_readTerm 46 = .ok (.aload_n 0, 1) := by decide +kernel
theorem dX5_readTerm_47 : decode cX5_readTerm 47 = .ok (.iconst 5, 1) := by decide +kernel
theorem dX5_readTerm_48 : decode cX5_readTerm 48 = .ok (.iload 4, 2) := by decide +kernel
theorem dX5_readTerm_50 : decode cX5_readTerm 50 = .ok (.iadd, 1) := by decide +kernel
theorem dX5_readTerm_51 : decode cX5_readTerm 51 = .ok (.iconst 0, 1) := by decide +kernel
theorem dX5_readTerm_52 : decode cX5_readTerm 52 = .ok (.invokevirtual 117, 3) := by decide +kernel
theorem dX5_readTerm_55 : decode cX5_readTerm 55 = .ok (.pop, 1) := by decide +kernel
theorem dX5_readTerm_56 : decode cX5_readTerm 56 = .ok (.iinc 3 1, 3) := by decide +kernel
theorem dX5_readTerm_59 : decode cX5_readTerm 59 = .ok (.goto (-51), 3) := by decide +kernel
theorem dX5_readTerm_62 : decode cX5_readTerm 62 = .ok (.iload_n 2, 1) := by decide +kernel
theorem dX5_readTerm_63 : decode cX5_readTerm 63 = .ok (.ireturn, 1) := by decide +kernel
theorem dX5_readPart_0 : decode cX5_readPart 0 = .ok (.aload_n 0, 1) := by decide +kernel
theorem dX5_readPart_1 : decode cX5_readPart 1 = .ok (.ldc 162, 2) := by decide +kernel
theorem dX5_readPart_3 : decode cX5_readPart 3 = .ok (.invokevirtual 86, 3) := by decide +kernel
theorem dX5_readPart_6 : decode cX5_readPart 6 = .ok (.iconst (-1), 1) := by decide +kernel
theorem dX5_readPart_7 : decode cX5_readPart 7 = .ok (.if_icmp .eq 43, 3) := by decide +kernel
theorem dX5_readPart_10 : decode cX5_readPart 10 = .ok (.iload_n 1, 1) := by decide +kernel
theorem dX5_readPart_11 : decode cX5_readPart 11 = .ok (.bipush 8, 2) := by decide +kernel
theorem dX5_readPart_13 : decode cX5_readPart 13 = .ok (.if_icmp .lt 8, 3) := by decide +kernel
theorem dX5_readPart_16 : decode cX5_readPart 16 = .ok (.aload_n 0, 1) := by decide +kernel
theorem dX5_readPart_17 : decode cX5_readPart 17 = .ok (.invokevirtual 81, 3) := by decide +kernel
theorem dX5_readPart_20 : decode cX5_readPart 20 = .ok (.ireturn, 1) := by decide +kernel
theorem dX5_readPart_21 : decode cX5_readPart 21 = .ok (.aload_n 0, 1) := by decide +kernel
theorem dX5_readPart_22 : decode cX5_readPart 22 = .ok (.invokevirtual 53, 3) := by decide +kernel
theorem dX5_readPart_25 : decode cX5_readPart 25 = .ok (.aload_n 0, 1) := by decide +kernel
theorem dX5_readPart_26 : decode cX5_readPart 26 = .ok (.iload_n 1, 1) := by decide +kernel
theorem dX5_readPart_27 : decode cX5_readPart 27 = .ok (.iconst 1, 1) := by decide +kernel
theorem dX5_readPart_28 : decode cX5_readPart 28 = .ok (.iadd, 1) := by decide +kernel
theorem dX5_readPart_29 : decode cX5_readPart 29 = .ok (.invokevirtual 112, 3) := by decide +kernel
theorem dX5_readPart_32 : decode cX5_readPart 32 = .ok (.ifCond .eq 16, 3) := by decide +kernel
theorem dX5_readPart_35 : decode cX5_readPart 35 = .ok (.aload_n 0, 1) := by decide +kernel
theorem dX5_readPart_36 : decode cX5_readPart 36 = .ok (.ldc 164, 2) := by decide +kernel
theorem dX5_readPart_38 : decode cX5_readPart 38 = .ok (.invokevirtual 77, 3) := by decide +kernel
theorem dX5_readPart_41 : decode cX5_readPart 41 = .ok (.ifCond .eq 7, 3) := by decide +kernel
theorem dX5_readPart_44 : decode cX5_readPart 44 = .ok (.iconst 1, 1) := by decide +kernel
theorem dX5_readPart_45 : decode cX5_readPart 45 = .ok (.goto 4, 3) := by decide +kernel
theorem dX5_readPart_48 : decode cX5_readPart 48 = .ok (.iconst 0, 1) := by decide +kernel
theorem dX5_readPart_49 : decode cX5_readPart 49 = .ok (.ireturn, 1) := by decide +kernel
theorem dX5_readPart_50 : decode cX5_readPart 50 = .ok (.aload_n 0, 1) := by decide +kernel
theorem dX5_readPart_51 : decode cX5_readPart 51 = .ok (.sipush 1000, 3) := by decide +kernel
theorem dX5_readPart_54 : decode cX5_readPart 54 = .ok (.invokevirtual 123, 3) := by decide +kernel
theorem dX5_readPart_57 : decode cX5_readPart 57 = .ok (.istore_n 2, 1) := by decide +kernel
theorem dX5_readPart_58 : decode cX5_readPart 58 = .ok (.aload_n 0, 1) := by decide +kernel
theorem dX5_readPart_59 : decode cX5_readPart 59 = .ok (.aload_n 0, 1) := by decide +kernel
theorem dX5_readPart_60 : decode cX5_readPart 60 = .ok (.getfield 34, 3) := by decide +kernel
theorem dX5_readPart_63 : decode cX5_readPart 63 = .ok (.ifCond .eq 8, 3) := by decide +kernel
theorem dX5_readPart_66 : decode cX5_readPart 66 = .ok (.ldc 166, 2) := by decide +kernel
theorem dX5_readPart_68 : decode cX5_readPart 68 = .ok (.goto 5, 3) := by decide +kernel
theorem dX5_readPart_71 : decode cX5_readPart 71 = .ok (.ldc 168, 2) := by decide +kernel
theorem dX5_readPart_73 : decode cX5_readPart 73 = .ok (.invokevirtual 86, 3) := by decide +kernel
theorem dX5_readPart_76 : decode cX5_readPart 76 = .ok (.istore_n 3, 1) := by decide +kernel
theorem dX5_readPart_77 : decode cX5_readPart 77 = .ok (.iload_n 2, 1) := by decide +kernel
theorem dX5_readPart_78 : decode cX5_readPart 78 = .ok (.iconst (-1), 1) := by decide +kernel
theorem dX5_readPart_79 : decode cX5_readPart 79 = .ok (.if_icmp .ne 8, 3) := by decide +kernel
theorem dX5_readPart_82 : decode cX5_readPart 82 = .ok (.iload_n 3, 1) := by decide +kernel
theorem dX5_readPart_83 : decode cX5_readPart 83 = .ok (.iconst (-1), 1) := by decide +kernel
theorem dX5_readPart_84 : decode cX5_readPart 84 = .ok (.if_icmp .eq 12, 3) := by decide +kernel
theorem dX5_readPart_87 : decode cX5_readPart 87 = .ok (.aload_n 0, 1) := by decide +kernel
theorem dX5_readPart_88 : decode cX5_readPart 88 = .ok (.getfield 44, 3) := by decide +kernel
theorem dX5_readPart_91 : decode cX5_readPart 91 = .ok (.bipush 50, 2) := by decide +kernel
theorem dX5_readPart_93 : decode cX5_readPart 93 = .ok (.if_icmp .lt 8, 3) := by decide +kernel
theorem dX5_readPart_96 : decode cX5_readPart 96 = .ok (.aload_n 0, 1) := by decide +kernel
theorem dX5_readPart_97 : decode cX5_readPart 97 = .ok (.invokevirtual 81, 3) := by decide +kernel
theorem dX5_readPart_100 : decode cX5_readPart 100 = .ok (.ireturn, 1) := by decide +kernel
theorem dX5_readPart_101 : decode cX5_readPart 101 = .ok (.aload_n 0, 1) := by decide +kernel
theorem dX5_readPart_102 : decode cX5_readPart 102 = .ok (.dup, 1) := by decide +kernel
theorem dX5_readPart_103 : decode cX5_readPart 103 = .ok (.getfield 44, 3) := by decide +kernel
theorem dX5_readPart_106 : decode cX5_readPart 106 = .ok (.iconst 1, 1) := by decide +kernel
theorem dX5_readPart_107 : decode cX5_readPart 107 = .ok (.iadd, 1) := by decide +kernel
theorem dX5_readPart_108 : decode cX5_readPart 108 = .ok (.putfield 44, 3) := by decide +kernel
theorem dX5_readPart_111 : decode cX5_readPart 111 = .ok (.aload_n 0, 1) := by decide +kernel
theorem dX5_readPart_112 : decode cX5_readPart 112 = .ok (.invokevirtual 53, 3) := by decide +kernel
theorem dX5_readPart_115 : decode cX5_readPart 115 = .ok (.iload_n 2, 1) := by decide +kernel
theorem dX5_readPart_116 : decode cX5_readPart 116 = .ok (.iconst (-1), 1) := by decide +kernel
theorem dX5_readPart_117 : decode cX5_readPart 117 = .ok (.if_icmp .eq 12, 3) := by decide +kernel
theorem dX5_readPart_120 : decode cX5_readPart 120 = .ok (.aload_n 0, 1) := by decide +kernel
theorem dX5_readPart_121 : decode cX5_readPart 121 = .ok (.iconst 1, 1) := by decide +kernel
theorem dX5_readPart_122 : decode cX5_readPart 122 = .ok (.iload_n 2, 1) := by decide +kernel
theorem dX5_readPart_123 : decode cX5_readPart 123 = .ok (.invokevirtual 117, 3) := by decide +kernel
theorem dX5_readPart_126 : decode cX5_readPart 126 = .ok (.pop, 1) := by decide +kernel
theorem dX5_readPart_127 : decode cX5_readPart 127 = .ok (.iconst 1, 1) := by decide +kernel
theorem dX5_readPart_128 : decode cX5_readPart 128 = .ok (.ireturn, 1) := by decide +kernel
theorem dX5_readPart_129 : decode cX5_readPart 129 = .ok (.aload_n 0, 1) := by decide +kernel
theorem dX5_readPart_130 : decode cX5_readPart 130 = .ok (.iload_n 3, 1) := by decide +kernel
theorem dX5_readPart_131 : decode cX5_readPart 131 = .ok (.invokevirtual 170, 3) := by decide +kernel
theorem dX5_readPart_134 : decode cX5_readPart 134 = .ok (.ireturn, 1) := by decide +kernel
theorem dX5_readWord_0 : decode cX5_readWord 0 = .ok (.aload_n 0, 1) := by decide +kernel
theorem dX5_readWord_1 : decode cX5_readWord 1 = .ok (.getfield 34, 3) := by decide +kernel
theorem dX5_readWord_4 : decode cX5_readWord 4 = .ok (.ifCond .ne 8, 3) := by decide +kernel
theorem dX5_readWord_7 : decode cX5_readWord 7 = .ok (.iload_n 1, 1) := by decide +kernel
theorem dX5_readWord_8 : decode cX5_readWord 8 = .ok (.iconst 3, 1) := by decide +kernel
theorem dX5_readWord_9 : decode cX5_readWord 9 = .ok (.if_icmp .ge 12, 3) := by decide +kernel
theorem dX5_readWord_12 : decode cX5_readWord 12 = .ok (.aload_n 0, 1) := by decide +kernel
theorem dX5_readWord_13 : decode cX5_readWord 13 = .ok (.iconst 2, 1) := by decide +kernel
theorem dX5_readWord_14 : decode cX5_readWord 14 = .ok (.iload_n 1, 1) := by decide +kernel
theorem dX5_readWord_15 : decode cX5_readWord 15 = .ok (.invokevirtual 117, 3) := by decide +kernel
theorem dX5_readWord_18 : decode cX5_readWord 18 = .ok (.pop, 1) := by decide +kernel
theorem dX5_readWord_19 : decode cX5_readWord 19 = .ok (.iconst 1, 1) := by decide +kernel
theorem dX5_readWord_20 : decode cX5_readWord 20 = .ok (.ireturn, 1) := by decide +kernel
theorem dX5_readWord_21 : decode cX5_readWord 21 = .ok (.iload_n 1, 1) := by decide +kernel
theorem dX5_readWord_22 : decode cX5_readWord 22 = .ok (.iconst 3, 1) := by decide +kernel
theorem dX5_readWord_23 : decode cX5_readWord 23 = .ok (.if_icmp .ne 7, 3) := by decide +kernel
theorem dX5_readWord_26 : decode cX5_readWord 26 = .ok (.iconst 1, 1) := by decide +kernel
theorem dX5_readWord_27 : decode cX5_readWord 27 = .ok (.goto 4, 3) := by decide +kernel
theorem dX5_readWord_30 : decode cX5_readWord 30 = .ok (.iconst 0, 1) := by decide +kernel
theorem dX5_readWord_31 : decode cX5_readWord 31 = .ok (.istore_n 2, 1) := by decide +kernel
theorem dX5_readWord_32 : decode cX5_readWord 32 = .ok (.aload_n 0, 1) := by decide +kernel
theorem dX5_readWord_33 : decode cX5_readWord 33 = .ok (.iload_n 2, 1) := by decide +kernel
theorem dX5_readWord_34 : decode cX5_readWord 34 = .ok (.ifCond .eq 8, 3) := by decide +kernel
theorem dX5_readWord_37 : decode cX5_readWord 37 = .ok (.bipush 24, 2) := by decide +kernel
theorem dX5_readWord_39 : decode cX5_readWord 39 = .ok (.goto 4, 3) := by decide +kernel
theorem dX5_readWord_42 : decode cX5_readWord 42 = .ok (.iconst 4, 1) := by decide +kernel
theorem dX5_readWord_43 : decode cX5_readWord 43 = .ok (.invokevirtual 123, 3) := by decide +kernel
theorem dX5_readWord_46 : decode cX5_readWord 46 = .ok (.istore_n 3, 1) := by decide +kernel
theorem dX5_readWord_47 : decode cX5_readWord 47 = .ok (.iload_n 3, 1) := by decide +kernel
theorem dX5_readWord_48 : decode cX5_readWord 48 = .ok (.iconst (-1), 1) := by decide +kernel
theorem dX5_readWord_49 : decode cX5_readWord 49 = .ok (.if_icmp .ne 8, 3) := by decide +kernel
theorem dX5_readWord_52 : decode cX5_readWord 52 = .ok (.aload_n 0, 1) := by decide +kernel
theorem dX5_readWord_53 : decode cX5_readWord 53 = .ok (.invokevirtual 81, 3) := by decide +kernel
theorem dX5_readWord_56 : decode cX5_readWord 56 = .ok (.ireturn, 1) := by decide +kernel
theorem dX5_readWord_57 : decode cX5_readWord 57 = .ok (.iload_n 2, 1) := by decide +kernel
theorem dX5_readWord_58 : decode cX5_readWord 58 = .ok (.ifCond .eq 7, 3) := by decide +kernel
theorem dX5_readWord_61 : decode cX5_readWord 61 = .ok (.iconst 3, 1) := by decide +kernel
theorem dX5_readWord_62 : decode cX5_readWord 62 = .ok (.goto 13, 3) := by decide +kernel
theorem dX5_readWord_65 : decode cX5_readWord 65 = .ok (.bipush 28, 2) := by decide +kernel
theorem dX5_readWord_67 : decode cX5_readWord 67 = .ok (.iconst 5, 1) := by decide +kernel
theorem dX5_readWord_68 : decode cX5_readWord 68 = .ok (.iload_n 1, 1) := by decide +kernel
theorem dX5_readWord_69 : decode cX5_readWord 69 = .ok (.iconst 3, 1) := by decide +kernel
theorem dX5_readWord_70 : decode cX5_readWord 70 = .ok (.isub, 1) := by decide +kernel
theorem dX5_readWord_71 : decode cX5_readWord 71 = .ok (.iconst 1, 1) := by decide +kernel
theorem dX5_readWord_72 : decode cX5_readWord 72 = .ok (.isub, 1) := by decide +kernel
theorem dX5_readWord_73 : decode cX5_readWord 73 = .ok (.imul, 1) := by decide +kernel
theorem dX5_readWord_74 : decode cX5_readWord 74 = .ok (.iadd, 1) := by decide +kernel
theorem dX5_readWord_75 : decode cX5_readWord 75 = .ok (.istore 4, 2) := by decide +kernel
theorem dX5_readWord_77 : decode cX5_readWord 77 = .ok (.aload_n 0, 1) := by decide +kernel
theorem dX5_readWord_78 : decode cX5_readWord 78 = .ok (.iconst 2, 1) := by decide +kernel
theorem dX5_readWord_79 : decode cX5_readWord 79 = .ok (.iload 4, 2) := by decide +kernel
theorem dX5_readWord_81 : decode cX5_readWord 81 = .ok (.iload_n 3, 1) := by decide +kernel
theorem dX5_readWord_82 : decode cX5_readWord 82 = .ok (.iadd, 1) := by decide +kernel
theorem dX5_readWord_83 : decode cX5_readWord 83 = .ok (.invokevirtual 117, 3) := by decide +kernel
theorem dX5_readWord_86 : decode cX5_readWord 86 = .ok (.pop, 1) := by decide +kernel
theorem dX5_readWord_87 : decode cX5_readWord 87 = .ok (.aload_n 0, 1) := by decide +kernel
theorem dX5_readWord_88 : decode cX5_readWord 88 = .ok (.invokevirtual 53, 3) := by decide +kernel
theorem dX5_readWord_91 : decode cX5_readWord 91 = .ok (.iconst 1, 1) := by decide +kernel
theorem dX5_readWord_92 : decode cX5_readWord 92 = .ok (.ireturn, 1) := by decide +kernel
theorem dX5_readSign_0 : decode cX5_readSign 0 = .ok (.aload_n 0, 1) := by decide +kernel
theorem dX5_readSign_1 : decode cX5_readSign 1 = .ok (.aload_n 1, 1) := by decide +kernel
theorem dX5_readSign_2 : decode cX5_readSign 2 = .ok (.invokevirtual 86, 3) := by decide +kernel
theorem dX5_readSign_5 : decode cX5_readSign 5 = .ok (.iconst (-1), 1) := by decide +kernel
theorem dX5_readSign_6 : decode cX5_readSign 6 = .ok (.if_icmp .ne 8, 3) := by decide +kernel
theorem dX5_readSign_9 : decode cX5_readSign 9 = .ok (.aload_n 0, 1) := by decide +kernel
theorem dX5_readSign_10 : decode cX5_readSign 10 = .ok (.invokevirtual 81, 3) := by decide +kernel
theorem dX5_readSign_13 : decode cX5_readSign 13 = .ok (.ireturn, 1) := by decide +kernel
theorem dX5_readSign_14 : decode cX5_readSign 14 = .ok (.aload_n 0, 1) := by decide +kernel
theorem dX5_readSign_15 : decode cX5_readSign 15 = .ok (.invokevirtual 53, 3) := by decide +kernel
theorem dX5_readSign_18 : decode cX5_readSign 18 = .ok (.iconst 1, 1) := by decide +kernel
theorem dX5_readSign_19 : decode cX5_readSign 19 = .ok (.ireturn, 1) := by decide +kernel
theorem dX5_fails_0 : decode cX5_fails 0 = .ok (.aload_n 0, 1) := by decide +kernel
theorem dX5_fails_1 : decode cX5_fails 1 = .ok (.aload_n 0, 1) := by decide +kernel
theorem dX5_fails_2 : decode cX5_fails 2 = .ok (.getfield 63, 3) := by decide +kernel
theorem dX5_fails_5 : decode cX5_fails 5 = .ok (.putfield 26, 3) := by decide +kernel
theorem dX5_fails_8 : decode cX5_fails 8 = .ok (.iconst 0, 1) := by decide +kernel
theorem dX5_fails_9 : decode cX5_fails 9 = .ok (.ireturn, 1) := by decide +kernel
theorem dX5_put_0 : decode cX5_put 0 = .ok (.aload_n 0, 1) := by decide +kernel
theorem dX5_put_1 : decode cX5_put 1 = .ok (.getfield 47, 3) := by decide +kernel
theorem dX5_put_4 : decode cX5_put 4 = .ok (.istore_n 3, 1) := by decide +kernel
theorem dX5_put_5 : decode cX5_put 5 = .ok (.iload_n 3, 1) := by decide +kernel
theorem dX5_put_6 : decode cX5_put 6 = .ok (.sipush 448, 3) := by decide +kernel
theorem dX5_put_9 : decode cX5_put 9 = .ok (.if_icmp .ge 25, 3) := by decide +kernel
theorem dX5_put_12 : decode cX5_put 12 = .ok (.aload_n 0, 1) := by decide +kernel
theorem dX5_put_13 : decode cX5_put 13 = .ok (.getfield 18, 3) := by decide +kernel
theorem dX5_put_16 : decode cX5_put 16 = .ok (.iload_n 3, 1) := by decide +kernel
theorem dX5_put_17 : decode cX5_put 17 = .ok (.iload_n 1, 1) := by decide +kernel
theorem dX5_put_18 : decode cX5_put 18 = .ok (.iload_n 2, 1) := by decide +kernel
theorem dX5_put_19 : decode cX5_put 19 = .ok (.bipush 8, 2) := by decide +kernel
theorem dX5_put_21 : decode cX5_put 21 = .ok (.ishl, 1) := by decide +kernel
theorem dX5_put_22 : decode cX5_put 22 = .ok (.ior, 1) := by decide +kernel
theorem dX5_put_23 : decode cX5_put 23 = .ok (.iastore, 1) := by decide +kernel
theorem dX5_put_24 : decode cX5_put 24 = .ok (.aload_n 0, 1) := by decide +kernel
theorem dX5_put_25 : decode cX5_put 25 = .ok (.dup, 1) := by decide +kernel
theorem dX5_put_26 : decode cX5_put 26 = .ok (.getfield 47, 3) := by decide +kernel
theorem dX5_put_29 : decode cX5_put 29 = .ok (.iconst 1, 1) := by decide +kernel
theorem dX5_put_30 : decode cX5_put 30 = .ok (.iadd, 1) := by decide +kernel
theorem dX5_put_31 : decode cX5_put 31 = .ok (.putfield 47, 3) := by decide +kernel
theorem dX5_put_34 : decode cX5_put 34 = .ok (.iload_n 3, 1) := by decide +kernel
theorem dX5_put_35 : decode cX5_put 35 = .ok (.ireturn, 1) := by decide +kernel
theorem dX5_land_0 : decode cX5_land 0 = .ok (.iload_n 1, 1) := by decide +kernel
theorem dX5_land_1 : decode cX5_land 1 = .ok (.aload_n 0, 1) := by decide +kernel
theorem dX5_land_2 : decode cX5_land 2 = .ok (.getfield 47, 3) := by decide +kernel
theorem dX5_land_5 : decode cX5_land 5 = .ok (.if_icmp .ge 19, 3) := by decide +kernel
theorem dX5_land_8 : decode cX5_land 8 = .ok (.aload_n 0, 1) := by decide +kernel
theorem dX5_land_9 : decode cX5_land 9 = .ok (.getfield 18, 3) := by decide +kernel
theorem dX5_land_12 : decode cX5_land 12 = .ok (.iload_n 1, 1) := by decide +kernel
theorem dX5_land_13 : decode cX5_land 13 = .ok (.dup2, 1) := by decide +kernel
theorem dX5_land_14 : decode cX5_land 14 = .ok (.iaload, 1) := by decide +kernel
theorem dX5_land_15 : decode cX5_land 15 = .ok (.aload_n 0, 1) := by decide +kernel
theorem dX5_land_16 : decode cX5_land 16 = .ok (.getfield 47, 3) := by decide +kernel
theorem dX5_land_19 : decode cX5_land 19 = .ok (.bipush 8, 2) := by decide +kernel
theorem dX5_land_21 : decode cX5_land 21 = .ok (.ishl, 1) := by decide +kernel
theorem dX5_land_22 : decode cX5_land 22 = .ok (.ior, 1) := by decide +kernel
theorem dX5_land_23 : decode cX5_land 23 = .ok (.iastore, 1) := by decide +kernel
theorem dX5_land_24 : decode cX5_land 24 = .ok (.return_, 1) := by decide +kernel
theorem dX5_kindOfByte_0 : decode cX5_kindOfByte 0 = .ok (.iload_n 0, 1) := by decide +kernel
theorem dX5_kindOfByte_1 : decode cX5_kindOfByte 1 = .ok (.bipush 32, 2) := by decide +kernel
theorem dX5_kindOfByte_3 : decode cX5_kindOfByte 3 = .ok (.if_icmp .ne 5, 3) := by decide +kernel
theorem dX5_kindOfByte_6 : decode cX5_kindOfByte 6 = .ok (.iconst 0, 1) := by decide +kernel
theorem dX5_kindOfByte_7 : decode cX5_kindOfByte 7 = .ok (.ireturn, 1) := by decide +kernel
theorem dX5_kindOfByte_8 : decode cX5_kindOfByte 8 = .ok (.iload_n 0, 1) := by decide +kernel
theorem dX5_kindOfByte_9 : decode cX5_kindOfByte 9 = .ok (.bipush 97, 2) := by decide +kernel
theorem dX5_kindOfByte_11 : decode cX5_kindOfByte 11 = .ok (.if_icmp .lt 11, 3) := by decide +kernel
theorem dX5_kindOfByte_14 : decode cX5_kindOfByte 14 = .ok (.iload_n 0, 1) := by decide +kernel
theorem dX5_kindOfByte_15 : decode cX5_kindOfByte 15 = .ok (.bipush 122, 2) := by decide +kernel
theorem dX5_kindOfByte_17 : decode cX5_kindOfByte 17 = .ok (.if_icmp .gt 5, 3) := by decide +kernel
theorem dX5_kindOfByte_20 : decode cX5_kindOfByte 20 = .ok (.iconst 1, 1) := by decide +kernel
theorem dX5_kindOfByte_21 : decode cX5_kindOfByte 21 = .ok (.ireturn, 1) := by decide +kernel
theorem dX5_kindOfByte_22 : decode cX5_kindOfByte 22 = .ok (.iload_n 0, 1) := by decide +kernel
theorem dX5_kindOfByte_23 : decode cX5_kindOfByte 23 = .ok (.bipush 48, 2) := by decide +kernel
theorem dX5_kindOfByte_25 : decode cX5_kindOfByte 25 = .ok (.if_icmp .lt 13, 3) := by decide +kernel
theorem dX5_kindOfByte_28 : decode cX5_kindOfByte 28 = .ok (.iload_n 0, 1) := by decide +kernel
theorem dX5_kindOfByte_29 : decode cX5_kindOfByte 29 = .ok (.bipush 57, 2) := by decide +kernel
theorem dX5_kindOfByte_31 : decode cX5_kindOfByte 31 = .ok (.if_icmp .gt 7, 3) := by decide +kernel
theorem dX5_kindOfByte_34 : decode cX5_kindOfByte 34 = .ok (.iconst 2, 1) := by decide +kernel
theorem dX5_kindOfByte_35 : decode cX5_kindOfByte 35 = .ok (.goto 4, 3) := by decide +kernel
theorem dX5_kindOfByte_38 : decode cX5_kindOfByte 38 = .ok (.iconst 3, 1) := by decide +kernel
theorem dX5_kindOfByte_39 : decode cX5_kindOfByte 39 = .ok (.ireturn, 1) := by decide +kernel
theorem dX5_move_0 : decode cX5_move 0 = .ok (.aload_n 0, 1) := by decide +kernel
theorem dX5_move_1 : decode cX5_move 1 = .ok (.getfield 41, 3) := by decide +kernel
theorem dX5_move_4 : decode cX5_move 4 = .ok (.istore_n 1, 1) := by decide +kernel
theorem dX5_move_5 : decode cX5_move 5 = .ok (.iload_n 1, 1) := by decide +kernel
theorem dX5_move_6 : decode cX5_move 6 = .ok (.aload_n 0, 1) := by decide +kernel
theorem dX5_move_7 : decode cX5_move 7 = .ok (.getfield 38, 3) := by decide +kernel
theorem dX5_move_10 : decode cX5_move 10 = .ok (.if_icmp .ge 18, 3) := by decide +kernel
theorem dX5_move_13 : decode cX5_move 13 = .ok (.aload_n 0, 1) := by decide +kernel
theorem dX5_move_14 : decode cX5_move 14 = .ok (.getfield 15, 3) := by decide +kernel
theorem dX5_move_17 : decode cX5_move 17 = .ok (.iload_n 1, 1) := by decide +kernel
theorem dX5_move_18 : decode cX5_move 18 = .ok (.iaload, 1) := by decide +kernel
theorem dX5_move_19 : decode cX5_move 19 = .ok (.ifCond .ne 9, 3) := by decide +kernel
theorem dX5_move_22 : decode cX5_move 22 = .ok (.iinc 1 1, 3) := by decide +kernel
theorem dX5_move_25 : decode cX5_move 25 = .ok (.goto (-20), 3) := by decide +kernel
theorem dX5_move_28 : decode cX5_move 28 = .ok (.aload_n 0, 1) := by decide +kernel
theorem dX5_move_29 : decode cX5_move 29 = .ok (.iload_n 1, 1) := by decide +kernel
theorem dX5_move_30 : decode cX5_move 30 = .ok (.putfield 63, 3) := by decide +kernel
theorem dX5_move_33 : decode cX5_move 33 = .ok (.iload_n 1, 1) := by decide +kernel
theorem dX5_move_34 : decode cX5_move 34 = .ok (.aload_n 0, 1) := by decide +kernel
theorem dX5_move_35 : decode cX5_move 35 = .ok (.getfield 38, 3) := by decide +kernel
theorem dX5_move_38 : decode cX5_move 38 = .ok (.if_icmp .ge 6, 3) := by decide +kernel
theorem dX5_move_41 : decode cX5_move 41 = .ok (.iinc 1 1, 3) := by decide +kernel
theorem dX5_move_44 : decode cX5_move 44 = .ok (.iload_n 1, 1) := by decide +kernel
theorem dX5_move_45 : decode cX5_move 45 = .ok (.aload_n 0, 1) := by decide +kernel
theorem dX5_move_46 : decode cX5_move 46 = .ok (.getfield 38, 3) := by decide +kernel
theorem dX5_move_49 : decode cX5_move 49 = .ok (.if_icmp .ge 37, 3) := by decide +kernel
theorem dX5_move_52 : decode cX5_move 52 = .ok (.aload_n 0, 1) := by decide +kernel
theorem dX5_move_53 : decode cX5_move 53 = .ok (.getfield 15, 3) := by decide +kernel
theorem dX5_move_56 : decode cX5_move 56 = .ok (.iload_n 1, 1) := by decide +kernel
theorem dX5_move_57 : decode cX5_move 57 = .ok (.iaload, 1) := by decide +kernel
theorem dX5_move_58 : decode cX5_move 58 = .ok (.aload_n 0, 1) := by decide +kernel
theorem dX5_move_59 : decode cX5_move 59 = .ok (.getfield 15, 3) := by decide +kernel
theorem dX5_move_62 : decode cX5_move 62 = .ok (.aload_n 0, 1) := by decide +kernel
theorem dX5_move_63 : decode cX5_move 63 = .ok (.getfield 63, 3) := by decide +kernel
theorem dX5_move_66 : decode cX5_move 66 = .ok (.iaload, 1) := by decide +kernel
theorem dX5_move_67 : decode cX5_move 67 = .ok (.if_icmp .ne 19, 3) := by decide +kernel
theorem dX5_move_70 : decode cX5_move 70 = .ok (.aload_n 0, 1) := by decide +kernel
theorem dX5_move_71 : decode cX5_move 71 = .ok (.getfield 15, 3) := by decide +kernel
theorem dX5_move_74 : decode cX5_move 74 = .ok (.iload_n 1, 1) := by decide +kernel
theorem dX5_move_75 : decode cX5_move 75 = .ok (.iaload, 1) := by decide +kernel
theorem dX5_move_76 : decode cX5_move 76 = .ok (.iconst 3, 1) := by decide +kernel
theorem dX5_move_77 : decode cX5_move 77 = .ok (.if_icmp .eq 9, 3) := by decide +kernel
theorem dX5_move_80 : decode cX5_move 80 = .ok (.iinc 1 1, 3) := by decide +kernel
theorem dX5_move_83 : decode cX5_move 83 = .ok (.goto (-39), 3) := by decide +kernel
theorem dX5_move_86 : decode cX5_move 86 = .ok (.aload_n 0, 1) := by decide +kernel
theorem dX5_move_87 : decode cX5_move 87 = .ok (.iload_n 1, 1) := by decide +kernel
theorem dX5_move_88 : decode cX5_move 88 = .ok (.putfield 41, 3) := by decide +kernel
theorem dX5_move_91 : decode cX5_move 91 = .ok (.return_, 1) := by decide +kernel
theorem dX5_wordIn_0 : decode cX5_wordIn 0 = .ok (.aload_n 0, 1) := by decide +kernel
theorem dX5_wordIn_1 : decode cX5_wordIn 1 = .ok (.getfield 41, 3) := by decide +kernel
theorem dX5_wordIn_4 : decode cX5_wordIn 4 = .ok (.aload_n 0, 1) := by decide +kernel
theorem dX5_wordIn_5 : decode cX5_wordIn 5 = .ok (.getfield 63, 3) := by decide +kernel
theorem dX5_wordIn_8 : decode cX5_wordIn 8 = .ok (.isub, 1) := by decide +kernel
theorem dX5_wordIn_9 : decode cX5_wordIn 9 = .ok (.istore_n 2, 1) := by decide +kernel
theorem dX5_wordIn_10 : decode cX5_wordIn 10 = .ok (.iconst 0, 1) := by decide +kernel
theorem dX5_wordIn_11 : decode cX5_wordIn 11 = .ok (.istore_n 3, 1) := by decide +kernel
theorem dX5_wordIn_12 : decode cX5_wordIn 12 = .ok (.iconst 0, 1) := by decide +kernel
theorem dX5_wordIn_13 : decode cX5_wordIn 13 = .ok (.istore 4, 2) := by decide +kernel
theorem dX5_wordIn_15 : decode cX5_wordIn 15 = .ok (.iconst 0, 1) := by decide +kernel
theorem dX5_wordIn_16 : decode cX5_wordIn 16 = .ok (.istore 5, 2) := by decide +kernel
theorem dX5_wordIn_18 : decode cX5_wordIn 18 = .ok (.iload 5, 2) := by decide +kernel
theorem dX5_wordIn_20 : decode cX5_wordIn 20 = .ok (.aload_n 1, 1) := by decide +kernel
theorem dX5_wordIn_21 : decode cX5_wordIn 21 = .ok (.invokevirtual 173, 3) := by decide +kernel
theorem dX5_wordIn_24 : decode cX5_wordIn 24 = .ok (.if_icmp .gt 92, 3) := by decide +kernel
theorem dX5_wordIn_27 : decode cX5_wordIn 27 = .ok (.iload 5, 2) := by decide +kernel
theorem dX5_wordIn_29 : decode cX5_wordIn 29 = .ok (.aload_n 1, 1) := by decide +kernel
theorem dX5_wordIn_30 : decode cX5_wordIn 30 = .ok (.invokevirtual 173, 3) := by decide +kernel
theorem dX5_wordIn_33 : decode cX5_wordIn 33 = .ok (.if_icmp .eq 14, 3) := by decide +kernel
theorem dX5_wordIn_36 : decode cX5_wordIn 36 = .ok (.aload_n 1, 1) := by decide +kernel
theorem dX5_wordIn_37 : decode cX5_wordIn 37 = .ok (.iload 5, 2) := by decide +kernel
theorem dX5_wordIn_39 : decode cX5_wordIn 39 = .ok (.invokevirtual 178, 3) := by decide +kernel
theorem dX5_wordIn_42 : decode cX5_wordIn 42 = .ok (.bipush 32, 2) := by decide +kernel
theorem dX5_wordIn_44 : decode cX5_wordIn 44 = .ok (.if_icmp .ne 24, 3) := by decide +kernel
theorem dX5_wordIn_47 : decode cX5_wordIn 47 = .ok (.iload 4, 2) := by decide +kernel
theorem dX5_wordIn_49 : decode cX5_wordIn 49 = .ok (.iload_n 2, 1) := by decide +kernel
theorem dX5_wordIn_50 : decode cX5_wordIn 50 = .ok (.if_icmp .ne 9, 3) := by decide +kernel
theorem dX5_wordIn_53 : decode cX5_wordIn 53 = .ok (.iload_n 2, 1) := by decide +kernel
theorem dX5_wordIn_54 : decode cX5_wordIn 54 = .ok (.ifCond .le 5, 3) := by decide +kernel
theorem dX5_wordIn_57 : decode cX5_wordIn 57 = .ok (.iload_n 3, 1) := by decide +kernel
theorem dX5_wordIn_58 : decode cX5_wordIn 58 = .ok (.ireturn, 1) := by decide +kernel
theorem dX5_wordIn_59 : decode cX5_wordIn 59 = .ok (.iinc 3 1, 3) := by decide +kernel
theorem dX5_wordIn_62 : decode cX5_wordIn 62 = .ok (.iconst 0, 1) := by decide +kernel
theorem dX5_wordIn_63 : decode cX5_wordIn 63 = .ok (.istore 4, 2) := by decide +kernel
theorem dX5_wordIn_65 : decode cX5_wordIn 65 = .ok (.goto 45, 3) := by decide +kernel
theorem dX5_wordIn_68 : decode cX5_wordIn 68 = .ok (.iload 4, 2) := by decide +kernel
theorem dX5_wordIn_70 : decode cX5_wordIn 70 = .ok (.iconst (-1), 1) := by decide +kernel
theorem dX5_wordIn_71 : decode cX5_wordIn 71 = .ok (.if_icmp .eq 36, 3) := by decide +kernel
theorem dX5_wordIn_74 : decode cX5_wordIn 74 = .ok (.iload 4, 2) := by decide +kernel
theorem dX5_wordIn_76 : decode cX5_wordIn 76 = .ok (.iload_n 2, 1) := by decide +kernel
theorem dX5_wordIn_77 : decode cX5_wordIn 77 = .ok (.if_icmp .ge 30, 3) := by decide +kernel
theorem dX5_wordIn_80 : decode cX5_wordIn 80 = .ok (.aload_n 1, 1) := by decide +kernel
theorem dX5_wordIn_81 : decode cX5_wordIn 81 = .ok (.iload 5, 2) := by decide +kernel
theorem dX5_wordIn_83 : decode cX5_wordIn 83 = .ok (.invokevirtual 178, 3) := by decide +kernel
theorem dX5_wordIn_86 : decode cX5_wordIn 86 = .ok (.aload_n 0, 1) := by decide +kernel
theorem dX5_wordIn_87 : decode cX5_wordIn 87 = .ok (.getfield 9, 3) := by decide +kernel
theorem dX5_wordIn_90 : decode cX5_wordIn 90 = .ok (.aload_n 0, 1) := by decide +kernel
theorem dX5_wordIn_91 : decode cX5_wordIn 91 = .ok (.getfield 63, 3) := by decide +kernel
theorem dX5_wordIn_94 : decode cX5_wordIn 94 = .ok (.iload 4, 2) := by decide +kernel
theorem dX5_wordIn_96 : decode cX5_wordIn 96 = .ok (.iadd, 1) := by decide +kernel
theorem dX5_wordIn_97 : decode cX5_wordIn 97 = .ok (.iaload, 1) := by decide +kernel
theorem dX5_wordIn_98 : decode cX5_wordIn 98 = .ok (.if_icmp .ne 9, 3) := by decide +kernel
theorem dX5_wordIn_101 : decode cX5_wordIn 101 = .ok (.iinc 4 1, 3) := by decide +kernel
theorem dX5_wordIn_104 : decode cX5_wordIn 104 = .ok (.goto 6, 3) := by decide +kernel
theorem dX5_wordIn_107 : decode cX5_wordIn 107 = .ok (.iconst (-1), 1) := by decide +kernel
theorem dX5_wordIn_108 : decode cX5_wordIn 108 = .ok (.istore 4, 2) := by decide +kernel
theorem dX5_wordIn_110 : decode cX5_wordIn 110 = .ok (.iinc 5 1, 3) := by decide +kernel
theorem dX5_wordIn_113 : decode cX5_wordIn 113 = .ok (.goto (-95), 3) := by decide +kernel
theorem dX5_wordIn_116 : decode cX5_wordIn 116 = .ok (.iconst (-1), 1) := by decide +kernel
theorem dX5_wordIn_117 : decode cX5_wordIn 117 = .ok (.ireturn, 1) := by decide +kernel
theorem dX5_numberTo_0 : decode cX5_numberTo 0 = .ok (.aload_n 0, 1) := by decide +kernel
theorem dX5_numberTo_1 : decode cX5_numberTo 1 = .ok (.getfield 63, 3) := by decide +kernel
theorem dX5_numberTo_4 : decode cX5_numberTo 4 = .ok (.aload_n 0, 1) := by decide +kernel
theorem dX5_numberTo_5 : decode cX5_numberTo 5 = .ok (.getfield 38, 3) := by decide +kernel
theorem dX5_numberTo_8 : decode cX5_numberTo 8 = .ok (.if_icmp .ge 16, 3) := by decide +kernel
theorem dX5_numberTo_11 : decode cX5_numberTo 11 = .ok (.aload_n 0, 1) := by decide +kernel
theorem dX5_numberTo_12 : decode cX5_numberTo 12 = .ok (.getfield 15, 3) := by decide +kernel
theorem dX5_numberTo_15 : decode cX5_numberTo 15 = .ok (.aload_n 0, 1) := by decide +kernel
theorem dX5_numberTo_16 : decode cX5_numberTo 16 = .ok (.getfield 63, 3) := by decide +kernel
theorem dX5_numberTo_19 : decode cX5_numberTo 19 = .ok (.iaload, 1) := by decide +kernel
theorem dX5_numberTo_20 : decode cX5_numberTo 20 = .ok (.iconst 2, 1) := by decide +kernel
theorem dX5_numberTo_21 : decode cX5_numberTo 21 = .ok (.if_icmp .eq 5, 3) := by decide +kernel
theorem dX5_numberTo_24 : decode cX5_numberTo 24 = .ok (.iconst (-1), 1) := by decide +kernel
theorem dX5_numberTo_25 : decode cX5_numberTo 25 = .ok (.ireturn, 1) := by decide +kernel
theorem dX5_numberTo_26 : decode cX5_numberTo 26 = .ok (.iconst 0, 1) := by decide +kernel
theorem dX5_numberTo_27 : decode cX5_numberTo 27 = .ok (.istore_n 2, 1) := by decide +kernel
theorem dX5_numberTo_28 : decode cX5_numberTo 28 = .ok (.aload_n 0, 1) := by decide +kernel
theorem dX5_numberTo_29 : decode cX5_numberTo 29 = .ok (.getfield 63, 3) := by decide +kernel
theorem dX5_numberTo_32 : decode cX5_numberTo 32 = .ok (.istore_n 3, 1) := by decide +kernel
theorem dX5_numberTo_33 : decode cX5_numberTo 33 = .ok (.iload_n 3, 1) := by decide +kernel
theorem dX5_numberTo_34 : decode cX5_numberTo 34 = .ok (.aload_n 0, 1) := by decide +kernel
theorem dX5_numberTo_35 : decode cX5_numberTo 35 = .ok (.getfield 41, 3) := by decide +kernel
theorem dX5_numberTo_38 : decode cX5_numberTo 38 = .ok (.if_icmp .ge 30, 3) := by decide +kernel
theorem dX5_numberTo_41 : decode cX5_numberTo 41 = .ok (.bipush 10, 2) := by decide +kernel
theorem dX5_numberTo_43 : decode cX5_numberTo 43 = .ok (.iload_n 2, 1) := by decide +kernel
theorem dX5_numberTo_44 : decode cX5_numberTo 44 = .ok (.imul, 1) := by decide +kernel
theorem dX5_numberTo_45 : decode cX5_numberTo 45 = .ok (.aload_n 0, 1) := by decide +kernel
theorem dX5_numberTo_46 : decode cX5_numberTo 46 = .ok (.getfield 9, 3) := by decide +kernel
theorem dX5_numberTo_49 : decode cX5_numberTo 49 = .ok (.iload_n 3, 1) := by decide +kernel
theorem dX5_numberTo_50 : decode cX5_numberTo 50 = .ok (.iaload, 1) := by decide +kernel
theorem dX5_numberTo_51 : decode cX5_numberTo 51 = .ok (.iadd, 1) := by decide +kernel
theorem dX5_numberTo_52 : decode cX5_numberTo 52 = .ok (.bipush 48, 2) := by decide +kernel
theorem dX5_numberTo_54 : decode cX5_numberTo 54 = .ok (.isub, 1) := by decide +kernel
theorem dX5_numberTo_55 : decode cX5_numberTo 55 = .ok (.sipush 1001, 3) := by decide +kernel
theorem dX5_numberTo_58 : decode cX5_numberTo 58 = .ok (.invokestatic 182, 3) := by decide +kernel
theorem dX5_numberTo_61 : decode cX5_numberTo 61 = .ok (.istore_n 2, 1) := by decide +kernel
theorem dX5_numberTo_62 : decode cX5_numberTo 62 = .ok (.iinc 3 1, 3) := by decide +kernel
theorem dX5_numberTo_65 : decode cX5_numberTo 65 = .ok (.goto (-32), 3) := by decide +kernel
theorem dX5_numberTo_68 : decode cX5_numberTo 68 = .ok (.iload_n 2, 1) := by decide +kernel
theorem dX5_numberTo_69 : decode cX5_numberTo 69 = .ok (.iload_n 1, 1) := by decide +kernel
theorem dX5_numberTo_70 : decode cX5_numberTo 70 = .ok (.if_icmp .gt 7, 3) := by decide +kernel
theorem dX5_numberTo_73 : decode cX5_numberTo 73 = .ok (.iload_n 2, 1) := by decide +kernel
theorem dX5_numberTo_74 : decode cX5_numberTo 74 = .ok (.goto 4, 3) := by decide +kernel
theorem dX5_numberTo_77 : decode cX5_numberTo 77 = .ok (.iconst (-1), 1) := by decide +kernel
theorem dX5_numberTo_78 : decode cX5_numberTo 78 = .ok (.ireturn, 1) := by decide +kernel
theorem dX6_init_0 : decode cX6_init 0 = .ok (.aload_n 0, 1) := by decide +kernel
theorem dX6_init_1 : decode cX6_init 1 = .ok (.invokespecial 3, 3) := by decide +kernel
theorem dX6_init_4 : decode cX6_init 4 = .ok (.aload_n 0, 1) := by decide +kernel
theorem dX6_init_5 : decode cX6_init 5 = .ok (.new 9, 3) := by decide +kernel
theorem dX6_init_8 : decode cX6_init 8 = .ok (.dup, 1) := by decide +kernel
theorem dX6_init_9 : decode cX6_init 9 = .ok (.invokespecial 11, 3) := by decide +kernel
theorem dX6_init_12 : decode cX6_init 12 = .ok (.putfield 12, 3) := by decide +kernel
theorem dX6_init_15 : decode cX6_init 15 = .ok (.aload_n 0, 1) := by decide +kernel
theorem dX6_init_16 : decode cX6_init 16 = .ok (.bipush 10, 2) := by decide +kernel
theorem dX6_init_18 : decode cX6_init 18 = .ok (.newarray .int, 2) := by decide +kernel
theorem dX6_init_20 : decode cX6_init 20 = .ok (.putfield 18, 3) := by decide +kernel
theorem dX6_init_23 : decode cX6_init 23 = .ok (.return_, 1) := by decide +kernel
theorem dX6_lastTold_0 : decode cX6_lastTold 0 = .ok (.aload_n 2, 1) := by decide +kernel
theorem dX6_lastTold_1 : decode cX6_lastTold 1 = .ok (.ifnonnull 6, 3) := by decide +kernel
theorem dX6_lastTold_4 : decode cX6_lastTold 4 = .ok (.ldc 22, 2) := by decide +kernel
theorem dX6_lastTold_6 : decode cX6_lastTold 6 = .ok (.ireturn, 1) := by decide +kernel
theorem dX6_lastTold_7 : decode cX6_lastTold 7 = .ok (.aload_n 0, 1) := by decide +kernel
theorem dX6_lastTold_8 : decode cX6_lastTold 8 = .ok (.aload_n 1, 1) := by decide +kernel
theorem dX6_lastTold_9 : decode cX6_lastTold 9 = .ok (.iload 4, 2) := by decide +kernel
theorem dX6_lastTold_11 : decode cX6_lastTold 11 = .ok (.iload 5, 2) := by decide +kernel
theorem dX6_lastTold_13 : decode cX6_lastTold 13 = .ok (.invokevirtual 23, 3) := by decide +kernel
theorem dX6_lastTold_16 : decode cX6_lastTold 16 = .ok (.aload_n 2, 1) := by decide +kernel
theorem dX6_lastTold_17 : decode cX6_lastTold 17 = .ok (.getfield 27, 3) := by decide +kernel
theorem dX6_lastTold_20 : decode cX6_lastTold 20 = .ok (.iconst 1, 1) := by decide +kernel
theorem dX6_lastTold_21 : decode cX6_lastTold 21 = .ok (.isub, 1) := by decide +kernel
theorem dX6_lastTold_22 : decode cX6_lastTold 22 = .ok (.istore 6, 2) := by decide +kernel
theorem dX6_lastTold_24 : decode cX6_lastTold 24 = .ok (.iload 6, 2) := by decide +kernel
theorem dX6_lastTold_26 : decode cX6_lastTold 26 = .ok (.ifCond .lt 80, 3) := by decide +kernel
theorem dX6_lastTold_29 : decode cX6_lastTold 29 = .ok (.aload_n 2, 1) := by decide +kernel
theorem dX6_lastTold_30 : decode cX6_lastTold 30 = .ok (.iload 6, 2) := by decide +kernel
theorem dX6_lastTold_32 : decode cX6_lastTold 32 = .ok (.invokevirtual 33, 3) := by decide +kernel
theorem dX6_lastTold_35 : decode cX6_lastTold 35 = .ok (.iload_n 3, 1) := by decide +kernel
theorem dX6_lastTold_36 : decode cX6_lastTold 36 = .ok (.if_icmp .ne 64, 3) := by decide +kernel
theorem dX6_lastTold_39 : decode cX6_lastTold 39 = .ok (.aload_n 0, 1) := by decide +kernel
theorem dX6_lastTold_40 : decode cX6_lastTold 40 = .ok (.getfield 12, 3) := by decide +kernel
theorem dX6_lastTold_43 : decode cX6_lastTold 43 = .ok (.aload_n 2, 1) := by decide +kernel
theorem dX6_lastTold_44 : decode cX6_lastTold 44 = .ok (.getfield 37, 3) := by decide +kernel
theorem dX6_lastTold_47 : decode cX6_lastTold 47 = .ok (.aload_n 2, 1) := by decide +kernel
theorem dX6_lastTold_48 : decode cX6_lastTold 48 = .ok (.iload 6, 2) := by decide +kernel
theorem dX6_lastTold_50 : decode cX6_lastTold 50 = .ok (.invokevirtual 40, 3) := by decide +kernel
theorem dX6_lastTold_53 : decode cX6_lastTold 53 = .ok (.aload_n 0, 1) := by decide +kernel
theorem dX6_lastTold_54 : decode cX6_lastTold 54 = .ok (.getfield 18, 3) := by decide +kernel
theorem dX6_lastTold_57 : decode cX6_lastTold 57 = .ok (.iconst 1, 1) := by decide +kernel
theorem dX6_lastTold_58 : decode cX6_lastTold 58 = .ok (.invokevirtual 43, 3) := by decide +kernel
theorem dX6_lastTold_61 : decode cX6_lastTold 61 = .ok (.iconst 1, 1) := by decide +kernel
theorem dX6_lastTold_62 : decode cX6_lastTold 62 = .ok (.if_icmp .ne 38, 3) := by decide +kernel
theorem dX6_lastTold_65 : decode cX6_lastTold 65 = .ok (.aload_n 0, 1) := by decide +kernel
theorem dX6_lastTold_66 : decode cX6_lastTold 66 = .ok (.getfield 12, 3) := by decide +kernel
theorem dX6_lastTold_69 : decode cX6_lastTold 69 = .ok (.aload_n 2, 1) := by decide +kernel
theorem dX6_lastTold_70 : decode cX6_lastTold 70 = .ok (.getfield 37, 3) := by decide +kernel
theorem dX6_lastTold_73 : decode cX6_lastTold 73 = .ok (.aload_n 2, 1) := by decide +kernel
theorem dX6_lastTold_74 : decode cX6_lastTold 74 = .ok (.iload 6, 2) := by decide +kernel
theorem dX6_lastTold_76 : decode cX6_lastTold 76 = .ok (.iconst 0, 1) := by decide +kernel
theorem dX6_lastTold_77 : decode cX6_lastTold 77 = .ok (.invokevirtual 47, 3) := by decide +kernel
theorem dX6_lastTold_80 : decode cX6_lastTold 80 = .ok (.aload_n 0, 1) := by decide +kernel
theorem dX6_lastTold_81 : decode cX6_lastTold 81 = .ok (.getfield 18, 3) := by decide +kernel
theorem dX6_lastTold_84 : decode cX6_lastTold 84 = .ok (.iconst 0, 1) := by decide +kernel
theorem dX6_lastTold_85 : decode cX6_lastTold 85 = .ok (.invokevirtual 43, 3) := by decide +kernel
theorem dX6_lastTold_88 : decode cX6_lastTold 88 = .ok (.istore 7, 2) := by decide +kernel
theorem dX6_lastTold_90 : decode cX6_lastTold 90 = .ok (.iload 7, 2) := by decide +kernel
theorem dX6_lastTold_92 : decode cX6_lastTold 92 = .ok (.ldc 22, 2) := by decide +kernel
theorem dX6_lastTold_94 : decode cX6_lastTold 94 = .ok (.if_icmp .eq 6, 3) := by decide +kernel
theorem dX6_lastTold_97 : decode cX6_lastTold 97 = .ok (.iload 7, 2) := by decide +kernel
theorem dX6_lastTold_99 : decode cX6_lastTold 99 = .ok (.ireturn, 1) := by decide +kernel
theorem dX6_lastTold_100 : decode cX6_lastTold 100 = .ok (.iinc 6 (-1), 3) := by decide +kernel
theorem dX6_lastTold_103 : decode cX6_lastTold 103 = .ok (.goto (-79), 3) := by decide +kernel
theorem dX6_lastTold_106 : decode cX6_lastTold 106 = .ok (.ldc 22, 2) := by decide +kernel
theorem dX6_lastTold_108 : decode cX6_lastTold 108 = .ok (.ireturn, 1) := by decide +kernel
theorem dX6_fillWorths_0 : decode cX6_fillWorths 0 = .ok (.aload_n 0, 1) := by decide +kernel
theorem dX6_fillWorths_1 : decode cX6_fillWorths 1 = .ok (.getfield 18, 3) := by decide +kernel
theorem dX6_fillWorths_4 : decode cX6_fillWorths 4 = .ok (.iconst 0, 1) := by decide +kernel
theorem dX6_fillWorths_5 : decode cX6_fillWorths 5 = .ok (.iload_n 2, 1) := by decide +kernel
theorem dX6_fillWorths_6 : decode cX6_fillWorths 6 = .ok (.iastore, 1) := by decide +kernel
theorem dX6_fillWorths_7 : decode cX6_fillWorths 7 = .ok (.aload_n 0, 1) := by decide +kernel
theorem dX6_fillWorths_8 : decode cX6_fillWorths 8 = .ok (.getfield 18, 3) := by decide +kernel
theorem dX6_fillWorths_11 : decode cX6_fillWorths 11 = .ok (.iconst 1, 1) := by decide +kernel
theorem dX6_fillWorths_12 : decode cX6_fillWorths 12 = .ok (.iload_n 2, 1) := by decide +kernel
theorem dX6_fillWorths_13 : decode cX6_fillWorths 13 = .ok (.iconst 5, 1) := by decide +kernel
theorem dX6_fillWorths_14 : decode cX6_fillWorths 14 = .ok (.idiv, 1) := by decide +kernel
theorem dX6_fillWorths_15 : decode cX6_fillWorths 15 = .ok (.iastore, 1) := by decide +kernel
theorem dX6_fillWorths_16 : decode cX6_fillWorths 16 = .ok (.aload_n 0, 1) := by decide +kernel
theorem dX6_fillWorths_17 : decode cX6_fillWorths 17 = .ok (.getfield 18, 3) := by decide +kernel
theorem dX6_fillWorths_20 : decode cX6_fillWorths 20 = .ok (.iconst 2, 1) := by decide +kernel
theorem dX6_fillWorths_21 : decode cX6_fillWorths 21 = .ok (.iload_n 2, 1) := by decide +kernel
theorem dX6_fillWorths_22 : decode cX6_fillWorths 22 = .ok (.iconst 5, 1) := by decide +kernel
theorem dX6_fillWorths_23 : decode cX6_fillWorths 23 = .ok (.irem, 1) := by decide +kernel
theorem dX6_fillWorths_24 : decode cX6_fillWorths 24 = .ok (.iastore, 1) := by decide +kernel
theorem dX6_fillWorths_25 : decode cX6_fillWorths 25 = .ok (.aload_n 0, 1) := by decide +kernel
theorem dX6_fillWorths_26 : decode cX6_fillWorths 26 = .ok (.getfield 18, 3) := by decide +kernel
theorem dX6_fillWorths_29 : decode cX6_fillWorths 29 = .ok (.iconst 3, 1) := by decide +kernel
theorem dX6_fillWorths_30 : decode cX6_fillWorths 30 = .ok (.aload_n 1, 1) := by decide +kernel
theorem dX6_fillWorths_31 : decode cX6_fillWorths 31 = .ok (.getfield 51, 3) := by decide +kernel
theorem dX6_fillWorths_34 : decode cX6_fillWorths 34 = .ok (.iload_n 2, 1) := by decide +kernel
theorem dX6_fillWorths_35 : decode cX6_fillWorths 35 = .ok (.iaload, 1) := by decide +kernel
theorem dX6_fillWorths_36 : decode cX6_fillWorths 36 = .ok (.iastore, 1) := by decide +kernel
theorem dX6_fillWorths_37 : decode cX6_fillWorths 37 = .ok (.aload_n 0, 1) := by decide +kernel
theorem dX6_fillWorths_38 : decode cX6_fillWorths 38 = .ok (.getfield 18, 3) := by decide +kernel
theorem dX6_fillWorths_41 : decode cX6_fillWorths 41 = .ok (.iconst 4, 1) := by decide +kernel
theorem dX6_fillWorths_42 : decode cX6_fillWorths 42 = .ok (.aload_n 1, 1) := by decide +kernel
theorem dX6_fillWorths_43 : decode cX6_fillWorths 43 = .ok (.iconst 0, 1) := by decide +kernel
theorem dX6_fillWorths_44 : decode cX6_fillWorths 44 = .ok (.iload_n 2, 1) := by decide +kernel
theorem dX6_fillWorths_45 : decode cX6_fillWorths 45 = .ok (.iconst 5, 1) := by decide +kernel
theorem dX6_fillWorths_46 : decode cX6_fillWorths 46 = .ok (.idiv, 1) := by decide +kernel
theorem dX6_fillWorths_47 : decode cX6_fillWorths 47 = .ok (.invokevirtual 56, 3) := by decide +kernel
theorem dX6_fillWorths_50 : decode cX6_fillWorths 50 = .ok (.iastore, 1) := by decide +kernel
theorem dX6_fillWorths_51 : decode cX6_fillWorths 51 = .ok (.aload_n 0, 1) := by decide +kernel
theorem dX6_fillWorths_52 : decode cX6_fillWorths 52 = .ok (.getfield 18, 3) := by decide +kernel
theorem dX6_fillWorths_55 : decode cX6_fillWorths 55 = .ok (.iconst 5, 1) := by decide +kernel
theorem dX6_fillWorths_56 : decode cX6_fillWorths 56 = .ok (.aload_n 1, 1) := by decide +kernel
theorem dX6_fillWorths_57 : decode cX6_fillWorths 57 = .ok (.iconst 1, 1) := by decide +kernel
theorem dX6_fillWorths_58 : decode cX6_fillWorths 58 = .ok (.iload_n 2, 1) := by decide +kernel
theorem dX6_fillWorths_59 : decode cX6_fillWorths 59 = .ok (.iconst 5, 1) := by decide +kernel
theorem dX6_fillWorths_60 : decode cX6_fillWorths 60 = .ok (.irem, 1) := by decide +kernel
theorem dX6_fillWorths_61 : decode cX6_fillWorths 61 = .ok (.invokevirtual 56, 3) := by decide +kernel
theorem dX6_fillWorths_64 : decode cX6_fillWorths 64 = .ok (.iastore, 1) := by decide +kernel
theorem dX6_fillWorths_65 : decode cX6_fillWorths 65 = .ok (.aload_n 0, 1) := by decide +kernel
theorem dX6_fillWorths_66 : decode cX6_fillWorths 66 = .ok (.getfield 18, 3) := by decide +kernel
theorem dX6_fillWorths_69 : decode cX6_fillWorths 69 = .ok (.bipush 6, 2) := by decide +kernel
theorem dX6_fillWorths_71 : decode cX6_fillWorths 71 = .ok (.iload_n 3, 1) := by decide +kernel
theorem dX6_fillWorths_72 : decode cX6_fillWorths 72 = .ok (.iastore, 1) := by decide +kernel
theorem dX6_fillWorths_73 : decode cX6_fillWorths 73 = .ok (.aload_n 0, 1) := by decide +kernel
theorem dX6_fillWorths_74 : decode cX6_fillWorths 74 = .ok (.getfield 18, 3) := by decide +kernel
theorem dX6_fillWorths_77 : decode cX6_fillWorths 77 = .ok (.bipush 7, 2) := by decide +kernel
theorem dX6_fillWorths_79 : decode cX6_fillWorths 79 = .ok (.aload_n 1, 1) := by decide +kernel
theorem dX6_fillWorths_80 : decode cX6_fillWorths 80 = .ok (.iload_n 3, 1) := by decide +kernel
theorem dX6_fillWorths_81 : decode cX6_fillWorths 81 = .ok (.invokevirtual 59, 3) := by decide +kernel
theorem dX6_fillWorths_84 : decode cX6_fillWorths 84 = .ok (.ifCond .eq 12, 3) := by decide +kernel
theorem dX6_fillWorths_87 : decode cX6_fillWorths 87 = .ok (.aload_n 1, 1) := by decide +kernel
theorem dX6_fillWorths_88 : decode cX6_fillWorths 88 = .ok (.getfield 63, 3) := by decide +kernel
theorem dX6_fillWorths_91 : decode cX6_fillWorths 91 = .ok (.iload_n 3, 1) := by decide +kernel
theorem dX6_fillWorths_92 : decode cX6_fillWorths 92 = .ok (.iaload, 1) := by decide +kernel
theorem dX6_fillWorths_93 : decode cX6_fillWorths 93 = .ok (.goto 4, 3) := by decide +kernel
theorem dX6_fillWorths_96 : decode cX6_fillWorths 96 = .ok (.iconst (-1), 1) := by decide +kernel
theorem dX6_fillWorths_97 : decode cX6_fillWorths 97 = .ok (.iastore, 1) := by decide +kernel
theorem dX6_fillWorths_98 : decode cX6_fillWorths 98 = .ok (.aload_n 0, 1) := by decide +kernel
theorem dX6_fillWorths_99 : decode cX6_fillWorths 99 = .ok (.getfield 18, 3) := by decide +kernel
theorem dX6_fillWorths_102 : decode cX6_fillWorths 102 = .ok (.bipush 8, 2) := by decide +kernel
theorem dX6_fillWorths_104 : decode cX6_fillWorths 104 = .ok (.aload_n 1, 1) := by decide +kernel
theorem dX6_fillWorths_105 : decode cX6_fillWorths 105 = .ok (.getfield 66, 3) := by decide +kernel
theorem dX6_fillWorths_108 : decode cX6_fillWorths 108 = .ok (.iconst 0, 1) := by decide +kernel
theorem dX6_fillWorths_109 : decode cX6_fillWorths 109 = .ok (.iaload, 1) := by decide +kernel
theorem dX6_fillWorths_110 : decode cX6_fillWorths 110 = .ok (.iastore, 1) := by decide +kernel
theorem dX6_fillWorths_111 : decode cX6_fillWorths 111 = .ok (.aload_n 0, 1) := by decide +kernel
theorem dX6_fillWorths_112 : decode cX6_fillWorths 112 = .ok (.getfield 18, 3) := by decide +kernel
theorem dX6_fillWorths_115 : decode cX6_fillWorths 115 = .ok (.bipush 9, 2) := by decide +kernel
theorem dX6_fillWorths_117 : decode cX6_fillWorths 117 = .ok (.aload_n 1, 1) := by decide +kernel
theorem dX6_fillWorths_118 : decode cX6_fillWorths 118 = .ok (.getfield 66, 3) := by decide +kernel
theorem dX6_fillWorths_121 : decode cX6_fillWorths 121 = .ok (.iconst 2, 1) := by decide +kernel
theorem dX6_fillWorths_122 : decode cX6_fillWorths 122 = .ok (.iaload, 1) := by decide +kernel
theorem dX6_fillWorths_123 : decode cX6_fillWorths 123 = .ok (.iastore, 1) := by decide +kernel
theorem dX6_fillWorths_124 : decode cX6_fillWorths 124 = .ok (.return_, 1) := by decide +kernel
theorem dX7_init_0 : decode cX7_init 0 = .ok (.aload_n 0, 1) := by decide +kernel
theorem dX7_init_1 : decode cX7_init 1 = .ok (.invokespecial 1, 3) := by decide +kernel
theorem dX7_init_4 : decode cX7_init 4 = .ok (.aload_n 0, 1) := by decide +kernel
theorem dX7_init_5 : decode cX7_init 5 = .ok (.aload_n 1, 1) := by decide +kernel
theorem dX7_init_6 : decode cX7_init 6 = .ok (.putfield 7, 3) := by decide +kernel
theorem dX7_init_9 : decode cX7_init 9 = .ok (.aload_n 0, 1) := by decide +kernel
theorem dX7_init_10 : decode cX7_init 10 = .ok (.aload_n 2, 1) := by decide +kernel
theorem dX7_init_11 : decode cX7_init 11 = .ok (.putfield 13, 3) := by decide +kernel
theorem dX7_init_14 : decode cX7_init 14 = .ok (.aload_n 0, 1) := by decide +kernel
theorem dX7_init_15 : decode cX7_init 15 = .ok (.iload_n 3, 1) := by decide +kernel
theorem dX7_init_16 : decode cX7_init 16 = .ok (.putfield 16, 3) := by decide +kernel
theorem dX7_init_19 : decode cX7_init 19 = .ok (.return_, 1) := by decide +kernel
theorem dX7_kindOf_0 : decode cX7_kindOf 0 = .ok (.aload_n 0, 1) := by decide +kernel
theorem dX7_kindOf_1 : decode cX7_kindOf 1 = .ok (.getfield 13, 3) := by decide +kernel
theorem dX7_kindOf_4 : decode cX7_kindOf 4 = .ok (.bipush 6, 2) := by decide +kernel
theorem dX7_kindOf_6 : decode cX7_kindOf 6 = .ok (.iload_n 1, 1) := by decide +kernel
theorem dX7_kindOf_7 : decode cX7_kindOf 7 = .ok (.imul, 1) := by decide +kernel
theorem dX7_kindOf_8 : decode cX7_kindOf 8 = .ok (.iaload, 1) := by decide +kernel
theorem dX7_kindOf_9 : decode cX7_kindOf 9 = .ok (.ireturn, 1) := by decide +kernel
theorem dX7_timesOf_0 : decode cX7_timesOf 0 = .ok (.aload_n 0, 1) := by decide +kernel
theorem dX7_timesOf_1 : decode cX7_timesOf 1 = .ok (.getfield 13, 3) := by decide +kernel
theorem dX7_timesOf_4 : decode cX7_timesOf 4 = .ok (.bipush 6, 2) := by decide +kernel
theorem dX7_timesOf_6 : decode cX7_timesOf 6 = .ok (.iload_n 1, 1) := by decide +kernel
theorem dX7_timesOf_7 : decode cX7_timesOf 7 = .ok (.imul, 1) := by decide +kernel
theorem dX7_timesOf_8 : decode cX7_timesOf 8 = .ok (.iconst 1, 1) := by decide +kernel
theorem dX7_timesOf_9 : decode cX7_timesOf 9 = .ok (.iadd, 1) := by decide +kernel
theorem dX7_timesOf_10 : decode cX7_timesOf 10 = .ok (.iaload, 1) := by decide +kernel
theorem dX7_timesOf_11 : decode cX7_timesOf 11 = .ok (.ireturn, 1) := by decide +kernel
theorem dX7_sumPlace_0 : decode cX7_sumPlace 0 = .ok (.aload_n 0, 1) := by decide +kernel
theorem dX7_sumPlace_1 : decode cX7_sumPlace 1 = .ok (.getfield 13, 3) := by decide +kernel
theorem dX7_sumPlace_4 : decode cX7_sumPlace 4 = .ok (.bipush 6, 2) := by decide +kernel
theorem dX7_sumPlace_6 : decode cX7_sumPlace 6 = .ok (.iload_n 1, 1) := by decide +kernel
theorem dX7_sumPlace_7 : decode cX7_sumPlace 7 = .ok (.imul, 1) := by decide +kernel
theorem dX7_sumPlace_8 : decode cX7_sumPlace 8 = .ok (.iconst 2, 1) := by decide +kernel
theorem dX7_sumPlace_9 : decode cX7_sumPlace 9 = .ok (.iadd, 1) := by decide +kernel
theorem dX7_sumPlace_10 : decode cX7_sumPlace 10 = .ok (.iload_n 2, 1) := by decide +kernel
theorem dX7_sumPlace_11 : decode cX7_sumPlace 11 = .ok (.iadd, 1) := by decide +kernel
theorem dX7_sumPlace_12 : decode cX7_sumPlace 12 = .ok (.iaload, 1) := by decide +kernel
theorem dX7_sumPlace_13 : decode cX7_sumPlace 13 = .ok (.ireturn, 1) := by decide +kernel
theorem dX7_testPlace_0 : decode cX7_testPlace 0 = .ok (.aload_n 0, 1) := by decide +kernel
theorem dX7_testPlace_1 : decode cX7_testPlace 1 = .ok (.getfield 13, 3) := by decide +kernel
theorem dX7_testPlace_4 : decode cX7_testPlace 4 = .ok (.bipush 6, 2) := by decide +kernel
theorem dX7_testPlace_6 : decode cX7_testPlace 6 = .ok (.iload_n 1, 1) := by decide +kernel
theorem dX7_testPlace_7 : decode cX7_testPlace 7 = .ok (.imul, 1) := by decide +kernel
theorem dX7_testPlace_8 : decode cX7_testPlace 8 = .ok (.iconst 5, 1) := by decide +kernel
theorem dX7_testPlace_9 : decode cX7_testPlace 9 = .ok (.iadd, 1) := by decide +kernel
theorem dX7_testPlace_10 : decode cX7_testPlace 10 = .ok (.iaload, 1) := by decide +kernel
theorem dX7_testPlace_11 : decode cX7_testPlace 11 = .ok (.ireturn, 1) := by decide +kernel
theorem dX8_init_0 : decode cX8_init 0 = .ok (.aload_n 0, 1) := by decide +kernel
theorem dX8_init_1 : decode cX8_init 1 = .ok (.invokespecial 3, 3) := by decide +kernel
theorem dX8_init_4 : decode cX8_init 4 = .ok (.aload_n 0, 1) := by decide +kernel
theorem dX8_init_5 : decode cX8_init 5 = .ok (.new 9, 3) := by decide +kernel
theorem dX8_init_8 : decode cX8_init 8 = .ok (.dup, 1) := by decide +kernel
theorem dX8_init_9 : decode cX8_init 9 = .ok (.invokespecial 11, 3) := by decide +kernel
theorem dX8_init_12 : decode cX8_init 12 = .ok (.putfield 12, 3) := by decide +kernel
theorem dX8_init_15 : decode cX8_init 15 = .ok (.aload_n 0, 1) := by decide +kernel
theorem dX8_init_16 : decode cX8_init 16 = .ok (.iconst 2, 1) := by decide +kernel
theorem dX8_init_17 : decode cX8_init 17 = .ok (.anewarray 9, 3) := by decide +kernel
theorem dX8_init_20 : decode cX8_init 20 = .ok (.putfield 16, 3) := by decide +kernel
theorem dX8_init_23 : decode cX8_init 23 = .ok (.aload_n 0, 1) := by decide +kernel
theorem dX8_init_24 : decode cX8_init 24 = .ok (.new 9, 3) := by decide +kernel
theorem dX8_init_27 : decode cX8_init 27 = .ok (.dup, 1) := by decide +kernel
theorem dX8_init_28 : decode cX8_init 28 = .ok (.invokespecial 11, 3) := by decide +kernel
theorem dX8_init_31 : decode cX8_init 31 = .ok (.putfield 20, 3) := by decide +kernel
theorem dX8_init_34 : decode cX8_init 34 = .ok (.aload_n 0, 1) := by decide +kernel
theorem dX8_init_35 : decode cX8_init 35 = .ok (.new 9, 3) := by decide +kernel
theorem dX8_init_38 : decode cX8_init 38 = .ok (.dup, 1) := by decide +kernel
theorem dX8_init_39 : decode cX8_init 39 = .ok (.invokespecial 11, 3) := by decide +kernel
theorem dX8_init_42 : decode cX8_init 42 = .ok (.putfield 23, 3) := by decide +kernel
theorem dX8_init_45 : decode cX8_init 45 = .ok (.aload_n 0, 1) := by decide +kernel
theorem dX8_init_46 : decode cX8_init 46 = .ok (.new 26, 3) := by decide +kernel
theorem dX8_init_49 : decode cX8_init 49 = .ok (.dup, 1) := by decide +kernel
theorem dX8_init_50 : decode cX8_init 50 = .ok (.invokespecial 28, 3) := by decide +kernel
theorem dX8_init_53 : decode cX8_init 53 = .ok (.putfield 29, 3) := by decide +kernel
theorem dX8_init_56 : decode cX8_init 56 = .ok (.aload_n 0, 1) := by decide +kernel
theorem dX8_init_57 : decode cX8_init 57 = .ok (.new 26, 3) := by decide +kernel
theorem dX8_init_60 : decode cX8_init 60 = .ok (.dup, 1) := by decide +kernel
theorem dX8_init_61 : decode cX8_init 61 = .ok (.invokespecial 28, 3) := by decide +kernel
theorem dX8_init_64 : decode cX8_init 64 = .ok (.putfield 33, 3) := by decide +kernel
theorem dX8_init_67 : decode cX8_init 67 = .ok (.aload_n 0, 1) := by decide +kernel
theorem dX8_init_68 : decode cX8_init 68 = .ok (.sipush 400, 3) := by decide +kernel
theorem dX8_init_71 : decode cX8_init 71 = .ok (.newarray .int, 2) := by decide +kernel
theorem dX8_init_73 : decode cX8_init 73 = .ok (.putfield 36, 3) := by decide +kernel
theorem dX8_init_76 : decode cX8_init 76 = .ok (.aload_n 0, 1) := by decide +kernel
theorem dX8_init_77 : decode cX8_init 77 = .ok (.new 40, 3) := by decide +kernel
theorem dX8_init_80 : decode cX8_init 80 = .ok (.dup, 1) := by decide +kernel
theorem dX8_init_81 : decode cX8_init 81 = .ok (.invokespecial 42, 3) := by decide +kernel
theorem dX8_init_84 : decode cX8_init 84 = .ok (.putfield 43, 3) := by decide +kernel
theorem dX8_init_87 : decode cX8_init 87 = .ok (.aload_n 0, 1) := by decide +kernel
theorem dX8_init_88 : decode cX8_init 88 = .ok (.new 47, 3) := by decide +kernel
theorem dX8_init_91 : decode cX8_init 91 = .ok (.dup, 1) := by decide +kernel
theorem dX8_init_92 : decode cX8_init 92 = .ok (.invokespecial 49, 3) := by decide +kernel
theorem dX8_init_95 : decode cX8_init 95 = .ok (.putfield 50, 3) := by decide +kernel
theorem dX8_init_98 : decode cX8_init 98 = .ok (.aload_n 0, 1) := by decide +kernel
theorem dX8_init_99 : decode cX8_init 99 = .ok (.new 54, 3) := by decide +kernel
theorem dX8_init_102 : decode cX8_init 102 = .ok (.dup, 1) := by decide +kernel
theorem dX8_init_103 : decode cX8_init 103 = .ok (.invokespecial 56, 3) := by decide +kernel
theorem dX8_init_106 : decode cX8_init 106 = .ok (.putfield 57, 3) := by decide +kernel
theorem dX8_init_109 : decode cX8_init 109 = .ok (.aload_n 0, 1) := by decide +kernel
theorem dX8_init_110 : decode cX8_init 110 = .ok (.new 61, 3) := by decide +kernel
theorem dX8_init_113 : decode cX8_init 113 = .ok (.dup, 1) := by decide +kernel
theorem dX8_init_114 : decode cX8_init 114 = .ok (.invokespecial 63, 3) := by decide +kernel
theorem dX8_init_117 : decode cX8_init 117 = .ok (.putfield 64, 3) := by decide +kernel
theorem dX8_init_120 : decode cX8_init 120 = .ok (.aload_n 0, 1) := by decide +kernel
theorem dX8_init_121 : decode cX8_init 121 = .ok (.new 68, 3) := by decide +kernel
theorem dX8_init_124 : decode cX8_init 124 = .ok (.dup, 1) := by decide +kernel
theorem dX8_init_125 : decode cX8_init 125 = .ok (.invokespecial 70, 3) := by decide +kernel
theorem dX8_init_128 : decode cX8_init 128 = .ok (.putfield 71, 3) := by decide +kernel
theorem dX8_init_131 : decode cX8_init 131 = .ok (.aload_n 0, 1) := by decide +kernel
theorem dX8_init_132 : decode cX8_init 132 = .ok (.bipush 43, 2) := by decide +kernel
theorem dX8_init_134 : decode cX8_init 134 = .ok (.newarray .int, 2) := by decide +kernel
theorem dX8_init_136 : decode cX8_init 136 = .ok (.putfield 75, 3) := by decide +kernel
theorem dX8_init_139 : decode cX8_init 139 = .ok (.aload_n 0, 1) := by decide +kernel
theorem dX8_init_140 : decode cX8_init 140 = .ok (.bipush 20, 2) := by decide +kernel
theorem dX8_init_142 : decode cX8_init 142 = .ok (.newarray .long, 2) := by decide +kernel
theorem dX8_init_144 : decode cX8_init 144 = .ok (.putfield 78, 3) := by decide +kernel
theorem dX8_init_147 : decode cX8_init 147 = .ok (.aload_n 0, 1) := by decide +kernel
theorem dX8_init_148 : decode cX8_init 148 = .ok (.iconst 5, 1) := by decide +kernel
theorem dX8_init_149 : decode cX8_init 149 = .ok (.newarray .int, 2) := by decide +kernel
theorem dX8_init_151 : decode cX8_init 151 = .ok (.putfield 82, 3) := by decide +kernel
theorem dX8_init_154 : decode cX8_init 154 = .ok (.aload_n 0, 1) := by decide +kernel
theorem dX8_init_155 : decode cX8_init 155 = .ok (.iconst (-1), 1) := by decide +kernel
theorem dX8_init_156 : decode cX8_init 156 = .ok (.putfield 85, 3) := by decide +kernel
theorem dX8_init_159 : decode cX8_init 159 = .ok (.return_, 1) := by decide +kernel
theorem dX8_enter_0 : decode cX8_enter 0 = .ok (.iload_n 1, 1) := by decide +kernel
theorem dX8_enter_1 : decode cX8_enter 1 = .ok (.invokestatic 89, 3) := by decide +kernel
theorem dX8_enter_4 : decode cX8_enter 4 = .ok (.ifCond .eq 14, 3) := by decide +kernel
theorem dX8_enter_7 : decode cX8_enter 7 = .ok (.iload_n 2, 1) := by decide +kernel
theorem dX8_enter_8 : decode cX8_enter 8 = .ok (.iconst 0, 1) := by decide +kernel
theorem dX8_enter_9 : decode cX8_enter 9 = .ok (.sipush 999, 3) := by decide +kernel
theorem dX8_enter_12 : decode cX8_enter 12 = .ok (.invokestatic 93, 3) := by decide +kernel
theorem dX8_enter_15 : decode cX8_enter 15 = .ok (.ifCond .ne 9, 3) := by decide +kernel
theorem dX8_enter_18 : decode cX8_enter 18 = .ok (.aload_n 0, 1) := by decide +kernel
theorem dX8_enter_19 : decode cX8_enter 19 = .ok (.iconst (-1), 1) := by decide +kernel
theorem dX8_enter_20 : decode cX8_enter 20 = .ok (.invokevirtual 97, 3) := by decide +kernel
theorem dX8_enter_23 : decode cX8_enter 23 = .ok (.ireturn, 1) := by decide +kernel
theorem dX8_enter_24 : decode cX8_enter 24 = .ok (.aload_n 0, 1) := by decide +kernel
theorem dX8_enter_25 : decode cX8_enter 25 = .ok (.getfield 12, 3) := by decide +kernel
theorem dX8_enter_28 : decode cX8_enter 28 = .ok (.getfield 101, 3) := by decide +kernel
theorem dX8_enter_31 : decode cX8_enter 31 = .ok (.iload_n 1, 1) := by decide +kernel
theorem dX8_enter_32 : decode cX8_enter 32 = .ok (.iaload, 1) := by decide +kernel
theorem dX8_enter_33 : decode cX8_enter 33 = .ok (.istore_n 3, 1) := by decide +kernel
theorem dX8_enter_34 : decode cX8_enter 34 = .ok (.aload_n 0, 1) := by decide +kernel
theorem dX8_enter_35 : decode cX8_enter 35 = .ok (.getfield 12, 3) := by decide +kernel
theorem dX8_enter_38 : decode cX8_enter 38 = .ok (.getfield 101, 3) := by decide +kernel
theorem dX8_enter_41 : decode cX8_enter 41 = .ok (.iload_n 1, 1) := by decide +kernel
theorem dX8_enter_42 : decode cX8_enter 42 = .ok (.iload_n 2, 1) := by decide +kernel
theorem dX8_enter_43 : decode cX8_enter 43 = .ok (.iastore, 1) := by decide +kernel
theorem dX8_enter_44 : decode cX8_enter 44 = .ok (.aload_n 0, 1) := by decide +kernel
theorem dX8_enter_45 : decode cX8_enter 45 = .ok (.getfield 29, 3) := by decide +kernel
theorem dX8_enter_48 : decode cX8_enter 48 = .ok (.invokevirtual 104, 3) := by decide +kernel
theorem dX8_enter_51 : decode cX8_enter 51 = .ok (.aload_n 0, 1) := by decide +kernel
theorem dX8_enter_52 : decode cX8_enter 52 = .ok (.iload_n 3, 1) := by decide +kernel
theorem dX8_enter_53 : decode cX8_enter 53 = .ok (.invokevirtual 107, 3) := by decide +kernel
theorem dX8_enter_56 : decode cX8_enter 56 = .ok (.ireturn, 1) := by decide +kernel
theorem dX8_at_0 : decode cX8_at 0 = .ok (.iload_n 1, 1) := by decide +kernel
theorem dX8_at_1 : decode cX8_at 1 = .ok (.invokestatic 89, 3) := by decide +kernel
theorem dX8_at_4 : decode cX8_at 4 = .ok (.ifCond .ne 5, 3) := by decide +kernel
theorem dX8_at_7 : decode cX8_at 7 = .ok (.iconst (-1), 1) := by decide +kernel
theorem dX8_at_8 : decode cX8_at 8 = .ok (.ireturn, 1) := by decide +kernel
theorem dX8_at_9 : decode cX8_at 9 = .ok (.iload_n 2, 1) := by decide +kernel
theorem dX8_at_10 : decode cX8_at 10 = .ok (.tableswitch 109 0 3 #[30, 40, 50, 77], 30) := by decide +kernel
theorem dX8_at_40 : decode cX8_at 40 = .ok (.aload_n 0, 1) := by decide +kernel
theorem dX8_at_41 : decode cX8_at 41 = .ok (.getfield 12, 3) := by decide +kernel
theorem dX8_at_44 : decode cX8_at 44 = .ok (.getfield 101, 3) := by decide +kernel
theorem dX8_at_47 : decode cX8_at 47 = .ok (.iload_n 1, 1) := by decide +kernel
theorem dX8_at_48 : decode cX8_at 48 = .ok (.iaload, 1) := by decide +kernel
theorem dX8_at_49 : decode cX8_at 49 = .ok (.ireturn, 1) := by decide +kernel
theorem dX8_at_50 : decode cX8_at 50 = .ok (.aload_n 0, 1) := by decide +kernel
theorem dX8_at_51 : decode cX8_at 51 = .ok (.getfield 12, 3) := by decide +kernel
theorem dX8_at_54 : decode cX8_at 54 = .ok (.getfield 110, 3) := by decide +kernel
theorem dX8_at_57 : decode cX8_at 57 = .ok (.iload_n 1, 1) := by decide +kernel
theorem dX8_at_58 : decode cX8_at 58 = .ok (.iaload, 1) := by decide +kernel
theorem dX8_at_59 : decode cX8_at 59 = .ok (.ireturn, 1) := by decide +kernel
theorem dX8_at_60 : decode cX8_at 60 = .ok (.aload_n 0, 1) := by decide +kernel
theorem dX8_at_61 : decode cX8_at 61 = .ok (.getfield 57, 3) := by decide +kernel
theorem dX8_at_64 : decode cX8_at 64 = .ok (.aload_n 0, 1) := by decide +kernel
theorem dX8_at_65 : decode cX8_at 65 = .ok (.getfield 12, 3) := by decide +kernel
theorem dX8_at_68 : decode cX8_at 68 = .ok (.aload_n 0, 1) := by decide +kernel
theorem dX8_at_69 : decode cX8_at 69 = .ok (.getfield 12, 3) := by decide +kernel
theorem dX8_at_72 : decode cX8_at 72 = .ok (.invokevirtual 113, 3) := by decide +kernel
theorem dX8_at_75 : decode cX8_at 75 = .ok (.iconst 0, 1) := by decide +kernel
theorem dX8_at_76 : decode cX8_at 76 = .ok (.iload_n 1, 1) := by decide +kernel
theorem dX8_at_77 : decode cX8_at 77 = .ok (.iconst (-1), 1) := by decide +kernel
theorem dX8_at_78 : decode cX8_at 78 = .ok (.invokevirtual 117, 3) := by decide +kernel
theorem dX8_at_81 : decode cX8_at 81 = .ok (.iconst 4, 1) := by decide +kernel
theorem dX8_at_82 : decode cX8_at 82 = .ok (.iconst 2, 1) := by decide +kernel
theorem dX8_at_83 : decode cX8_at 83 = .ok (.invokestatic 121, 3) := by decide +kernel
theorem dX8_at_86 : decode cX8_at 86 = .ok (.ireturn, 1) := by decide +kernel
theorem dX8_at_87 : decode cX8_at 87 = .ok (.aload_n 0, 1) := by decide +kernel
theorem dX8_at_88 : decode cX8_at 88 = .ok (.getfield 57, 3) := by decide +kernel
theorem dX8_at_91 : decode cX8_at 91 = .ok (.aload_n 0, 1) := by decide +kernel
theorem dX8_at_92 : decode cX8_at 92 = .ok (.getfield 12, 3) := by decide +kernel
theorem dX8_at_95 : decode cX8_at 95 = .ok (.aload_n 0, 1) := by decide +kernel
theorem dX8_at_96 : decode cX8_at 96 = .ok (.getfield 12, 3) := by decide +kernel
theorem dX8_at_99 : decode cX8_at 99 = .ok (.invokevirtual 113, 3) := by decide +kernel
theorem dX8_at_102 : decode cX8_at 102 = .ok (.iconst 2, 1) := by decide +kernel
theorem dX8_at_103 : decode cX8_at 103 = .ok (.iload_n 1, 1) := by decide +kernel
theorem dX8_at_104 : decode cX8_at 104 = .ok (.iconst (-1), 1) := by decide +kernel
theorem dX8_at_105 : decode cX8_at 105 = .ok (.invokevirtual 117, 3) := by decide +kernel
theorem dX8_at_108 : decode cX8_at 108 = .ok (.ldc 125, 2) := by decide +kernel
theorem dX8_at_110 : decode cX8_at 110 = .ok (.if_icmp .ne 7, 3) := by decide +kernel
theorem dX8_at_113 : decode cX8_at 113 = .ok (.iconst 0, 1) := by decide +kernel
theorem dX8_at_114 : decode cX8_at 114 = .ok (.goto 4, 3) := by decide +kernel
theorem dX8_at_117 : decode cX8_at 117 = .ok (.iconst 1, 1) := by decide +kernel
theorem dX8_at_118 : decode cX8_at 118 = .ok (.ireturn, 1) := by decide +kernel
theorem dX8_at_119 : decode cX8_at 119 = .ok (.iconst (-1), 1) := by decide +kernel
theorem dX8_at_120 : decode cX8_at 120 = .ok (.ireturn, 1) := by decide +kernel
theorem dX8_told_0 : decode cX8_told 0 = .ok (.iload_n 1, 1) := by decide +kernel
theorem dX8_told_1 : decode cX8_told 1 = .ok (.iload_n 2, 1) := by decide +kernel
theorem dX8_told_2 : decode cX8_told 2 = .ok (.invokestatic 126, 3) := by decide +kernel
theorem dX8_told_5 : decode cX8_told 5 = .ok (.ifCond .eq 14, 3) := by decide +kernel
theorem dX8_told_8 : decode cX8_told 8 = .ok (.iload_n 3, 1) := by decide +kernel
theorem dX8_told_9 : decode cX8_told 9 = .ok (.iconst 0, 1) := by decide +kernel
theorem dX8_told_10 : decode cX8_told 10 = .ok (.sipush 9999, 3) := by decide +kernel
theorem dX8_told_13 : decode cX8_told 13 = .ok (.invokestatic 93, 3) := by decide +kernel
theorem dX8_told_16 : decode cX8_told 16 = .ok (.ifCond .ne 9, 3) := by decide +kernel
theorem dX8_told_19 : decode cX8_told 19 = .ok (.aload_n 0, 1) := by decide +kernel
theorem dX8_told_20 : decode cX8_told 20 = .ok (.iconst (-1), 1) := by decide +kernel
theorem dX8_told_21 : decode cX8_told 21 = .ok (.invokevirtual 97, 3) := by decide +kernel
theorem dX8_told_24 : decode cX8_told 24 = .ok (.ireturn, 1) := by decide +kernel
theorem dX8_told_25 : decode cX8_told 25 = .ok (.iload_n 1, 1) := by decide +kernel
theorem dX8_told_26 : decode cX8_told 26 = .ok (.iconst 5, 1) := by decide +kernel
theorem dX8_told_27 : decode cX8_told 27 = .ok (.imul, 1) := by decide +kernel
theorem dX8_told_28 : decode cX8_told 28 = .ok (.iload_n 2, 1) := by decide +kernel
theorem dX8_told_29 : decode cX8_told 29 = .ok (.iadd, 1) := by decide +kernel
theorem dX8_told_30 : decode cX8_told 30 = .ok (.istore 4, 2) := by decide +kernel
theorem dX8_told_32 : decode cX8_told 32 = .ok (.aload_n 0, 1) := by decide +kernel
theorem dX8_told_33 : decode cX8_told 33 = .ok (.getfield 12, 3) := by decide +kernel
theorem dX8_told_36 : decode cX8_told 36 = .ok (.getfield 130, 3) := by decide +kernel
theorem dX8_told_39 : decode cX8_told 39 = .ok (.iload 4, 2) := by decide +kernel
theorem dX8_told_41 : decode cX8_told 41 = .ok (.iaload, 1) := by decide +kernel
theorem dX8_told_42 : decode cX8_told 42 = .ok (.istore 5, 2) := by decide +kernel
theorem dX8_told_44 : decode cX8_told 44 = .ok (.aload_n 0, 1) := by decide +kernel
theorem dX8_told_45 : decode cX8_told 45 = .ok (.getfield 12, 3) := by decide +kernel
theorem dX8_told_48 : decode cX8_told 48 = .ok (.getfield 130, 3) := by decide +kernel
theorem dX8_told_51 : decode cX8_told 51 = .ok (.iload 4, 2) := by decide +kernel
theorem dX8_told_53 : decode cX8_told 53 = .ok (.iload_n 3, 1) := by decide +kernel
theorem dX8_told_54 : decode cX8_told 54 = .ok (.iastore, 1) := by decide +kernel
theorem dX8_told_55 : decode cX8_told 55 = .ok (.aload_n 0, 1) := by decide +kernel
theorem dX8_told_56 : decode cX8_told 56 = .ok (.iload 5, 2) := by decide +kernel
theorem dX8_told_58 : decode cX8_told 58 = .ok (.invokevirtual 107, 3) := by decide +kernel
theorem dX8_told_61 : decode cX8_told 61 = .ok (.ireturn, 1) := by decide +kernel
theorem dX8_off_0 : decode cX8_off 0 = .ok (.iload_n 1, 1) := by decide +kernel
theorem dX8_off_1 : decode cX8_off 1 = .ok (.iload_n 2, 1) := by decide +kernel
theorem dX8_off_2 : decode cX8_off 2 = .ok (.invokestatic 126, 3) := by decide +kernel
theorem dX8_off_5 : decode cX8_off 5 = .ok (.ifCond .eq 15, 3) := by decide +kernel
theorem dX8_off_8 : decode cX8_off 8 = .ok (.aload_n 0, 1) := by decide +kernel
theorem dX8_off_9 : decode cX8_off 9 = .ok (.getfield 12, 3) := by decide +kernel
theorem dX8_off_12 : decode cX8_off 12 = .ok (.iload_n 1, 1) := by decide +kernel
theorem dX8_off_13 : decode cX8_off 13 = .ok (.iload_n 2, 1) := by decide +kernel
theorem dX8_off_14 : decode cX8_off 14 = .ok (.invokevirtual 133, 3) := by decide +kernel
theorem dX8_off_17 : decode cX8_off 17 = .ok (.goto 5, 3) := by decide +kernel
theorem dX8_off_20 : decode cX8_off 20 = .ok (.ldc 137, 2) := by decide +kernel
theorem dX8_off_22 : decode cX8_off 22 = .ok (.ireturn, 1) := by decide +kernel
theorem dX8_clerk_0 : decode cX8_clerk 0 = .ok (.iload_n 1, 1) := by decide +kernel
theorem dX8_clerk_1 : decode cX8_clerk 1 = .ok (.iconst 0, 1) := by decide +kernel
theorem dX8_clerk_2 : decode cX8_clerk 2 = .ok (.bipush 9, 2) := by decide +kernel
theorem dX8_clerk_4 : decode cX8_clerk 4 = .ok (.invokestatic 93, 3) := by decide +kernel
theorem dX8_clerk_7 : decode cX8_clerk 7 = .ok (.ifCond .ne 9, 3) := by decide +kernel
theorem dX8_clerk_10 : decode cX8_clerk 10 = .ok (.aload_n 0, 1) := by decide +kernel
theorem dX8_clerk_11 : decode cX8_clerk 11 = .ok (.iconst (-1), 1) := by decide +kernel
theorem dX8_clerk_12 : decode cX8_clerk 12 = .ok (.invokevirtual 97, 3) := by decide +kernel
theorem dX8_clerk_15 : decode cX8_clerk 15 = .ok (.ireturn, 1) := by decide +kernel
theorem dX8_clerk_16 : decode cX8_clerk 16 = .ok (.aload_n 0, 1) := by decide +kernel
theorem dX8_clerk_17 : decode cX8_clerk 17 = .ok (.getfield 12, 3) := by decide +kernel
theorem dX8_clerk_20 : decode cX8_clerk 20 = .ok (.getfield 138, 3) := by decide +kernel
theorem dX8_clerk_23 : decode cX8_clerk 23 = .ok (.iconst 5, 1) := by decide +kernel
theorem dX8_clerk_24 : decode cX8_clerk 24 = .ok (.if_icmp .lt 10, 3) := by decide +kernel
theorem dX8_clerk_27 : decode cX8_clerk 27 = .ok (.aload_n 0, 1) := by decide +kernel
theorem dX8_clerk_28 : decode cX8_clerk 28 = .ok (.bipush (-5), 2) := by decide +kernel
theorem dX8_clerk_30 : decode cX8_clerk 30 = .ok (.invokevirtual 97, 3) := by decide +kernel
theorem dX8_clerk_33 : decode cX8_clerk 33 = .ok (.ireturn, 1) := by decide +kernel
theorem dX8_clerk_34 : decode cX8_clerk 34 = .ok (.aload_n 0, 1) := by decide +kernel
theorem dX8_clerk_35 : decode cX8_clerk 35 = .ok (.getfield 12, 3) := by decide +kernel
theorem dX8_clerk_38 : decode cX8_clerk 38 = .ok (.getfield 138, 3) := by decide +kernel
theorem dX8_clerk_41 : decode cX8_clerk 41 = .ok (.istore_n 2, 1) := by decide +kernel
theorem dX8_clerk_42 : decode cX8_clerk 42 = .ok (.aload_n 0, 1) := by decide +kernel
theorem dX8_clerk_43 : decode cX8_clerk 43 = .ok (.getfield 12, 3) := by decide +kernel
theorem dX8_clerk_46 : decode cX8_clerk 46 = .ok (.getfield 141, 3) := by decide +kernel
theorem dX8_clerk_49 : decode cX8_clerk 49 = .ok (.iload_n 2, 1) := by decide +kernel
theorem dX8_clerk_50 : decode cX8_clerk 50 = .ok (.iload_n 1, 1) := by decide +kernel
theorem dX8_clerk_51 : decode cX8_clerk 51 = .ok (.iastore, 1) := by decide +kernel
theorem dX8_clerk_52 : decode cX8_clerk 52 = .ok (.aload_n 0, 1) := by decide +kernel
theorem dX8_clerk_53 : decode cX8_clerk 53 = .ok (.getfield 12, 3) := by decide +kernel
theorem dX8_clerk_56 : decode cX8_clerk 56 = .ok (.getfield 144, 3) := by decide +kernel
theorem dX8_clerk_59 : decode cX8_clerk 59 = .ok (.iload_n 2, 1) := by decide +kernel
theorem dX8_clerk_60 : decode cX8_clerk 60 = .ok (.iconst 0, 1) := by decide +kernel
theorem dX8_clerk_61 : decode cX8_clerk 61 = .ok (.iastore, 1) := by decide +kernel
theorem dX8_clerk_62 : decode cX8_clerk 62 = .ok (.aload_n 0, 1) := by decide +kernel
theorem dX8_clerk_63 : decode cX8_clerk 63 = .ok (.getfield 12, 3) := by decide +kernel
theorem dX8_clerk_66 : decode cX8_clerk 66 = .ok (.iload_n 2, 1) := by decide +kernel
theorem dX8_clerk_67 : decode cX8_clerk 67 = .ok (.iconst 1, 1) := by decide +kernel
theorem dX8_clerk_68 : decode cX8_clerk 68 = .ok (.iadd, 1) := by decide +kernel
theorem dX8_clerk_69 : decode cX8_clerk 69 = .ok (.putfield 138, 3) := by decide +kernel
theorem dX8_clerk_72 : decode cX8_clerk 72 = .ok (.aload_n 0, 1) := by decide +kernel
theorem dX8_clerk_73 : decode cX8_clerk 73 = .ok (.getfield 29, 3) := by decide +kernel
theorem dX8_clerk_76 : decode cX8_clerk 76 = .ok (.invokevirtual 104, 3) := by decide +kernel
theorem dX8_clerk_79 : decode cX8_clerk 79 = .ok (.aload_n 0, 1) := by decide +kernel
theorem dX8_clerk_80 : decode cX8_clerk 80 = .ok (.iload_n 2, 1) := by decide +kernel
theorem dX8_clerk_81 : decode cX8_clerk 81 = .ok (.invokevirtual 107, 3) := by decide +kernel
theorem dX8_clerk_84 : decode cX8_clerk 84 = .ok (.ireturn, 1) := by decide +kernel
theorem dX8_of_0 : decode cX8_of 0 = .ok (.aload_n 0, 1) := by decide +kernel
theorem dX8_of_1 : decode cX8_of 1 = .ok (.getfield 12, 3) := by decide +kernel
theorem dX8_of_4 : decode cX8_of 4 = .ok (.iload_n 1, 1) := by decide +kernel
theorem dX8_of_5 : decode cX8_of 5 = .ok (.invokevirtual 147, 3) := by decide +kernel
theorem dX8_of_8 : decode cX8_of 8 = .ok (.ifCond .ne 5, 3) := by decide +kernel
theorem dX8_of_11 : decode cX8_of 11 = .ok (.iconst (-1), 1) := by decide +kernel
theorem dX8_of_12 : decode cX8_of 12 = .ok (.ireturn, 1) := by decide +kernel
theorem dX8_of_13 : decode cX8_of 13 = .ok (.iload_n 2, 1) := by decide +kernel
theorem dX8_of_14 : decode cX8_of 14 = .ok (.lookupswitch 45 #[(0, 26), (1, 36)], 26) := by decide +kernel
theorem dX8_of_40 : decode cX8_of 40 = .ok (.aload_n 0, 1) := by decide +kernel
theorem dX8_of_41 : decode cX8_of 41 = .ok (.getfield 12, 3) := by decide +kernel
theorem dX8_of_44 : decode cX8_of 44 = .ok (.getfield 141, 3) := by decide +kernel
theorem dX8_of_47 : decode cX8_of 47 = .ok (.iload_n 1, 1) := by decide +kernel
theorem dX8_of_48 : decode cX8_of 48 = .ok (.iaload, 1) := by decide +kernel
theorem dX8_of_49 : decode cX8_of 49 = .ok (.ireturn, 1) := by decide +kernel
theorem dX8_of_50 : decode cX8_of 50 = .ok (.aload_n 0, 1) := by decide +kernel
theorem dX8_of_51 : decode cX8_of 51 = .ok (.getfield 12, 3) := by decide +kernel
theorem dX8_of_54 : decode cX8_of 54 = .ok (.iload_n 1, 1) := by decide +kernel
theorem dX8_of_55 : decode cX8_of 55 = .ok (.invokevirtual 150, 3) := by decide +kernel
theorem dX8_of_58 : decode cX8_of 58 = .ok (.ireturn, 1) := by decide +kernel
theorem dX8_of_59 : decode cX8_of 59 = .ok (.iconst (-1), 1) := by decide +kernel
theorem dX8_of_60 : decode cX8_of 60 = .ok (.ireturn, 1) := by decide +kernel
theorem dX8_asks_0 : decode cX8_asks 0 = .ok (.aload_n 0, 1) := by decide +kernel
theorem dX8_asks_1 : decode cX8_asks 1 = .ok (.getfield 12, 3) := by decide +kernel
theorem dX8_asks_4 : decode cX8_asks 4 = .ok (.iload_n 1, 1) := by decide +kernel
theorem dX8_asks_5 : decode cX8_asks 5 = .ok (.invokevirtual 147, 3) := by decide +kernel
theorem dX8_asks_8 : decode cX8_asks 8 = .ok (.ifCond .eq 10, 3) := by decide +kernel
theorem dX8_asks_11 : decode cX8_asks 11 = .ok (.iload_n 2, 1) := by decide +kernel
theorem dX8_asks_12 : decode cX8_asks 12 = .ok (.invokestatic 89, 3) := by decide +kernel
theorem dX8_asks_15 : decode cX8_asks 15 = .ok (.ifCond .ne 5, 3) := by decide +kernel
theorem dX8_asks_18 : decode cX8_asks 18 = .ok (.iconst (-1), 1) := by decide +kernel
theorem dX8_asks_19 : decode cX8_asks 19 = .ok (.ireturn, 1) := by decide +kernel
theorem dX8_asks_20 : decode cX8_asks 20 = .ok (.iload_n 3, 1) := by decide +kernel
theorem dX8_asks_21 : decode cX8_asks 21 = .ok (.lookupswitch 88 #[(0, 27), (1, 56)], 27) := by decide +kernel
theorem dX8_asks_48 : decode cX8_asks 48 = .ok (.aload_n 0, 1) := by decide +kernel
