theorem dX9_setsAsked_81 : decode cX9_setsAsked 81 = .ok (.iadd, 1) := by decide +kernel
theorem dX9_setsAsked_82 : decode cX9_setsAsked 82 = .ok (.iaload, 1) := by decide +kernel
theorem dX9_setsAsked_83 : decode cX9_setsAsked 83 = .ok (.iastore, 1) := by decide +kernel
theorem dX9_setsAsked_84 : decode cX9_setsAsked 84 = .ok (.aload_n 0, 1) := by decide +kernel
theorem dX9_setsAsked_85 : decode cX9_setsAsked 85 = .ok (.getfield 63, 3) := by decide +kernel
theorem dX9_setsAsked_88 : decode cX9_setsAsked 88 = .ok (.bipush 7, 2) := by decide +kernel
theorem dX9_setsAsked_90 : decode cX9_setsAsked 90 = .ok (.aload_n 0, 1) := by decide +kernel
theorem dX9_setsAsked_91 : decode cX9_setsAsked 91 = .ok (.iload_n 2, 1) := by decide +kernel
theorem dX9_setsAsked_92 : decode cX9_setsAsked 92 = .ok (.iconst 5, 1) := by decide +kernel
theorem dX9_setsAsked_93 : decode cX9_setsAsked 93 = .ok (.idiv, 1) := by decide +kernel
theorem dX9_setsAsked_94 : decode cX9_setsAsked 94 = .ok (.invokevirtual 132, 3) := by decide +kernel
theorem dX9_setsAsked_97 : decode cX9_setsAsked 97 = .ok (.iastore, 1) := by decide +kernel
theorem dX9_setsAsked_98 : decode cX9_setsAsked 98 = .ok (.aload_n 0, 1) := by decide +kernel
theorem dX9_setsAsked_99 : decode cX9_setsAsked 99 = .ok (.getfield 63, 3) := by decide +kernel
theorem dX9_setsAsked_102 : decode cX9_setsAsked 102 = .ok (.bipush 8, 2) := by decide +kernel
theorem dX9_setsAsked_104 : decode cX9_setsAsked 104 = .ok (.aload_n 0, 1) := by decide +kernel
theorem dX9_setsAsked_105 : decode cX9_setsAsked 105 = .ok (.iconst 5, 1) := by decide +kernel
theorem dX9_setsAsked_106 : decode cX9_setsAsked 106 = .ok (.iload_n 2, 1) := by decide +kernel
theorem dX9_setsAsked_107 : decode cX9_setsAsked 107 = .ok (.iconst 5, 1) := by decide +kernel
theorem dX9_setsAsked_108 : decode cX9_setsAsked 108 = .ok (.irem, 1) := by decide +kernel
theorem dX9_setsAsked_109 : decode cX9_setsAsked 109 = .ok (.iadd, 1) := by decide +kernel
theorem dX9_setsAsked_110 : decode cX9_setsAsked 110 = .ok (.invokevirtual 132, 3) := by decide +kernel
theorem dX9_setsAsked_113 : decode cX9_setsAsked 113 = .ok (.iastore, 1) := by decide +kernel
theorem dX9_setsAsked_114 : decode cX9_setsAsked 114 = .ok (.aload_n 0, 1) := by decide +kernel
theorem dX9_setsAsked_115 : decode cX9_setsAsked 115 = .ok (.getfield 63, 3) := by decide +kernel
theorem dX9_setsAsked_118 : decode cX9_setsAsked 118 = .ok (.bipush 9, 2) := by decide +kernel
theorem dX9_setsAsked_120 : decode cX9_setsAsked 120 = .ok (.aload_n 0, 1) := by decide +kernel
theorem dX9_setsAsked_121 : decode cX9_setsAsked 121 = .ok (.getfield 28, 3) := by decide +kernel
theorem dX9_setsAsked_124 : decode cX9_setsAsked 124 = .ok (.bipush 31, 2) := by decide +kernel
theorem dX9_setsAsked_126 : decode cX9_setsAsked 126 = .ok (.iaload, 1) := by decide +kernel
theorem dX9_setsAsked_127 : decode cX9_setsAsked 127 = .ok (.iastore, 1) := by decide +kernel
theorem dX9_setsAsked_128 : decode cX9_setsAsked 128 = .ok (.return_, 1) := by decide +kernel
theorem dX9_tells_0 : decode cX9_tells 0 = .ok (.aload_n 0, 1) := by decide +kernel
theorem dX9_tells_1 : decode cX9_tells 1 = .ok (.getfield 28, 3) := by decide +kernel
theorem dX9_tells_4 : decode cX9_tells 4 = .ok (.bipush 107, 2) := by decide +kernel
theorem dX9_tells_6 : decode cX9_tells 6 = .ok (.iaload, 1) := by decide +kernel
theorem dX9_tells_7 : decode cX9_tells 7 = .ok (.iconst (-1), 1) := by decide +kernel
theorem dX9_tells_8 : decode cX9_tells 8 = .ok (.if_icmp .ne 6, 3) := by decide +kernel
theorem dX9_tells_11 : decode cX9_tells 11 = .ok (.iload 5, 2) := by decide +kernel
theorem dX9_tells_13 : decode cX9_tells 13 = .ok (.ireturn, 1) := by decide +kernel
theorem dX9_tells_14 : decode cX9_tells 14 = .ok (.aload_n 0, 1) := by decide +kernel
theorem dX9_tells_15 : decode cX9_tells 15 = .ok (.iload_n 2, 1) := by decide +kernel
theorem dX9_tells_16 : decode cX9_tells 16 = .ok (.iload_n 3, 1) := by decide +kernel
theorem dX9_tells_17 : decode cX9_tells 17 = .ok (.invokevirtual 312, 3) := by decide +kernel
theorem dX9_tells_20 : decode cX9_tells 20 = .ok (.aload_n 0, 1) := by decide +kernel
theorem dX9_tells_21 : decode cX9_tells 21 = .ok (.iconst 0, 1) := by decide +kernel
theorem dX9_tells_22 : decode cX9_tells 22 = .ok (.putfield 288, 3) := by decide +kernel
theorem dX9_tells_25 : decode cX9_tells 25 = .ok (.iload 5, 2) := by decide +kernel
theorem dX9_tells_27 : decode cX9_tells 27 = .ok (.i2l, 1) := by decide +kernel
theorem dX9_tells_28 : decode cX9_tells 28 = .ok (.lstore 6, 2) := by decide +kernel
theorem dX9_tells_30 : decode cX9_tells 30 = .ok (.aload_n 0, 1) := by decide +kernel
theorem dX9_tells_31 : decode cX9_tells 31 = .ok (.sipush 400, 3) := by decide +kernel
theorem dX9_tells_34 : decode cX9_tells 34 = .ok (.aload_n 0, 1) := by decide +kernel
theorem dX9_tells_35 : decode cX9_tells 35 = .ok (.getfield 28, 3) := by decide +kernel
theorem dX9_tells_38 : decode cX9_tells 38 = .ok (.bipush 107, 2) := by decide +kernel
theorem dX9_tells_40 : decode cX9_tells 40 = .ok (.iaload, 1) := by decide +kernel
theorem dX9_tells_41 : decode cX9_tells 41 = .ok (.imul, 1) := by decide +kernel
theorem dX9_tells_42 : decode cX9_tells 42 = .ok (.putfield 258, 3) := by decide +kernel
theorem dX9_tells_45 : decode cX9_tells 45 = .ok (.aload_n 0, 1) := by decide +kernel
theorem dX9_tells_46 : decode cX9_tells 46 = .ok (.aload_n 0, 1) := by decide +kernel
theorem dX9_tells_47 : decode cX9_tells 47 = .ok (.getfield 258, 3) := by decide +kernel
theorem dX9_tells_50 : decode cX9_tells 50 = .ok (.aload_n 0, 1) := by decide +kernel
theorem dX9_tells_51 : decode cX9_tells 51 = .ok (.getfield 28, 3) := by decide +kernel
theorem dX9_tells_54 : decode cX9_tells 54 = .ok (.bipush 108, 2) := by decide +kernel
theorem dX9_tells_56 : decode cX9_tells 56 = .ok (.aload_n 0, 1) := by decide +kernel
theorem dX9_tells_57 : decode cX9_tells 57 = .ok (.getfield 28, 3) := by decide +kernel
theorem dX9_tells_60 : decode cX9_tells 60 = .ok (.bipush 107, 2) := by decide +kernel
theorem dX9_tells_62 : decode cX9_tells 62 = .ok (.iaload, 1) := by decide +kernel
theorem dX9_tells_63 : decode cX9_tells 63 = .ok (.iadd, 1) := by decide +kernel
theorem dX9_tells_64 : decode cX9_tells 64 = .ok (.iaload, 1) := by decide +kernel
theorem dX9_tells_65 : decode cX9_tells 65 = .ok (.iadd, 1) := by decide +kernel
theorem dX9_tells_66 : decode cX9_tells 66 = .ok (.putfield 255, 3) := by decide +kernel
theorem dX9_tells_69 : decode cX9_tells 69 = .ok (.aload_n 0, 1) := by decide +kernel
theorem dX9_tells_70 : decode cX9_tells 70 = .ok (.getfield 258, 3) := by decide +kernel
theorem dX9_tells_73 : decode cX9_tells 73 = .ok (.aload_n 0, 1) := by decide +kernel
theorem dX9_tells_74 : decode cX9_tells 74 = .ok (.getfield 255, 3) := by decide +kernel
theorem dX9_tells_77 : decode cX9_tells 77 = .ok (.if_icmp .ge 151, 3) := by decide +kernel
theorem dX9_tells_80 : decode cX9_tells 80 = .ok (.aload_n 0, 1) := by decide +kernel
theorem dX9_tells_81 : decode cX9_tells 81 = .ok (.aload_n 0, 1) := by decide +kernel
theorem dX9_tells_82 : decode cX9_tells 82 = .ok (.getfield 258, 3) := by decide +kernel
theorem dX9_tells_85 : decode cX9_tells 85 = .ok (.invokevirtual 261, 3) := by decide +kernel
theorem dX9_tells_88 : decode cX9_tells 88 = .ok (.istore 8, 2) := by decide +kernel
theorem dX9_tells_90 : decode cX9_tells 90 = .ok (.aload_n 0, 1) := by decide +kernel
theorem dX9_tells_91 : decode cX9_tells 91 = .ok (.iconst 0, 1) := by decide +kernel
theorem dX9_tells_92 : decode cX9_tells 92 = .ok (.putfield 268, 3) := by decide +kernel
theorem dX9_tells_95 : decode cX9_tells 95 = .ok (.aload_n 0, 1) := by decide +kernel
theorem dX9_tells_96 : decode cX9_tells 96 = .ok (.dup, 1) := by decide +kernel
theorem dX9_tells_97 : decode cX9_tells 97 = .ok (.getfield 258, 3) := by decide +kernel
theorem dX9_tells_100 : decode cX9_tells 100 = .ok (.iconst 1, 1) := by decide +kernel
theorem dX9_tells_101 : decode cX9_tells 101 = .ok (.iadd, 1) := by decide +kernel
theorem dX9_tells_102 : decode cX9_tells 102 = .ok (.putfield 258, 3) := by decide +kernel
theorem dX9_tells_105 : decode cX9_tells 105 = .ok (.iload 8, 2) := by decide +kernel
theorem dX9_tells_107 : decode cX9_tells 107 = .ok (.iconst 3, 1) := by decide +kernel
theorem dX9_tells_108 : decode cX9_tells 108 = .ok (.if_icmp .eq 9, 3) := by decide +kernel
theorem dX9_tells_111 : decode cX9_tells 111 = .ok (.iload 8, 2) := by decide +kernel
theorem dX9_tells_113 : decode cX9_tells 113 = .ok (.iconst 4, 1) := by decide +kernel
theorem dX9_tells_114 : decode cX9_tells 114 = .ok (.if_icmp .ne 7, 3) := by decide +kernel
theorem dX9_tells_117 : decode cX9_tells 117 = .ok (.lconst 1, 1) := by decide +kernel
theorem dX9_tells_118 : decode cX9_tells 118 = .ok (.goto 8, 3) := by decide +kernel
theorem dX9_tells_121 : decode cX9_tells 121 = .ok (.aload_n 0, 1) := by decide +kernel
theorem dX9_tells_122 : decode cX9_tells 122 = .ok (.iconst 1, 1) := by decide +kernel
theorem dX9_tells_123 : decode cX9_tells 123 = .ok (.invokevirtual 285, 3) := by decide +kernel
theorem dX9_tells_126 : decode cX9_tells 126 = .ok (.lstore 9, 2) := by decide +kernel
theorem dX9_tells_128 : decode cX9_tells 128 = .ok (.aload_n 0, 1) := by decide +kernel
theorem dX9_tells_129 : decode cX9_tells 129 = .ok (.getfield 268, 3) := by decide +kernel
theorem dX9_tells_132 : decode cX9_tells 132 = .ok (.istore 11, 2) := by decide +kernel
theorem dX9_tells_134 : decode cX9_tells 134 = .ok (.aload_n 0, 1) := by decide +kernel
theorem dX9_tells_135 : decode cX9_tells 135 = .ok (.iconst 0, 1) := by decide +kernel
theorem dX9_tells_136 : decode cX9_tells 136 = .ok (.putfield 268, 3) := by decide +kernel
theorem dX9_tells_139 : decode cX9_tells 139 = .ok (.aload_n 0, 1) := by decide +kernel
theorem dX9_tells_140 : decode cX9_tells 140 = .ok (.iconst 5, 1) := by decide +kernel
theorem dX9_tells_141 : decode cX9_tells 141 = .ok (.invokevirtual 282, 3) := by decide +kernel
theorem dX9_tells_144 : decode cX9_tells 144 = .ok (.ifCond .eq 11, 3) := by decide +kernel
theorem dX9_tells_147 : decode cX9_tells 147 = .ok (.aload_n 0, 1) := by decide +kernel
theorem dX9_tells_148 : decode cX9_tells 148 = .ok (.iconst 1, 1) := by decide +kernel
theorem dX9_tells_149 : decode cX9_tells 149 = .ok (.invokevirtual 309, 3) := by decide +kernel
theorem dX9_tells_152 : decode cX9_tells 152 = .ok (.ifCond .eq 7, 3) := by decide +kernel
theorem dX9_tells_155 : decode cX9_tells 155 = .ok (.iconst 1, 1) := by decide +kernel
theorem dX9_tells_156 : decode cX9_tells 156 = .ok (.goto 4, 3) := by decide +kernel
theorem dX9_tells_159 : decode cX9_tells 159 = .ok (.iconst 0, 1) := by decide +kernel
theorem dX9_tells_160 : decode cX9_tells 160 = .ok (.istore 12, 2) := by decide +kernel
theorem dX9_tells_162 : decode cX9_tells 162 = .ok (.iload 8, 2) := by decide +kernel
theorem dX9_tells_164 : decode cX9_tells 164 = .ok (.iload_n 1, 1) := by decide +kernel
theorem dX9_tells_165 : decode cX9_tells 165 = .ok (.if_icmp .ne 50, 3) := by decide +kernel
theorem dX9_tells_168 : decode cX9_tells 168 = .ok (.iload 12, 2) := by decide +kernel
theorem dX9_tells_170 : decode cX9_tells 170 = .ok (.ifCond .eq 45, 3) := by decide +kernel
theorem dX9_tells_173 : decode cX9_tells 173 = .ok (.aload_n 0, 1) := by decide +kernel
theorem dX9_tells_174 : decode cX9_tells 174 = .ok (.getfield 268, 3) := by decide +kernel
theorem dX9_tells_177 : decode cX9_tells 177 = .ok (.ifCond .ne 38, 3) := by decide +kernel
theorem dX9_tells_180 : decode cX9_tells 180 = .ok (.iload 11, 2) := by decide +kernel
theorem dX9_tells_182 : decode cX9_tells 182 = .ok (.ifCond .ne 33, 3) := by decide +kernel
theorem dX9_tells_185 : decode cX9_tells 185 = .ok (.lload 9, 2) := by decide +kernel
theorem dX9_tells_187 : decode cX9_tells 187 = .ok (.lconst 0, 1) := by decide +kernel
theorem dX9_tells_188 : decode cX9_tells 188 = .ok (.lcmp, 1) := by decide +kernel
theorem dX9_tells_189 : decode cX9_tells 189 = .ok (.ifCond .ge 7, 3) := by decide +kernel
theorem dX9_tells_192 : decode cX9_tells 192 = .ok (.lconst 0, 1) := by decide +kernel
theorem dX9_tells_193 : decode cX9_tells 193 = .ok (.goto 20, 3) := by decide +kernel
theorem dX9_tells_196 : decode cX9_tells 196 = .ok (.lload 9, 2) := by decide +kernel
theorem dX9_tells_198 : decode cX9_tells 198 = .ok (.iload 4, 2) := by decide +kernel
theorem dX9_tells_200 : decode cX9_tells 200 = .ok (.i2l, 1) := by decide +kernel
theorem dX9_tells_201 : decode cX9_tells 201 = .ok (.lcmp, 1) := by decide +kernel
theorem dX9_tells_202 : decode cX9_tells 202 = .ok (.ifCond .le 9, 3) := by decide +kernel
theorem dX9_tells_205 : decode cX9_tells 205 = .ok (.iload 4, 2) := by decide +kernel
theorem dX9_tells_207 : decode cX9_tells 207 = .ok (.i2l, 1) := by decide +kernel
theorem dX9_tells_208 : decode cX9_tells 208 = .ok (.goto 5, 3) := by decide +kernel
theorem dX9_tells_211 : decode cX9_tells 211 = .ok (.lload 9, 2) := by decide +kernel
theorem dX9_tells_213 : decode cX9_tells 213 = .ok (.lstore 6, 2) := by decide +kernel
theorem dX9_tells_215 : decode cX9_tells 215 = .ok (.aload_n 0, 1) := by decide +kernel
theorem dX9_tells_216 : decode cX9_tells 216 = .ok (.dup, 1) := by decide +kernel
theorem dX9_tells_217 : decode cX9_tells 217 = .ok (.getfield 258, 3) := by decide +kernel
theorem dX9_tells_220 : decode cX9_tells 220 = .ok (.iconst 1, 1) := by decide +kernel
theorem dX9_tells_221 : decode cX9_tells 221 = .ok (.iadd, 1) := by decide +kernel
theorem dX9_tells_222 : decode cX9_tells 222 = .ok (.putfield 258, 3) := by decide +kernel
theorem dX9_tells_225 : decode cX9_tells 225 = .ok (.goto (-156), 3) := by decide +kernel
theorem dX9_tells_228 : decode cX9_tells 228 = .ok (.lload 6, 2) := by decide +kernel
theorem dX9_tells_230 : decode cX9_tells 230 = .ok (.l2i, 1) := by decide +kernel
theorem dX9_tells_231 : decode cX9_tells 231 = .ok (.ireturn, 1) := by decide +kernel
theorem dX9_ledFrom_0 : decode cX9_ledFrom 0 = .ok (.aload_n 0, 1) := by decide +kernel
theorem dX9_ledFrom_1 : decode cX9_ledFrom 1 = .ok (.iconst 1, 1) := by decide +kernel
theorem dX9_ledFrom_2 : decode cX9_ledFrom 2 = .ok (.iconst (-1), 1) := by decide +kernel
theorem dX9_ledFrom_3 : decode cX9_ledFrom 3 = .ok (.iload_n 1, 1) := by decide +kernel
theorem dX9_ledFrom_4 : decode cX9_ledFrom 4 = .ok (.iconst 4, 1) := by decide +kernel
theorem dX9_ledFrom_5 : decode cX9_ledFrom 5 = .ok (.iconst 2, 1) := by decide +kernel
theorem dX9_ledFrom_6 : decode cX9_ledFrom 6 = .ok (.invokevirtual 315, 3) := by decide +kernel
theorem dX9_ledFrom_9 : decode cX9_ledFrom 9 = .ok (.ireturn, 1) := by decide +kernel
theorem dX9_bites_0 : decode cX9_bites 0 = .ok (.aload_n 0, 1) := by decide +kernel
theorem dX9_bites_1 : decode cX9_bites 1 = .ok (.iconst 3, 1) := by decide +kernel
theorem dX9_bites_2 : decode cX9_bites 2 = .ok (.iconst (-1), 1) := by decide +kernel
theorem dX9_bites_3 : decode cX9_bites 3 = .ok (.iload_n 1, 1) := by decide +kernel
theorem dX9_bites_4 : decode cX9_bites 4 = .ok (.iconst 1, 1) := by decide +kernel
theorem dX9_bites_5 : decode cX9_bites 5 = .ok (.iconst 0, 1) := by decide +kernel
theorem dX9_bites_6 : decode cX9_bites 6 = .ok (.invokevirtual 315, 3) := by decide +kernel
theorem dX9_bites_9 : decode cX9_bites 9 = .ok (.iconst 1, 1) := by decide +kernel
theorem dX9_bites_10 : decode cX9_bites 10 = .ok (.if_icmp .ne 7, 3) := by decide +kernel
theorem dX9_bites_13 : decode cX9_bites 13 = .ok (.iconst 1, 1) := by decide +kernel
theorem dX9_bites_14 : decode cX9_bites 14 = .ok (.goto 4, 3) := by decide +kernel
theorem dX9_bites_17 : decode cX9_bites 17 = .ok (.iconst 0, 1) := by decide +kernel
theorem dX9_bites_18 : decode cX9_bites 18 = .ok (.ireturn, 1) := by decide +kernel
theorem dX9_takesMost_0 : decode cX9_takesMost 0 = .ok (.aload_n 0, 1) := by decide +kernel
theorem dX9_takesMost_1 : decode cX9_takesMost 1 = .ok (.iconst 2, 1) := by decide +kernel
theorem dX9_takesMost_2 : decode cX9_takesMost 2 = .ok (.iload_n 1, 1) := by decide +kernel
theorem dX9_takesMost_3 : decode cX9_takesMost 3 = .ok (.iload_n 2, 1) := by decide +kernel
theorem dX9_takesMost_4 : decode cX9_takesMost 4 = .ok (.bipush 99, 2) := by decide +kernel
theorem dX9_takesMost_6 : decode cX9_takesMost 6 = .ok (.bipush 10, 2) := by decide +kernel
theorem dX9_takesMost_8 : decode cX9_takesMost 8 = .ok (.invokevirtual 315, 3) := by decide +kernel
theorem dX9_takesMost_11 : decode cX9_takesMost 11 = .ok (.ireturn, 1) := by decide +kernel
theorem dX9_isBarred_0 : decode cX9_isBarred 0 = .ok (.aload_n 0, 1) := by decide +kernel
theorem dX9_isBarred_1 : decode cX9_isBarred 1 = .ok (.iconst 4, 1) := by decide +kernel
theorem dX9_isBarred_2 : decode cX9_isBarred 2 = .ok (.iload_n 1, 1) := by decide +kernel
theorem dX9_isBarred_3 : decode cX9_isBarred 3 = .ok (.iload_n 2, 1) := by decide +kernel
theorem dX9_isBarred_4 : decode cX9_isBarred 4 = .ok (.iconst 1, 1) := by decide +kernel
theorem dX9_isBarred_5 : decode cX9_isBarred 5 = .ok (.iconst 0, 1) := by decide +kernel
theorem dX9_isBarred_6 : decode cX9_isBarred 6 = .ok (.invokevirtual 315, 3) := by decide +kernel
theorem dX9_isBarred_9 : decode cX9_isBarred 9 = .ok (.iconst 1, 1) := by decide +kernel
theorem dX9_isBarred_10 : decode cX9_isBarred 10 = .ok (.if_icmp .ne 7, 3) := by decide +kernel
theorem dX9_isBarred_13 : decode cX9_isBarred 13 = .ok (.iconst 1, 1) := by decide +kernel
theorem dX9_isBarred_14 : decode cX9_isBarred 14 = .ok (.goto 4, 3) := by decide +kernel
theorem dX9_isBarred_17 : decode cX9_isBarred 17 = .ok (.iconst 0, 1) := by decide +kernel
theorem dX9_isBarred_18 : decode cX9_isBarred 18 = .ok (.ireturn, 1) := by decide +kernel
theorem dX9_canTake_0 : decode cX9_canTake 0 = .ok (.aload_n 0, 1) := by decide +kernel
theorem dX9_canTake_1 : decode cX9_canTake 1 = .ok (.iload_n 2, 1) := by decide +kernel
theorem dX9_canTake_2 : decode cX9_canTake 2 = .ok (.iload_n 1, 1) := by decide +kernel
theorem dX9_canTake_3 : decode cX9_canTake 3 = .ok (.invokevirtual 143, 3) := by decide +kernel
theorem dX9_canTake_6 : decode cX9_canTake 6 = .ok (.ifCond .eq 7, 3) := by decide +kernel
theorem dX9_canTake_9 : decode cX9_canTake 9 = .ok (.iconst 0, 1) := by decide +kernel
theorem dX9_canTake_10 : decode cX9_canTake 10 = .ok (.goto 20, 3) := by decide +kernel
theorem dX9_canTake_13 : decode cX9_canTake 13 = .ok (.aload_n 0, 1) := by decide +kernel
theorem dX9_canTake_14 : decode cX9_canTake 14 = .ok (.getfield 28, 3) := by decide +kernel
theorem dX9_canTake_17 : decode cX9_canTake 17 = .ok (.iconst 0, 1) := by decide +kernel
theorem dX9_canTake_18 : decode cX9_canTake 18 = .ok (.iload_n 1, 1) := by decide +kernel
theorem dX9_canTake_19 : decode cX9_canTake 19 = .ok (.iadd, 1) := by decide +kernel
theorem dX9_canTake_20 : decode cX9_canTake 20 = .ok (.iaload, 1) := by decide +kernel
theorem dX9_canTake_21 : decode cX9_canTake 21 = .ok (.aload_n 0, 1) := by decide +kernel
theorem dX9_canTake_22 : decode cX9_canTake 22 = .ok (.iload_n 2, 1) := by decide +kernel
theorem dX9_canTake_23 : decode cX9_canTake 23 = .ok (.iload_n 1, 1) := by decide +kernel
theorem dX9_canTake_24 : decode cX9_canTake 24 = .ok (.invokevirtual 139, 3) := by decide +kernel
theorem dX9_canTake_27 : decode cX9_canTake 27 = .ok (.invokestatic 319, 3) := by decide +kernel
theorem dX9_canTake_30 : decode cX9_canTake 30 = .ok (.ireturn, 1) := by decide +kernel
theorem dX9_takesNow_0 : decode cX9_takesNow 0 = .ok (.aload_n 0, 1) := by decide +kernel
theorem dX9_takesNow_1 : decode cX9_takesNow 1 = .ok (.getfield 28, 3) := by decide +kernel
theorem dX9_takesNow_4 : decode cX9_takesNow 4 = .ok (.iconst 0, 1) := by decide +kernel
theorem dX9_takesNow_5 : decode cX9_takesNow 5 = .ok (.iload_n 1, 1) := by decide +kernel
theorem dX9_takesNow_6 : decode cX9_takesNow 6 = .ok (.iadd, 1) := by decide +kernel
theorem dX9_takesNow_7 : decode cX9_takesNow 7 = .ok (.dup2, 1) := by decide +kernel
theorem dX9_takesNow_8 : decode cX9_takesNow 8 = .ok (.iaload, 1) := by decide +kernel
theorem dX9_takesNow_9 : decode cX9_takesNow 9 = .ok (.iload_n 3, 1) := by decide +kernel
theorem dX9_takesNow_10 : decode cX9_takesNow 10 = .ok (.isub, 1) := by decide +kernel
theorem dX9_takesNow_11 : decode cX9_takesNow 11 = .ok (.iastore, 1) := by decide +kernel
theorem dX9_takesNow_12 : decode cX9_takesNow 12 = .ok (.aload_n 0, 1) := by decide +kernel
theorem dX9_takesNow_13 : decode cX9_takesNow 13 = .ok (.getfield 28, 3) := by decide +kernel
theorem dX9_takesNow_16 : decode cX9_takesNow 16 = .ok (.bipush 25, 2) := by decide +kernel
theorem dX9_takesNow_18 : decode cX9_takesNow 18 = .ok (.iload_n 2, 1) := by decide +kernel
theorem dX9_takesNow_19 : decode cX9_takesNow 19 = .ok (.iadd, 1) := by decide +kernel
theorem dX9_takesNow_20 : decode cX9_takesNow 20 = .ok (.sipush 9999, 3) := by decide +kernel
theorem dX9_takesNow_23 : decode cX9_takesNow 23 = .ok (.aload_n 0, 1) := by decide +kernel
theorem dX9_takesNow_24 : decode cX9_takesNow 24 = .ok (.getfield 28, 3) := by decide +kernel
theorem dX9_takesNow_27 : decode cX9_takesNow 27 = .ok (.bipush 25, 2) := by decide +kernel
theorem dX9_takesNow_29 : decode cX9_takesNow 29 = .ok (.iload_n 2, 1) := by decide +kernel
theorem dX9_takesNow_30 : decode cX9_takesNow 30 = .ok (.iadd, 1) := by decide +kernel
theorem dX9_takesNow_31 : decode cX9_takesNow 31 = .ok (.iaload, 1) := by decide +kernel
theorem dX9_takesNow_32 : decode cX9_takesNow 32 = .ok (.iload_n 3, 1) := by decide +kernel
theorem dX9_takesNow_33 : decode cX9_takesNow 33 = .ok (.iadd, 1) := by decide +kernel
theorem dX9_takesNow_34 : decode cX9_takesNow 34 = .ok (.invokestatic 319, 3) := by decide +kernel
theorem dX9_takesNow_37 : decode cX9_takesNow 37 = .ok (.iastore, 1) := by decide +kernel
theorem dX9_takesNow_38 : decode cX9_takesNow 38 = .ok (.return_, 1) := by decide +kernel
theorem dX9_keeps_0 : decode cX9_keeps 0 = .ok (.bipush 33, 2) := by decide +kernel
theorem dX9_keeps_2 : decode cX9_keeps 2 = .ok (.istore_n 2, 1) := by decide +kernel
theorem dX9_keeps_3 : decode cX9_keeps 3 = .ok (.aload_n 0, 1) := by decide +kernel
theorem dX9_keeps_4 : decode cX9_keeps 4 = .ok (.getfield 11, 3) := by decide +kernel
theorem dX9_keeps_7 : decode cX9_keeps 7 = .ok (.bipush 16, 2) := by decide +kernel
theorem dX9_keeps_9 : decode cX9_keeps 9 = .ok (.if_icmp .ne 43, 3) := by decide +kernel
theorem dX9_keeps_12 : decode cX9_keeps 12 = .ok (.iconst 0, 1) := by decide +kernel
theorem dX9_keeps_13 : decode cX9_keeps 13 = .ok (.istore_n 3, 1) := by decide +kernel
theorem dX9_keeps_14 : decode cX9_keeps 14 = .ok (.iload_n 3, 1) := by decide +kernel
theorem dX9_keeps_15 : decode cX9_keeps 15 = .ok (.bipush 15, 2) := by decide +kernel
theorem dX9_keeps_17 : decode cX9_keeps 17 = .ok (.iload_n 2, 1) := by decide +kernel
theorem dX9_keeps_18 : decode cX9_keeps 18 = .ok (.imul, 1) := by decide +kernel
theorem dX9_keeps_19 : decode cX9_keeps 19 = .ok (.if_icmp .ge 23, 3) := by decide +kernel
theorem dX9_keeps_22 : decode cX9_keeps 22 = .ok (.aload_n 0, 1) := by decide +kernel
theorem dX9_keeps_23 : decode cX9_keeps 23 = .ok (.getfield 66, 3) := by decide +kernel
theorem dX9_keeps_26 : decode cX9_keeps 26 = .ok (.iload_n 3, 1) := by decide +kernel
theorem dX9_keeps_27 : decode cX9_keeps 27 = .ok (.aload_n 0, 1) := by decide +kernel
theorem dX9_keeps_28 : decode cX9_keeps 28 = .ok (.getfield 66, 3) := by decide +kernel
theorem dX9_keeps_31 : decode cX9_keeps 31 = .ok (.iload_n 3, 1) := by decide +kernel
theorem dX9_keeps_32 : decode cX9_keeps 32 = .ok (.iload_n 2, 1) := by decide +kernel
theorem dX9_keeps_33 : decode cX9_keeps 33 = .ok (.iadd, 1) := by decide +kernel
theorem dX9_keeps_34 : decode cX9_keeps 34 = .ok (.iaload, 1) := by decide +kernel
theorem dX9_keeps_35 : decode cX9_keeps 35 = .ok (.iastore, 1) := by decide +kernel
theorem dX9_keeps_36 : decode cX9_keeps 36 = .ok (.iinc 3 1, 3) := by decide +kernel
theorem dX9_keeps_39 : decode cX9_keeps 39 = .ok (.goto (-25), 3) := by decide +kernel
theorem dX9_keeps_42 : decode cX9_keeps 42 = .ok (.aload_n 0, 1) := by decide +kernel
theorem dX9_keeps_43 : decode cX9_keeps 43 = .ok (.dup, 1) := by decide +kernel
theorem dX9_keeps_44 : decode cX9_keeps 44 = .ok (.getfield 11, 3) := by decide +kernel
theorem dX9_keeps_47 : decode cX9_keeps 47 = .ok (.iconst 1, 1) := by decide +kernel
theorem dX9_keeps_48 : decode cX9_keeps 48 = .ok (.isub, 1) := by decide +kernel
theorem dX9_keeps_49 : decode cX9_keeps 49 = .ok (.putfield 11, 3) := by decide +kernel
theorem dX9_keeps_52 : decode cX9_keeps 52 = .ok (.iconst 0, 1) := by decide +kernel
theorem dX9_keeps_53 : decode cX9_keeps 53 = .ok (.istore_n 3, 1) := by decide +kernel
theorem dX9_keeps_54 : decode cX9_keeps 54 = .ok (.iload_n 3, 1) := by decide +kernel
theorem dX9_keeps_55 : decode cX9_keeps 55 = .ok (.bipush 32, 2) := by decide +kernel
theorem dX9_keeps_57 : decode cX9_keeps 57 = .ok (.if_icmp .ge 28, 3) := by decide +kernel
theorem dX9_keeps_60 : decode cX9_keeps 60 = .ok (.aload_n 0, 1) := by decide +kernel
theorem dX9_keeps_61 : decode cX9_keeps 61 = .ok (.getfield 66, 3) := by decide +kernel
theorem dX9_keeps_64 : decode cX9_keeps 64 = .ok (.iload_n 2, 1) := by decide +kernel
theorem dX9_keeps_65 : decode cX9_keeps 65 = .ok (.aload_n 0, 1) := by decide +kernel
theorem dX9_keeps_66 : decode cX9_keeps 66 = .ok (.getfield 11, 3) := by decide +kernel
theorem dX9_keeps_69 : decode cX9_keeps 69 = .ok (.imul, 1) := by decide +kernel
theorem dX9_keeps_70 : decode cX9_keeps 70 = .ok (.iload_n 3, 1) := by decide +kernel
theorem dX9_keeps_71 : decode cX9_keeps 71 = .ok (.iadd, 1) := by decide +kernel
theorem dX9_keeps_72 : decode cX9_keeps 72 = .ok (.aload_n 0, 1) := by decide +kernel
theorem dX9_keeps_73 : decode cX9_keeps 73 = .ok (.getfield 28, 3) := by decide +kernel
theorem dX9_keeps_76 : decode cX9_keeps 76 = .ok (.iload_n 3, 1) := by decide +kernel
theorem dX9_keeps_77 : decode cX9_keeps 77 = .ok (.iaload, 1) := by decide +kernel
theorem dX9_keeps_78 : decode cX9_keeps 78 = .ok (.iastore, 1) := by decide +kernel
theorem dX9_keeps_79 : decode cX9_keeps 79 = .ok (.iinc 3 1, 3) := by decide +kernel
theorem dX9_keeps_82 : decode cX9_keeps 82 = .ok (.goto (-28), 3) := by decide +kernel
theorem dX9_keeps_85 : decode cX9_keeps 85 = .ok (.aload_n 0, 1) := by decide +kernel
theorem dX9_keeps_86 : decode cX9_keeps 86 = .ok (.getfield 66, 3) := by decide +kernel
theorem dX9_keeps_89 : decode cX9_keeps 89 = .ok (.iload_n 2, 1) := by decide +kernel
theorem dX9_keeps_90 : decode cX9_keeps 90 = .ok (.aload_n 0, 1) := by decide +kernel
theorem dX9_keeps_91 : decode cX9_keeps 91 = .ok (.getfield 11, 3) := by decide +kernel
theorem dX9_keeps_94 : decode cX9_keeps 94 = .ok (.imul, 1) := by decide +kernel
theorem dX9_keeps_95 : decode cX9_keeps 95 = .ok (.bipush 32, 2) := by decide +kernel
theorem dX9_keeps_97 : decode cX9_keeps 97 = .ok (.iadd, 1) := by decide +kernel
theorem dX9_keeps_98 : decode cX9_keeps 98 = .ok (.iload_n 1, 1) := by decide +kernel
theorem dX9_keeps_99 : decode cX9_keeps 99 = .ok (.iastore, 1) := by decide +kernel
theorem dX9_keeps_100 : decode cX9_keeps 100 = .ok (.aload_n 0, 1) := by decide +kernel
theorem dX9_keeps_101 : decode cX9_keeps 101 = .ok (.dup, 1) := by decide +kernel
theorem dX9_keeps_102 : decode cX9_keeps 102 = .ok (.getfield 11, 3) := by decide +kernel
theorem dX9_keeps_105 : decode cX9_keeps 105 = .ok (.iconst 1, 1) := by decide +kernel
theorem dX9_keeps_106 : decode cX9_keeps 106 = .ok (.iadd, 1) := by decide +kernel
theorem dX9_keeps_107 : decode cX9_keeps 107 = .ok (.putfield 11, 3) := by decide +kernel
theorem dX9_keeps_110 : decode cX9_keeps 110 = .ok (.return_, 1) := by decide +kernel
theorem dX9_undo_0 : decode cX9_undo 0 = .ok (.aload_n 0, 1) := by decide +kernel
theorem dX9_undo_1 : decode cX9_undo 1 = .ok (.getfield 11, 3) := by decide +kernel
theorem dX9_undo_4 : decode cX9_undo 4 = .ok (.ifCond .ne 10, 3) := by decide +kernel
theorem dX9_undo_7 : decode cX9_undo 7 = .ok (.aload_n 0, 1) := by decide +kernel
theorem dX9_undo_8 : decode cX9_undo 8 = .ok (.bipush (-3), 2) := by decide +kernel
theorem dX9_undo_10 : decode cX9_undo 10 = .ok (.invokevirtual 109, 3) := by decide +kernel
theorem dX9_undo_13 : decode cX9_undo 13 = .ok (.ireturn, 1) := by decide +kernel
theorem dX9_undo_14 : decode cX9_undo 14 = .ok (.aload_n 0, 1) := by decide +kernel
theorem dX9_undo_15 : decode cX9_undo 15 = .ok (.dup, 1) := by decide +kernel
theorem dX9_undo_16 : decode cX9_undo 16 = .ok (.getfield 11, 3) := by decide +kernel
theorem dX9_undo_19 : decode cX9_undo 19 = .ok (.iconst 1, 1) := by decide +kernel
theorem dX9_undo_20 : decode cX9_undo 20 = .ok (.isub, 1) := by decide +kernel
theorem dX9_undo_21 : decode cX9_undo 21 = .ok (.putfield 11, 3) := by decide +kernel
theorem dX9_undo_24 : decode cX9_undo 24 = .ok (.bipush 33, 2) := by decide +kernel
theorem dX9_undo_26 : decode cX9_undo 26 = .ok (.aload_n 0, 1) := by decide +kernel
theorem dX9_undo_27 : decode cX9_undo 27 = .ok (.getfield 11, 3) := by decide +kernel
theorem dX9_undo_30 : decode cX9_undo 30 = .ok (.imul, 1) := by decide +kernel
theorem dX9_undo_31 : decode cX9_undo 31 = .ok (.istore_n 1, 1) := by decide +kernel
theorem dX9_undo_32 : decode cX9_undo 32 = .ok (.iconst 0, 1) := by decide +kernel
theorem dX9_undo_33 : decode cX9_undo 33 = .ok (.istore_n 2, 1) := by decide +kernel
theorem dX9_undo_34 : decode cX9_undo 34 = .ok (.iload_n 2, 1) := by decide +kernel
theorem dX9_undo_35 : decode cX9_undo 35 = .ok (.bipush 32, 2) := by decide +kernel
theorem dX9_undo_37 : decode cX9_undo 37 = .ok (.if_icmp .ge 23, 3) := by decide +kernel
theorem dX9_undo_40 : decode cX9_undo 40 = .ok (.aload_n 0, 1) := by decide +kernel
theorem dX9_undo_41 : decode cX9_undo 41 = .ok (.getfield 28, 3) := by decide +kernel
theorem dX9_undo_44 : decode cX9_undo 44 = .ok (.iload_n 2, 1) := by decide +kernel
theorem dX9_undo_45 : decode cX9_undo 45 = .ok (.aload_n 0, 1) := by decide +kernel
theorem dX9_undo_46 : decode cX9_undo 46 = .ok (.getfield 66, 3) := by decide +kernel
theorem dX9_undo_49 : decode cX9_undo 49 = .ok (.iload_n 1, 1) := by decide +kernel
theorem dX9_undo_50 : decode cX9_undo 50 = .ok (.iload_n 2, 1) := by decide +kernel
theorem dX9_undo_51 : decode cX9_undo 51 = .ok (.iadd, 1) := by decide +kernel
theorem dX9_undo_52 : decode cX9_undo 52 = .ok (.iaload, 1) := by decide +kernel
theorem dX9_undo_53 : decode cX9_undo 53 = .ok (.iastore, 1) := by decide +kernel
theorem dX9_undo_54 : decode cX9_undo 54 = .ok (.iinc 2 1, 3) := by decide +kernel
theorem dX9_undo_57 : decode cX9_undo 57 = .ok (.goto (-23), 3) := by decide +kernel
theorem dX9_undo_60 : decode cX9_undo 60 = .ok (.aload_n 0, 1) := by decide +kernel
theorem dX9_undo_61 : decode cX9_undo 61 = .ok (.aload_n 0, 1) := by decide +kernel
theorem dX9_undo_62 : decode cX9_undo 62 = .ok (.getfield 66, 3) := by decide +kernel
theorem dX9_undo_65 : decode cX9_undo 65 = .ok (.iload_n 1, 1) := by decide +kernel
theorem dX9_undo_66 : decode cX9_undo 66 = .ok (.bipush 32, 2) := by decide +kernel
theorem dX9_undo_68 : decode cX9_undo 68 = .ok (.iadd, 1) := by decide +kernel
theorem dX9_undo_69 : decode cX9_undo 69 = .ok (.iaload, 1) := by decide +kernel
theorem dX9_undo_70 : decode cX9_undo 70 = .ok (.invokevirtual 14, 3) := by decide +kernel
theorem dX9_undo_73 : decode cX9_undo 73 = .ok (.ireturn, 1) := by decide +kernel
theorem dX9_goodOr_0 : decode cX9_goodOr 0 = .ok (.iload_n 1, 1) := by decide +kernel
theorem dX9_goodOr_1 : decode cX9_goodOr 1 = .ok (.ifCond .ge 11, 3) := by decide +kernel
theorem dX9_goodOr_4 : decode cX9_goodOr 4 = .ok (.aload_n 0, 1) := by decide +kernel
theorem dX9_goodOr_5 : decode cX9_goodOr 5 = .ok (.iload_n 1, 1) := by decide +kernel
theorem dX9_goodOr_6 : decode cX9_goodOr 6 = .ok (.invokevirtual 109, 3) := by decide +kernel
theorem dX9_goodOr_9 : decode cX9_goodOr 9 = .ok (.goto 8, 3) := by decide +kernel
theorem dX9_goodOr_12 : decode cX9_goodOr 12 = .ok (.aload_n 0, 1) := by decide +kernel
theorem dX9_goodOr_13 : decode cX9_goodOr 13 = .ok (.iload_n 1, 1) := by decide +kernel
theorem dX9_goodOr_14 : decode cX9_goodOr 14 = .ok (.invokevirtual 14, 3) := by decide +kernel
theorem dX9_goodOr_17 : decode cX9_goodOr 17 = .ok (.ireturn, 1) := by decide +kernel
theorem dX9_takesKept_0 : decode cX9_takesKept 0 = .ok (.iload_n 1, 1) := by decide +kernel
theorem dX9_takesKept_1 : decode cX9_takesKept 1 = .ok (.invokestatic 115, 3) := by decide +kernel
theorem dX9_takesKept_4 : decode cX9_takesKept 4 = .ok (.ifCond .ne 5, 3) := by decide +kernel
theorem dX9_takesKept_7 : decode cX9_takesKept 7 = .ok (.iconst (-1), 1) := by decide +kernel
theorem dX9_takesKept_8 : decode cX9_takesKept 8 = .ok (.ireturn, 1) := by decide +kernel
theorem dX9_takesKept_9 : decode cX9_takesKept 9 = .ok (.aload_n 0, 1) := by decide +kernel
theorem dX9_takesKept_10 : decode cX9_takesKept 10 = .ok (.iload_n 2, 1) := by decide +kernel
theorem dX9_takesKept_11 : decode cX9_takesKept 11 = .ok (.invokevirtual 136, 3) := by decide +kernel
theorem dX9_takesKept_14 : decode cX9_takesKept 14 = .ok (.ifCond .ne 6, 3) := by decide +kernel
theorem dX9_takesKept_17 : decode cX9_takesKept 17 = .ok (.bipush (-2), 2) := by decide +kernel
theorem dX9_takesKept_19 : decode cX9_takesKept 19 = .ok (.ireturn, 1) := by decide +kernel
theorem dX9_takesKept_20 : decode cX9_takesKept 20 = .ok (.aload_n 0, 1) := by decide +kernel
theorem dX9_takesKept_21 : decode cX9_takesKept 21 = .ok (.iload_n 1, 1) := by decide +kernel
theorem dX9_takesKept_22 : decode cX9_takesKept 22 = .ok (.iload_n 2, 1) := by decide +kernel
theorem dX9_takesKept_23 : decode cX9_takesKept 23 = .ok (.invokevirtual 322, 3) := by decide +kernel
theorem dX9_takesKept_26 : decode cX9_takesKept 26 = .ok (.istore_n 3, 1) := by decide +kernel
theorem dX9_takesKept_27 : decode cX9_takesKept 27 = .ok (.iload_n 3, 1) := by decide +kernel
theorem dX9_takesKept_28 : decode cX9_takesKept 28 = .ok (.ifCond .ne 6, 3) := by decide +kernel
theorem dX9_takesKept_31 : decode cX9_takesKept 31 = .ok (.bipush (-3), 2) := by decide +kernel
theorem dX9_takesKept_33 : decode cX9_takesKept 33 = .ok (.ireturn, 1) := by decide +kernel
theorem dX9_takesKept_34 : decode cX9_takesKept 34 = .ok (.aload_n 0, 1) := by decide +kernel
theorem dX9_takesKept_35 : decode cX9_takesKept 35 = .ok (.iconst 0, 1) := by decide +kernel
theorem dX9_takesKept_36 : decode cX9_takesKept 36 = .ok (.invokevirtual 325, 3) := by decide +kernel
theorem dX9_takesKept_39 : decode cX9_takesKept 39 = .ok (.aload_n 0, 1) := by decide +kernel
theorem dX9_takesKept_40 : decode cX9_takesKept 40 = .ok (.iload_n 1, 1) := by decide +kernel
theorem dX9_takesKept_41 : decode cX9_takesKept 41 = .ok (.iload_n 2, 1) := by decide +kernel
theorem dX9_takesKept_42 : decode cX9_takesKept 42 = .ok (.iload_n 3, 1) := by decide +kernel
theorem dX9_takesKept_43 : decode cX9_takesKept 43 = .ok (.invokevirtual 328, 3) := by decide +kernel
theorem dX9_takesKept_46 : decode cX9_takesKept 46 = .ok (.iload_n 3, 1) := by decide +kernel
theorem dX9_takesKept_47 : decode cX9_takesKept 47 = .ok (.ireturn, 1) := by decide +kernel
theorem dX9_shiftsKept_0 : decode cX9_shiftsKept 0 = .ok (.iload_n 1, 1) := by decide +kernel
theorem dX9_shiftsKept_1 : decode cX9_shiftsKept 1 = .ok (.invokestatic 115, 3) := by decide +kernel
theorem dX9_shiftsKept_4 : decode cX9_shiftsKept 4 = .ok (.ifCond .eq 26, 3) := by decide +kernel
theorem dX9_shiftsKept_7 : decode cX9_shiftsKept 7 = .ok (.iload_n 2, 1) := by decide +kernel
theorem dX9_shiftsKept_8 : decode cX9_shiftsKept 8 = .ok (.invokestatic 115, 3) := by decide +kernel
theorem dX9_shiftsKept_11 : decode cX9_shiftsKept 11 = .ok (.ifCond .eq 19, 3) := by decide +kernel
theorem dX9_shiftsKept_14 : decode cX9_shiftsKept 14 = .ok (.iload_n 1, 1) := by decide +kernel
theorem dX9_shiftsKept_15 : decode cX9_shiftsKept 15 = .ok (.iload_n 2, 1) := by decide +kernel
theorem dX9_shiftsKept_16 : decode cX9_shiftsKept 16 = .ok (.if_icmp .eq 14, 3) := by decide +kernel
theorem dX9_shiftsKept_19 : decode cX9_shiftsKept 19 = .ok (.iload_n 3, 1) := by decide +kernel
theorem dX9_shiftsKept_20 : decode cX9_shiftsKept 20 = .ok (.iconst 1, 1) := by decide +kernel
theorem dX9_shiftsKept_21 : decode cX9_shiftsKept 21 = .ok (.sipush 999, 3) := by decide +kernel
theorem dX9_shiftsKept_24 : decode cX9_shiftsKept 24 = .ok (.invokestatic 18, 3) := by decide +kernel
theorem dX9_shiftsKept_27 : decode cX9_shiftsKept 27 = .ok (.ifCond .ne 5, 3) := by decide +kernel
theorem dX9_shiftsKept_30 : decode cX9_shiftsKept 30 = .ok (.iconst (-1), 1) := by decide +kernel
theorem dX9_shiftsKept_31 : decode cX9_shiftsKept 31 = .ok (.ireturn, 1) := by decide +kernel
theorem dX9_shiftsKept_32 : decode cX9_shiftsKept 32 = .ok (.aload_n 0, 1) := by decide +kernel
theorem dX9_shiftsKept_33 : decode cX9_shiftsKept 33 = .ok (.getfield 28, 3) := by decide +kernel
theorem dX9_shiftsKept_36 : decode cX9_shiftsKept 36 = .ok (.iconst 0, 1) := by decide +kernel
theorem dX9_shiftsKept_37 : decode cX9_shiftsKept 37 = .ok (.iload_n 1, 1) := by decide +kernel
theorem dX9_shiftsKept_38 : decode cX9_shiftsKept 38 = .ok (.iadd, 1) := by decide +kernel
theorem dX9_shiftsKept_39 : decode cX9_shiftsKept 39 = .ok (.iaload, 1) := by decide +kernel
theorem dX9_shiftsKept_40 : decode cX9_shiftsKept 40 = .ok (.iload_n 3, 1) := by decide +kernel
theorem dX9_shiftsKept_41 : decode cX9_shiftsKept 41 = .ok (.if_icmp .lt 19, 3) := by decide +kernel
theorem dX9_shiftsKept_44 : decode cX9_shiftsKept 44 = .ok (.aload_n 0, 1) := by decide +kernel
theorem dX9_shiftsKept_45 : decode cX9_shiftsKept 45 = .ok (.getfield 28, 3) := by decide +kernel
theorem dX9_shiftsKept_48 : decode cX9_shiftsKept 48 = .ok (.iconst 0, 1) := by decide +kernel
theorem dX9_shiftsKept_49 : decode cX9_shiftsKept 49 = .ok (.iload_n 2, 1) := by decide +kernel
theorem dX9_shiftsKept_50 : decode cX9_shiftsKept 50 = .ok (.iadd, 1) := by decide +kernel
theorem dX9_shiftsKept_51 : decode cX9_shiftsKept 51 = .ok (.iaload, 1) := by decide +kernel
theorem dX9_shiftsKept_52 : decode cX9_shiftsKept 52 = .ok (.iload_n 3, 1) := by decide +kernel
theorem dX9_shiftsKept_53 : decode cX9_shiftsKept 53 = .ok (.iadd, 1) := by decide +kernel
theorem dX9_shiftsKept_54 : decode cX9_shiftsKept 54 = .ok (.sipush 999, 3) := by decide +kernel
theorem dX9_shiftsKept_57 : decode cX9_shiftsKept 57 = .ok (.if_icmp .le 6, 3) := by decide +kernel
theorem dX9_shiftsKept_60 : decode cX9_shiftsKept 60 = .ok (.bipush (-3), 2) := by decide +kernel
theorem dX9_shiftsKept_62 : decode cX9_shiftsKept 62 = .ok (.ireturn, 1) := by decide +kernel
theorem dX9_shiftsKept_63 : decode cX9_shiftsKept 63 = .ok (.aload_n 0, 1) := by decide +kernel
theorem dX9_shiftsKept_64 : decode cX9_shiftsKept 64 = .ok (.iconst 1, 1) := by decide +kernel
theorem dX9_shiftsKept_65 : decode cX9_shiftsKept 65 = .ok (.invokevirtual 325, 3) := by decide +kernel
theorem dX9_shiftsKept_68 : decode cX9_shiftsKept 68 = .ok (.aload_n 0, 1) := by decide +kernel
theorem dX9_shiftsKept_69 : decode cX9_shiftsKept 69 = .ok (.getfield 28, 3) := by decide +kernel
theorem dX9_shiftsKept_72 : decode cX9_shiftsKept 72 = .ok (.iconst 0, 1) := by decide +kernel
theorem dX9_shiftsKept_73 : decode cX9_shiftsKept 73 = .ok (.iload_n 1, 1) := by decide +kernel
theorem dX9_shiftsKept_74 : decode cX9_shiftsKept 74 = .ok (.iadd, 1) := by decide +kernel
theorem dX9_shiftsKept_75 : decode cX9_shiftsKept 75 = .ok (.dup2, 1) := by decide +kernel
theorem dX9_shiftsKept_76 : decode cX9_shiftsKept 76 = .ok (.iaload, 1) := by decide +kernel
theorem dX9_shiftsKept_77 : decode cX9_shiftsKept 77 = .ok (.iload_n 3, 1) := by decide +kernel
theorem dX9_shiftsKept_78 : decode cX9_shiftsKept 78 = .ok (.isub, 1) := by decide +kernel
theorem dX9_shiftsKept_79 : decode cX9_shiftsKept 79 = .ok (.iastore, 1) := by decide +kernel
theorem dX9_shiftsKept_80 : decode cX9_shiftsKept 80 = .ok (.aload_n 0, 1) := by decide +kernel
theorem dX9_shiftsKept_81 : decode cX9_shiftsKept 81 = .ok (.getfield 28, 3) := by decide +kernel
theorem dX9_shiftsKept_84 : decode cX9_shiftsKept 84 = .ok (.iconst 0, 1) := by decide +kernel
theorem dX9_shiftsKept_85 : decode cX9_shiftsKept 85 = .ok (.iload_n 2, 1) := by decide +kernel
theorem dX9_shiftsKept_86 : decode cX9_shiftsKept 86 = .ok (.iadd, 1) := by decide +kernel
theorem dX9_shiftsKept_87 : decode cX9_shiftsKept 87 = .ok (.dup2, 1) := by decide +kernel
theorem dX9_shiftsKept_88 : decode cX9_shiftsKept 88 = .ok (.iaload, 1) := by decide +kernel
theorem dX9_shiftsKept_89 : decode cX9_shiftsKept 89 = .ok (.iload_n 3, 1) := by decide +kernel
theorem dX9_shiftsKept_90 : decode cX9_shiftsKept 90 = .ok (.iadd, 1) := by decide +kernel
theorem dX9_shiftsKept_91 : decode cX9_shiftsKept 91 = .ok (.iastore, 1) := by decide +kernel
theorem dX9_shiftsKept_92 : decode cX9_shiftsKept 92 = .ok (.aload_n 0, 1) := by decide +kernel
theorem dX9_shiftsKept_93 : decode cX9_shiftsKept 93 = .ok (.getfield 28, 3) := by decide +kernel
theorem dX9_shiftsKept_96 : decode cX9_shiftsKept 96 = .ok (.iconst 0, 1) := by decide +kernel
theorem dX9_shiftsKept_97 : decode cX9_shiftsKept 97 = .ok (.iload_n 1, 1) := by decide +kernel
theorem dX9_shiftsKept_98 : decode cX9_shiftsKept 98 = .ok (.iadd, 1) := by decide +kernel
theorem dX9_shiftsKept_99 : decode cX9_shiftsKept 99 = .ok (.iaload, 1) := by decide +kernel
theorem dX9_shiftsKept_100 : decode cX9_shiftsKept 100 = .ok (.ireturn, 1) := by decide +kernel
theorem dX9_fencesKept_0 : decode cX9_fencesKept 0 = .ok (.iload_n 1, 1) := by decide +kernel
theorem dX9_fencesKept_1 : decode cX9_fencesKept 1 = .ok (.invokestatic 115, 3) := by decide +kernel
theorem dX9_fencesKept_4 : decode cX9_fencesKept 4 = .ok (.ifCond .ne 5, 3) := by decide +kernel
theorem dX9_fencesKept_7 : decode cX9_fencesKept 7 = .ok (.iconst (-1), 1) := by decide +kernel
theorem dX9_fencesKept_8 : decode cX9_fencesKept 8 = .ok (.ireturn, 1) := by decide +kernel
theorem dX9_fencesKept_9 : decode cX9_fencesKept 9 = .ok (.aload_n 0, 1) := by decide +kernel
theorem dX9_fencesKept_10 : decode cX9_fencesKept 10 = .ok (.iconst 2, 1) := by decide +kernel
theorem dX9_fencesKept_11 : decode cX9_fencesKept 11 = .ok (.invokevirtual 325, 3) := by decide +kernel
theorem dX9_fencesKept_14 : decode cX9_fencesKept 14 = .ok (.aload_n 0, 1) := by decide +kernel
theorem dX9_fencesKept_15 : decode cX9_fencesKept 15 = .ok (.getfield 28, 3) := by decide +kernel
theorem dX9_fencesKept_18 : decode cX9_fencesKept 18 = .ok (.bipush 30, 2) := by decide +kernel
theorem dX9_fencesKept_20 : decode cX9_fencesKept 20 = .ok (.dup2, 1) := by decide +kernel
theorem dX9_fencesKept_21 : decode cX9_fencesKept 21 = .ok (.iaload, 1) := by decide +kernel
theorem dX9_fencesKept_22 : decode cX9_fencesKept 22 = .ok (.iconst 1, 1) := by decide +kernel
theorem dX9_fencesKept_23 : decode cX9_fencesKept 23 = .ok (.iload_n 1, 1) := by decide +kernel
theorem dX9_fencesKept_24 : decode cX9_fencesKept 24 = .ok (.ishl, 1) := by decide +kernel
theorem dX9_fencesKept_25 : decode cX9_fencesKept 25 = .ok (.ixor, 1) := by decide +kernel
theorem dX9_fencesKept_26 : decode cX9_fencesKept 26 = .ok (.iastore, 1) := by decide +kernel
theorem dX9_fencesKept_27 : decode cX9_fencesKept 27 = .ok (.aload_n 0, 1) := by decide +kernel
theorem dX9_fencesKept_28 : decode cX9_fencesKept 28 = .ok (.getfield 28, 3) := by decide +kernel
theorem dX9_fencesKept_31 : decode cX9_fencesKept 31 = .ok (.bipush 30, 2) := by decide +kernel
theorem dX9_fencesKept_33 : decode cX9_fencesKept 33 = .ok (.iaload, 1) := by decide +kernel
theorem dX9_fencesKept_34 : decode cX9_fencesKept 34 = .ok (.iload_n 1, 1) := by decide +kernel
theorem dX9_fencesKept_35 : decode cX9_fencesKept 35 = .ok (.invokestatic 119, 3) := by decide +kernel
theorem dX9_fencesKept_38 : decode cX9_fencesKept 38 = .ok (.ifCond .eq 7, 3) := by decide +kernel
theorem dX9_fencesKept_41 : decode cX9_fencesKept 41 = .ok (.iconst 1, 1) := by decide +kernel
theorem dX9_fencesKept_42 : decode cX9_fencesKept 42 = .ok (.goto 4, 3) := by decide +kernel
theorem dX9_fencesKept_45 : decode cX9_fencesKept 45 = .ok (.iconst 0, 1) := by decide +kernel
theorem dX9_fencesKept_46 : decode cX9_fencesKept 46 = .ok (.ireturn, 1) := by decide +kernel
theorem dX9_passesKept_0 : decode cX9_passesKept 0 = .ok (.aload_n 0, 1) := by decide +kernel
theorem dX9_passesKept_1 : decode cX9_passesKept 1 = .ok (.getfield 28, 3) := by decide +kernel
theorem dX9_passesKept_4 : decode cX9_passesKept 4 = .ok (.bipush 31, 2) := by decide +kernel
theorem dX9_passesKept_6 : decode cX9_passesKept 6 = .ok (.iaload, 1) := by decide +kernel
theorem dX9_passesKept_7 : decode cX9_passesKept 7 = .ok (.sipush 999, 3) := by decide +kernel
theorem dX9_passesKept_10 : decode cX9_passesKept 10 = .ok (.if_icmp .ne 6, 3) := by decide +kernel
theorem dX9_passesKept_13 : decode cX9_passesKept 13 = .ok (.bipush (-3), 2) := by decide +kernel
theorem dX9_passesKept_15 : decode cX9_passesKept 15 = .ok (.ireturn, 1) := by decide +kernel
theorem dX9_passesKept_16 : decode cX9_passesKept 16 = .ok (.aload_n 0, 1) := by decide +kernel
theorem dX9_passesKept_17 : decode cX9_passesKept 17 = .ok (.iconst 3, 1) := by decide +kernel
theorem dX9_passesKept_18 : decode cX9_passesKept 18 = .ok (.invokevirtual 325, 3) := by decide +kernel
theorem dX9_passesKept_21 : decode cX9_passesKept 21 = .ok (.aload_n 0, 1) := by decide +kernel
theorem dX9_passesKept_22 : decode cX9_passesKept 22 = .ok (.getfield 28, 3) := by decide +kernel
theorem dX9_passesKept_25 : decode cX9_passesKept 25 = .ok (.bipush 31, 2) := by decide +kernel
theorem dX9_passesKept_27 : decode cX9_passesKept 27 = .ok (.dup2, 1) := by decide +kernel
theorem dX9_passesKept_28 : decode cX9_passesKept 28 = .ok (.iaload, 1) := by decide +kernel
theorem dX9_passesKept_29 : decode cX9_passesKept 29 = .ok (.iconst 1, 1) := by decide +kernel
theorem dX9_passesKept_30 : decode cX9_passesKept 30 = .ok (.iadd, 1) := by decide +kernel
theorem dX9_passesKept_31 : decode cX9_passesKept 31 = .ok (.iastore, 1) := by decide +kernel
theorem dX9_passesKept_32 : decode cX9_passesKept 32 = .ok (.aload_n 0, 1) := by decide +kernel
theorem dX9_passesKept_33 : decode cX9_passesKept 33 = .ok (.getfield 28, 3) := by decide +kernel
theorem dX9_passesKept_36 : decode cX9_passesKept 36 = .ok (.bipush 31, 2) := by decide +kernel
theorem dX9_passesKept_38 : decode cX9_passesKept 38 = .ok (.iaload, 1) := by decide +kernel
theorem dX9_passesKept_39 : decode cX9_passesKept 39 = .ok (.ireturn, 1) := by decide +kernel
theorem dX9_take_0 : decode cX9_take 0 = .ok (.aload_n 0, 1) := by decide +kernel
theorem dX9_take_1 : decode cX9_take 1 = .ok (.aload_n 0, 1) := by decide +kernel
theorem dX9_take_2 : decode cX9_take 2 = .ok (.iload_n 1, 1) := by decide +kernel
theorem dX9_take_3 : decode cX9_take 3 = .ok (.iload_n 2, 1) := by decide +kernel
theorem dX9_take_4 : decode cX9_take 4 = .ok (.invokevirtual 332, 3) := by decide +kernel
theorem dX9_take_7 : decode cX9_take 7 = .ok (.invokevirtual 335, 3) := by decide +kernel
theorem dX9_take_10 : decode cX9_take 10 = .ok (.ireturn, 1) := by decide +kernel
theorem dX9_shift_0 : decode cX9_shift 0 = .ok (.aload_n 0, 1) := by decide +kernel
theorem dX9_shift_1 : decode cX9_shift 1 = .ok (.aload_n 0, 1) := by decide +kernel
theorem dX9_shift_2 : decode cX9_shift 2 = .ok (.iload_n 1, 1) := by decide +kernel
theorem dX9_shift_3 : decode cX9_shift 3 = .ok (.iload_n 2, 1) := by decide +kernel
theorem dX9_shift_4 : decode cX9_shift 4 = .ok (.iload_n 3, 1) := by decide +kernel
theorem dX9_shift_5 : decode cX9_shift 5 = .ok (.invokevirtual 338, 3) := by decide +kernel
theorem dX9_shift_8 : decode cX9_shift 8 = .ok (.invokevirtual 335, 3) := by decide +kernel
theorem dX9_shift_11 : decode cX9_shift 11 = .ok (.ireturn, 1) := by decide +kernel
theorem dX9_fence_0 : decode cX9_fence 0 = .ok (.aload_n 0, 1) := by decide +kernel
theorem dX9_fence_1 : decode cX9_fence 1 = .ok (.aload_n 0, 1) := by decide +kernel
theorem dX9_fence_2 : decode cX9_fence 2 = .ok (.iload_n 1, 1) := by decide +kernel
theorem dX9_fence_3 : decode cX9_fence 3 = .ok (.invokevirtual 342, 3) := by decide +kernel
theorem dX9_fence_6 : decode cX9_fence 6 = .ok (.invokevirtual 335, 3) := by decide +kernel
theorem dX9_fence_9 : decode cX9_fence 9 = .ok (.ireturn, 1) := by decide +kernel
theorem dX9_pass_0 : decode cX9_pass 0 = .ok (.aload_n 0, 1) := by decide +kernel
theorem dX9_pass_1 : decode cX9_pass 1 = .ok (.aload_n 0, 1) := by decide +kernel
theorem dX9_pass_2 : decode cX9_pass 2 = .ok (.invokevirtual 345, 3) := by decide +kernel
theorem dX9_pass_5 : decode cX9_pass 5 = .ok (.invokevirtual 335, 3) := by decide +kernel
theorem dX9_pass_8 : decode cX9_pass 8 = .ok (.ireturn, 1) := by decide +kernel
theorem dX9_areBoth_0 : decode cX9_areBoth 0 = .ok (.iload_n 0, 1) := by decide +kernel
theorem dX9_areBoth_1 : decode cX9_areBoth 1 = .ok (.bipush 31, 2) := by decide +kernel
theorem dX9_areBoth_3 : decode cX9_areBoth 3 = .ok (.iand, 1) := by decide +kernel
theorem dX9_areBoth_4 : decode cX9_areBoth 4 = .ok (.ifCond .eq 13, 3) := by decide +kernel
theorem dX9_areBoth_7 : decode cX9_areBoth 7 = .ok (.iload_n 0, 1) := by decide +kernel
theorem dX9_areBoth_8 : decode cX9_areBoth 8 = .ok (.iconst 5, 1) := by decide +kernel
theorem dX9_areBoth_9 : decode cX9_areBoth 9 = .ok (.ishr, 1) := by decide +kernel
theorem dX9_areBoth_10 : decode cX9_areBoth 10 = .ok (.ifCond .eq 7, 3) := by decide +kernel
theorem dX9_areBoth_13 : decode cX9_areBoth 13 = .ok (.iconst 1, 1) := by decide +kernel
theorem dX9_areBoth_14 : decode cX9_areBoth 14 = .ok (.goto 4, 3) := by decide +kernel
theorem dX9_areBoth_17 : decode cX9_areBoth 17 = .ok (.iconst 0, 1) := by decide +kernel
theorem dX9_areBoth_18 : decode cX9_areBoth 18 = .ok (.ireturn, 1) := by decide +kernel
theorem dX9_laysBalance_0 : decode cX9_laysBalance 0 = .ok (.iconst 0, 1) := by decide +kernel
theorem dX9_laysBalance_1 : decode cX9_laysBalance 1 = .ok (.istore_n 1, 1) := by decide +kernel
theorem dX9_laysBalance_2 : decode cX9_laysBalance 2 = .ok (.iload_n 1, 1) := by decide +kernel
theorem dX9_laysBalance_3 : decode cX9_laysBalance 3 = .ok (.sipush 1024, 3) := by decide +kernel
theorem dX9_laysBalance_6 : decode cX9_laysBalance 6 = .ok (.if_icmp .ge 68, 3) := by decide +kernel
theorem dX9_laysBalance_9 : decode cX9_laysBalance 9 = .ok (.aload_n 0, 1) := by decide +kernel
theorem dX9_laysBalance_10 : decode cX9_laysBalance 10 = .ok (.getfield 75, 3) := by decide +kernel
theorem dX9_laysBalance_13 : decode cX9_laysBalance 13 = .ok (.iload_n 1, 1) := by decide +kernel
theorem dX9_laysBalance_14 : decode cX9_laysBalance 14 = .ok (.iconst 0, 1) := by decide +kernel
theorem dX9_laysBalance_15 : decode cX9_laysBalance 15 = .ok (.iastore, 1) := by decide +kernel
theorem dX9_laysBalance_16 : decode cX9_laysBalance 16 = .ok (.iconst 0, 1) := by decide +kernel
theorem dX9_laysBalance_17 : decode cX9_laysBalance 17 = .ok (.istore_n 2, 1) := by decide +kernel
theorem dX9_laysBalance_18 : decode cX9_laysBalance 18 = .ok (.iload_n 2, 1) := by decide +kernel
theorem dX9_laysBalance_19 : decode cX9_laysBalance 19 = .ok (.bipush 10, 2) := by decide +kernel
theorem dX9_laysBalance_21 : decode cX9_laysBalance 21 = .ok (.if_icmp .ge 47, 3) := by decide +kernel
theorem dX9_laysBalance_24 : decode cX9_laysBalance 24 = .ok (.iload_n 1, 1) := by decide +kernel
theorem dX9_laysBalance_25 : decode cX9_laysBalance 25 = .ok (.iload_n 2, 1) := by decide +kernel
theorem dX9_laysBalance_26 : decode cX9_laysBalance 26 = .ok (.invokestatic 119, 3) := by decide +kernel
theorem dX9_laysBalance_29 : decode cX9_laysBalance 29 = .ok (.ifCond .eq 33, 3) := by decide +kernel
theorem dX9_laysBalance_32 : decode cX9_laysBalance 32 = .ok (.aload_n 0, 1) := by decide +kernel
theorem dX9_laysBalance_33 : decode cX9_laysBalance 33 = .ok (.getfield 75, 3) := by decide +kernel
theorem dX9_laysBalance_36 : decode cX9_laysBalance 36 = .ok (.iload_n 1, 1) := by decide +kernel
theorem dX9_laysBalance_37 : decode cX9_laysBalance 37 = .ok (.dup2, 1) := by decide +kernel
theorem dX9_laysBalance_38 : decode cX9_laysBalance 38 = .ok (.iaload, 1) := by decide +kernel
theorem dX9_laysBalance_39 : decode cX9_laysBalance 39 = .ok (.iload_n 2, 1) := by decide +kernel
theorem dX9_laysBalance_40 : decode cX9_laysBalance 40 = .ok (.iconst 5, 1) := by decide +kernel
theorem dX9_laysBalance_41 : decode cX9_laysBalance 41 = .ok (.if_icmp .ge 12, 3) := by decide +kernel
theorem dX9_laysBalance_44 : decode cX9_laysBalance 44 = .ok (.aload_n 0, 1) := by decide +kernel
theorem dX9_laysBalance_45 : decode cX9_laysBalance 45 = .ok (.getfield 72, 3) := by decide +kernel
theorem dX9_laysBalance_48 : decode cX9_laysBalance 48 = .ok (.iload_n 2, 1) := by decide +kernel
theorem dX9_laysBalance_49 : decode cX9_laysBalance 49 = .ok (.iaload, 1) := by decide +kernel
theorem dX9_laysBalance_50 : decode cX9_laysBalance 50 = .ok (.goto 10, 3) := by decide +kernel
theorem dX9_laysBalance_53 : decode cX9_laysBalance 53 = .ok (.aload_n 0, 1) := by decide +kernel
theorem dX9_laysBalance_54 : decode cX9_laysBalance 54 = .ok (.getfield 72, 3) := by decide +kernel
theorem dX9_laysBalance_57 : decode cX9_laysBalance 57 = .ok (.iload_n 2, 1) := by decide +kernel
theorem dX9_laysBalance_58 : decode cX9_laysBalance 58 = .ok (.iaload, 1) := by decide +kernel
theorem dX9_laysBalance_59 : decode cX9_laysBalance 59 = .ok (.ineg, 1) := by decide +kernel
theorem dX9_laysBalance_60 : decode cX9_laysBalance 60 = .ok (.iadd, 1) := by decide +kernel
theorem dX9_laysBalance_61 : decode cX9_laysBalance 61 = .ok (.iastore, 1) := by decide +kernel
theorem dX9_laysBalance_62 : decode cX9_laysBalance 62 = .ok (.iinc 2 1, 3) := by decide +kernel
theorem dX9_laysBalance_65 : decode cX9_laysBalance 65 = .ok (.goto (-47), 3) := by decide +kernel
theorem dX9_laysBalance_68 : decode cX9_laysBalance 68 = .ok (.iinc 1 1, 3) := by decide +kernel
theorem dX9_laysBalance_71 : decode cX9_laysBalance 71 = .ok (.goto (-69), 3) := by decide +kernel
theorem dX9_laysBalance_74 : decode cX9_laysBalance 74 = .ok (.return_, 1) := by decide +kernel
theorem dX9_heapCost_0 : decode cX9_heapCost 0 = .ok (.iload_n 1, 1) := by decide +kernel
theorem dX9_heapCost_1 : decode cX9_heapCost 1 = .ok (.invokestatic 349, 3) := by decide +kernel
theorem dX9_heapCost_4 : decode cX9_heapCost 4 = .ok (.iload_n 1, 1) := by decide +kernel
theorem dX9_heapCost_5 : decode cX9_heapCost 5 = .ok (.invokestatic 352, 3) := by decide +kernel
theorem dX9_heapCost_8 : decode cX9_heapCost 8 = .ok (.ifCond .eq 7, 3) := by decide +kernel
theorem dX9_heapCost_11 : decode cX9_heapCost 11 = .ok (.iconst 1, 1) := by decide +kernel
theorem dX9_heapCost_12 : decode cX9_heapCost 12 = .ok (.goto 4, 3) := by decide +kernel
theorem dX9_heapCost_15 : decode cX9_heapCost 15 = .ok (.iconst 0, 1) := by decide +kernel
theorem dX9_heapCost_16 : decode cX9_heapCost 16 = .ok (.isub, 1) := by decide +kernel
theorem dX9_heapCost_17 : decode cX9_heapCost 17 = .ok (.ireturn, 1) := by decide +kernel
theorem dX9_fewest_0 : decode cX9_fewest 0 = .ok (.iconst 0, 1) := by decide +kernel
theorem dX9_fewest_1 : decode cX9_fewest 1 = .ok (.istore_n 1, 1) := by decide +kernel
theorem dX9_fewest_2 : decode cX9_fewest 2 = .ok (.iconst 0, 1) := by decide +kernel
theorem dX9_fewest_3 : decode cX9_fewest 3 = .ok (.istore_n 2, 1) := by decide +kernel
theorem dX9_fewest_4 : decode cX9_fewest 4 = .ok (.iload_n 2, 1) := by decide +kernel
theorem dX9_fewest_5 : decode cX9_fewest 5 = .ok (.bipush 10, 2) := by decide +kernel
theorem dX9_fewest_7 : decode cX9_fewest 7 = .ok (.if_icmp .ge 39, 3) := by decide +kernel
theorem dX9_fewest_10 : decode cX9_fewest 10 = .ok (.aload_n 0, 1) := by decide +kernel
theorem dX9_fewest_11 : decode cX9_fewest 11 = .ok (.getfield 72, 3) := by decide +kernel
theorem dX9_fewest_14 : decode cX9_fewest 14 = .ok (.iload_n 2, 1) := by decide +kernel
theorem dX9_fewest_15 : decode cX9_fewest 15 = .ok (.aload_n 0, 1) := by decide +kernel
theorem dX9_fewest_16 : decode cX9_fewest 16 = .ok (.iload_n 2, 1) := by decide +kernel
theorem dX9_fewest_17 : decode cX9_fewest 17 = .ok (.invokevirtual 132, 3) := by decide +kernel
theorem dX9_fewest_20 : decode cX9_fewest 20 = .ok (.iastore, 1) := by decide +kernel
theorem dX9_fewest_21 : decode cX9_fewest 21 = .ok (.iload_n 1, 1) := by decide +kernel
theorem dX9_fewest_22 : decode cX9_fewest 22 = .ok (.aload_n 0, 1) := by decide +kernel
theorem dX9_fewest_23 : decode cX9_fewest 23 = .ok (.getfield 72, 3) := by decide +kernel
theorem dX9_fewest_26 : decode cX9_fewest 26 = .ok (.iload_n 2, 1) := by decide +kernel
theorem dX9_fewest_27 : decode cX9_fewest 27 = .ok (.iaload, 1) := by decide +kernel
theorem dX9_fewest_28 : decode cX9_fewest 28 = .ok (.ifCond .ne 7, 3) := by decide +kernel
theorem dX9_fewest_31 : decode cX9_fewest 31 = .ok (.iconst 0, 1) := by decide +kernel
theorem dX9_fewest_32 : decode cX9_fewest 32 = .ok (.goto 6, 3) := by decide +kernel
theorem dX9_fewest_35 : decode cX9_fewest 35 = .ok (.iconst 1, 1) := by decide +kernel
theorem dX9_fewest_36 : decode cX9_fewest 36 = .ok (.iload_n 2, 1) := by decide +kernel
theorem dX9_fewest_37 : decode cX9_fewest 37 = .ok (.ishl, 1) := by decide +kernel
theorem dX9_fewest_38 : decode cX9_fewest 38 = .ok (.ior, 1) := by decide +kernel
theorem dX9_fewest_39 : decode cX9_fewest 39 = .ok (.istore_n 1, 1) := by decide +kernel
theorem dX9_fewest_40 : decode cX9_fewest 40 = .ok (.iinc 2 1, 3) := by decide +kernel
theorem dX9_fewest_43 : decode cX9_fewest 43 = .ok (.goto (-39), 3) := by decide +kernel
theorem dX9_fewest_46 : decode cX9_fewest 46 = .ok (.aload_n 0, 1) := by decide +kernel
theorem dX9_fewest_47 : decode cX9_fewest 47 = .ok (.invokevirtual 355, 3) := by decide +kernel
theorem dX9_fewest_50 : decode cX9_fewest 50 = .ok (.aload_n 0, 1) := by decide +kernel
theorem dX9_fewest_51 : decode cX9_fewest 51 = .ok (.getfield 75, 3) := by decide +kernel
theorem dX9_fewest_54 : decode cX9_fewest 54 = .ok (.iload_n 1, 1) := by decide +kernel
theorem dX9_fewest_55 : decode cX9_fewest 55 = .ok (.iaload, 1) := by decide +kernel
theorem dX9_fewest_56 : decode cX9_fewest 56 = .ok (.ifCond .eq 5, 3) := by decide +kernel
theorem dX9_fewest_59 : decode cX9_fewest 59 = .ok (.iconst (-1), 1) := by decide +kernel
theorem dX9_fewest_60 : decode cX9_fewest 60 = .ok (.ireturn, 1) := by decide +kernel
theorem dX9_fewest_61 : decode cX9_fewest 61 = .ok (.aload_n 0, 1) := by decide +kernel
theorem dX9_fewest_62 : decode cX9_fewest 62 = .ok (.getfield 78, 3) := by decide +kernel
theorem dX9_fewest_65 : decode cX9_fewest 65 = .ok (.iconst 0, 1) := by decide +kernel
theorem dX9_fewest_66 : decode cX9_fewest 66 = .ok (.iconst 0, 1) := by decide +kernel
theorem dX9_fewest_67 : decode cX9_fewest 67 = .ok (.iastore, 1) := by decide +kernel
theorem dX9_fewest_68 : decode cX9_fewest 68 = .ok (.iconst 1, 1) := by decide +kernel
theorem dX9_fewest_69 : decode cX9_fewest 69 = .ok (.istore_n 2, 1) := by decide +kernel
theorem dX9_fewest_70 : decode cX9_fewest 70 = .ok (.iload_n 2, 1) := by decide +kernel
theorem dX9_fewest_71 : decode cX9_fewest 71 = .ok (.iload_n 1, 1) := by decide +kernel
theorem dX9_fewest_72 : decode cX9_fewest 72 = .ok (.if_icmp .gt 100, 3) := by decide +kernel
theorem dX9_fewest_75 : decode cX9_fewest 75 = .ok (.iload_n 2, 1) := by decide +kernel
theorem dX9_fewest_76 : decode cX9_fewest 76 = .ok (.iload_n 1, 1) := by decide +kernel
theorem dX9_fewest_77 : decode cX9_fewest 77 = .ok (.iconst (-1), 1) := by decide +kernel
theorem dX9_fewest_78 : decode cX9_fewest 78 = .ok (.ixor, 1) := by decide +kernel
theorem dX9_fewest_79 : decode cX9_fewest 79 = .ok (.iand, 1) := by decide +kernel
theorem dX9_fewest_80 : decode cX9_fewest 80 = .ok (.ifCond .eq 6, 3) := by decide +kernel
theorem dX9_fewest_83 : decode cX9_fewest 83 = .ok (.goto 83, 3) := by decide +kernel
theorem dX9_fewest_86 : decode cX9_fewest 86 = .ok (.iload_n 2, 1) := by decide +kernel
theorem dX9_fewest_87 : decode cX9_fewest 87 = .ok (.iload_n 2, 1) := by decide +kernel
theorem dX9_fewest_88 : decode cX9_fewest 88 = .ok (.ineg, 1) := by decide +kernel
theorem dX9_fewest_89 : decode cX9_fewest 89 = .ok (.iand, 1) := by decide +kernel
theorem dX9_fewest_90 : decode cX9_fewest 90 = .ok (.istore_n 3, 1) := by decide +kernel
theorem dX9_fewest_91 : decode cX9_fewest 91 = .ok (.aload_n 0, 1) := by decide +kernel
theorem dX9_fewest_92 : decode cX9_fewest 92 = .ok (.getfield 78, 3) := by decide +kernel
theorem dX9_fewest_95 : decode cX9_fewest 95 = .ok (.iload_n 2, 1) := by decide +kernel
theorem dX9_fewest_96 : decode cX9_fewest 96 = .ok (.ldc 170, 2) := by decide +kernel
theorem dX9_fewest_98 : decode cX9_fewest 98 = .ok (.iastore, 1) := by decide +kernel
theorem dX9_fewest_99 : decode cX9_fewest 99 = .ok (.iload_n 2, 1) := by decide +kernel
theorem dX9_fewest_100 : decode cX9_fewest 100 = .ok (.istore 4, 2) := by decide +kernel
theorem dX9_fewest_102 : decode cX9_fewest 102 = .ok (.iload 4, 2) := by decide +kernel
theorem dX9_fewest_104 : decode cX9_fewest 104 = .ok (.ifCond .le 62, 3) := by decide +kernel
theorem dX9_fewest_107 : decode cX9_fewest 107 = .ok (.iload 4, 2) := by decide +kernel
theorem dX9_fewest_109 : decode cX9_fewest 109 = .ok (.iload_n 3, 1) := by decide +kernel
theorem dX9_fewest_110 : decode cX9_fewest 110 = .ok (.iand, 1) := by decide +kernel
theorem dX9_fewest_111 : decode cX9_fewest 111 = .ok (.ifCond .eq 44, 3) := by decide +kernel
theorem dX9_fewest_114 : decode cX9_fewest 114 = .ok (.aload_n 0, 1) := by decide +kernel
theorem dX9_fewest_115 : decode cX9_fewest 115 = .ok (.getfield 75, 3) := by decide +kernel
theorem dX9_fewest_118 : decode cX9_fewest 118 = .ok (.iload 4, 2) := by decide +kernel
theorem dX9_fewest_120 : decode cX9_fewest 120 = .ok (.iaload, 1) := by decide +kernel
theorem dX9_fewest_121 : decode cX9_fewest 121 = .ok (.ifCond .ne 34, 3) := by decide +kernel
theorem dX9_fewest_124 : decode cX9_fewest 124 = .ok (.aload_n 0, 1) := by decide +kernel
theorem dX9_fewest_125 : decode cX9_fewest 125 = .ok (.getfield 78, 3) := by decide +kernel
theorem dX9_fewest_128 : decode cX9_fewest 128 = .ok (.iload_n 2, 1) := by decide +kernel
theorem dX9_fewest_129 : decode cX9_fewest 129 = .ok (.aload_n 0, 1) := by decide +kernel
theorem dX9_fewest_130 : decode cX9_fewest 130 = .ok (.getfield 78, 3) := by decide +kernel
theorem dX9_fewest_133 : decode cX9_fewest 133 = .ok (.iload_n 2, 1) := by decide +kernel
theorem dX9_fewest_134 : decode cX9_fewest 134 = .ok (.iaload, 1) := by decide +kernel
theorem dX9_fewest_135 : decode cX9_fewest 135 = .ok (.aload_n 0, 1) := by decide +kernel
theorem dX9_fewest_136 : decode cX9_fewest 136 = .ok (.iload 4, 2) := by decide +kernel
theorem dX9_fewest_138 : decode cX9_fewest 138 = .ok (.invokevirtual 358, 3) := by decide +kernel
theorem dX9_fewest_141 : decode cX9_fewest 141 = .ok (.aload_n 0, 1) := by decide +kernel
theorem dX9_fewest_142 : decode cX9_fewest 142 = .ok (.getfield 78, 3) := by decide +kernel
theorem dX9_fewest_145 : decode cX9_fewest 145 = .ok (.iload_n 2, 1) := by decide +kernel
theorem dX9_fewest_146 : decode cX9_fewest 146 = .ok (.iload 4, 2) := by decide +kernel
theorem dX9_fewest_148 : decode cX9_fewest 148 = .ok (.ixor, 1) := by decide +kernel
theorem dX9_fewest_149 : decode cX9_fewest 149 = .ok (.iaload, 1) := by decide +kernel
theorem dX9_fewest_150 : decode cX9_fewest 150 = .ok (.iadd, 1) := by decide +kernel
theorem dX9_fewest_151 : decode cX9_fewest 151 = .ok (.invokestatic 319, 3) := by decide +kernel
theorem dX9_fewest_154 : decode cX9_fewest 154 = .ok (.iastore, 1) := by decide +kernel
theorem dX9_fewest_155 : decode cX9_fewest 155 = .ok (.iload 4, 2) := by decide +kernel
theorem dX9_fewest_157 : decode cX9_fewest 157 = .ok (.iconst 1, 1) := by decide +kernel
theorem dX9_fewest_158 : decode cX9_fewest 158 = .ok (.isub, 1) := by decide +kernel
theorem dX9_fewest_159 : decode cX9_fewest 159 = .ok (.iload_n 2, 1) := by decide +kernel
theorem dX9_fewest_160 : decode cX9_fewest 160 = .ok (.iand, 1) := by decide +kernel
theorem dX9_fewest_161 : decode cX9_fewest 161 = .ok (.istore 4, 2) := by decide +kernel
theorem dX9_fewest_163 : decode cX9_fewest 163 = .ok (.goto (-61), 3) := by decide +kernel
theorem dX9_fewest_166 : decode cX9_fewest 166 = .ok (.iinc 2 1, 3) := by decide +kernel
theorem dX9_fewest_169 : decode cX9_fewest 169 = .ok (.goto (-99), 3) := by decide +kernel
theorem dX9_fewest_172 : decode cX9_fewest 172 = .ok (.aload_n 0, 1) := by decide +kernel
theorem dX9_fewest_173 : decode cX9_fewest 173 = .ok (.getfield 78, 3) := by decide +kernel
theorem dX9_fewest_176 : decode cX9_fewest 176 = .ok (.iload_n 1, 1) := by decide +kernel
theorem dX9_fewest_177 : decode cX9_fewest 177 = .ok (.iaload, 1) := by decide +kernel
theorem dX9_fewest_178 : decode cX9_fewest 178 = .ok (.ireturn, 1) := by decide +kernel
theorem dX9_isNothingOff_0 : decode cX9_isNothingOff 0 = .ok (.iconst 1, 1) := by decide +kernel
theorem dX9_isNothingOff_1 : decode cX9_isNothingOff 1 = .ok (.istore_n 1, 1) := by decide +kernel
theorem dX9_isNothingOff_2 : decode cX9_isNothingOff 2 = .ok (.iconst 0, 1) := by decide +kernel
theorem dX9_isNothingOff_3 : decode cX9_isNothingOff 3 = .ok (.istore_n 2, 1) := by decide +kernel
theorem dX9_isNothingOff_4 : decode cX9_isNothingOff 4 = .ok (.iload_n 2, 1) := by decide +kernel
theorem dX9_isNothingOff_5 : decode cX9_isNothingOff 5 = .ok (.bipush 10, 2) := by decide +kernel
theorem dX9_isNothingOff_7 : decode cX9_isNothingOff 7 = .ok (.if_icmp .ge 27, 3) := by decide +kernel
theorem dX9_isNothingOff_10 : decode cX9_isNothingOff 10 = .ok (.iload_n 1, 1) := by decide +kernel
theorem dX9_isNothingOff_11 : decode cX9_isNothingOff 11 = .ok (.ifCond .eq 23, 3) := by decide +kernel
theorem dX9_isNothingOff_14 : decode cX9_isNothingOff 14 = .ok (.aload_n 0, 1) := by decide +kernel
theorem dX9_isNothingOff_15 : decode cX9_isNothingOff 15 = .ok (.iload_n 2, 1) := by decide +kernel
theorem dX9_isNothingOff_16 : decode cX9_isNothingOff 16 = .ok (.invokevirtual 132, 3) := by decide +kernel
theorem dX9_isNothingOff_19 : decode cX9_isNothingOff 19 = .ok (.ifCond .ne 7, 3) := by decide +kernel
theorem dX9_isNothingOff_22 : decode cX9_isNothingOff 22 = .ok (.iconst 1, 1) := by decide +kernel
theorem dX9_isNothingOff_23 : decode cX9_isNothingOff 23 = .ok (.goto 4, 3) := by decide +kernel
theorem dX9_isNothingOff_26 : decode cX9_isNothingOff 26 = .ok (.iconst 0, 1) := by decide +kernel
theorem dX9_isNothingOff_27 : decode cX9_isNothingOff 27 = .ok (.istore_n 1, 1) := by decide +kernel
theorem dX9_isNothingOff_28 : decode cX9_isNothingOff 28 = .ok (.iinc 2 1, 3) := by decide +kernel
theorem dX9_isNothingOff_31 : decode cX9_isNothingOff 31 = .ok (.goto (-27), 3) := by decide +kernel
theorem dX9_isNothingOff_34 : decode cX9_isNothingOff 34 = .ok (.iload_n 1, 1) := by decide +kernel
theorem dX9_isNothingOff_35 : decode cX9_isNothingOff 35 = .ok (.ireturn, 1) := by decide +kernel
theorem dX9_swaps_0 : decode cX9_swaps 0 = .ok (.aload_n 0, 1) := by decide +kernel
theorem dX9_swaps_1 : decode cX9_swaps 1 = .ok (.getfield 28, 3) := by decide +kernel
theorem dX9_swaps_4 : decode cX9_swaps 4 = .ok (.iconst 0, 1) := by decide +kernel
theorem dX9_swaps_5 : decode cX9_swaps 5 = .ok (.iload_n 1, 1) := by decide +kernel
theorem dX9_swaps_6 : decode cX9_swaps 6 = .ok (.iadd, 1) := by decide +kernel
theorem dX9_swaps_7 : decode cX9_swaps 7 = .ok (.iaload, 1) := by decide +kernel
theorem dX9_swaps_8 : decode cX9_swaps 8 = .ok (.istore_n 3, 1) := by decide +kernel
theorem dX9_swaps_9 : decode cX9_swaps 9 = .ok (.aload_n 0, 1) := by decide +kernel
theorem dX9_swaps_10 : decode cX9_swaps 10 = .ok (.getfield 28, 3) := by decide +kernel
theorem dX9_swaps_13 : decode cX9_swaps 13 = .ok (.iconst 0, 1) := by decide +kernel
theorem dX9_swaps_14 : decode cX9_swaps 14 = .ok (.iload_n 1, 1) := by decide +kernel
theorem dX9_swaps_15 : decode cX9_swaps 15 = .ok (.iadd, 1) := by decide +kernel
theorem dX9_swaps_16 : decode cX9_swaps 16 = .ok (.aload_n 0, 1) := by decide +kernel
theorem dX9_swaps_17 : decode cX9_swaps 17 = .ok (.getfield 28, 3) := by decide +kernel
theorem dX9_swaps_20 : decode cX9_swaps 20 = .ok (.iconst 0, 1) := by decide +kernel
theorem dX9_swaps_21 : decode cX9_swaps 21 = .ok (.iload_n 2, 1) := by decide +kernel
theorem dX9_swaps_22 : decode cX9_swaps 22 = .ok (.iadd, 1) := by decide +kernel
theorem dX9_swaps_23 : decode cX9_swaps 23 = .ok (.iaload, 1) := by decide +kernel
theorem dX9_swaps_24 : decode cX9_swaps 24 = .ok (.iastore, 1) := by decide +kernel
theorem dX9_swaps_25 : decode cX9_swaps 25 = .ok (.aload_n 0, 1) := by decide +kernel
theorem dX9_swaps_26 : decode cX9_swaps 26 = .ok (.getfield 28, 3) := by decide +kernel
theorem dX9_swaps_29 : decode cX9_swaps 29 = .ok (.iconst 0, 1) := by decide +kernel
theorem dX9_swaps_30 : decode cX9_swaps 30 = .ok (.iload_n 2, 1) := by decide +kernel
theorem dX9_swaps_31 : decode cX9_swaps 31 = .ok (.iadd, 1) := by decide +kernel
theorem dX9_swaps_32 : decode cX9_swaps 32 = .ok (.iload_n 3, 1) := by decide +kernel
theorem dX9_swaps_33 : decode cX9_swaps 33 = .ok (.iastore, 1) := by decide +kernel
theorem dX9_swaps_34 : decode cX9_swaps 34 = .ok (.return_, 1) := by decide +kernel
theorem dX9_turned_0 : decode cX9_turned 0 = .ok (.iload_n 1, 1) := by decide +kernel
theorem dX9_turned_1 : decode cX9_turned 1 = .ok (.iconst (-1), 1) := by decide +kernel
theorem dX9_turned_2 : decode cX9_turned 2 = .ok (.if_icmp .ge 5, 3) := by decide +kernel
theorem dX9_turned_5 : decode cX9_turned 5 = .ok (.iconst (-1), 1) := by decide +kernel
theorem dX9_turned_6 : decode cX9_turned 6 = .ok (.ireturn, 1) := by decide +kernel
theorem dX9_turned_7 : decode cX9_turned 7 = .ok (.iconst 0, 1) := by decide +kernel
theorem dX9_turned_8 : decode cX9_turned 8 = .ok (.istore_n 2, 1) := by decide +kernel
theorem dX9_turned_9 : decode cX9_turned 9 = .ok (.iconst 0, 1) := by decide +kernel
theorem dX9_turned_10 : decode cX9_turned 10 = .ok (.istore_n 3, 1) := by decide +kernel
theorem dX9_turned_11 : decode cX9_turned 11 = .ok (.iload_n 3, 1) := by decide +kernel
theorem dX9_turned_12 : decode cX9_turned 12 = .ok (.bipush 25, 2) := by decide +kernel
theorem dX9_turned_14 : decode cX9_turned 14 = .ok (.if_icmp .ge 78, 3) := by decide +kernel
theorem dX9_turned_17 : decode cX9_turned 17 = .ok (.iload_n 3, 1) := by decide +kernel
theorem dX9_turned_18 : decode cX9_turned 18 = .ok (.iconst 1, 1) := by decide +kernel
theorem dX9_turned_19 : decode cX9_turned 19 = .ok (.iadd, 1) := by decide +kernel
theorem dX9_turned_20 : decode cX9_turned 20 = .ok (.istore 4, 2) := by decide +kernel
theorem dX9_turned_22 : decode cX9_turned 22 = .ok (.iload 4, 2) := by decide +kernel
theorem dX9_turned_24 : decode cX9_turned 24 = .ok (.bipush 25, 2) := by decide +kernel
theorem dX9_turned_26 : decode cX9_turned 26 = .ok (.if_icmp .ge 60, 3) := by decide +kernel
theorem dX9_turned_29 : decode cX9_turned 29 = .ok (.aload_n 0, 1) := by decide +kernel
theorem dX9_turned_30 : decode cX9_turned 30 = .ok (.iload_n 3, 1) := by decide +kernel
theorem dX9_turned_31 : decode cX9_turned 31 = .ok (.iload 4, 2) := by decide +kernel
theorem dX9_turned_33 : decode cX9_turned 33 = .ok (.invokevirtual 361, 3) := by decide +kernel
theorem dX9_turned_36 : decode cX9_turned 36 = .ok (.aload_n 0, 1) := by decide +kernel
theorem dX9_turned_37 : decode cX9_turned 37 = .ok (.invokevirtual 364, 3) := by decide +kernel
theorem dX9_turned_40 : decode cX9_turned 40 = .ok (.istore 5, 2) := by decide +kernel
theorem dX9_turned_42 : decode cX9_turned 42 = .ok (.aload_n 0, 1) := by decide +kernel
theorem dX9_turned_43 : decode cX9_turned 43 = .ok (.iload_n 3, 1) := by decide +kernel
theorem dX9_turned_44 : decode cX9_turned 44 = .ok (.iload 4, 2) := by decide +kernel
theorem dX9_turned_46 : decode cX9_turned 46 = .ok (.invokevirtual 361, 3) := by decide +kernel
theorem dX9_turned_49 : decode cX9_turned 49 = .ok (.iload 5, 2) := by decide +kernel
theorem dX9_turned_51 : decode cX9_turned 51 = .ok (.ifCond .eq 16, 3) := by decide +kernel
theorem dX9_turned_54 : decode cX9_turned 54 = .ok (.iload_n 2, 1) := by decide +kernel
theorem dX9_turned_55 : decode cX9_turned 55 = .ok (.iload_n 1, 1) := by decide +kernel
theorem dX9_turned_56 : decode cX9_turned 56 = .ok (.if_icmp .ne 11, 3) := by decide +kernel
theorem dX9_turned_59 : decode cX9_turned 59 = .ok (.bipush 100, 2) := by decide +kernel
theorem dX9_turned_61 : decode cX9_turned 61 = .ok (.iload_n 3, 1) := by decide +kernel
theorem dX9_turned_62 : decode cX9_turned 62 = .ok (.imul, 1) := by decide +kernel
theorem dX9_turned_63 : decode cX9_turned 63 = .ok (.iload 4, 2) := by decide +kernel
theorem dX9_turned_65 : decode cX9_turned 65 = .ok (.iadd, 1) := by decide +kernel
theorem dX9_turned_66 : decode cX9_turned 66 = .ok (.ireturn, 1) := by decide +kernel
theorem dX9_turned_67 : decode cX9_turned 67 = .ok (.iload_n 2, 1) := by decide +kernel
theorem dX9_turned_68 : decode cX9_turned 68 = .ok (.iload 5, 2) := by decide +kernel
theorem dX9_turned_70 : decode cX9_turned 70 = .ok (.ifCond .eq 7, 3) := by decide +kernel
theorem dX9_turned_73 : decode cX9_turned 73 = .ok (.iconst 1, 1) := by decide +kernel
theorem dX9_turned_74 : decode cX9_turned 74 = .ok (.goto 4, 3) := by decide +kernel
theorem dX9_turned_77 : decode cX9_turned 77 = .ok (.iconst 0, 1) := by decide +kernel
theorem dX9_turned_78 : decode cX9_turned 78 = .ok (.iadd, 1) := by decide +kernel
theorem dX9_turned_79 : decode cX9_turned 79 = .ok (.istore_n 2, 1) := by decide +kernel
theorem dX9_turned_80 : decode cX9_turned 80 = .ok (.iinc 4 1, 3) := by decide +kernel
theorem dX9_turned_83 : decode cX9_turned 83 = .ok (.goto (-61), 3) := by decide +kernel
theorem dX9_turned_86 : decode cX9_turned 86 = .ok (.iinc 3 1, 3) := by decide +kernel
theorem dX9_turned_89 : decode cX9_turned 89 = .ok (.goto (-78), 3) := by decide +kernel
theorem dX9_turned_92 : decode cX9_turned 92 = .ok (.iload_n 1, 1) := by decide +kernel
theorem dX9_turned_93 : decode cX9_turned 93 = .ok (.iconst (-1), 1) := by decide +kernel
theorem dX9_turned_94 : decode cX9_turned 94 = .ok (.if_icmp .ne 7, 3) := by decide +kernel
theorem dX9_turned_97 : decode cX9_turned 97 = .ok (.iload_n 2, 1) := by decide +kernel
theorem dX9_turned_98 : decode cX9_turned 98 = .ok (.goto 4, 3) := by decide +kernel
theorem dX9_turned_101 : decode cX9_turned 101 = .ok (.iconst (-1), 1) := by decide +kernel
theorem dX9_turned_102 : decode cX9_turned 102 = .ok (.ireturn, 1) := by decide +kernel
theorem dX9_beside_0 : decode cX9_beside 0 = .ok (.iload_n 1, 1) := by decide +kernel
theorem dX9_beside_1 : decode cX9_beside 1 = .ok (.iconst 5, 1) := by decide +kernel
theorem dX9_beside_2 : decode cX9_beside 2 = .ok (.idiv, 1) := by decide +kernel
theorem dX9_beside_3 : decode cX9_beside 3 = .ok (.iload_n 2, 1) := by decide +kernel
theorem dX9_beside_4 : decode cX9_beside 4 = .ok (.iconst 1, 1) := by decide +kernel
theorem dX9_beside_5 : decode cX9_beside 5 = .ok (.if_icmp .ne 7, 3) := by decide +kernel
theorem dX9_beside_8 : decode cX9_beside 8 = .ok (.iconst 1, 1) := by decide +kernel
theorem dX9_beside_9 : decode cX9_beside 9 = .ok (.goto 13, 3) := by decide +kernel
theorem dX9_beside_12 : decode cX9_beside 12 = .ok (.iload_n 2, 1) := by decide +kernel
theorem dX9_beside_13 : decode cX9_beside 13 = .ok (.iconst 3, 1) := by decide +kernel
theorem dX9_beside_14 : decode cX9_beside 14 = .ok (.if_icmp .ne 7, 3) := by decide +kernel
theorem dX9_beside_17 : decode cX9_beside 17 = .ok (.iconst (-1), 1) := by decide +kernel
theorem dX9_beside_18 : decode cX9_beside 18 = .ok (.goto 4, 3) := by decide +kernel
theorem dX9_beside_21 : decode cX9_beside 21 = .ok (.iconst 0, 1) := by decide +kernel
theorem dX9_beside_22 : decode cX9_beside 22 = .ok (.iadd, 1) := by decide +kernel
theorem dX9_beside_23 : decode cX9_beside 23 = .ok (.istore_n 3, 1) := by decide +kernel
theorem dX9_beside_24 : decode cX9_beside 24 = .ok (.iload_n 1, 1) := by decide +kernel
theorem dX9_beside_25 : decode cX9_beside 25 = .ok (.iconst 5, 1) := by decide +kernel
theorem dX9_beside_26 : decode cX9_beside 26 = .ok (.irem, 1) := by decide +kernel
theorem dX9_beside_27 : decode cX9_beside 27 = .ok (.iload_n 2, 1) := by decide +kernel
theorem dX9_beside_28 : decode cX9_beside 28 = .ok (.iconst 2, 1) := by decide +kernel
theorem dX9_beside_29 : decode cX9_beside 29 = .ok (.if_icmp .ne 7, 3) := by decide +kernel
theorem dX9_beside_32 : decode cX9_beside 32 = .ok (.iconst 1, 1) := by decide +kernel
theorem dX9_beside_33 : decode cX9_beside 33 = .ok (.goto 13, 3) := by decide +kernel
theorem dX9_beside_36 : decode cX9_beside 36 = .ok (.iload_n 2, 1) := by decide +kernel
theorem dX9_beside_37 : decode cX9_beside 37 = .ok (.iconst 4, 1) := by decide +kernel
theorem dX9_beside_38 : decode cX9_beside 38 = .ok (.if_icmp .ne 7, 3) := by decide +kernel
theorem dX9_beside_41 : decode cX9_beside 41 = .ok (.iconst (-1), 1) := by decide +kernel
theorem dX9_beside_42 : decode cX9_beside 42 = .ok (.goto 4, 3) := by decide +kernel
theorem dX9_beside_45 : decode cX9_beside 45 = .ok (.iconst 0, 1) := by decide +kernel
theorem dX9_beside_46 : decode cX9_beside 46 = .ok (.iadd, 1) := by decide +kernel
theorem dX9_beside_47 : decode cX9_beside 47 = .ok (.istore 4, 2) := by decide +kernel
theorem dX9_beside_49 : decode cX9_beside 49 = .ok (.iload_n 3, 1) := by decide +kernel
theorem dX9_beside_50 : decode cX9_beside 50 = .ok (.invokestatic 129, 3) := by decide +kernel
theorem dX9_beside_53 : decode cX9_beside 53 = .ok (.ifCond .eq 20, 3) := by decide +kernel
theorem dX9_beside_56 : decode cX9_beside 56 = .ok (.iload 4, 2) := by decide +kernel
theorem dX9_beside_58 : decode cX9_beside 58 = .ok (.invokestatic 129, 3) := by decide +kernel
theorem dX9_beside_61 : decode cX9_beside 61 = .ok (.ifCond .eq 12, 3) := by decide +kernel
theorem dX9_beside_64 : decode cX9_beside 64 = .ok (.iconst 5, 1) := by decide +kernel
theorem dX9_beside_65 : decode cX9_beside 65 = .ok (.iload_n 3, 1) := by decide +kernel
theorem dX9_beside_66 : decode cX9_beside 66 = .ok (.imul, 1) := by decide +kernel
theorem dX9_beside_67 : decode cX9_beside 67 = .ok (.iload 4, 2) := by decide +kernel
theorem dX9_beside_69 : decode cX9_beside 69 = .ok (.iadd, 1) := by decide +kernel
theorem dX9_beside_70 : decode cX9_beside 70 = .ok (.goto 5, 3) := by decide +kernel
theorem dX9_beside_73 : decode cX9_beside 73 = .ok (.bipush 25, 2) := by decide +kernel
theorem dX9_beside_75 : decode cX9_beside 75 = .ok (.ireturn, 1) := by decide +kernel
theorem dX9_stepFrom_0 : decode cX9_stepFrom 0 = .ok (.aload_n 0, 1) := by decide +kernel
theorem dX9_stepFrom_1 : decode cX9_stepFrom 1 = .ok (.iload_n 1, 1) := by decide +kernel
theorem dX9_stepFrom_2 : decode cX9_stepFrom 2 = .ok (.invokevirtual 126, 3) := by decide +kernel
theorem dX9_stepFrom_5 : decode cX9_stepFrom 5 = .ok (.ifCond .eq 7, 3) := by decide +kernel
theorem dX9_stepFrom_8 : decode cX9_stepFrom 8 = .ok (.iconst 0, 1) := by decide +kernel
theorem dX9_stepFrom_9 : decode cX9_stepFrom 9 = .ok (.goto 8, 3) := by decide +kernel
theorem dX9_stepFrom_12 : decode cX9_stepFrom 12 = .ok (.aload_n 0, 1) := by decide +kernel
theorem dX9_stepFrom_13 : decode cX9_stepFrom 13 = .ok (.iload_n 1, 1) := by decide +kernel
theorem dX9_stepFrom_14 : decode cX9_stepFrom 14 = .ok (.invokevirtual 123, 3) := by decide +kernel
theorem dX9_stepFrom_17 : decode cX9_stepFrom 17 = .ok (.istore_n 2, 1) := by decide +kernel
theorem dX9_stepFrom_18 : decode cX9_stepFrom 18 = .ok (.iload_n 2, 1) := by decide +kernel
theorem dX9_stepFrom_19 : decode cX9_stepFrom 19 = .ok (.ifCond .ne 5, 3) := by decide +kernel
theorem dX9_stepFrom_22 : decode cX9_stepFrom 22 = .ok (.iload_n 1, 1) := by decide +kernel
theorem dX9_stepFrom_23 : decode cX9_stepFrom 23 = .ok (.ireturn, 1) := by decide +kernel
theorem dX9_stepFrom_24 : decode cX9_stepFrom 24 = .ok (.aload_n 0, 1) := by decide +kernel
theorem dX9_stepFrom_25 : decode cX9_stepFrom 25 = .ok (.iload_n 1, 1) := by decide +kernel
theorem dX9_stepFrom_26 : decode cX9_stepFrom 26 = .ok (.iload_n 2, 1) := by decide +kernel
theorem dX9_stepFrom_27 : decode cX9_stepFrom 27 = .ok (.invokevirtual 367, 3) := by decide +kernel
theorem dX9_stepFrom_30 : decode cX9_stepFrom 30 = .ok (.istore_n 3, 1) := by decide +kernel
theorem dX9_stepFrom_31 : decode cX9_stepFrom 31 = .ok (.iload_n 3, 1) := by decide +kernel
theorem dX9_stepFrom_32 : decode cX9_stepFrom 32 = .ok (.bipush 25, 2) := by decide +kernel
theorem dX9_stepFrom_34 : decode cX9_stepFrom 34 = .ok (.if_icmp .eq 21, 3) := by decide +kernel
theorem dX9_stepFrom_37 : decode cX9_stepFrom 37 = .ok (.aload_n 0, 1) := by decide +kernel
theorem dX9_stepFrom_38 : decode cX9_stepFrom 38 = .ok (.getfield 28, 3) := by decide +kernel
theorem dX9_stepFrom_41 : decode cX9_stepFrom 41 = .ok (.bipush 30, 2) := by decide +kernel
theorem dX9_stepFrom_43 : decode cX9_stepFrom 43 = .ok (.iaload, 1) := by decide +kernel
theorem dX9_stepFrom_44 : decode cX9_stepFrom 44 = .ok (.iload_n 3, 1) := by decide +kernel
theorem dX9_stepFrom_45 : decode cX9_stepFrom 45 = .ok (.invokestatic 119, 3) := by decide +kernel
theorem dX9_stepFrom_48 : decode cX9_stepFrom 48 = .ok (.ifCond .eq 7, 3) := by decide +kernel
theorem dX9_stepFrom_51 : decode cX9_stepFrom 51 = .ok (.iload_n 1, 1) := by decide +kernel
theorem dX9_stepFrom_52 : decode cX9_stepFrom 52 = .ok (.goto 4, 3) := by decide +kernel
theorem dX9_stepFrom_55 : decode cX9_stepFrom 55 = .ok (.iload_n 3, 1) := by decide +kernel
theorem dX9_stepFrom_56 : decode cX9_stepFrom 56 = .ok (.ireturn, 1) := by decide +kernel
theorem dX9_laysSteps_0 : decode cX9_laysSteps 0 = .ok (.iconst 0, 1) := by decide +kernel
theorem dX9_laysSteps_1 : decode cX9_laysSteps 1 = .ok (.istore_n 1, 1) := by decide +kernel
theorem dX9_laysSteps_2 : decode cX9_laysSteps 2 = .ok (.iload_n 1, 1) := by decide +kernel
theorem dX9_laysSteps_3 : decode cX9_laysSteps 3 = .ok (.bipush 25, 2) := by decide +kernel
theorem dX9_laysSteps_5 : decode cX9_laysSteps 5 = .ok (.if_icmp .ge 20, 3) := by decide +kernel
theorem dX9_laysSteps_8 : decode cX9_laysSteps 8 = .ok (.aload_n 0, 1) := by decide +kernel
theorem dX9_laysSteps_9 : decode cX9_laysSteps 9 = .ok (.getfield 81, 3) := by decide +kernel
theorem dX9_laysSteps_12 : decode cX9_laysSteps 12 = .ok (.iload_n 1, 1) := by decide +kernel
theorem dX9_laysSteps_13 : decode cX9_laysSteps 13 = .ok (.aload_n 0, 1) := by decide +kernel
theorem dX9_laysSteps_14 : decode cX9_laysSteps 14 = .ok (.iload_n 1, 1) := by decide +kernel
theorem dX9_laysSteps_15 : decode cX9_laysSteps 15 = .ok (.invokevirtual 370, 3) := by decide +kernel
theorem dX9_laysSteps_18 : decode cX9_laysSteps 18 = .ok (.iastore, 1) := by decide +kernel
theorem dX9_laysSteps_19 : decode cX9_laysSteps 19 = .ok (.iinc 1 1, 3) := by decide +kernel
theorem dX9_laysSteps_22 : decode cX9_laysSteps 22 = .ok (.goto (-20), 3) := by decide +kernel
theorem dX9_laysSteps_25 : decode cX9_laysSteps 25 = .ok (.aload_n 0, 1) := by decide +kernel
theorem dX9_laysSteps_26 : decode cX9_laysSteps 26 = .ok (.getfield 81, 3) := by decide +kernel
theorem dX9_laysSteps_29 : decode cX9_laysSteps 29 = .ok (.bipush 25, 2) := by decide +kernel
theorem dX9_laysSteps_31 : decode cX9_laysSteps 31 = .ok (.bipush 25, 2) := by decide +kernel
theorem dX9_laysSteps_33 : decode cX9_laysSteps 33 = .ok (.iastore, 1) := by decide +kernel
theorem dX9_laysSteps_34 : decode cX9_laysSteps 34 = .ok (.return_, 1) := by decide +kernel
theorem dX9_behind_0 : decode cX9_behind 0 = .ok (.iload_n 1, 1) := by decide +kernel
theorem dX9_behind_1 : decode cX9_behind 1 = .ok (.istore_n 3, 1) := by decide +kernel
theorem dX9_behind_2 : decode cX9_behind 2 = .ok (.iconst 0, 1) := by decide +kernel
theorem dX9_behind_3 : decode cX9_behind 3 = .ok (.istore 4, 2) := by decide +kernel
theorem dX9_behind_5 : decode cX9_behind 5 = .ok (.iload 4, 2) := by decide +kernel
theorem dX9_behind_7 : decode cX9_behind 7 = .ok (.iload_n 2, 1) := by decide +kernel
theorem dX9_behind_8 : decode cX9_behind 8 = .ok (.if_icmp .ge 16, 3) := by decide +kernel
theorem dX9_behind_11 : decode cX9_behind 11 = .ok (.aload_n 0, 1) := by decide +kernel
theorem dX9_behind_12 : decode cX9_behind 12 = .ok (.getfield 81, 3) := by decide +kernel
theorem dX9_behind_15 : decode cX9_behind 15 = .ok (.iload_n 3, 1) := by decide +kernel
theorem dX9_behind_16 : decode cX9_behind 16 = .ok (.iaload, 1) := by decide +kernel
theorem dX9_behind_17 : decode cX9_behind 17 = .ok (.istore_n 3, 1) := by decide +kernel
theorem dX9_behind_18 : decode cX9_behind 18 = .ok (.iinc 4 1, 3) := by decide +kernel
theorem dX9_behind_21 : decode cX9_behind 21 = .ok (.goto (-16), 3) := by decide +kernel
theorem dX9_behind_24 : decode cX9_behind 24 = .ok (.iload_n 3, 1) := by decide +kernel
theorem dX9_behind_25 : decode cX9_behind 25 = .ok (.ireturn, 1) := by decide +kernel
theorem dX9_hound_0 : decode cX9_hound 0 = .ok (.iload_n 1, 1) := by decide +kernel
theorem dX9_hound_1 : decode cX9_hound 1 = .ok (.invokestatic 115, 3) := by decide +kernel
theorem dX9_hound_4 : decode cX9_hound 4 = .ok (.ifCond .eq 13, 3) := by decide +kernel
theorem dX9_hound_7 : decode cX9_hound 7 = .ok (.iload_n 2, 1) := by decide +kernel
theorem dX9_hound_8 : decode cX9_hound 8 = .ok (.iconst 0, 1) := by decide +kernel
theorem dX9_hound_9 : decode cX9_hound 9 = .ok (.bipush 99, 2) := by decide +kernel
theorem dX9_hound_11 : decode cX9_hound 11 = .ok (.invokestatic 18, 3) := by decide +kernel
theorem dX9_hound_14 : decode cX9_hound 14 = .ok (.ifCond .ne 5, 3) := by decide +kernel
theorem dX9_hound_17 : decode cX9_hound 17 = .ok (.iconst (-1), 1) := by decide +kernel
theorem dX9_hound_18 : decode cX9_hound 18 = .ok (.ireturn, 1) := by decide +kernel
theorem dX9_hound_19 : decode cX9_hound 19 = .ok (.aload_n 0, 1) := by decide +kernel
theorem dX9_hound_20 : decode cX9_hound 20 = .ok (.invokevirtual 373, 3) := by decide +kernel
theorem dX9_hound_23 : decode cX9_hound 23 = .ok (.aload_n 0, 1) := by decide +kernel
theorem dX9_hound_24 : decode cX9_hound 24 = .ok (.iload_n 1, 1) := by decide +kernel
theorem dX9_hound_25 : decode cX9_hound 25 = .ok (.iload_n 2, 1) := by decide +kernel
theorem dX9_hound_26 : decode cX9_hound 26 = .ok (.invokevirtual 376, 3) := by decide +kernel
theorem dX9_hound_29 : decode cX9_hound 29 = .ok (.ireturn, 1) := by decide +kernel
theorem dX9_ringOf_0 : decode cX9_ringOf 0 = .ok (.iconst 1, 1) := by decide +kernel
theorem dX9_ringOf_1 : decode cX9_ringOf 1 = .ok (.istore_n 2, 1) := by decide +kernel
theorem dX9_ringOf_2 : decode cX9_ringOf 2 = .ok (.aload_n 0, 1) := by decide +kernel
theorem dX9_ringOf_3 : decode cX9_ringOf 3 = .ok (.getfield 81, 3) := by decide +kernel
theorem dX9_ringOf_6 : decode cX9_ringOf 6 = .ok (.iload_n 1, 1) := by decide +kernel
theorem dX9_ringOf_7 : decode cX9_ringOf 7 = .ok (.iaload, 1) := by decide +kernel
theorem dX9_ringOf_8 : decode cX9_ringOf 8 = .ok (.istore_n 3, 1) := by decide +kernel
theorem dX9_ringOf_9 : decode cX9_ringOf 9 = .ok (.iload_n 3, 1) := by decide +kernel
theorem dX9_ringOf_10 : decode cX9_ringOf 10 = .ok (.iload_n 1, 1) := by decide +kernel
theorem dX9_ringOf_11 : decode cX9_ringOf 11 = .ok (.if_icmp .eq 22, 3) := by decide +kernel
theorem dX9_ringOf_14 : decode cX9_ringOf 14 = .ok (.iload_n 2, 1) := by decide +kernel
theorem dX9_ringOf_15 : decode cX9_ringOf 15 = .ok (.bipush 25, 2) := by decide +kernel
theorem dX9_ringOf_17 : decode cX9_ringOf 17 = .ok (.if_icmp .gt 16, 3) := by decide +kernel
theorem dX9_ringOf_20 : decode cX9_ringOf 20 = .ok (.iinc 2 1, 3) := by decide +kernel
theorem dX9_ringOf_23 : decode cX9_ringOf 23 = .ok (.aload_n 0, 1) := by decide +kernel
theorem dX9_ringOf_24 : decode cX9_ringOf 24 = .ok (.getfield 81, 3) := by decide +kernel
theorem dX9_ringOf_27 : decode cX9_ringOf 27 = .ok (.iload_n 3, 1) := by decide +kernel
theorem dX9_ringOf_28 : decode cX9_ringOf 28 = .ok (.iaload, 1) := by decide +kernel
theorem dX9_ringOf_29 : decode cX9_ringOf 29 = .ok (.istore_n 3, 1) := by decide +kernel
theorem dX9_ringOf_30 : decode cX9_ringOf 30 = .ok (.goto (-21), 3) := by decide +kernel
theorem dX9_ringOf_33 : decode cX9_ringOf 33 = .ok (.iload_n 2, 1) := by decide +kernel
theorem dX9_ringOf_34 : decode cX9_ringOf 34 = .ok (.ireturn, 1) := by decide +kernel
theorem dX9_isOnRing_0 : decode cX9_isOnRing 0 = .ok (.aload_n 0, 1) := by decide +kernel
theorem dX9_isOnRing_1 : decode cX9_isOnRing 1 = .ok (.iload_n 1, 1) := by decide +kernel
theorem dX9_isOnRing_2 : decode cX9_isOnRing 2 = .ok (.invokevirtual 379, 3) := by decide +kernel
theorem dX9_isOnRing_5 : decode cX9_isOnRing 5 = .ok (.bipush 25, 2) := by decide +kernel
theorem dX9_isOnRing_7 : decode cX9_isOnRing 7 = .ok (.if_icmp .gt 7, 3) := by decide +kernel
theorem dX9_isOnRing_10 : decode cX9_isOnRing 10 = .ok (.iconst 1, 1) := by decide +kernel
theorem dX9_isOnRing_11 : decode cX9_isOnRing 11 = .ok (.goto 4, 3) := by decide +kernel
theorem dX9_isOnRing_14 : decode cX9_isOnRing 14 = .ok (.iconst 0, 1) := by decide +kernel
theorem dX9_isOnRing_15 : decode cX9_isOnRing 15 = .ok (.ireturn, 1) := by decide +kernel
theorem dX9_ring_0 : decode cX9_ring 0 = .ok (.iload_n 1, 1) := by decide +kernel
theorem dX9_ring_1 : decode cX9_ring 1 = .ok (.invokestatic 115, 3) := by decide +kernel
theorem dX9_ring_4 : decode cX9_ring 4 = .ok (.ifCond .eq 12, 3) := by decide +kernel
theorem dX9_ring_7 : decode cX9_ring 7 = .ok (.iload_n 2, 1) := by decide +kernel
theorem dX9_ring_8 : decode cX9_ring 8 = .ok (.iconst 0, 1) := by decide +kernel
theorem dX9_ring_9 : decode cX9_ring 9 = .ok (.iconst 1, 1) := by decide +kernel
theorem dX9_ring_10 : decode cX9_ring 10 = .ok (.invokestatic 18, 3) := by decide +kernel
theorem dX9_ring_13 : decode cX9_ring 13 = .ok (.ifCond .ne 5, 3) := by decide +kernel
theorem dX9_ring_16 : decode cX9_ring 16 = .ok (.iconst (-1), 1) := by decide +kernel
theorem dX9_ring_17 : decode cX9_ring 17 = .ok (.ireturn, 1) := by decide +kernel
theorem dX9_ring_18 : decode cX9_ring 18 = .ok (.aload_n 0, 1) := by decide +kernel
theorem dX9_ring_19 : decode cX9_ring 19 = .ok (.invokevirtual 373, 3) := by decide +kernel
theorem dX9_ring_22 : decode cX9_ring 22 = .ok (.iload_n 1, 1) := by decide +kernel
theorem dX9_ring_23 : decode cX9_ring 23 = .ok (.istore_n 3, 1) := by decide +kernel
theorem dX9_ring_24 : decode cX9_ring 24 = .ok (.iconst 0, 1) := by decide +kernel
theorem dX9_ring_25 : decode cX9_ring 25 = .ok (.istore 4, 2) := by decide +kernel
theorem dX9_ring_27 : decode cX9_ring 27 = .ok (.aload_n 0, 1) := by decide +kernel
theorem dX9_ring_28 : decode cX9_ring 28 = .ok (.iload_n 3, 1) := by decide +kernel
theorem dX9_ring_29 : decode cX9_ring 29 = .ok (.invokevirtual 382, 3) := by decide +kernel
theorem dX9_ring_32 : decode cX9_ring 32 = .ok (.ifCond .ne 16, 3) := by decide +kernel
theorem dX9_ring_35 : decode cX9_ring 35 = .ok (.aload_n 0, 1) := by decide +kernel
theorem dX9_ring_36 : decode cX9_ring 36 = .ok (.getfield 81, 3) := by decide +kernel
theorem dX9_ring_39 : decode cX9_ring 39 = .ok (.iload_n 3, 1) := by decide +kernel
theorem dX9_ring_40 : decode cX9_ring 40 = .ok (.iaload, 1) := by decide +kernel
theorem dX9_ring_41 : decode cX9_ring 41 = .ok (.istore_n 3, 1) := by decide +kernel
theorem dX9_ring_42 : decode cX9_ring 42 = .ok (.iinc 4 1, 3) := by decide +kernel
theorem dX9_ring_45 : decode cX9_ring 45 = .ok (.goto (-18), 3) := by decide +kernel
theorem dX9_ring_48 : decode cX9_ring 48 = .ok (.iload_n 2, 1) := by decide +kernel
theorem dX9_ring_49 : decode cX9_ring 49 = .ok (.ifCond .ne 6, 3) := by decide +kernel
theorem dX9_ring_52 : decode cX9_ring 52 = .ok (.iload 4, 2) := by decide +kernel
theorem dX9_ring_54 : decode cX9_ring 54 = .ok (.ireturn, 1) := by decide +kernel
theorem dX9_ring_55 : decode cX9_ring 55 = .ok (.iload_n 3, 1) := by decide +kernel
theorem dX9_ring_56 : decode cX9_ring 56 = .ok (.bipush 25, 2) := by decide +kernel
theorem dX9_ring_58 : decode cX9_ring 58 = .ok (.if_icmp .ne 7, 3) := by decide +kernel
theorem dX9_ring_61 : decode cX9_ring 61 = .ok (.iconst 0, 1) := by decide +kernel
theorem dX9_ring_62 : decode cX9_ring 62 = .ok (.goto 8, 3) := by decide +kernel
theorem dX9_ring_65 : decode cX9_ring 65 = .ok (.aload_n 0, 1) := by decide +kernel
theorem dX9_ring_66 : decode cX9_ring 66 = .ok (.iload_n 3, 1) := by decide +kernel
theorem dX9_ring_67 : decode cX9_ring 67 = .ok (.invokevirtual 379, 3) := by decide +kernel
theorem dX9_ring_70 : decode cX9_ring 70 = .ok (.ireturn, 1) := by decide +kernel
theorem dX9_sources_0 : decode cX9_sources 0 = .ok (.iload_n 1, 1) := by decide +kernel
theorem dX9_sources_1 : decode cX9_sources 1 = .ok (.invokestatic 115, 3) := by decide +kernel
theorem dX9_sources_4 : decode cX9_sources 4 = .ok (.ifCond .ne 5, 3) := by decide +kernel
theorem dX9_sources_7 : decode cX9_sources 7 = .ok (.iconst (-1), 1) := by decide +kernel
theorem dX9_sources_8 : decode cX9_sources 8 = .ok (.ireturn, 1) := by decide +kernel
theorem dX9_sources_9 : decode cX9_sources 9 = .ok (.aload_n 0, 1) := by decide +kernel
theorem dX9_sources_10 : decode cX9_sources 10 = .ok (.invokevirtual 373, 3) := by decide +kernel
theorem dX9_sources_13 : decode cX9_sources 13 = .ok (.iconst 0, 1) := by decide +kernel
theorem dX9_sources_14 : decode cX9_sources 14 = .ok (.istore_n 2, 1) := by decide +kernel
theorem dX9_sources_15 : decode cX9_sources 15 = .ok (.iconst 0, 1) := by decide +kernel
theorem dX9_sources_16 : decode cX9_sources 16 = .ok (.istore_n 3, 1) := by decide +kernel
theorem dX9_sources_17 : decode cX9_sources 17 = .ok (.iload_n 3, 1) := by decide +kernel
theorem dX9_sources_18 : decode cX9_sources 18 = .ok (.bipush 25, 2) := by decide +kernel
theorem dX9_sources_20 : decode cX9_sources 20 = .ok (.if_icmp .ge 59, 3) := by decide +kernel
theorem dX9_sources_23 : decode cX9_sources 23 = .ok (.iload_n 3, 1) := by decide +kernel
theorem dX9_sources_24 : decode cX9_sources 24 = .ok (.istore 4, 2) := by decide +kernel
theorem dX9_sources_26 : decode cX9_sources 26 = .ok (.iconst 0, 1) := by decide +kernel
theorem dX9_sources_27 : decode cX9_sources 27 = .ok (.istore 5, 2) := by decide +kernel
theorem dX9_sources_29 : decode cX9_sources 29 = .ok (.iload 5, 2) := by decide +kernel
theorem dX9_sources_31 : decode cX9_sources 31 = .ok (.bipush 25, 2) := by decide +kernel
theorem dX9_sources_33 : decode cX9_sources 33 = .ok (.if_icmp .ge 24, 3) := by decide +kernel
theorem dX9_sources_36 : decode cX9_sources 36 = .ok (.iload 4, 2) := by decide +kernel
theorem dX9_sources_38 : decode cX9_sources 38 = .ok (.iload_n 1, 1) := by decide +kernel
theorem dX9_sources_39 : decode cX9_sources 39 = .ok (.if_icmp .eq 18, 3) := by decide +kernel
theorem dX9_sources_42 : decode cX9_sources 42 = .ok (.aload_n 0, 1) := by decide +kernel
theorem dX9_sources_43 : decode cX9_sources 43 = .ok (.getfield 81, 3) := by decide +kernel
theorem dX9_sources_46 : decode cX9_sources 46 = .ok (.iload 4, 2) := by decide +kernel
theorem dX9_sources_48 : decode cX9_sources 48 = .ok (.iaload, 1) := by decide +kernel
theorem dX9_sources_49 : decode cX9_sources 49 = .ok (.istore 4, 2) := by decide +kernel
theorem dX9_sources_51 : decode cX9_sources 51 = .ok (.iinc 5 1, 3) := by decide +kernel
theorem dX9_sources_54 : decode cX9_sources 54 = .ok (.goto (-25), 3) := by decide +kernel
theorem dX9_sources_57 : decode cX9_sources 57 = .ok (.iload_n 2, 1) := by decide +kernel
theorem dX9_sources_58 : decode cX9_sources 58 = .ok (.iload 4, 2) := by decide +kernel
theorem dX9_sources_60 : decode cX9_sources 60 = .ok (.iload_n 1, 1) := by decide +kernel
theorem dX9_sources_61 : decode cX9_sources 61 = .ok (.if_icmp .ne 9, 3) := by decide +kernel
theorem dX9_sources_64 : decode cX9_sources 64 = .ok (.iconst 1, 1) := by decide +kernel
theorem dX9_sources_65 : decode cX9_sources 65 = .ok (.iload_n 3, 1) := by decide +kernel
theorem dX9_sources_66 : decode cX9_sources 66 = .ok (.ishl, 1) := by decide +kernel
theorem dX9_sources_67 : decode cX9_sources 67 = .ok (.goto 4, 3) := by decide +kernel
theorem dX9_sources_70 : decode cX9_sources 70 = .ok (.iconst 0, 1) := by decide +kernel
theorem dX9_sources_71 : decode cX9_sources 71 = .ok (.ior, 1) := by decide +kernel
theorem dX9_sources_72 : decode cX9_sources 72 = .ok (.istore_n 2, 1) := by decide +kernel
theorem dX9_sources_73 : decode cX9_sources 73 = .ok (.iinc 3 1, 3) := by decide +kernel
theorem dX9_sources_76 : decode cX9_sources 76 = .ok (.goto (-59), 3) := by decide +kernel
theorem dX9_sources_79 : decode cX9_sources 79 = .ok (.iload_n 2, 1) := by decide +kernel
theorem dX9_sources_80 : decode cX9_sources 80 = .ok (.ireturn, 1) := by decide +kernel
theorem dX9_ringSet_0 : decode cX9_ringSet 0 = .ok (.iconst 1, 1) := by decide +kernel
theorem dX9_ringSet_1 : decode cX9_ringSet 1 = .ok (.iload_n 1, 1) := by decide +kernel
theorem dX9_ringSet_2 : decode cX9_ringSet 2 = .ok (.ishl, 1) := by decide +kernel
theorem dX9_ringSet_3 : decode cX9_ringSet 3 = .ok (.istore_n 2, 1) := by decide +kernel
theorem dX9_ringSet_4 : decode cX9_ringSet 4 = .ok (.aload_n 0, 1) := by decide +kernel
theorem dX9_ringSet_5 : decode cX9_ringSet 5 = .ok (.getfield 81, 3) := by decide +kernel
theorem dX9_ringSet_8 : decode cX9_ringSet 8 = .ok (.iload_n 1, 1) := by decide +kernel
theorem dX9_ringSet_9 : decode cX9_ringSet 9 = .ok (.iaload, 1) := by decide +kernel
theorem dX9_ringSet_10 : decode cX9_ringSet 10 = .ok (.istore_n 3, 1) := by decide +kernel
theorem dX9_ringSet_11 : decode cX9_ringSet 11 = .ok (.iload_n 3, 1) := by decide +kernel
theorem dX9_ringSet_12 : decode cX9_ringSet 12 = .ok (.iload_n 1, 1) := by decide +kernel
theorem dX9_ringSet_13 : decode cX9_ringSet 13 = .ok (.if_icmp .eq 19, 3) := by decide +kernel
theorem dX9_ringSet_16 : decode cX9_ringSet 16 = .ok (.iload_n 2, 1) := by decide +kernel
theorem dX9_ringSet_17 : decode cX9_ringSet 17 = .ok (.iconst 1, 1) := by decide +kernel
theorem dX9_ringSet_18 : decode cX9_ringSet 18 = .ok (.iload_n 3, 1) := by decide +kernel
theorem dX9_ringSet_19 : decode cX9_ringSet 19 = .ok (.ishl, 1) := by decide +kernel
theorem dX9_ringSet_20 : decode cX9_ringSet 20 = .ok (.ior, 1) := by decide +kernel
theorem dX9_ringSet_21 : decode cX9_ringSet 21 = .ok (.istore_n 2, 1) := by decide +kernel
theorem dX9_ringSet_22 : decode cX9_ringSet 22 = .ok (.aload_n 0, 1) := by decide +kernel
theorem dX9_ringSet_23 : decode cX9_ringSet 23 = .ok (.getfield 81, 3) := by decide +kernel
theorem dX9_ringSet_26 : decode cX9_ringSet 26 = .ok (.iload_n 3, 1) := by decide +kernel
theorem dX9_ringSet_27 : decode cX9_ringSet 27 = .ok (.iaload, 1) := by decide +kernel
theorem dX9_ringSet_28 : decode cX9_ringSet 28 = .ok (.istore_n 3, 1) := by decide +kernel
theorem dX9_ringSet_29 : decode cX9_ringSet 29 = .ok (.goto (-18), 3) := by decide +kernel
theorem dX9_ringSet_32 : decode cX9_ringSet 32 = .ok (.iload_n 2, 1) := by decide +kernel
theorem dX9_ringSet_33 : decode cX9_ringSet 33 = .ok (.ireturn, 1) := by decide +kernel
theorem dX9_isCast_0 : decode cX9_isCast 0 = .ok (.iconst 0, 1) := by decide +kernel
theorem dX9_isCast_1 : decode cX9_isCast 1 = .ok (.istore_n 2, 1) := by decide +kernel
theorem dX9_isCast_2 : decode cX9_isCast 2 = .ok (.iconst 0, 1) := by decide +kernel
theorem dX9_isCast_3 : decode cX9_isCast 3 = .ok (.istore_n 3, 1) := by decide +kernel
theorem dX9_isCast_4 : decode cX9_isCast 4 = .ok (.iload_n 3, 1) := by decide +kernel
theorem dX9_isCast_5 : decode cX9_isCast 5 = .ok (.bipush 25, 2) := by decide +kernel
theorem dX9_isCast_7 : decode cX9_isCast 7 = .ok (.if_icmp .ge 29, 3) := by decide +kernel
theorem dX9_isCast_10 : decode cX9_isCast 10 = .ok (.iload_n 2, 1) := by decide +kernel
theorem dX9_isCast_11 : decode cX9_isCast 11 = .ok (.aload_n 0, 1) := by decide +kernel
theorem dX9_isCast_12 : decode cX9_isCast 12 = .ok (.getfield 81, 3) := by decide +kernel
theorem dX9_isCast_15 : decode cX9_isCast 15 = .ok (.iload_n 3, 1) := by decide +kernel
theorem dX9_isCast_16 : decode cX9_isCast 16 = .ok (.iaload, 1) := by decide +kernel
theorem dX9_isCast_17 : decode cX9_isCast 17 = .ok (.iload_n 1, 1) := by decide +kernel
theorem dX9_isCast_18 : decode cX9_isCast 18 = .ok (.if_icmp .ne 9, 3) := by decide +kernel
theorem dX9_isCast_21 : decode cX9_isCast 21 = .ok (.iconst 1, 1) := by decide +kernel
theorem dX9_isCast_22 : decode cX9_isCast 22 = .ok (.iload_n 3, 1) := by decide +kernel
theorem dX9_isCast_23 : decode cX9_isCast 23 = .ok (.ishl, 1) := by decide +kernel
theorem dX9_isCast_24 : decode cX9_isCast 24 = .ok (.goto 4, 3) := by decide +kernel
theorem dX9_isCast_27 : decode cX9_isCast 27 = .ok (.iconst 0, 1) := by decide +kernel
theorem dX9_isCast_28 : decode cX9_isCast 28 = .ok (.ior, 1) := by decide +kernel
theorem dX9_isCast_29 : decode cX9_isCast 29 = .ok (.istore_n 2, 1) := by decide +kernel
theorem dX9_isCast_30 : decode cX9_isCast 30 = .ok (.iinc 3 1, 3) := by decide +kernel
theorem dX9_isCast_33 : decode cX9_isCast 33 = .ok (.goto (-29), 3) := by decide +kernel
theorem dX9_isCast_36 : decode cX9_isCast 36 = .ok (.iload_n 2, 1) := by decide +kernel
theorem dX9_isCast_37 : decode cX9_isCast 37 = .ok (.ifCond .ne 5, 3) := by decide +kernel
theorem dX9_isCast_40 : decode cX9_isCast 40 = .ok (.iconst 1, 1) := by decide +kernel
theorem dX9_isCast_41 : decode cX9_isCast 41 = .ok (.ireturn, 1) := by decide +kernel
theorem dX9_isCast_42 : decode cX9_isCast 42 = .ok (.aload_n 0, 1) := by decide +kernel
theorem dX9_isCast_43 : decode cX9_isCast 43 = .ok (.iload_n 1, 1) := by decide +kernel
theorem dX9_isCast_44 : decode cX9_isCast 44 = .ok (.invokevirtual 382, 3) := by decide +kernel
theorem dX9_isCast_47 : decode cX9_isCast 47 = .ok (.ifCond .ne 5, 3) := by decide +kernel
theorem dX9_isCast_50 : decode cX9_isCast 50 = .ok (.iconst 0, 1) := by decide +kernel
theorem dX9_isCast_51 : decode cX9_isCast 51 = .ok (.ireturn, 1) := by decide +kernel
theorem dX9_isCast_52 : decode cX9_isCast 52 = .ok (.aload_n 0, 1) := by decide +kernel
theorem dX9_isCast_53 : decode cX9_isCast 53 = .ok (.iload_n 1, 1) := by decide +kernel
theorem dX9_isCast_54 : decode cX9_isCast 54 = .ok (.invokevirtual 385, 3) := by decide +kernel
theorem dX9_isCast_57 : decode cX9_isCast 57 = .ok (.istore_n 3, 1) := by decide +kernel
theorem dX9_isCast_58 : decode cX9_isCast 58 = .ok (.iload_n 3, 1) := by decide +kernel
theorem dX9_isCast_59 : decode cX9_isCast 59 = .ok (.iload_n 3, 1) := by decide +kernel
theorem dX9_isCast_60 : decode cX9_isCast 60 = .ok (.ineg, 1) := by decide +kernel
theorem dX9_isCast_61 : decode cX9_isCast 61 = .ok (.iand, 1) := by decide +kernel
theorem dX9_isCast_62 : decode cX9_isCast 62 = .ok (.iconst 1, 1) := by decide +kernel
theorem dX9_isCast_63 : decode cX9_isCast 63 = .ok (.iload_n 1, 1) := by decide +kernel
theorem dX9_isCast_64 : decode cX9_isCast 64 = .ok (.ishl, 1) := by decide +kernel
theorem dX9_isCast_65 : decode cX9_isCast 65 = .ok (.if_icmp .eq 5, 3) := by decide +kernel
theorem dX9_isCast_68 : decode cX9_isCast 68 = .ok (.iconst 0, 1) := by decide +kernel
theorem dX9_isCast_69 : decode cX9_isCast 69 = .ok (.ireturn, 1) := by decide +kernel
theorem dX9_isCast_70 : decode cX9_isCast 70 = .ok (.iconst 0, 1) := by decide +kernel
theorem dX9_isCast_71 : decode cX9_isCast 71 = .ok (.istore 4, 2) := by decide +kernel
theorem dX9_isCast_73 : decode cX9_isCast 73 = .ok (.iload 4, 2) := by decide +kernel
theorem dX9_isCast_75 : decode cX9_isCast 75 = .ok (.bipush 25, 2) := by decide +kernel
theorem dX9_isCast_77 : decode cX9_isCast 77 = .ok (.if_icmp .ge 46, 3) := by decide +kernel
theorem dX9_isCast_80 : decode cX9_isCast 80 = .ok (.iload_n 3, 1) := by decide +kernel
theorem dX9_isCast_81 : decode cX9_isCast 81 = .ok (.iload 4, 2) := by decide +kernel
theorem dX9_isCast_83 : decode cX9_isCast 83 = .ok (.invokestatic 119, 3) := by decide +kernel
theorem dX9_isCast_86 : decode cX9_isCast 86 = .ok (.ifCond .ne 31, 3) := by decide +kernel
theorem dX9_isCast_89 : decode cX9_isCast 89 = .ok (.aload_n 0, 1) := by decide +kernel
theorem dX9_isCast_90 : decode cX9_isCast 90 = .ok (.getfield 81, 3) := by decide +kernel
theorem dX9_isCast_93 : decode cX9_isCast 93 = .ok (.iload 4, 2) := by decide +kernel
theorem dX9_isCast_95 : decode cX9_isCast 95 = .ok (.iaload, 1) := by decide +kernel
theorem dX9_isCast_96 : decode cX9_isCast 96 = .ok (.bipush 25, 2) := by decide +kernel
theorem dX9_isCast_98 : decode cX9_isCast 98 = .ok (.if_icmp .eq 19, 3) := by decide +kernel
theorem dX9_isCast_101 : decode cX9_isCast 101 = .ok (.iload_n 3, 1) := by decide +kernel
theorem dX9_isCast_102 : decode cX9_isCast 102 = .ok (.aload_n 0, 1) := by decide +kernel
theorem dX9_isCast_103 : decode cX9_isCast 103 = .ok (.getfield 81, 3) := by decide +kernel
theorem dX9_isCast_106 : decode cX9_isCast 106 = .ok (.iload 4, 2) := by decide +kernel
theorem dX9_isCast_108 : decode cX9_isCast 108 = .ok (.iaload, 1) := by decide +kernel
theorem dX9_isCast_109 : decode cX9_isCast 109 = .ok (.invokestatic 119, 3) := by decide +kernel
theorem dX9_isCast_112 : decode cX9_isCast 112 = .ok (.ifCond .eq 5, 3) := by decide +kernel
theorem dX9_isCast_115 : decode cX9_isCast 115 = .ok (.iconst 0, 1) := by decide +kernel
theorem dX9_isCast_116 : decode cX9_isCast 116 = .ok (.ireturn, 1) := by decide +kernel
theorem dX9_isCast_117 : decode cX9_isCast 117 = .ok (.iinc 4 1, 3) := by decide +kernel
theorem dX9_isCast_120 : decode cX9_isCast 120 = .ok (.goto (-47), 3) := by decide +kernel
theorem dX9_isCast_123 : decode cX9_isCast 123 = .ok (.iconst 1, 1) := by decide +kernel
theorem dX9_isCast_124 : decode cX9_isCast 124 = .ok (.ireturn, 1) := by decide +kernel
theorem dX9_casts_0 : decode cX9_casts 0 = .ok (.iload_n 1, 1) := by decide +kernel
theorem dX9_casts_1 : decode cX9_casts 1 = .ok (.iconst 0, 1) := by decide +kernel
theorem dX9_casts_2 : decode cX9_casts 2 = .ok (.iconst 1, 1) := by decide +kernel
theorem dX9_casts_3 : decode cX9_casts 3 = .ok (.invokestatic 18, 3) := by decide +kernel
theorem dX9_casts_6 : decode cX9_casts 6 = .ok (.ifCond .ne 5, 3) := by decide +kernel
theorem dX9_casts_9 : decode cX9_casts 9 = .ok (.iconst (-1), 1) := by decide +kernel
theorem dX9_casts_10 : decode cX9_casts 10 = .ok (.ireturn, 1) := by decide +kernel
theorem dX9_casts_11 : decode cX9_casts 11 = .ok (.aload_n 0, 1) := by decide +kernel
theorem dX9_casts_12 : decode cX9_casts 12 = .ok (.invokevirtual 373, 3) := by decide +kernel
theorem dX9_casts_15 : decode cX9_casts 15 = .ok (.iconst 0, 1) := by decide +kernel
theorem dX9_casts_16 : decode cX9_casts 16 = .ok (.istore_n 2, 1) := by decide +kernel
theorem dX9_casts_17 : decode cX9_casts 17 = .ok (.iconst 0, 1) := by decide +kernel
theorem dX9_casts_18 : decode cX9_casts 18 = .ok (.istore_n 3, 1) := by decide +kernel
theorem dX9_casts_19 : decode cX9_casts 19 = .ok (.iload_n 3, 1) := by decide +kernel
theorem dX9_casts_20 : decode cX9_casts 20 = .ok (.bipush 25, 2) := by decide +kernel
theorem dX9_casts_22 : decode cX9_casts 22 = .ok (.if_icmp .ge 27, 3) := by decide +kernel
theorem dX9_casts_25 : decode cX9_casts 25 = .ok (.iload_n 2, 1) := by decide +kernel
theorem dX9_casts_26 : decode cX9_casts 26 = .ok (.aload_n 0, 1) := by decide +kernel
theorem dX9_casts_27 : decode cX9_casts 27 = .ok (.iload_n 3, 1) := by decide +kernel
theorem dX9_casts_28 : decode cX9_casts 28 = .ok (.invokevirtual 388, 3) := by decide +kernel
theorem dX9_casts_31 : decode cX9_casts 31 = .ok (.ifCond .eq 9, 3) := by decide +kernel
theorem dX9_casts_34 : decode cX9_casts 34 = .ok (.iconst 1, 1) := by decide +kernel
theorem dX9_casts_35 : decode cX9_casts 35 = .ok (.iload_n 3, 1) := by decide +kernel
theorem dX9_casts_36 : decode cX9_casts 36 = .ok (.ishl, 1) := by decide +kernel
theorem dX9_casts_37 : decode cX9_casts 37 = .ok (.goto 4, 3) := by decide +kernel
theorem dX9_casts_40 : decode cX9_casts 40 = .ok (.iconst 0, 1) := by decide +kernel
theorem dX9_casts_41 : decode cX9_casts 41 = .ok (.ior, 1) := by decide +kernel
theorem dX9_casts_42 : decode cX9_casts 42 = .ok (.istore_n 2, 1) := by decide +kernel
theorem dX9_casts_43 : decode cX9_casts 43 = .ok (.iinc 3 1, 3) := by decide +kernel
theorem dX9_casts_46 : decode cX9_casts 46 = .ok (.goto (-27), 3) := by decide +kernel
theorem dX9_casts_49 : decode cX9_casts 49 = .ok (.iload_n 1, 1) := by decide +kernel
theorem dX9_casts_50 : decode cX9_casts 50 = .ok (.ifCond .ne 10, 3) := by decide +kernel
theorem dX9_casts_53 : decode cX9_casts 53 = .ok (.iload_n 2, 1) := by decide +kernel
theorem dX9_casts_54 : decode cX9_casts 54 = .ok (.invokestatic 349, 3) := by decide +kernel
theorem dX9_casts_57 : decode cX9_casts 57 = .ok (.goto 4, 3) := by decide +kernel
theorem dX9_casts_60 : decode cX9_casts 60 = .ok (.iload_n 2, 1) := by decide +kernel
theorem dX9_casts_61 : decode cX9_casts 61 = .ok (.ireturn, 1) := by decide +kernel
theorem dX9_seen_0 : decode cX9_seen 0 = .ok (.iload_n 1, 1) := by decide +kernel
theorem dX9_seen_1 : decode cX9_seen 1 = .ok (.invokestatic 115, 3) := by decide +kernel
theorem dX9_seen_4 : decode cX9_seen 4 = .ok (.ifCond .eq 23, 3) := by decide +kernel
theorem dX9_seen_7 : decode cX9_seen 7 = .ok (.iload_n 2, 1) := by decide +kernel
theorem dX9_seen_8 : decode cX9_seen 8 = .ok (.iconst 0, 1) := by decide +kernel
theorem dX9_seen_9 : decode cX9_seen 9 = .ok (.bipush 99, 2) := by decide +kernel
theorem dX9_seen_11 : decode cX9_seen 11 = .ok (.invokestatic 18, 3) := by decide +kernel
theorem dX9_seen_14 : decode cX9_seen 14 = .ok (.ifCond .eq 13, 3) := by decide +kernel
theorem dX9_seen_17 : decode cX9_seen 17 = .ok (.iload_n 3, 1) := by decide +kernel
theorem dX9_seen_18 : decode cX9_seen 18 = .ok (.iconst 0, 1) := by decide +kernel
theorem dX9_seen_19 : decode cX9_seen 19 = .ok (.bipush 25, 2) := by decide +kernel
theorem dX9_seen_21 : decode cX9_seen 21 = .ok (.invokestatic 18, 3) := by decide +kernel
theorem dX9_seen_24 : decode cX9_seen 24 = .ok (.ifCond .ne 9, 3) := by decide +kernel
theorem dX9_seen_27 : decode cX9_seen 27 = .ok (.aload_n 0, 1) := by decide +kernel
theorem dX9_seen_28 : decode cX9_seen 28 = .ok (.iconst (-1), 1) := by decide +kernel
theorem dX9_seen_29 : decode cX9_seen 29 = .ok (.invokevirtual 109, 3) := by decide +kernel
theorem dX9_seen_32 : decode cX9_seen 32 = .ok (.ireturn, 1) := by decide +kernel
theorem dX9_seen_33 : decode cX9_seen 33 = .ok (.bipush 47, 2) := by decide +kernel
theorem dX9_seen_35 : decode cX9_seen 35 = .ok (.iconst 3, 1) := by decide +kernel
theorem dX9_seen_36 : decode cX9_seen 36 = .ok (.aload_n 0, 1) := by decide +kernel
theorem dX9_seen_37 : decode cX9_seen 37 = .ok (.getfield 28, 3) := by decide +kernel
theorem dX9_seen_40 : decode cX9_seen 40 = .ok (.bipush 104, 2) := by decide +kernel
theorem dX9_seen_42 : decode cX9_seen 42 = .ok (.iaload, 1) := by decide +kernel
theorem dX9_seen_43 : decode cX9_seen 43 = .ok (.imul, 1) := by decide +kernel
theorem dX9_seen_44 : decode cX9_seen 44 = .ok (.iadd, 1) := by decide +kernel
theorem dX9_seen_45 : decode cX9_seen 45 = .ok (.istore 4, 2) := by decide +kernel
theorem dX9_seen_47 : decode cX9_seen 47 = .ok (.aload_n 0, 1) := by decide +kernel
theorem dX9_seen_48 : decode cX9_seen 48 = .ok (.getfield 28, 3) := by decide +kernel
theorem dX9_seen_51 : decode cX9_seen 51 = .ok (.bipush 104, 2) := by decide +kernel
theorem dX9_seen_53 : decode cX9_seen 53 = .ok (.iaload, 1) := by decide +kernel
theorem dX9_seen_54 : decode cX9_seen 54 = .ok (.bipush 8, 2) := by decide +kernel
theorem dX9_seen_56 : decode cX9_seen 56 = .ok (.if_icmp .ne 10, 3) := by decide +kernel
theorem dX9_seen_59 : decode cX9_seen 59 = .ok (.aload_n 0, 1) := by decide +kernel
theorem dX9_seen_60 : decode cX9_seen 60 = .ok (.bipush (-5), 2) := by decide +kernel
theorem dX9_seen_62 : decode cX9_seen 62 = .ok (.invokevirtual 109, 3) := by decide +kernel
theorem dX9_seen_65 : decode cX9_seen 65 = .ok (.ireturn, 1) := by decide +kernel
theorem dX9_seen_66 : decode cX9_seen 66 = .ok (.aload_n 0, 1) := by decide +kernel
theorem dX9_seen_67 : decode cX9_seen 67 = .ok (.getfield 28, 3) := by decide +kernel
theorem dX9_seen_70 : decode cX9_seen 70 = .ok (.iload 4, 2) := by decide +kernel
theorem dX9_seen_72 : decode cX9_seen 72 = .ok (.iload_n 1, 1) := by decide +kernel
theorem dX9_seen_73 : decode cX9_seen 73 = .ok (.iastore, 1) := by decide +kernel
theorem dX9_seen_74 : decode cX9_seen 74 = .ok (.aload_n 0, 1) := by decide +kernel
theorem dX9_seen_75 : decode cX9_seen 75 = .ok (.getfield 28, 3) := by decide +kernel
theorem dX9_seen_78 : decode cX9_seen 78 = .ok (.iload 4, 2) := by decide +kernel
theorem dX9_seen_80 : decode cX9_seen 80 = .ok (.iconst 1, 1) := by decide +kernel
theorem dX9_seen_81 : decode cX9_seen 81 = .ok (.iadd, 1) := by decide +kernel
theorem dX9_seen_82 : decode cX9_seen 82 = .ok (.iload_n 2, 1) := by decide +kernel
theorem dX9_seen_83 : decode cX9_seen 83 = .ok (.iastore, 1) := by decide +kernel
theorem dX9_seen_84 : decode cX9_seen 84 = .ok (.aload_n 0, 1) := by decide +kernel
theorem dX9_seen_85 : decode cX9_seen 85 = .ok (.getfield 28, 3) := by decide +kernel
theorem dX9_seen_88 : decode cX9_seen 88 = .ok (.iload 4, 2) := by decide +kernel
theorem dX9_seen_90 : decode cX9_seen 90 = .ok (.iconst 2, 1) := by decide +kernel
theorem dX9_seen_91 : decode cX9_seen 91 = .ok (.iadd, 1) := by decide +kernel
theorem dX9_seen_92 : decode cX9_seen 92 = .ok (.iload_n 3, 1) := by decide +kernel
theorem dX9_seen_93 : decode cX9_seen 93 = .ok (.iastore, 1) := by decide +kernel
theorem dX9_seen_94 : decode cX9_seen 94 = .ok (.aload_n 0, 1) := by decide +kernel
theorem dX9_seen_95 : decode cX9_seen 95 = .ok (.getfield 28, 3) := by decide +kernel
theorem dX9_seen_98 : decode cX9_seen 98 = .ok (.bipush 104, 2) := by decide +kernel
theorem dX9_seen_100 : decode cX9_seen 100 = .ok (.dup2, 1) := by decide +kernel
theorem dX9_seen_101 : decode cX9_seen 101 = .ok (.iaload, 1) := by decide +kernel
theorem dX9_seen_102 : decode cX9_seen 102 = .ok (.iconst 1, 1) := by decide +kernel
theorem dX9_seen_103 : decode cX9_seen 103 = .ok (.iadd, 1) := by decide +kernel
theorem dX9_seen_104 : decode cX9_seen 104 = .ok (.iastore, 1) := by decide +kernel
theorem dX9_seen_105 : decode cX9_seen 105 = .ok (.aload_n 0, 1) := by decide +kernel
theorem dX9_seen_106 : decode cX9_seen 106 = .ok (.aload_n 0, 1) := by decide +kernel
theorem dX9_seen_107 : decode cX9_seen 107 = .ok (.getfield 28, 3) := by decide +kernel
theorem dX9_seen_110 : decode cX9_seen 110 = .ok (.bipush 104, 2) := by decide +kernel
theorem dX9_seen_112 : decode cX9_seen 112 = .ok (.iaload, 1) := by decide +kernel
theorem dX9_seen_113 : decode cX9_seen 113 = .ok (.invokevirtual 14, 3) := by decide +kernel
theorem dX9_seen_116 : decode cX9_seen 116 = .ok (.ireturn, 1) := by decide +kernel
theorem dX9_isAllSo_0 : decode cX9_isAllSo 0 = .ok (.iconst 1, 1) := by decide +kernel
theorem dX9_isAllSo_1 : decode cX9_isAllSo 1 = .ok (.istore_n 1, 1) := by decide +kernel
theorem dX9_isAllSo_2 : decode cX9_isAllSo 2 = .ok (.iconst 0, 1) := by decide +kernel
theorem dX9_isAllSo_3 : decode cX9_isAllSo 3 = .ok (.istore_n 2, 1) := by decide +kernel
theorem dX9_isAllSo_4 : decode cX9_isAllSo 4 = .ok (.iload_n 2, 1) := by decide +kernel
theorem dX9_isAllSo_5 : decode cX9_isAllSo 5 = .ok (.aload_n 0, 1) := by decide +kernel
theorem dX9_isAllSo_6 : decode cX9_isAllSo 6 = .ok (.getfield 28, 3) := by decide +kernel
theorem dX9_isAllSo_9 : decode cX9_isAllSo 9 = .ok (.bipush 104, 2) := by decide +kernel
theorem dX9_isAllSo_11 : decode cX9_isAllSo 11 = .ok (.iaload, 1) := by decide +kernel
theorem dX9_isAllSo_12 : decode cX9_isAllSo 12 = .ok (.if_icmp .ge 63, 3) := by decide +kernel
theorem dX9_isAllSo_15 : decode cX9_isAllSo 15 = .ok (.iload_n 1, 1) := by decide +kernel
theorem dX9_isAllSo_16 : decode cX9_isAllSo 16 = .ok (.ifCond .eq 59, 3) := by decide +kernel
theorem dX9_isAllSo_19 : decode cX9_isAllSo 19 = .ok (.aload_n 0, 1) := by decide +kernel
theorem dX9_isAllSo_20 : decode cX9_isAllSo 20 = .ok (.aload_n 0, 1) := by decide +kernel
theorem dX9_isAllSo_21 : decode cX9_isAllSo 21 = .ok (.getfield 28, 3) := by decide +kernel
theorem dX9_isAllSo_24 : decode cX9_isAllSo 24 = .ok (.bipush 47, 2) := by decide +kernel
theorem dX9_isAllSo_26 : decode cX9_isAllSo 26 = .ok (.iconst 3, 1) := by decide +kernel
theorem dX9_isAllSo_27 : decode cX9_isAllSo 27 = .ok (.iload_n 2, 1) := by decide +kernel
theorem dX9_isAllSo_28 : decode cX9_isAllSo 28 = .ok (.imul, 1) := by decide +kernel
theorem dX9_isAllSo_29 : decode cX9_isAllSo 29 = .ok (.iadd, 1) := by decide +kernel
theorem dX9_isAllSo_30 : decode cX9_isAllSo 30 = .ok (.iaload, 1) := by decide +kernel
theorem dX9_isAllSo_31 : decode cX9_isAllSo 31 = .ok (.aload_n 0, 1) := by decide +kernel
theorem dX9_isAllSo_32 : decode cX9_isAllSo 32 = .ok (.getfield 28, 3) := by decide +kernel
theorem dX9_isAllSo_35 : decode cX9_isAllSo 35 = .ok (.bipush 47, 2) := by decide +kernel
theorem dX9_isAllSo_37 : decode cX9_isAllSo 37 = .ok (.iconst 3, 1) := by decide +kernel
theorem dX9_isAllSo_38 : decode cX9_isAllSo 38 = .ok (.iload_n 2, 1) := by decide +kernel
theorem dX9_isAllSo_39 : decode cX9_isAllSo 39 = .ok (.imul, 1) := by decide +kernel
theorem dX9_isAllSo_40 : decode cX9_isAllSo 40 = .ok (.iadd, 1) := by decide +kernel
theorem dX9_isAllSo_41 : decode cX9_isAllSo 41 = .ok (.iconst 1, 1) := by decide +kernel
theorem dX9_isAllSo_42 : decode cX9_isAllSo 42 = .ok (.iadd, 1) := by decide +kernel
theorem dX9_isAllSo_43 : decode cX9_isAllSo 43 = .ok (.iaload, 1) := by decide +kernel
theorem dX9_isAllSo_44 : decode cX9_isAllSo 44 = .ok (.invokevirtual 376, 3) := by decide +kernel
theorem dX9_isAllSo_47 : decode cX9_isAllSo 47 = .ok (.aload_n 0, 1) := by decide +kernel
theorem dX9_isAllSo_48 : decode cX9_isAllSo 48 = .ok (.getfield 28, 3) := by decide +kernel
theorem dX9_isAllSo_51 : decode cX9_isAllSo 51 = .ok (.bipush 47, 2) := by decide +kernel
theorem dX9_isAllSo_53 : decode cX9_isAllSo 53 = .ok (.iconst 3, 1) := by decide +kernel
theorem dX9_isAllSo_54 : decode cX9_isAllSo 54 = .ok (.iload_n 2, 1) := by decide +kernel
theorem dX9_isAllSo_55 : decode cX9_isAllSo 55 = .ok (.imul, 1) := by decide +kernel
theorem dX9_isAllSo_56 : decode cX9_isAllSo 56 = .ok (.iadd, 1) := by decide +kernel
theorem dX9_isAllSo_57 : decode cX9_isAllSo 57 = .ok (.iconst 2, 1) := by decide +kernel
theorem dX9_isAllSo_58 : decode cX9_isAllSo 58 = .ok (.iadd, 1) := by decide +kernel
theorem dX9_isAllSo_59 : decode cX9_isAllSo 59 = .ok (.iaload, 1) := by decide +kernel
theorem dX9_isAllSo_60 : decode cX9_isAllSo 60 = .ok (.if_icmp .ne 7, 3) := by decide +kernel
theorem dX9_isAllSo_63 : decode cX9_isAllSo 63 = .ok (.iconst 1, 1) := by decide +kernel
theorem dX9_isAllSo_64 : decode cX9_isAllSo 64 = .ok (.goto 4, 3) := by decide +kernel
theorem dX9_isAllSo_67 : decode cX9_isAllSo 67 = .ok (.iconst 0, 1) := by decide +kernel
theorem dX9_isAllSo_68 : decode cX9_isAllSo 68 = .ok (.istore_n 1, 1) := by decide +kernel
theorem dX9_isAllSo_69 : decode cX9_isAllSo 69 = .ok (.iinc 2 1, 3) := by decide +kernel
theorem dX9_isAllSo_72 : decode cX9_isAllSo 72 = .ok (.goto (-68), 3) := by decide +kernel
theorem dX9_isAllSo_75 : decode cX9_isAllSo 75 = .ok (.iload_n 1, 1) := by decide +kernel
theorem dX9_isAllSo_76 : decode cX9_isAllSo 76 = .ok (.ireturn, 1) := by decide +kernel
theorem dX9_fits_0 : decode cX9_fits 0 = .ok (.aload_n 0, 1) := by decide +kernel
theorem dX9_fits_1 : decode cX9_fits 1 = .ok (.getfield 28, 3) := by decide +kernel
theorem dX9_fits_4 : decode cX9_fits 4 = .ok (.bipush 107, 2) := by decide +kernel
theorem dX9_fits_6 : decode cX9_fits 6 = .ok (.iaload, 1) := by decide +kernel
theorem dX9_fits_7 : decode cX9_fits 7 = .ok (.istore_n 1, 1) := by decide +kernel
theorem dX9_fits_8 : decode cX9_fits 8 = .ok (.iconst 0, 1) := by decide +kernel
theorem dX9_fits_9 : decode cX9_fits 9 = .ok (.istore_n 2, 1) := by decide +kernel
theorem dX9_fits_10 : decode cX9_fits 10 = .ok (.iconst 0, 1) := by decide +kernel
theorem dX9_fits_11 : decode cX9_fits 11 = .ok (.istore_n 3, 1) := by decide +kernel
theorem dX9_fits_12 : decode cX9_fits 12 = .ok (.iload_n 3, 1) := by decide +kernel
theorem dX9_fits_13 : decode cX9_fits 13 = .ok (.aload_n 0, 1) := by decide +kernel
theorem dX9_fits_14 : decode cX9_fits 14 = .ok (.getfield 28, 3) := by decide +kernel
theorem dX9_fits_17 : decode cX9_fits 17 = .ok (.bipush 106, 2) := by decide +kernel
theorem dX9_fits_19 : decode cX9_fits 19 = .ok (.iaload, 1) := by decide +kernel
theorem dX9_fits_20 : decode cX9_fits 20 = .ok (.if_icmp .ge 38, 3) := by decide +kernel
theorem dX9_fits_23 : decode cX9_fits 23 = .ok (.aload_n 0, 1) := by decide +kernel
theorem dX9_fits_24 : decode cX9_fits 24 = .ok (.getfield 28, 3) := by decide +kernel
theorem dX9_fits_27 : decode cX9_fits 27 = .ok (.bipush 107, 2) := by decide +kernel
theorem dX9_fits_29 : decode cX9_fits 29 = .ok (.iload_n 3, 1) := by decide +kernel
theorem dX9_fits_30 : decode cX9_fits 30 = .ok (.iastore, 1) := by decide +kernel
theorem dX9_fits_31 : decode cX9_fits 31 = .ok (.aload_n 0, 1) := by decide +kernel
theorem dX9_fits_32 : decode cX9_fits 32 = .ok (.invokevirtual 373, 3) := by decide +kernel
theorem dX9_fits_35 : decode cX9_fits 35 = .ok (.iload_n 2, 1) := by decide +kernel
theorem dX9_fits_36 : decode cX9_fits 36 = .ok (.aload_n 0, 1) := by decide +kernel
theorem dX9_fits_37 : decode cX9_fits 37 = .ok (.invokevirtual 391, 3) := by decide +kernel
theorem dX9_fits_40 : decode cX9_fits 40 = .ok (.ifCond .eq 9, 3) := by decide +kernel
theorem dX9_fits_43 : decode cX9_fits 43 = .ok (.iconst 1, 1) := by decide +kernel
theorem dX9_fits_44 : decode cX9_fits 44 = .ok (.iload_n 3, 1) := by decide +kernel
theorem dX9_fits_45 : decode cX9_fits 45 = .ok (.ishl, 1) := by decide +kernel
theorem dX9_fits_46 : decode cX9_fits 46 = .ok (.goto 4, 3) := by decide +kernel
theorem dX9_fits_49 : decode cX9_fits 49 = .ok (.iconst 0, 1) := by decide +kernel
theorem dX9_fits_50 : decode cX9_fits 50 = .ok (.ior, 1) := by decide +kernel
theorem dX9_fits_51 : decode cX9_fits 51 = .ok (.istore_n 2, 1) := by decide +kernel
theorem dX9_fits_52 : decode cX9_fits 52 = .ok (.iinc 3 1, 3) := by decide +kernel
theorem dX9_fits_55 : decode cX9_fits 55 = .ok (.goto (-43), 3) := by decide +kernel
theorem dX9_fits_58 : decode cX9_fits 58 = .ok (.aload_n 0, 1) := by decide +kernel
theorem dX9_fits_59 : decode cX9_fits 59 = .ok (.getfield 28, 3) := by decide +kernel
theorem dX9_fits_62 : decode cX9_fits 62 = .ok (.bipush 107, 2) := by decide +kernel
theorem dX9_fits_64 : decode cX9_fits 64 = .ok (.iload_n 1, 1) := by decide +kernel
theorem dX9_fits_65 : decode cX9_fits 65 = .ok (.iastore, 1) := by decide +kernel
theorem dX9_fits_66 : decode cX9_fits 66 = .ok (.iload_n 2, 1) := by decide +kernel
theorem dX9_fits_67 : decode cX9_fits 67 = .ok (.ireturn, 1) := by decide +kernel
theorem dX9_laysEnds_0 : decode cX9_laysEnds 0 = .ok (.aload_n 0, 1) := by decide +kernel
theorem dX9_laysEnds_1 : decode cX9_laysEnds 1 = .ok (.getfield 28, 3) := by decide +kernel
theorem dX9_laysEnds_4 : decode cX9_laysEnds 4 = .ok (.bipush 107, 2) := by decide +kernel
theorem dX9_laysEnds_6 : decode cX9_laysEnds 6 = .ok (.iaload, 1) := by decide +kernel
theorem dX9_laysEnds_7 : decode cX9_laysEnds 7 = .ok (.istore_n 2, 1) := by decide +kernel
theorem dX9_laysEnds_8 : decode cX9_laysEnds 8 = .ok (.iconst 0, 1) := by decide +kernel
theorem dX9_laysEnds_9 : decode cX9_laysEnds 9 = .ok (.istore_n 3, 1) := by decide +kernel
theorem dX9_laysEnds_10 : decode cX9_laysEnds 10 = .ok (.iload_n 3, 1) := by decide +kernel
theorem dX9_laysEnds_11 : decode cX9_laysEnds 11 = .ok (.aload_n 0, 1) := by decide +kernel
theorem dX9_laysEnds_12 : decode cX9_laysEnds 12 = .ok (.getfield 28, 3) := by decide +kernel
theorem dX9_laysEnds_15 : decode cX9_laysEnds 15 = .ok (.bipush 106, 2) := by decide +kernel
theorem dX9_laysEnds_17 : decode cX9_laysEnds 17 = .ok (.iaload, 1) := by decide +kernel
theorem dX9_laysEnds_18 : decode cX9_laysEnds 18 = .ok (.if_icmp .ge 56, 3) := by decide +kernel
theorem dX9_laysEnds_21 : decode cX9_laysEnds 21 = .ok (.aload_n 0, 1) := by decide +kernel
theorem dX9_laysEnds_22 : decode cX9_laysEnds 22 = .ok (.getfield 28, 3) := by decide +kernel
theorem dX9_laysEnds_25 : decode cX9_laysEnds 25 = .ok (.bipush 107, 2) := by decide +kernel
theorem dX9_laysEnds_27 : decode cX9_laysEnds 27 = .ok (.iload_n 3, 1) := by decide +kernel
theorem dX9_laysEnds_28 : decode cX9_laysEnds 28 = .ok (.iastore, 1) := by decide +kernel
theorem dX9_laysEnds_29 : decode cX9_laysEnds 29 = .ok (.aload_n 0, 1) := by decide +kernel
theorem dX9_laysEnds_30 : decode cX9_laysEnds 30 = .ok (.invokevirtual 373, 3) := by decide +kernel
theorem dX9_laysEnds_33 : decode cX9_laysEnds 33 = .ok (.iconst 0, 1) := by decide +kernel
theorem dX9_laysEnds_34 : decode cX9_laysEnds 34 = .ok (.istore 4, 2) := by decide +kernel
theorem dX9_laysEnds_36 : decode cX9_laysEnds 36 = .ok (.iload 4, 2) := by decide +kernel
theorem dX9_laysEnds_38 : decode cX9_laysEnds 38 = .ok (.bipush 25, 2) := by decide +kernel
theorem dX9_laysEnds_40 : decode cX9_laysEnds 40 = .ok (.if_icmp .ge 28, 3) := by decide +kernel
theorem dX9_laysEnds_43 : decode cX9_laysEnds 43 = .ok (.aload_n 0, 1) := by decide +kernel
theorem dX9_laysEnds_44 : decode cX9_laysEnds 44 = .ok (.getfield 84, 3) := by decide +kernel
theorem dX9_laysEnds_47 : decode cX9_laysEnds 47 = .ok (.bipush 25, 2) := by decide +kernel
theorem dX9_laysEnds_49 : decode cX9_laysEnds 49 = .ok (.iload_n 3, 1) := by decide +kernel
theorem dX9_laysEnds_50 : decode cX9_laysEnds 50 = .ok (.imul, 1) := by decide +kernel
theorem dX9_laysEnds_51 : decode cX9_laysEnds 51 = .ok (.iload 4, 2) := by decide +kernel
theorem dX9_laysEnds_53 : decode cX9_laysEnds 53 = .ok (.iadd, 1) := by decide +kernel
theorem dX9_laysEnds_54 : decode cX9_laysEnds 54 = .ok (.aload_n 0, 1) := by decide +kernel
theorem dX9_laysEnds_55 : decode cX9_laysEnds 55 = .ok (.iload 4, 2) := by decide +kernel
theorem dX9_laysEnds_57 : decode cX9_laysEnds 57 = .ok (.iload_n 1, 1) := by decide +kernel
theorem dX9_laysEnds_58 : decode cX9_laysEnds 58 = .ok (.invokevirtual 376, 3) := by decide +kernel
theorem dX9_laysEnds_61 : decode cX9_laysEnds 61 = .ok (.iastore, 1) := by decide +kernel
theorem dX9_laysEnds_62 : decode cX9_laysEnds 62 = .ok (.iinc 4 1, 3) := by decide +kernel
theorem dX9_laysEnds_65 : decode cX9_laysEnds 65 = .ok (.goto (-29), 3) := by decide +kernel
theorem dX9_laysEnds_68 : decode cX9_laysEnds 68 = .ok (.iinc 3 1, 3) := by decide +kernel
theorem dX9_laysEnds_71 : decode cX9_laysEnds 71 = .ok (.goto (-61), 3) := by decide +kernel
theorem dX9_laysEnds_74 : decode cX9_laysEnds 74 = .ok (.aload_n 0, 1) := by decide +kernel
theorem dX9_laysEnds_75 : decode cX9_laysEnds 75 = .ok (.getfield 28, 3) := by decide +kernel
theorem dX9_laysEnds_78 : decode cX9_laysEnds 78 = .ok (.bipush 107, 2) := by decide +kernel
theorem dX9_laysEnds_80 : decode cX9_laysEnds 80 = .ok (.iload_n 2, 1) := by decide +kernel
theorem dX9_laysEnds_81 : decode cX9_laysEnds 81 = .ok (.iastore, 1) := by decide +kernel
theorem dX9_laysEnds_82 : decode cX9_laysEnds 82 = .ok (.return_, 1) := by decide +kernel
theorem dX9_mostAlike_0 : decode cX9_mostAlike 0 = .ok (.iconst 0, 1) := by decide +kernel
theorem dX9_mostAlike_1 : decode cX9_mostAlike 1 = .ok (.istore_n 3, 1) := by decide +kernel
theorem dX9_mostAlike_2 : decode cX9_mostAlike 2 = .ok (.iload_n 3, 1) := by decide +kernel
theorem dX9_mostAlike_3 : decode cX9_mostAlike 3 = .ok (.bipush 25, 2) := by decide +kernel
theorem dX9_mostAlike_5 : decode cX9_mostAlike 5 = .ok (.if_icmp .gt 16, 3) := by decide +kernel
theorem dX9_mostAlike_8 : decode cX9_mostAlike 8 = .ok (.aload_n 0, 1) := by decide +kernel
theorem dX9_mostAlike_9 : decode cX9_mostAlike 9 = .ok (.getfield 87, 3) := by decide +kernel
theorem dX9_mostAlike_12 : decode cX9_mostAlike 12 = .ok (.iload_n 3, 1) := by decide +kernel
theorem dX9_mostAlike_13 : decode cX9_mostAlike 13 = .ok (.iconst 0, 1) := by decide +kernel
theorem dX9_mostAlike_14 : decode cX9_mostAlike 14 = .ok (.iastore, 1) := by decide +kernel
theorem dX9_mostAlike_15 : decode cX9_mostAlike 15 = .ok (.iinc 3 1, 3) := by decide +kernel
theorem dX9_mostAlike_18 : decode cX9_mostAlike 18 = .ok (.goto (-16), 3) := by decide +kernel
theorem dX9_mostAlike_21 : decode cX9_mostAlike 21 = .ok (.iconst 0, 1) := by decide +kernel
theorem dX9_mostAlike_22 : decode cX9_mostAlike 22 = .ok (.istore_n 3, 1) := by decide +kernel
theorem dX9_mostAlike_23 : decode cX9_mostAlike 23 = .ok (.iconst 0, 1) := by decide +kernel
theorem dX9_mostAlike_24 : decode cX9_mostAlike 24 = .ok (.istore 4, 2) := by decide +kernel
theorem dX9_mostAlike_26 : decode cX9_mostAlike 26 = .ok (.iload 4, 2) := by decide +kernel
theorem dX9_mostAlike_28 : decode cX9_mostAlike 28 = .ok (.aload_n 0, 1) := by decide +kernel
theorem dX9_mostAlike_29 : decode cX9_mostAlike 29 = .ok (.getfield 28, 3) := by decide +kernel
theorem dX9_mostAlike_32 : decode cX9_mostAlike 32 = .ok (.bipush 106, 2) := by decide +kernel
theorem dX9_mostAlike_34 : decode cX9_mostAlike 34 = .ok (.iaload, 1) := by decide +kernel
theorem dX9_mostAlike_35 : decode cX9_mostAlike 35 = .ok (.if_icmp .ge 58, 3) := by decide +kernel
theorem dX9_mostAlike_38 : decode cX9_mostAlike 38 = .ok (.iload_n 1, 1) := by decide +kernel
theorem dX9_mostAlike_39 : decode cX9_mostAlike 39 = .ok (.iload 4, 2) := by decide +kernel
theorem dX9_mostAlike_41 : decode cX9_mostAlike 41 = .ok (.invokestatic 119, 3) := by decide +kernel
theorem dX9_mostAlike_44 : decode cX9_mostAlike 44 = .ok (.ifCond .ne 6, 3) := by decide +kernel
theorem dX9_mostAlike_47 : decode cX9_mostAlike 47 = .ok (.goto 40, 3) := by decide +kernel
theorem dX9_mostAlike_50 : decode cX9_mostAlike 50 = .ok (.aload_n 0, 1) := by decide +kernel
theorem dX9_mostAlike_51 : decode cX9_mostAlike 51 = .ok (.getfield 84, 3) := by decide +kernel
theorem dX9_mostAlike_54 : decode cX9_mostAlike 54 = .ok (.bipush 25, 2) := by decide +kernel
theorem dX9_mostAlike_56 : decode cX9_mostAlike 56 = .ok (.iload 4, 2) := by decide +kernel
theorem dX9_mostAlike_58 : decode cX9_mostAlike 58 = .ok (.imul, 1) := by decide +kernel
theorem dX9_mostAlike_59 : decode cX9_mostAlike 59 = .ok (.iload_n 2, 1) := by decide +kernel
theorem dX9_mostAlike_60 : decode cX9_mostAlike 60 = .ok (.iadd, 1) := by decide +kernel
theorem dX9_mostAlike_61 : decode cX9_mostAlike 61 = .ok (.iaload, 1) := by decide +kernel
theorem dX9_mostAlike_62 : decode cX9_mostAlike 62 = .ok (.istore 5, 2) := by decide +kernel
theorem dX9_mostAlike_64 : decode cX9_mostAlike 64 = .ok (.aload_n 0, 1) := by decide +kernel
theorem dX9_mostAlike_65 : decode cX9_mostAlike 65 = .ok (.getfield 87, 3) := by decide +kernel
theorem dX9_mostAlike_68 : decode cX9_mostAlike 68 = .ok (.iload 5, 2) := by decide +kernel
theorem dX9_mostAlike_70 : decode cX9_mostAlike 70 = .ok (.dup2, 1) := by decide +kernel
theorem dX9_mostAlike_71 : decode cX9_mostAlike 71 = .ok (.iaload, 1) := by decide +kernel
theorem dX9_mostAlike_72 : decode cX9_mostAlike 72 = .ok (.iconst 1, 1) := by decide +kernel
theorem dX9_mostAlike_73 : decode cX9_mostAlike 73 = .ok (.iadd, 1) := by decide +kernel
theorem dX9_mostAlike_74 : decode cX9_mostAlike 74 = .ok (.iastore, 1) := by decide +kernel
theorem dX9_mostAlike_75 : decode cX9_mostAlike 75 = .ok (.iload_n 3, 1) := by decide +kernel
theorem dX9_mostAlike_76 : decode cX9_mostAlike 76 = .ok (.aload_n 0, 1) := by decide +kernel
theorem dX9_mostAlike_77 : decode cX9_mostAlike 77 = .ok (.getfield 87, 3) := by decide +kernel
theorem dX9_mostAlike_80 : decode cX9_mostAlike 80 = .ok (.iload 5, 2) := by decide +kernel
theorem dX9_mostAlike_82 : decode cX9_mostAlike 82 = .ok (.iaload, 1) := by decide +kernel
theorem dX9_mostAlike_83 : decode cX9_mostAlike 83 = .ok (.invokestatic 394, 3) := by decide +kernel
theorem dX9_mostAlike_86 : decode cX9_mostAlike 86 = .ok (.istore_n 3, 1) := by decide +kernel
theorem dX9_mostAlike_87 : decode cX9_mostAlike 87 = .ok (.iinc 4 1, 3) := by decide +kernel
theorem dX9_mostAlike_90 : decode cX9_mostAlike 90 = .ok (.goto (-64), 3) := by decide +kernel
theorem dX9_mostAlike_93 : decode cX9_mostAlike 93 = .ok (.iload_n 3, 1) := by decide +kernel
theorem dX9_mostAlike_94 : decode cX9_mostAlike 94 = .ok (.ireturn, 1) := by decide +kernel
theorem dX9_next_0 : decode cX9_next 0 = .ok (.iload_n 1, 1) := by decide +kernel
theorem dX9_next_1 : decode cX9_next 1 = .ok (.iconst 0, 1) := by decide +kernel
theorem dX9_next_2 : decode cX9_next 2 = .ok (.bipush 99, 2) := by decide +kernel
theorem dX9_next_4 : decode cX9_next 4 = .ok (.invokestatic 18, 3) := by decide +kernel
theorem dX9_next_7 : decode cX9_next 7 = .ok (.ifCond .eq 12, 3) := by decide +kernel
theorem dX9_next_10 : decode cX9_next 10 = .ok (.iload_n 2, 1) := by decide +kernel
theorem dX9_next_11 : decode cX9_next 11 = .ok (.iconst 0, 1) := by decide +kernel
theorem dX9_next_12 : decode cX9_next 12 = .ok (.iconst 1, 1) := by decide +kernel
theorem dX9_next_13 : decode cX9_next 13 = .ok (.invokestatic 18, 3) := by decide +kernel
theorem dX9_next_16 : decode cX9_next 16 = .ok (.ifCond .ne 5, 3) := by decide +kernel
theorem dX9_next_19 : decode cX9_next 19 = .ok (.iconst (-1), 1) := by decide +kernel
theorem dX9_next_20 : decode cX9_next 20 = .ok (.ireturn, 1) := by decide +kernel
theorem dX9_next_21 : decode cX9_next 21 = .ok (.aload_n 0, 1) := by decide +kernel
theorem dX9_next_22 : decode cX9_next 22 = .ok (.invokevirtual 397, 3) := by decide +kernel
theorem dX9_next_25 : decode cX9_next 25 = .ok (.istore_n 3, 1) := by decide +kernel
theorem dX9_next_26 : decode cX9_next 26 = .ok (.iload_n 3, 1) := by decide +kernel
theorem dX9_next_27 : decode cX9_next 27 = .ok (.ifCond .ne 5, 3) := by decide +kernel
theorem dX9_next_30 : decode cX9_next 30 = .ok (.iconst (-1), 1) := by decide +kernel
theorem dX9_next_31 : decode cX9_next 31 = .ok (.ireturn, 1) := by decide +kernel
theorem dX9_next_32 : decode cX9_next 32 = .ok (.aload_n 0, 1) := by decide +kernel
theorem dX9_next_33 : decode cX9_next 33 = .ok (.iload_n 1, 1) := by decide +kernel
