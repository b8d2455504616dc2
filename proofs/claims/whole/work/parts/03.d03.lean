theorem dX8_runOrders_143 : decode cX8_runOrders 143 = .ok (.getfield 75, 3) := by decide +kernel
theorem dX8_runOrders_146 : decode cX8_runOrders 146 = .ok (.iconst 0, 1) := by decide +kernel
theorem dX8_runOrders_147 : decode cX8_runOrders 147 = .ok (.invokevirtual 349, 3) := by decide +kernel
theorem dX8_runOrders_150 : decode cX8_runOrders 150 = .ok (.istore 10, 2) := by decide +kernel
theorem dX8_runOrders_152 : decode cX8_runOrders 152 = .ok (.aload_n 0, 1) := by decide +kernel
theorem dX8_runOrders_153 : decode cX8_runOrders 153 = .ok (.iload 5, 2) := by decide +kernel
theorem dX8_runOrders_155 : decode cX8_runOrders 155 = .ok (.iload 8, 2) := by decide +kernel
theorem dX8_runOrders_157 : decode cX8_runOrders 157 = .ok (.iload 9, 2) := by decide +kernel
theorem dX8_runOrders_159 : decode cX8_runOrders 159 = .ok (.iload 10, 2) := by decide +kernel
theorem dX8_runOrders_161 : decode cX8_runOrders 161 = .ok (.invokevirtual 197, 3) := by decide +kernel
theorem dX8_runOrders_164 : decode cX8_runOrders 164 = .ok (.istore 11, 2) := by decide +kernel
theorem dX8_runOrders_166 : decode cX8_runOrders 166 = .ok (.iload 11, 2) := by decide +kernel
theorem dX8_runOrders_168 : decode cX8_runOrders 168 = .ok (.ifCond .ge 12, 3) := by decide +kernel
theorem dX8_runOrders_171 : decode cX8_runOrders 171 = .ok (.aload_n 0, 1) := by decide +kernel
theorem dX8_runOrders_172 : decode cX8_runOrders 172 = .ok (.iload 4, 2) := by decide +kernel
theorem dX8_runOrders_174 : decode cX8_runOrders 174 = .ok (.putfield 85, 3) := by decide +kernel
theorem dX8_runOrders_177 : decode cX8_runOrders 177 = .ok (.bipush (-3), 2) := by decide +kernel
theorem dX8_runOrders_179 : decode cX8_runOrders 179 = .ok (.ireturn, 1) := by decide +kernel
theorem dX8_runOrders_180 : decode cX8_runOrders 180 = .ok (.iinc 2 1, 3) := by decide +kernel
theorem dX8_runOrders_183 : decode cX8_runOrders 183 = .ok (.iload 5, 2) := by decide +kernel
theorem dX8_runOrders_185 : decode cX8_runOrders 185 = .ok (.ifCond .ne 8, 3) := by decide +kernel
theorem dX8_runOrders_188 : decode cX8_runOrders 188 = .ok (.iload 11, 2) := by decide +kernel
theorem dX8_runOrders_190 : decode cX8_runOrders 190 = .ok (.goto 4, 3) := by decide +kernel
theorem dX8_runOrders_193 : decode cX8_runOrders 193 = .ok (.iload_n 3, 1) := by decide +kernel
theorem dX8_runOrders_194 : decode cX8_runOrders 194 = .ok (.istore_n 3, 1) := by decide +kernel
theorem dX8_runOrders_195 : decode cX8_runOrders 195 = .ok (.iinc 7 1, 3) := by decide +kernel
theorem dX8_runOrders_198 : decode cX8_runOrders 198 = .ok (.goto (-163), 3) := by decide +kernel
theorem dX8_runOrders_201 : decode cX8_runOrders 201 = .ok (.iinc 4 1, 3) := by decide +kernel
theorem dX8_runOrders_204 : decode cX8_runOrders 204 = .ok (.goto (-197), 3) := by decide +kernel
theorem dX8_runOrders_207 : decode cX8_runOrders 207 = .ok (.iload_n 2, 1) := by decide +kernel
theorem dX8_runOrders_208 : decode cX8_runOrders 208 = .ok (.ireturn, 1) := by decide +kernel
theorem dX8_fillOrderWorths_0 : decode cX8_fillOrderWorths 0 = .ok (.aload_n 0, 1) := by decide +kernel
theorem dX8_fillOrderWorths_1 : decode cX8_fillOrderWorths 1 = .ok (.getfield 75, 3) := by decide +kernel
theorem dX8_fillOrderWorths_4 : decode cX8_fillOrderWorths 4 = .ok (.iconst 0, 1) := by decide +kernel
theorem dX8_fillOrderWorths_5 : decode cX8_fillOrderWorths 5 = .ok (.aload_n 0, 1) := by decide +kernel
theorem dX8_fillOrderWorths_6 : decode cX8_fillOrderWorths 6 = .ok (.getfield 12, 3) := by decide +kernel
theorem dX8_fillOrderWorths_9 : decode cX8_fillOrderWorths 9 = .ok (.getfield 156, 3) := by decide +kernel
theorem dX8_fillOrderWorths_12 : decode cX8_fillOrderWorths 12 = .ok (.iconst 0, 1) := by decide +kernel
theorem dX8_fillOrderWorths_13 : decode cX8_fillOrderWorths 13 = .ok (.iaload, 1) := by decide +kernel
theorem dX8_fillOrderWorths_14 : decode cX8_fillOrderWorths 14 = .ok (.iastore, 1) := by decide +kernel
theorem dX8_fillOrderWorths_15 : decode cX8_fillOrderWorths 15 = .ok (.aload_n 0, 1) := by decide +kernel
theorem dX8_fillOrderWorths_16 : decode cX8_fillOrderWorths 16 = .ok (.getfield 75, 3) := by decide +kernel
theorem dX8_fillOrderWorths_19 : decode cX8_fillOrderWorths 19 = .ok (.iconst 1, 1) := by decide +kernel
theorem dX8_fillOrderWorths_20 : decode cX8_fillOrderWorths 20 = .ok (.iload_n 1, 1) := by decide +kernel
theorem dX8_fillOrderWorths_21 : decode cX8_fillOrderWorths 21 = .ok (.iastore, 1) := by decide +kernel
theorem dX8_fillOrderWorths_22 : decode cX8_fillOrderWorths 22 = .ok (.aload_n 0, 1) := by decide +kernel
theorem dX8_fillOrderWorths_23 : decode cX8_fillOrderWorths 23 = .ok (.getfield 75, 3) := by decide +kernel
theorem dX8_fillOrderWorths_26 : decode cX8_fillOrderWorths 26 = .ok (.iconst 2, 1) := by decide +kernel
theorem dX8_fillOrderWorths_27 : decode cX8_fillOrderWorths 27 = .ok (.iload_n 2, 1) := by decide +kernel
theorem dX8_fillOrderWorths_28 : decode cX8_fillOrderWorths 28 = .ok (.iastore, 1) := by decide +kernel
theorem dX8_fillOrderWorths_29 : decode cX8_fillOrderWorths 29 = .ok (.aload_n 0, 1) := by decide +kernel
theorem dX8_fillOrderWorths_30 : decode cX8_fillOrderWorths 30 = .ok (.getfield 12, 3) := by decide +kernel
theorem dX8_fillOrderWorths_33 : decode cX8_fillOrderWorths 33 = .ok (.getfield 101, 3) := by decide +kernel
theorem dX8_fillOrderWorths_36 : decode cX8_fillOrderWorths 36 = .ok (.iconst 0, 1) := by decide +kernel
theorem dX8_fillOrderWorths_37 : decode cX8_fillOrderWorths 37 = .ok (.aload_n 0, 1) := by decide +kernel
theorem dX8_fillOrderWorths_38 : decode cX8_fillOrderWorths 38 = .ok (.getfield 75, 3) := by decide +kernel
theorem dX8_fillOrderWorths_41 : decode cX8_fillOrderWorths 41 = .ok (.iconst 3, 1) := by decide +kernel
theorem dX8_fillOrderWorths_42 : decode cX8_fillOrderWorths 42 = .ok (.bipush 25, 2) := by decide +kernel
theorem dX8_fillOrderWorths_44 : decode cX8_fillOrderWorths 44 = .ok (.invokestatic 356, 3) := by decide +kernel
theorem dX8_fillOrderWorths_47 : decode cX8_fillOrderWorths 47 = .ok (.iconst 0, 1) := by decide +kernel
theorem dX8_fillOrderWorths_48 : decode cX8_fillOrderWorths 48 = .ok (.istore_n 3, 1) := by decide +kernel
theorem dX8_fillOrderWorths_49 : decode cX8_fillOrderWorths 49 = .ok (.iload_n 3, 1) := by decide +kernel
theorem dX8_fillOrderWorths_50 : decode cX8_fillOrderWorths 50 = .ok (.iconst 5, 1) := by decide +kernel
theorem dX8_fillOrderWorths_51 : decode cX8_fillOrderWorths 51 = .ok (.if_icmp .ge 45, 3) := by decide +kernel
theorem dX8_fillOrderWorths_54 : decode cX8_fillOrderWorths 54 = .ok (.aload_n 0, 1) := by decide +kernel
theorem dX8_fillOrderWorths_55 : decode cX8_fillOrderWorths 55 = .ok (.getfield 75, 3) := by decide +kernel
theorem dX8_fillOrderWorths_58 : decode cX8_fillOrderWorths 58 = .ok (.bipush 28, 2) := by decide +kernel
theorem dX8_fillOrderWorths_60 : decode cX8_fillOrderWorths 60 = .ok (.iload_n 3, 1) := by decide +kernel
theorem dX8_fillOrderWorths_61 : decode cX8_fillOrderWorths 61 = .ok (.iadd, 1) := by decide +kernel
theorem dX8_fillOrderWorths_62 : decode cX8_fillOrderWorths 62 = .ok (.aload_n 0, 1) := by decide +kernel
theorem dX8_fillOrderWorths_63 : decode cX8_fillOrderWorths 63 = .ok (.getfield 12, 3) := by decide +kernel
theorem dX8_fillOrderWorths_66 : decode cX8_fillOrderWorths 66 = .ok (.iconst 0, 1) := by decide +kernel
theorem dX8_fillOrderWorths_67 : decode cX8_fillOrderWorths 67 = .ok (.iload_n 3, 1) := by decide +kernel
theorem dX8_fillOrderWorths_68 : decode cX8_fillOrderWorths 68 = .ok (.invokevirtual 133, 3) := by decide +kernel
theorem dX8_fillOrderWorths_71 : decode cX8_fillOrderWorths 71 = .ok (.iastore, 1) := by decide +kernel
theorem dX8_fillOrderWorths_72 : decode cX8_fillOrderWorths 72 = .ok (.aload_n 0, 1) := by decide +kernel
theorem dX8_fillOrderWorths_73 : decode cX8_fillOrderWorths 73 = .ok (.getfield 75, 3) := by decide +kernel
theorem dX8_fillOrderWorths_76 : decode cX8_fillOrderWorths 76 = .ok (.bipush 33, 2) := by decide +kernel
theorem dX8_fillOrderWorths_78 : decode cX8_fillOrderWorths 78 = .ok (.iload_n 3, 1) := by decide +kernel
theorem dX8_fillOrderWorths_79 : decode cX8_fillOrderWorths 79 = .ok (.iadd, 1) := by decide +kernel
theorem dX8_fillOrderWorths_80 : decode cX8_fillOrderWorths 80 = .ok (.aload_n 0, 1) := by decide +kernel
theorem dX8_fillOrderWorths_81 : decode cX8_fillOrderWorths 81 = .ok (.getfield 12, 3) := by decide +kernel
theorem dX8_fillOrderWorths_84 : decode cX8_fillOrderWorths 84 = .ok (.iconst 1, 1) := by decide +kernel
theorem dX8_fillOrderWorths_85 : decode cX8_fillOrderWorths 85 = .ok (.iload_n 3, 1) := by decide +kernel
theorem dX8_fillOrderWorths_86 : decode cX8_fillOrderWorths 86 = .ok (.invokevirtual 133, 3) := by decide +kernel
theorem dX8_fillOrderWorths_89 : decode cX8_fillOrderWorths 89 = .ok (.iastore, 1) := by decide +kernel
theorem dX8_fillOrderWorths_90 : decode cX8_fillOrderWorths 90 = .ok (.iinc 3 1, 3) := by decide +kernel
theorem dX8_fillOrderWorths_93 : decode cX8_fillOrderWorths 93 = .ok (.goto (-44), 3) := by decide +kernel
theorem dX8_fillOrderWorths_96 : decode cX8_fillOrderWorths 96 = .ok (.iconst 0, 1) := by decide +kernel
theorem dX8_fillOrderWorths_97 : decode cX8_fillOrderWorths 97 = .ok (.istore_n 3, 1) := by decide +kernel
theorem dX8_fillOrderWorths_98 : decode cX8_fillOrderWorths 98 = .ok (.iload_n 3, 1) := by decide +kernel
theorem dX8_fillOrderWorths_99 : decode cX8_fillOrderWorths 99 = .ok (.iconst 5, 1) := by decide +kernel
theorem dX8_fillOrderWorths_100 : decode cX8_fillOrderWorths 100 = .ok (.if_icmp .ge 26, 3) := by decide +kernel
theorem dX8_fillOrderWorths_103 : decode cX8_fillOrderWorths 103 = .ok (.aload_n 0, 1) := by decide +kernel
theorem dX8_fillOrderWorths_104 : decode cX8_fillOrderWorths 104 = .ok (.getfield 75, 3) := by decide +kernel
theorem dX8_fillOrderWorths_107 : decode cX8_fillOrderWorths 107 = .ok (.bipush 38, 2) := by decide +kernel
theorem dX8_fillOrderWorths_109 : decode cX8_fillOrderWorths 109 = .ok (.iload_n 3, 1) := by decide +kernel
theorem dX8_fillOrderWorths_110 : decode cX8_fillOrderWorths 110 = .ok (.iadd, 1) := by decide +kernel
theorem dX8_fillOrderWorths_111 : decode cX8_fillOrderWorths 111 = .ok (.aload_n 0, 1) := by decide +kernel
theorem dX8_fillOrderWorths_112 : decode cX8_fillOrderWorths 112 = .ok (.getfield 12, 3) := by decide +kernel
theorem dX8_fillOrderWorths_115 : decode cX8_fillOrderWorths 115 = .ok (.iload_n 3, 1) := by decide +kernel
theorem dX8_fillOrderWorths_116 : decode cX8_fillOrderWorths 116 = .ok (.invokevirtual 150, 3) := by decide +kernel
theorem dX8_fillOrderWorths_119 : decode cX8_fillOrderWorths 119 = .ok (.iastore, 1) := by decide +kernel
theorem dX8_fillOrderWorths_120 : decode cX8_fillOrderWorths 120 = .ok (.iinc 3 1, 3) := by decide +kernel
theorem dX8_fillOrderWorths_123 : decode cX8_fillOrderWorths 123 = .ok (.goto (-25), 3) := by decide +kernel
theorem dX8_fillOrderWorths_126 : decode cX8_fillOrderWorths 126 = .ok (.return_, 1) := by decide +kernel
theorem dX8_runWeeks_0 : decode cX8_runWeeks 0 = .ok (.iload_n 1, 1) := by decide +kernel
theorem dX8_runWeeks_1 : decode cX8_runWeeks 1 = .ok (.istore_n 3, 1) := by decide +kernel
theorem dX8_runWeeks_2 : decode cX8_runWeeks 2 = .ok (.iconst 0, 1) := by decide +kernel
theorem dX8_runWeeks_3 : decode cX8_runWeeks 3 = .ok (.istore 4, 2) := by decide +kernel
theorem dX8_runWeeks_5 : decode cX8_runWeeks 5 = .ok (.iconst 0, 1) := by decide +kernel
theorem dX8_runWeeks_6 : decode cX8_runWeeks 6 = .ok (.istore 5, 2) := by decide +kernel
theorem dX8_runWeeks_8 : decode cX8_runWeeks 8 = .ok (.iload 5, 2) := by decide +kernel
theorem dX8_runWeeks_10 : decode cX8_runWeeks 10 = .ok (.iload_n 2, 1) := by decide +kernel
theorem dX8_runWeeks_11 : decode cX8_runWeeks 11 = .ok (.if_icmp .ge 85, 3) := by decide +kernel
theorem dX8_runWeeks_14 : decode cX8_runWeeks 14 = .ok (.aload_n 0, 1) := by decide +kernel
theorem dX8_runWeeks_15 : decode cX8_runWeeks 15 = .ok (.getfield 23, 3) := by decide +kernel
theorem dX8_runWeeks_18 : decode cX8_runWeeks 18 = .ok (.getfield 156, 3) := by decide +kernel
theorem dX8_runWeeks_21 : decode cX8_runWeeks 21 = .ok (.iconst 0, 1) := by decide +kernel
theorem dX8_runWeeks_22 : decode cX8_runWeeks 22 = .ok (.iaload, 1) := by decide +kernel
theorem dX8_runWeeks_23 : decode cX8_runWeeks 23 = .ok (.sipush 999, 3) := by decide +kernel
theorem dX8_runWeeks_26 : decode cX8_runWeeks 26 = .ok (.if_icmp .ge 70, 3) := by decide +kernel
theorem dX8_runWeeks_29 : decode cX8_runWeeks 29 = .ok (.iload_n 3, 1) := by decide +kernel
theorem dX8_runWeeks_30 : decode cX8_runWeeks 30 = .ok (.invokestatic 362, 3) := by decide +kernel
theorem dX8_runWeeks_33 : decode cX8_runWeeks 33 = .ok (.istore_n 3, 1) := by decide +kernel
theorem dX8_runWeeks_34 : decode cX8_runWeeks 34 = .ok (.iload_n 3, 1) := by decide +kernel
theorem dX8_runWeeks_35 : decode cX8_runWeeks 35 = .ok (.iconst 1, 1) := by decide +kernel
theorem dX8_runWeeks_36 : decode cX8_runWeeks 36 = .ok (.aload_n 0, 1) := by decide +kernel
theorem dX8_runWeeks_37 : decode cX8_runWeeks 37 = .ok (.getfield 23, 3) := by decide +kernel
theorem dX8_runWeeks_40 : decode cX8_runWeeks 40 = .ok (.getfield 138, 3) := by decide +kernel
theorem dX8_runWeeks_43 : decode cX8_runWeeks 43 = .ok (.invokestatic 309, 3) := by decide +kernel
theorem dX8_runWeeks_46 : decode cX8_runWeeks 46 = .ok (.irem, 1) := by decide +kernel
theorem dX8_runWeeks_47 : decode cX8_runWeeks 47 = .ok (.istore 6, 2) := by decide +kernel
theorem dX8_runWeeks_49 : decode cX8_runWeeks 49 = .ok (.iload_n 3, 1) := by decide +kernel
theorem dX8_runWeeks_50 : decode cX8_runWeeks 50 = .ok (.invokestatic 362, 3) := by decide +kernel
theorem dX8_runWeeks_53 : decode cX8_runWeeks 53 = .ok (.istore_n 3, 1) := by decide +kernel
theorem dX8_runWeeks_54 : decode cX8_runWeeks 54 = .ok (.iload 4, 2) := by decide +kernel
theorem dX8_runWeeks_56 : decode cX8_runWeeks 56 = .ok (.iconst 0, 1) := by decide +kernel
theorem dX8_runWeeks_57 : decode cX8_runWeeks 57 = .ok (.aload_n 0, 1) := by decide +kernel
theorem dX8_runWeeks_58 : decode cX8_runWeeks 58 = .ok (.aload_n 0, 1) := by decide +kernel
theorem dX8_runWeeks_59 : decode cX8_runWeeks 59 = .ok (.getfield 23, 3) := by decide +kernel
theorem dX8_runWeeks_62 : decode cX8_runWeeks 62 = .ok (.iload_n 3, 1) := by decide +kernel
theorem dX8_runWeeks_63 : decode cX8_runWeeks 63 = .ok (.bipush 25, 2) := by decide +kernel
theorem dX8_runWeeks_65 : decode cX8_runWeeks 65 = .ok (.irem, 1) := by decide +kernel
theorem dX8_runWeeks_66 : decode cX8_runWeeks 66 = .ok (.iload 6, 2) := by decide +kernel
theorem dX8_runWeeks_68 : decode cX8_runWeeks 68 = .ok (.invokevirtual 312, 3) := by decide +kernel
theorem dX8_runWeeks_71 : decode cX8_runWeeks 71 = .ok (.invokestatic 309, 3) := by decide +kernel
theorem dX8_runWeeks_74 : decode cX8_runWeeks 74 = .ok (.iadd, 1) := by decide +kernel
theorem dX8_runWeeks_75 : decode cX8_runWeeks 75 = .ok (.istore 4, 2) := by decide +kernel
theorem dX8_runWeeks_77 : decode cX8_runWeeks 77 = .ok (.aload_n 0, 1) := by decide +kernel
theorem dX8_runWeeks_78 : decode cX8_runWeeks 78 = .ok (.getfield 23, 3) := by decide +kernel
theorem dX8_runWeeks_81 : decode cX8_runWeeks 81 = .ok (.getfield 156, 3) := by decide +kernel
theorem dX8_runWeeks_84 : decode cX8_runWeeks 84 = .ok (.iconst 0, 1) := by decide +kernel
theorem dX8_runWeeks_85 : decode cX8_runWeeks 85 = .ok (.dup2, 1) := by decide +kernel
theorem dX8_runWeeks_86 : decode cX8_runWeeks 86 = .ok (.iaload, 1) := by decide +kernel
theorem dX8_runWeeks_87 : decode cX8_runWeeks 87 = .ok (.iconst 1, 1) := by decide +kernel
theorem dX8_runWeeks_88 : decode cX8_runWeeks 88 = .ok (.iadd, 1) := by decide +kernel
theorem dX8_runWeeks_89 : decode cX8_runWeeks 89 = .ok (.iastore, 1) := by decide +kernel
theorem dX8_runWeeks_90 : decode cX8_runWeeks 90 = .ok (.iinc 5 1, 3) := by decide +kernel
theorem dX8_runWeeks_93 : decode cX8_runWeeks 93 = .ok (.goto (-85), 3) := by decide +kernel
theorem dX8_runWeeks_96 : decode cX8_runWeeks 96 = .ok (.iload 4, 2) := by decide +kernel
theorem dX8_runWeeks_98 : decode cX8_runWeeks 98 = .ok (.ireturn, 1) := by decide +kernel
theorem dX8_drawAfter_0 : decode cX8_drawAfter 0 = .ok (.iload_n 0, 1) := by decide +kernel
theorem dX8_drawAfter_1 : decode cX8_drawAfter 1 = .ok (.sipush 1103, 3) := by decide +kernel
theorem dX8_drawAfter_4 : decode cX8_drawAfter 4 = .ok (.imul, 1) := by decide +kernel
theorem dX8_drawAfter_5 : decode cX8_drawAfter 5 = .ok (.sipush 12345, 3) := by decide +kernel
theorem dX8_drawAfter_8 : decode cX8_drawAfter 8 = .ok (.iadd, 1) := by decide +kernel
theorem dX8_drawAfter_9 : decode cX8_drawAfter 9 = .ok (.ldc_w 365, 3) := by decide +kernel
theorem dX8_drawAfter_12 : decode cX8_drawAfter 12 = .ok (.irem, 1) := by decide +kernel
theorem dX8_drawAfter_13 : decode cX8_drawAfter 13 = .ok (.ireturn, 1) := by decide +kernel
theorem dX9_lies_0 : decode cX9_lies 0 = .ok (.iload_n 0, 1) := by decide +kernel
theorem dX9_lies_1 : decode cX9_lies 1 = .ok (.iload_n 1, 1) := by decide +kernel
theorem dX9_lies_2 : decode cX9_lies 2 = .ok (.if_icmp .lt 12, 3) := by decide +kernel
theorem dX9_lies_5 : decode cX9_lies 5 = .ok (.iload_n 0, 1) := by decide +kernel
theorem dX9_lies_6 : decode cX9_lies 6 = .ok (.iload_n 2, 1) := by decide +kernel
theorem dX9_lies_7 : decode cX9_lies 7 = .ok (.if_icmp .gt 7, 3) := by decide +kernel
theorem dX9_lies_10 : decode cX9_lies 10 = .ok (.iconst 1, 1) := by decide +kernel
theorem dX9_lies_11 : decode cX9_lies 11 = .ok (.goto 4, 3) := by decide +kernel
theorem dX9_lies_14 : decode cX9_lies 14 = .ok (.iconst 0, 1) := by decide +kernel
theorem dX9_lies_15 : decode cX9_lies 15 = .ok (.ireturn, 1) := by decide +kernel
theorem dX9_lesser_0 : decode cX9_lesser 0 = .ok (.iload_n 0, 1) := by decide +kernel
theorem dX9_lesser_1 : decode cX9_lesser 1 = .ok (.iload_n 1, 1) := by decide +kernel
theorem dX9_lesser_2 : decode cX9_lesser 2 = .ok (.if_icmp .ge 7, 3) := by decide +kernel
theorem dX9_lesser_5 : decode cX9_lesser 5 = .ok (.iload_n 0, 1) := by decide +kernel
theorem dX9_lesser_6 : decode cX9_lesser 6 = .ok (.goto 4, 3) := by decide +kernel
theorem dX9_lesser_9 : decode cX9_lesser 9 = .ok (.iload_n 1, 1) := by decide +kernel
theorem dX9_lesser_10 : decode cX9_lesser 10 = .ok (.ireturn, 1) := by decide +kernel
theorem dX9_greater_0 : decode cX9_greater 0 = .ok (.iload_n 0, 1) := by decide +kernel
theorem dX9_greater_1 : decode cX9_greater 1 = .ok (.iload_n 1, 1) := by decide +kernel
theorem dX9_greater_2 : decode cX9_greater 2 = .ok (.if_icmp .le 7, 3) := by decide +kernel
theorem dX9_greater_5 : decode cX9_greater 5 = .ok (.iload_n 0, 1) := by decide +kernel
theorem dX9_greater_6 : decode cX9_greater 6 = .ok (.goto 4, 3) := by decide +kernel
theorem dX9_greater_9 : decode cX9_greater 9 = .ok (.iload_n 1, 1) := by decide +kernel
theorem dX9_greater_10 : decode cX9_greater 10 = .ok (.ireturn, 1) := by decide +kernel
theorem dX9_refuses_0 : decode cX9_refuses 0 = .ok (.aload_n 0, 1) := by decide +kernel
theorem dX9_refuses_1 : decode cX9_refuses 1 = .ok (.iload_n 1, 1) := by decide +kernel
theorem dX9_refuses_2 : decode cX9_refuses 2 = .ok (.putfield 3, 3) := by decide +kernel
theorem dX9_refuses_5 : decode cX9_refuses 5 = .ok (.aload_n 0, 1) := by decide +kernel
theorem dX9_refuses_6 : decode cX9_refuses 6 = .ok (.getfield 7, 3) := by decide +kernel
theorem dX9_refuses_9 : decode cX9_refuses 9 = .ok (.iload_n 1, 1) := by decide +kernel
theorem dX9_refuses_10 : decode cX9_refuses 10 = .ok (.ineg, 1) := by decide +kernel
theorem dX9_refuses_11 : decode cX9_refuses 11 = .ok (.dup2, 1) := by decide +kernel
theorem dX9_refuses_12 : decode cX9_refuses 12 = .ok (.iaload, 1) := by decide +kernel
theorem dX9_refuses_13 : decode cX9_refuses 13 = .ok (.iconst 1, 1) := by decide +kernel
theorem dX9_refuses_14 : decode cX9_refuses 14 = .ok (.iadd, 1) := by decide +kernel
theorem dX9_refuses_15 : decode cX9_refuses 15 = .ok (.iastore, 1) := by decide +kernel
theorem dX9_refuses_16 : decode cX9_refuses 16 = .ok (.iload_n 1, 1) := by decide +kernel
theorem dX9_refuses_17 : decode cX9_refuses 17 = .ok (.ireturn, 1) := by decide +kernel
theorem dX9_good_0 : decode cX9_good 0 = .ok (.aload_n 0, 1) := by decide +kernel
theorem dX9_good_1 : decode cX9_good 1 = .ok (.iconst 0, 1) := by decide +kernel
theorem dX9_good_2 : decode cX9_good 2 = .ok (.putfield 3, 3) := by decide +kernel
theorem dX9_good_5 : decode cX9_good 5 = .ok (.iload_n 1, 1) := by decide +kernel
theorem dX9_good_6 : decode cX9_good 6 = .ok (.ireturn, 1) := by decide +kernel
theorem dX9_goodAnew_0 : decode cX9_goodAnew 0 = .ok (.aload_n 0, 1) := by decide +kernel
theorem dX9_goodAnew_1 : decode cX9_goodAnew 1 = .ok (.iconst 0, 1) := by decide +kernel
theorem dX9_goodAnew_2 : decode cX9_goodAnew 2 = .ok (.putfield 11, 3) := by decide +kernel
theorem dX9_goodAnew_5 : decode cX9_goodAnew 5 = .ok (.aload_n 0, 1) := by decide +kernel
theorem dX9_goodAnew_6 : decode cX9_goodAnew 6 = .ok (.iload_n 1, 1) := by decide +kernel
theorem dX9_goodAnew_7 : decode cX9_goodAnew 7 = .ok (.invokevirtual 14, 3) := by decide +kernel
theorem dX9_goodAnew_10 : decode cX9_goodAnew 10 = .ok (.ireturn, 1) := by decide +kernel
theorem dX9_isIn_0 : decode cX9_isIn 0 = .ok (.iload_n 0, 1) := by decide +kernel
theorem dX9_isIn_1 : decode cX9_isIn 1 = .ok (.iload_n 1, 1) := by decide +kernel
theorem dX9_isIn_2 : decode cX9_isIn 2 = .ok (.ishr, 1) := by decide +kernel
theorem dX9_isIn_3 : decode cX9_isIn 3 = .ok (.iconst 1, 1) := by decide +kernel
theorem dX9_isIn_4 : decode cX9_isIn 4 = .ok (.iand, 1) := by decide +kernel
theorem dX9_isIn_5 : decode cX9_isIn 5 = .ok (.iconst 1, 1) := by decide +kernel
theorem dX9_isIn_6 : decode cX9_isIn 6 = .ok (.if_icmp .ne 7, 3) := by decide +kernel
theorem dX9_isIn_9 : decode cX9_isIn 9 = .ok (.iconst 1, 1) := by decide +kernel
theorem dX9_isIn_10 : decode cX9_isIn 10 = .ok (.goto 4, 3) := by decide +kernel
theorem dX9_isIn_13 : decode cX9_isIn 13 = .ok (.iconst 0, 1) := by decide +kernel
theorem dX9_isIn_14 : decode cX9_isIn 14 = .ok (.ireturn, 1) := by decide +kernel
theorem dX9_ones_0 : decode cX9_ones 0 = .ok (.iconst 0, 1) := by decide +kernel
theorem dX9_ones_1 : decode cX9_ones 1 = .ok (.istore_n 1, 1) := by decide +kernel
theorem dX9_ones_2 : decode cX9_ones 2 = .ok (.iconst 0, 1) := by decide +kernel
theorem dX9_ones_3 : decode cX9_ones 3 = .ok (.istore_n 2, 1) := by decide +kernel
theorem dX9_ones_4 : decode cX9_ones 4 = .ok (.iload_n 2, 1) := by decide +kernel
theorem dX9_ones_5 : decode cX9_ones 5 = .ok (.bipush 25, 2) := by decide +kernel
theorem dX9_ones_7 : decode cX9_ones 7 = .ok (.if_icmp .ge 17, 3) := by decide +kernel
theorem dX9_ones_10 : decode cX9_ones 10 = .ok (.iload_n 1, 1) := by decide +kernel
theorem dX9_ones_11 : decode cX9_ones 11 = .ok (.iload_n 0, 1) := by decide +kernel
theorem dX9_ones_12 : decode cX9_ones 12 = .ok (.iload_n 2, 1) := by decide +kernel
theorem dX9_ones_13 : decode cX9_ones 13 = .ok (.ishr, 1) := by decide +kernel
theorem dX9_ones_14 : decode cX9_ones 14 = .ok (.iconst 1, 1) := by decide +kernel
theorem dX9_ones_15 : decode cX9_ones 15 = .ok (.iand, 1) := by decide +kernel
theorem dX9_ones_16 : decode cX9_ones 16 = .ok (.iadd, 1) := by decide +kernel
theorem dX9_ones_17 : decode cX9_ones 17 = .ok (.istore_n 1, 1) := by decide +kernel
theorem dX9_ones_18 : decode cX9_ones 18 = .ok (.iinc 2 1, 3) := by decide +kernel
theorem dX9_ones_21 : decode cX9_ones 21 = .ok (.goto (-17), 3) := by decide +kernel
theorem dX9_ones_24 : decode cX9_ones 24 = .ok (.iload_n 1, 1) := by decide +kernel
theorem dX9_ones_25 : decode cX9_ones 25 = .ok (.ireturn, 1) := by decide +kernel
theorem dX9_isCell_0 : decode cX9_isCell 0 = .ok (.iload_n 0, 1) := by decide +kernel
theorem dX9_isCell_1 : decode cX9_isCell 1 = .ok (.iconst 0, 1) := by decide +kernel
theorem dX9_isCell_2 : decode cX9_isCell 2 = .ok (.bipush 24, 2) := by decide +kernel
theorem dX9_isCell_4 : decode cX9_isCell 4 = .ok (.invokestatic 18, 3) := by decide +kernel
theorem dX9_isCell_7 : decode cX9_isCell 7 = .ok (.ireturn, 1) := by decide +kernel
theorem dX9_isFive_0 : decode cX9_isFive 0 = .ok (.iload_n 0, 1) := by decide +kernel
theorem dX9_isFive_1 : decode cX9_isFive 1 = .ok (.iconst 0, 1) := by decide +kernel
theorem dX9_isFive_2 : decode cX9_isFive 2 = .ok (.iconst 4, 1) := by decide +kernel
theorem dX9_isFive_3 : decode cX9_isFive 3 = .ok (.invokestatic 18, 3) := by decide +kernel
theorem dX9_isFive_6 : decode cX9_isFive 6 = .ok (.ireturn, 1) := by decide +kernel
theorem dX9_init_0 : decode cX9_init 0 = .ok (.aload_n 0, 1) := by decide +kernel
theorem dX9_init_1 : decode cX9_init 1 = .ok (.invokespecial 22, 3) := by decide +kernel
theorem dX9_init_4 : decode cX9_init 4 = .ok (.aload_n 0, 1) := by decide +kernel
theorem dX9_init_5 : decode cX9_init 5 = .ok (.bipush 7, 2) := by decide +kernel
theorem dX9_init_7 : decode cX9_init 7 = .ok (.newarray .int, 2) := by decide +kernel
theorem dX9_init_9 : decode cX9_init 9 = .ok (.putfield 7, 3) := by decide +kernel
theorem dX9_init_12 : decode cX9_init 12 = .ok (.aload_n 0, 1) := by decide +kernel
theorem dX9_init_13 : decode cX9_init 13 = .ok (.sipush 5715, 3) := by decide +kernel
theorem dX9_init_16 : decode cX9_init 16 = .ok (.newarray .int, 2) := by decide +kernel
theorem dX9_init_18 : decode cX9_init 18 = .ok (.putfield 28, 3) := by decide +kernel
theorem dX9_init_21 : decode cX9_init 21 = .ok (.aload_n 0, 1) := by decide +kernel
theorem dX9_init_22 : decode cX9_init 22 = .ok (.sipush 11430, 3) := by decide +kernel
theorem dX9_init_25 : decode cX9_init 25 = .ok (.newarray .int, 2) := by decide +kernel
theorem dX9_init_27 : decode cX9_init 27 = .ok (.putfield 31, 3) := by decide +kernel
theorem dX9_init_30 : decode cX9_init 30 = .ok (.aload_n 0, 1) := by decide +kernel
theorem dX9_init_31 : decode cX9_init 31 = .ok (.iconst 2, 1) := by decide +kernel
theorem dX9_init_32 : decode cX9_init 32 = .ok (.newarray .boolean, 2) := by decide +kernel
theorem dX9_init_34 : decode cX9_init 34 = .ok (.putfield 34, 3) := by decide +kernel
theorem dX9_init_37 : decode cX9_init 37 = .ok (.aload_n 0, 1) := by decide +kernel
theorem dX9_init_38 : decode cX9_init 38 = .ok (.bipush 64, 2) := by decide +kernel
theorem dX9_init_40 : decode cX9_init 40 = .ok (.newarray .int, 2) := by decide +kernel
theorem dX9_init_42 : decode cX9_init 42 = .ok (.putfield 38, 3) := by decide +kernel
theorem dX9_init_45 : decode cX9_init 45 = .ok (.aload_n 0, 1) := by decide +kernel
theorem dX9_init_46 : decode cX9_init 46 = .ok (.sipush 144, 3) := by decide +kernel
theorem dX9_init_49 : decode cX9_init 49 = .ok (.newarray .byte, 2) := by decide +kernel
theorem dX9_init_51 : decode cX9_init 51 = .ok (.dup, 1) := by decide +kernel
theorem dX9_init_52 : decode cX9_init 52 = .ok (.iconst 0, 1) := by decide +kernel
theorem dX9_init_53 : decode cX9_init 53 = .ok (.bipush 108, 2) := by decide +kernel
theorem dX9_init_55 : decode cX9_init 55 = .ok (.bastore, 1) := by decide +kernel
theorem dX9_init_56 : decode cX9_init 56 = .ok (.dup, 1) := by decide +kernel
theorem dX9_init_57 : decode cX9_init 57 = .ok (.iconst 1, 1) := by decide +kernel
theorem dX9_init_58 : decode cX9_init 58 = .ok (.bipush 101, 2) := by decide +kernel
theorem dX9_init_60 : decode cX9_init 60 = .ok (.bastore, 1) := by decide +kernel
theorem dX9_init_61 : decode cX9_init 61 = .ok (.dup, 1) := by decide +kernel
theorem dX9_init_62 : decode cX9_init 62 = .ok (.iconst 2, 1) := by decide +kernel
theorem dX9_init_63 : decode cX9_init 63 = .ok (.bipush 97, 2) := by decide +kernel
theorem dX9_init_65 : decode cX9_init 65 = .ok (.bastore, 1) := by decide +kernel
theorem dX9_init_66 : decode cX9_init 66 = .ok (.dup, 1) := by decide +kernel
theorem dX9_init_67 : decode cX9_init 67 = .ok (.iconst 3, 1) := by decide +kernel
theorem dX9_init_68 : decode cX9_init 68 = .ok (.bipush 100, 2) := by decide +kernel
theorem dX9_init_70 : decode cX9_init 70 = .ok (.bastore, 1) := by decide +kernel
theorem dX9_init_71 : decode cX9_init 71 = .ok (.dup, 1) := by decide +kernel
theorem dX9_init_72 : decode cX9_init 72 = .ok (.iconst 4, 1) := by decide +kernel
theorem dX9_init_73 : decode cX9_init 73 = .ok (.bipush 115, 2) := by decide +kernel
theorem dX9_init_75 : decode cX9_init 75 = .ok (.bastore, 1) := by decide +kernel
theorem dX9_init_76 : decode cX9_init 76 = .ok (.dup, 1) := by decide +kernel
theorem dX9_init_77 : decode cX9_init 77 = .ok (.iconst 5, 1) := by decide +kernel
theorem dX9_init_78 : decode cX9_init 78 = .ok (.bipush 32, 2) := by decide +kernel
theorem dX9_init_80 : decode cX9_init 80 = .ok (.bastore, 1) := by decide +kernel
theorem dX9_init_81 : decode cX9_init 81 = .ok (.dup, 1) := by decide +kernel
theorem dX9_init_82 : decode cX9_init 82 = .ok (.bipush 6, 2) := by decide +kernel
theorem dX9_init_84 : decode cX9_init 84 = .ok (.bipush 116, 2) := by decide +kernel
theorem dX9_init_86 : decode cX9_init 86 = .ok (.bastore, 1) := by decide +kernel
theorem dX9_init_87 : decode cX9_init 87 = .ok (.dup, 1) := by decide +kernel
theorem dX9_init_88 : decode cX9_init 88 = .ok (.bipush 7, 2) := by decide +kernel
theorem dX9_init_90 : decode cX9_init 90 = .ok (.bipush 97, 2) := by decide +kernel
theorem dX9_init_92 : decode cX9_init 92 = .ok (.bastore, 1) := by decide +kernel
theorem dX9_init_93 : decode cX9_init 93 = .ok (.dup, 1) := by decide +kernel
theorem dX9_init_94 : decode cX9_init 94 = .ok (.bipush 8, 2) := by decide +kernel
theorem dX9_init_96 : decode cX9_init 96 = .ok (.bipush 107, 2) := by decide +kernel
theorem dX9_init_98 : decode cX9_init 98 = .ok (.bastore, 1) := by decide +kernel
theorem dX9_init_99 : decode cX9_init 99 = .ok (.dup, 1) := by decide +kernel
theorem dX9_init_100 : decode cX9_init 100 = .ok (.bipush 9, 2) := by decide +kernel
theorem dX9_init_102 : decode cX9_init 102 = .ok (.bipush 101, 2) := by decide +kernel
theorem dX9_init_104 : decode cX9_init 104 = .ok (.bastore, 1) := by decide +kernel
theorem dX9_init_105 : decode cX9_init 105 = .ok (.dup, 1) := by decide +kernel
theorem dX9_init_106 : decode cX9_init 106 = .ok (.bipush 10, 2) := by decide +kernel
theorem dX9_init_108 : decode cX9_init 108 = .ok (.bipush 115, 2) := by decide +kernel
theorem dX9_init_110 : decode cX9_init 110 = .ok (.bastore, 1) := by decide +kernel
theorem dX9_init_111 : decode cX9_init 111 = .ok (.dup, 1) := by decide +kernel
theorem dX9_init_112 : decode cX9_init 112 = .ok (.bipush 11, 2) := by decide +kernel
theorem dX9_init_114 : decode cX9_init 114 = .ok (.bipush 32, 2) := by decide +kernel
theorem dX9_init_116 : decode cX9_init 116 = .ok (.bastore, 1) := by decide +kernel
theorem dX9_init_117 : decode cX9_init 117 = .ok (.dup, 1) := by decide +kernel
theorem dX9_init_118 : decode cX9_init 118 = .ok (.bipush 12, 2) := by decide +kernel
theorem dX9_init_120 : decode cX9_init 120 = .ok (.bipush 98, 2) := by decide +kernel
theorem dX9_init_122 : decode cX9_init 122 = .ok (.bastore, 1) := by decide +kernel
theorem dX9_init_123 : decode cX9_init 123 = .ok (.dup, 1) := by decide +kernel
theorem dX9_init_124 : decode cX9_init 124 = .ok (.bipush 13, 2) := by decide +kernel
theorem dX9_init_126 : decode cX9_init 126 = .ok (.bipush 105, 2) := by decide +kernel
theorem dX9_init_128 : decode cX9_init 128 = .ok (.bastore, 1) := by decide +kernel
theorem dX9_init_129 : decode cX9_init 129 = .ok (.dup, 1) := by decide +kernel
theorem dX9_init_130 : decode cX9_init 130 = .ok (.bipush 14, 2) := by decide +kernel
theorem dX9_init_132 : decode cX9_init 132 = .ok (.bipush 116, 2) := by decide +kernel
theorem dX9_init_134 : decode cX9_init 134 = .ok (.bastore, 1) := by decide +kernel
theorem dX9_init_135 : decode cX9_init 135 = .ok (.dup, 1) := by decide +kernel
theorem dX9_init_136 : decode cX9_init 136 = .ok (.bipush 15, 2) := by decide +kernel
theorem dX9_init_138 : decode cX9_init 138 = .ok (.bipush 101, 2) := by decide +kernel
theorem dX9_init_140 : decode cX9_init 140 = .ok (.bastore, 1) := by decide +kernel
theorem dX9_init_141 : decode cX9_init 141 = .ok (.dup, 1) := by decide +kernel
theorem dX9_init_142 : decode cX9_init 142 = .ok (.bipush 16, 2) := by decide +kernel
theorem dX9_init_144 : decode cX9_init 144 = .ok (.bipush 115, 2) := by decide +kernel
theorem dX9_init_146 : decode cX9_init 146 = .ok (.bastore, 1) := by decide +kernel
theorem dX9_init_147 : decode cX9_init 147 = .ok (.dup, 1) := by decide +kernel
theorem dX9_init_148 : decode cX9_init 148 = .ok (.bipush 17, 2) := by decide +kernel
theorem dX9_init_150 : decode cX9_init 150 = .ok (.bipush 32, 2) := by decide +kernel
theorem dX9_init_152 : decode cX9_init 152 = .ok (.bastore, 1) := by decide +kernel
theorem dX9_init_153 : decode cX9_init 153 = .ok (.dup, 1) := by decide +kernel
theorem dX9_init_154 : decode cX9_init 154 = .ok (.bipush 18, 2) := by decide +kernel
theorem dX9_init_156 : decode cX9_init 156 = .ok (.bipush 98, 2) := by decide +kernel
theorem dX9_init_158 : decode cX9_init 158 = .ok (.bastore, 1) := by decide +kernel
theorem dX9_init_159 : decode cX9_init 159 = .ok (.dup, 1) := by decide +kernel
theorem dX9_init_160 : decode cX9_init 160 = .ok (.bipush 19, 2) := by decide +kernel
theorem dX9_init_162 : decode cX9_init 162 = .ok (.bipush 97, 2) := by decide +kernel
theorem dX9_init_164 : decode cX9_init 164 = .ok (.bastore, 1) := by decide +kernel
theorem dX9_init_165 : decode cX9_init 165 = .ok (.dup, 1) := by decide +kernel
theorem dX9_init_166 : decode cX9_init 166 = .ok (.bipush 20, 2) := by decide +kernel
theorem dX9_init_168 : decode cX9_init 168 = .ok (.bipush 114, 2) := by decide +kernel
theorem dX9_init_170 : decode cX9_init 170 = .ok (.bastore, 1) := by decide +kernel
theorem dX9_init_171 : decode cX9_init 171 = .ok (.dup, 1) := by decide +kernel
theorem dX9_init_172 : decode cX9_init 172 = .ok (.bipush 21, 2) := by decide +kernel
theorem dX9_init_174 : decode cX9_init 174 = .ok (.bipush 115, 2) := by decide +kernel
theorem dX9_init_176 : decode cX9_init 176 = .ok (.bastore, 1) := by decide +kernel
theorem dX9_init_177 : decode cX9_init 177 = .ok (.dup, 1) := by decide +kernel
theorem dX9_init_178 : decode cX9_init 178 = .ok (.bipush 22, 2) := by decide +kernel
theorem dX9_init_180 : decode cX9_init 180 = .ok (.bipush 32, 2) := by decide +kernel
theorem dX9_init_182 : decode cX9_init 182 = .ok (.bastore, 1) := by decide +kernel
theorem dX9_init_183 : decode cX9_init 183 = .ok (.dup, 1) := by decide +kernel
theorem dX9_init_184 : decode cX9_init 184 = .ok (.bipush 23, 2) := by decide +kernel
theorem dX9_init_186 : decode cX9_init 186 = .ok (.bipush 105, 2) := by decide +kernel
theorem dX9_init_188 : decode cX9_init 188 = .ok (.bastore, 1) := by decide +kernel
theorem dX9_init_189 : decode cX9_init 189 = .ok (.dup, 1) := by decide +kernel
theorem dX9_init_190 : decode cX9_init 190 = .ok (.bipush 24, 2) := by decide +kernel
theorem dX9_init_192 : decode cX9_init 192 = .ok (.bipush 102, 2) := by decide +kernel
theorem dX9_init_194 : decode cX9_init 194 = .ok (.bastore, 1) := by decide +kernel
theorem dX9_init_195 : decode cX9_init 195 = .ok (.dup, 1) := by decide +kernel
theorem dX9_init_196 : decode cX9_init 196 = .ok (.bipush 25, 2) := by decide +kernel
theorem dX9_init_198 : decode cX9_init 198 = .ok (.bipush 32, 2) := by decide +kernel
theorem dX9_init_200 : decode cX9_init 200 = .ok (.bastore, 1) := by decide +kernel
theorem dX9_init_201 : decode cX9_init 201 = .ok (.dup, 1) := by decide +kernel
theorem dX9_init_202 : decode cX9_init 202 = .ok (.bipush 26, 2) := by decide +kernel
theorem dX9_init_204 : decode cX9_init 204 = .ok (.bipush 111, 2) := by decide +kernel
theorem dX9_init_206 : decode cX9_init 206 = .ok (.bastore, 1) := by decide +kernel
theorem dX9_init_207 : decode cX9_init 207 = .ok (.dup, 1) := by decide +kernel
theorem dX9_init_208 : decode cX9_init 208 = .ok (.bipush 27, 2) := by decide +kernel
theorem dX9_init_210 : decode cX9_init 210 = .ok (.bipush 114, 2) := by decide +kernel
theorem dX9_init_212 : decode cX9_init 212 = .ok (.bastore, 1) := by decide +kernel
theorem dX9_init_213 : decode cX9_init 213 = .ok (.dup, 1) := by decide +kernel
theorem dX9_init_214 : decode cX9_init 214 = .ok (.bipush 28, 2) := by decide +kernel
theorem dX9_init_216 : decode cX9_init 216 = .ok (.bipush 32, 2) := by decide +kernel
theorem dX9_init_218 : decode cX9_init 218 = .ok (.bastore, 1) := by decide +kernel
theorem dX9_init_219 : decode cX9_init 219 = .ok (.dup, 1) := by decide +kernel
theorem dX9_init_220 : decode cX9_init 220 = .ok (.bipush 29, 2) := by decide +kernel
theorem dX9_init_222 : decode cX9_init 222 = .ok (.bipush 97, 2) := by decide +kernel
theorem dX9_init_224 : decode cX9_init 224 = .ok (.bastore, 1) := by decide +kernel
theorem dX9_init_225 : decode cX9_init 225 = .ok (.dup, 1) := by decide +kernel
theorem dX9_init_226 : decode cX9_init 226 = .ok (.bipush 30, 2) := by decide +kernel
theorem dX9_init_228 : decode cX9_init 228 = .ok (.bipush 110, 2) := by decide +kernel
theorem dX9_init_230 : decode cX9_init 230 = .ok (.bastore, 1) := by decide +kernel
theorem dX9_init_231 : decode cX9_init 231 = .ok (.dup, 1) := by decide +kernel
theorem dX9_init_232 : decode cX9_init 232 = .ok (.bipush 31, 2) := by decide +kernel
theorem dX9_init_234 : decode cX9_init 234 = .ok (.bipush 100, 2) := by decide +kernel
theorem dX9_init_236 : decode cX9_init 236 = .ok (.bastore, 1) := by decide +kernel
theorem dX9_init_237 : decode cX9_init 237 = .ok (.dup, 1) := by decide +kernel
theorem dX9_init_238 : decode cX9_init 238 = .ok (.bipush 32, 2) := by decide +kernel
theorem dX9_init_240 : decode cX9_init 240 = .ok (.bipush 32, 2) := by decide +kernel
theorem dX9_init_242 : decode cX9_init 242 = .ok (.bastore, 1) := by decide +kernel
theorem dX9_init_243 : decode cX9_init 243 = .ok (.dup, 1) := by decide +kernel
theorem dX9_init_244 : decode cX9_init 244 = .ok (.bipush 33, 2) := by decide +kernel
theorem dX9_init_246 : decode cX9_init 246 = .ok (.bipush 110, 2) := by decide +kernel
theorem dX9_init_248 : decode cX9_init 248 = .ok (.bastore, 1) := by decide +kernel
theorem dX9_init_249 : decode cX9_init 249 = .ok (.dup, 1) := by decide +kernel
theorem dX9_init_250 : decode cX9_init 250 = .ok (.bipush 34, 2) := by decide +kernel
theorem dX9_init_252 : decode cX9_init 252 = .ok (.bipush 111, 2) := by decide +kernel
theorem dX9_init_254 : decode cX9_init 254 = .ok (.bastore, 1) := by decide +kernel
theorem dX9_init_255 : decode cX9_init 255 = .ok (.dup, 1) := by decide +kernel
theorem dX9_init_256 : decode cX9_init 256 = .ok (.bipush 35, 2) := by decide +kernel
theorem dX9_init_258 : decode cX9_init 258 = .ok (.bipush 116, 2) := by decide +kernel
theorem dX9_init_260 : decode cX9_init 260 = .ok (.bastore, 1) := by decide +kernel
theorem dX9_init_261 : decode cX9_init 261 = .ok (.dup, 1) := by decide +kernel
theorem dX9_init_262 : decode cX9_init 262 = .ok (.bipush 36, 2) := by decide +kernel
theorem dX9_init_264 : decode cX9_init 264 = .ok (.bipush 32, 2) := by decide +kernel
theorem dX9_init_266 : decode cX9_init 266 = .ok (.bastore, 1) := by decide +kernel
theorem dX9_init_267 : decode cX9_init 267 = .ok (.dup, 1) := by decide +kernel
theorem dX9_init_268 : decode cX9_init 268 = .ok (.bipush 37, 2) := by decide +kernel
theorem dX9_init_270 : decode cX9_init 270 = .ok (.bipush 99, 2) := by decide +kernel
theorem dX9_init_272 : decode cX9_init 272 = .ok (.bastore, 1) := by decide +kernel
theorem dX9_init_273 : decode cX9_init 273 = .ok (.dup, 1) := by decide +kernel
theorem dX9_init_274 : decode cX9_init 274 = .ok (.bipush 38, 2) := by decide +kernel
theorem dX9_init_276 : decode cX9_init 276 = .ok (.bipush 101, 2) := by decide +kernel
theorem dX9_init_278 : decode cX9_init 278 = .ok (.bastore, 1) := by decide +kernel
theorem dX9_init_279 : decode cX9_init 279 = .ok (.dup, 1) := by decide +kernel
theorem dX9_init_280 : decode cX9_init 280 = .ok (.bipush 39, 2) := by decide +kernel
theorem dX9_init_282 : decode cX9_init 282 = .ok (.bipush 108, 2) := by decide +kernel
theorem dX9_init_284 : decode cX9_init 284 = .ok (.bastore, 1) := by decide +kernel
theorem dX9_init_285 : decode cX9_init 285 = .ok (.dup, 1) := by decide +kernel
theorem dX9_init_286 : decode cX9_init 286 = .ok (.bipush 40, 2) := by decide +kernel
theorem dX9_init_288 : decode cX9_init 288 = .ok (.bipush 108, 2) := by decide +kernel
theorem dX9_init_290 : decode cX9_init 290 = .ok (.bastore, 1) := by decide +kernel
theorem dX9_init_291 : decode cX9_init 291 = .ok (.dup, 1) := by decide +kernel
theorem dX9_init_292 : decode cX9_init 292 = .ok (.bipush 41, 2) := by decide +kernel
theorem dX9_init_294 : decode cX9_init 294 = .ok (.bipush 32, 2) := by decide +kernel
theorem dX9_init_296 : decode cX9_init 296 = .ok (.bastore, 1) := by decide +kernel
theorem dX9_init_297 : decode cX9_init 297 = .ok (.dup, 1) := by decide +kernel
theorem dX9_init_298 : decode cX9_init 298 = .ok (.bipush 42, 2) := by decide +kernel
theorem dX9_init_300 : decode cX9_init 300 = .ok (.bipush 114, 2) := by decide +kernel
theorem dX9_init_302 : decode cX9_init 302 = .ok (.bastore, 1) := by decide +kernel
theorem dX9_init_303 : decode cX9_init 303 = .ok (.dup, 1) := by decide +kernel
theorem dX9_init_304 : decode cX9_init 304 = .ok (.bipush 43, 2) := by decide +kernel
theorem dX9_init_306 : decode cX9_init 306 = .ok (.bipush 111, 2) := by decide +kernel
theorem dX9_init_308 : decode cX9_init 308 = .ok (.bastore, 1) := by decide +kernel
theorem dX9_init_309 : decode cX9_init 309 = .ok (.dup, 1) := by decide +kernel
theorem dX9_init_310 : decode cX9_init 310 = .ok (.bipush 44, 2) := by decide +kernel
theorem dX9_init_312 : decode cX9_init 312 = .ok (.bipush 119, 2) := by decide +kernel
theorem dX9_init_314 : decode cX9_init 314 = .ok (.bastore, 1) := by decide +kernel
theorem dX9_init_315 : decode cX9_init 315 = .ok (.dup, 1) := by decide +kernel
theorem dX9_init_316 : decode cX9_init 316 = .ok (.bipush 45, 2) := by decide +kernel
theorem dX9_init_318 : decode cX9_init 318 = .ok (.bipush 32, 2) := by decide +kernel
theorem dX9_init_320 : decode cX9_init 320 = .ok (.bastore, 1) := by decide +kernel
theorem dX9_init_321 : decode cX9_init 321 = .ok (.dup, 1) := by decide +kernel
theorem dX9_init_322 : decode cX9_init 322 = .ok (.bipush 46, 2) := by decide +kernel
theorem dX9_init_324 : decode cX9_init 324 = .ok (.bipush 99, 2) := by decide +kernel
theorem dX9_init_326 : decode cX9_init 326 = .ok (.bastore, 1) := by decide +kernel
theorem dX9_init_327 : decode cX9_init 327 = .ok (.dup, 1) := by decide +kernel
theorem dX9_init_328 : decode cX9_init 328 = .ok (.bipush 47, 2) := by decide +kernel
theorem dX9_init_330 : decode cX9_init 330 = .ok (.bipush 111, 2) := by decide +kernel
theorem dX9_init_332 : decode cX9_init 332 = .ok (.bastore, 1) := by decide +kernel
theorem dX9_init_333 : decode cX9_init 333 = .ok (.dup, 1) := by decide +kernel
theorem dX9_init_334 : decode cX9_init 334 = .ok (.bipush 48, 2) := by decide +kernel
theorem dX9_init_336 : decode cX9_init 336 = .ok (.bipush 108, 2) := by decide +kernel
theorem dX9_init_338 : decode cX9_init 338 = .ok (.bastore, 1) := by decide +kernel
theorem dX9_init_339 : decode cX9_init 339 = .ok (.dup, 1) := by decide +kernel
theorem dX9_init_340 : decode cX9_init 340 = .ok (.bipush 49, 2) := by decide +kernel
theorem dX9_init_342 : decode cX9_init 342 = .ok (.bipush 117, 2) := by decide +kernel
theorem dX9_init_344 : decode cX9_init 344 = .ok (.bastore, 1) := by decide +kernel
theorem dX9_init_345 : decode cX9_init 345 = .ok (.dup, 1) := by decide +kernel
theorem dX9_init_346 : decode cX9_init 346 = .ok (.bipush 50, 2) := by decide +kernel
theorem dX9_init_348 : decode cX9_init 348 = .ok (.bipush 109, 2) := by decide +kernel
theorem dX9_init_350 : decode cX9_init 350 = .ok (.bastore, 1) := by decide +kernel
theorem dX9_init_351 : decode cX9_init 351 = .ok (.dup, 1) := by decide +kernel
theorem dX9_init_352 : decode cX9_init 352 = .ok (.bipush 51, 2) := by decide +kernel
theorem dX9_init_354 : decode cX9_init 354 = .ok (.bipush 110, 2) := by decide +kernel
theorem dX9_init_356 : decode cX9_init 356 = .ok (.bastore, 1) := by decide +kernel
theorem dX9_init_357 : decode cX9_init 357 = .ok (.dup, 1) := by decide +kernel
theorem dX9_init_358 : decode cX9_init 358 = .ok (.bipush 52, 2) := by decide +kernel
theorem dX9_init_360 : decode cX9_init 360 = .ok (.bipush 32, 2) := by decide +kernel
theorem dX9_init_362 : decode cX9_init 362 = .ok (.bastore, 1) := by decide +kernel
theorem dX9_init_363 : decode cX9_init 363 = .ok (.dup, 1) := by decide +kernel
theorem dX9_init_364 : decode cX9_init 364 = .ok (.bipush 53, 2) := by decide +kernel
theorem dX9_init_366 : decode cX9_init 366 = .ok (.bipush 99, 2) := by decide +kernel
theorem dX9_init_368 : decode cX9_init 368 = .ok (.bastore, 1) := by decide +kernel
theorem dX9_init_369 : decode cX9_init 369 = .ok (.dup, 1) := by decide +kernel
theorem dX9_init_370 : decode cX9_init 370 = .ok (.bipush 54, 2) := by decide +kernel
theorem dX9_init_372 : decode cX9_init 372 = .ok (.bipush 108, 2) := by decide +kernel
theorem dX9_init_374 : decode cX9_init 374 = .ok (.bastore, 1) := by decide +kernel
theorem dX9_init_375 : decode cX9_init 375 = .ok (.dup, 1) := by decide +kernel
theorem dX9_init_376 : decode cX9_init 376 = .ok (.bipush 55, 2) := by decide +kernel
theorem dX9_init_378 : decode cX9_init 378 = .ok (.bipush 101, 2) := by decide +kernel
theorem dX9_init_380 : decode cX9_init 380 = .ok (.bastore, 1) := by decide +kernel
theorem dX9_init_381 : decode cX9_init 381 = .ok (.dup, 1) := by decide +kernel
theorem dX9_init_382 : decode cX9_init 382 = .ok (.bipush 56, 2) := by decide +kernel
theorem dX9_init_384 : decode cX9_init 384 = .ok (.bipush 114, 2) := by decide +kernel
theorem dX9_init_386 : decode cX9_init 386 = .ok (.bastore, 1) := by decide +kernel
theorem dX9_init_387 : decode cX9_init 387 = .ok (.dup, 1) := by decide +kernel
theorem dX9_init_388 : decode cX9_init 388 = .ok (.bipush 57, 2) := by decide +kernel
theorem dX9_init_390 : decode cX9_init 390 = .ok (.bipush 107, 2) := by decide +kernel
theorem dX9_init_392 : decode cX9_init 392 = .ok (.bastore, 1) := by decide +kernel
theorem dX9_init_393 : decode cX9_init 393 = .ok (.dup, 1) := by decide +kernel
theorem dX9_init_394 : decode cX9_init 394 = .ok (.bipush 58, 2) := by decide +kernel
theorem dX9_init_396 : decode cX9_init 396 = .ok (.bipush 32, 2) := by decide +kernel
theorem dX9_init_398 : decode cX9_init 398 = .ok (.bastore, 1) := by decide +kernel
theorem dX9_init_399 : decode cX9_init 399 = .ok (.dup, 1) := by decide +kernel
theorem dX9_init_400 : decode cX9_init 400 = .ok (.bipush 59, 2) := by decide +kernel
theorem dX9_init_402 : decode cX9_init 402 = .ok (.bipush 107, 2) := by decide +kernel
theorem dX9_init_404 : decode cX9_init 404 = .ok (.bastore, 1) := by decide +kernel
theorem dX9_init_405 : decode cX9_init 405 = .ok (.dup, 1) := by decide +kernel
theorem dX9_init_406 : decode cX9_init 406 = .ok (.bipush 60, 2) := by decide +kernel
theorem dX9_init_408 : decode cX9_init 408 = .ok (.bipush 101, 2) := by decide +kernel
theorem dX9_init_410 : decode cX9_init 410 = .ok (.bastore, 1) := by decide +kernel
theorem dX9_init_411 : decode cX9_init 411 = .ok (.dup, 1) := by decide +kernel
theorem dX9_init_412 : decode cX9_init 412 = .ok (.bipush 61, 2) := by decide +kernel
theorem dX9_init_414 : decode cX9_init 414 = .ok (.bipush 101, 2) := by decide +kernel
theorem dX9_init_416 : decode cX9_init 416 = .ok (.bastore, 1) := by decide +kernel
theorem dX9_init_417 : decode cX9_init 417 = .ok (.dup, 1) := by decide +kernel
theorem dX9_init_418 : decode cX9_init 418 = .ok (.bipush 62, 2) := by decide +kernel
theorem dX9_init_420 : decode cX9_init 420 = .ok (.bipush 110, 2) := by decide +kernel
theorem dX9_init_422 : decode cX9_init 422 = .ok (.bastore, 1) := by decide +kernel
theorem dX9_init_423 : decode cX9_init 423 = .ok (.dup, 1) := by decide +kernel
theorem dX9_init_424 : decode cX9_init 424 = .ok (.bipush 63, 2) := by decide +kernel
theorem dX9_init_426 : decode cX9_init 426 = .ok (.bipush 32, 2) := by decide +kernel
theorem dX9_init_428 : decode cX9_init 428 = .ok (.bastore, 1) := by decide +kernel
theorem dX9_init_429 : decode cX9_init 429 = .ok (.dup, 1) := by decide +kernel
theorem dX9_init_430 : decode cX9_init 430 = .ok (.bipush 64, 2) := by decide +kernel
theorem dX9_init_432 : decode cX9_init 432 = .ok (.bipush 109, 2) := by decide +kernel
theorem dX9_init_434 : decode cX9_init 434 = .ok (.bastore, 1) := by decide +kernel
theorem dX9_init_435 : decode cX9_init 435 = .ok (.dup, 1) := by decide +kernel
theorem dX9_init_436 : decode cX9_init 436 = .ok (.bipush 65, 2) := by decide +kernel
theorem dX9_init_438 : decode cX9_init 438 = .ok (.bipush 111, 2) := by decide +kernel
theorem dX9_init_440 : decode cX9_init 440 = .ok (.bastore, 1) := by decide +kernel
theorem dX9_init_441 : decode cX9_init 441 = .ok (.dup, 1) := by decide +kernel
theorem dX9_init_442 : decode cX9_init 442 = .ok (.bipush 66, 2) := by decide +kernel
theorem dX9_init_444 : decode cX9_init 444 = .ok (.bipush 111, 2) := by decide +kernel
theorem dX9_init_446 : decode cX9_init 446 = .ok (.bastore, 1) := by decide +kernel
theorem dX9_init_447 : decode cX9_init 447 = .ok (.dup, 1) := by decide +kernel
theorem dX9_init_448 : decode cX9_init 448 = .ok (.bipush 67, 2) := by decide +kernel
theorem dX9_init_450 : decode cX9_init 450 = .ok (.bipush 100, 2) := by decide +kernel
theorem dX9_init_452 : decode cX9_init 452 = .ok (.bastore, 1) := by decide +kernel
theorem dX9_init_453 : decode cX9_init 453 = .ok (.dup, 1) := by decide +kernel
theorem dX9_init_454 : decode cX9_init 454 = .ok (.bipush 68, 2) := by decide +kernel
theorem dX9_init_456 : decode cX9_init 456 = .ok (.bipush 32, 2) := by decide +kernel
theorem dX9_init_458 : decode cX9_init 458 = .ok (.bastore, 1) := by decide +kernel
theorem dX9_init_459 : decode cX9_init 459 = .ok (.dup, 1) := by decide +kernel
theorem dX9_init_460 : decode cX9_init 460 = .ok (.bipush 69, 2) := by decide +kernel
theorem dX9_init_462 : decode cX9_init 462 = .ok (.bipush 101, 2) := by decide +kernel
theorem dX9_init_464 : decode cX9_init 464 = .ok (.bastore, 1) := by decide +kernel
theorem dX9_init_465 : decode cX9_init 465 = .ok (.dup, 1) := by decide +kernel
theorem dX9_init_466 : decode cX9_init 466 = .ok (.bipush 70, 2) := by decide +kernel
theorem dX9_init_468 : decode cX9_init 468 = .ok (.bipush 110, 2) := by decide +kernel
theorem dX9_init_470 : decode cX9_init 470 = .ok (.bastore, 1) := by decide +kernel
theorem dX9_init_471 : decode cX9_init 471 = .ok (.dup, 1) := by decide +kernel
theorem dX9_init_472 : decode cX9_init 472 = .ok (.bipush 71, 2) := by decide +kernel
theorem dX9_init_474 : decode cX9_init 474 = .ok (.bipush 116, 2) := by decide +kernel
theorem dX9_init_476 : decode cX9_init 476 = .ok (.bastore, 1) := by decide +kernel
theorem dX9_init_477 : decode cX9_init 477 = .ok (.dup, 1) := by decide +kernel
theorem dX9_init_478 : decode cX9_init 478 = .ok (.bipush 72, 2) := by decide +kernel
theorem dX9_init_480 : decode cX9_init 480 = .ok (.bipush 114, 2) := by decide +kernel
theorem dX9_init_482 : decode cX9_init 482 = .ok (.bastore, 1) := by decide +kernel
theorem dX9_init_483 : decode cX9_init 483 = .ok (.dup, 1) := by decide +kernel
theorem dX9_init_484 : decode cX9_init 484 = .ok (.bipush 73, 2) := by decide +kernel
theorem dX9_init_486 : decode cX9_init 486 = .ok (.bipush 121, 2) := by decide +kernel
theorem dX9_init_488 : decode cX9_init 488 = .ok (.bastore, 1) := by decide +kernel
theorem dX9_init_489 : decode cX9_init 489 = .ok (.dup, 1) := by decide +kernel
theorem dX9_init_490 : decode cX9_init 490 = .ok (.bipush 74, 2) := by decide +kernel
theorem dX9_init_492 : decode cX9_init 492 = .ok (.bipush 32, 2) := by decide +kernel
theorem dX9_init_494 : decode cX9_init 494 = .ok (.bastore, 1) := by decide +kernel
theorem dX9_init_495 : decode cX9_init 495 = .ok (.dup, 1) := by decide +kernel
theorem dX9_init_496 : decode cX9_init 496 = .ok (.bipush 75, 2) := by decide +kernel
theorem dX9_init_498 : decode cX9_init 498 = .ok (.bipush 111, 2) := by decide +kernel
theorem dX9_init_500 : decode cX9_init 500 = .ok (.bastore, 1) := by decide +kernel
theorem dX9_init_501 : decode cX9_init 501 = .ok (.dup, 1) := by decide +kernel
theorem dX9_init_502 : decode cX9_init 502 = .ok (.bipush 76, 2) := by decide +kernel
theorem dX9_init_504 : decode cX9_init 504 = .ok (.bipush 102, 2) := by decide +kernel
theorem dX9_init_506 : decode cX9_init 506 = .ok (.bastore, 1) := by decide +kernel
theorem dX9_init_507 : decode cX9_init 507 = .ok (.dup, 1) := by decide +kernel
theorem dX9_init_508 : decode cX9_init 508 = .ok (.bipush 77, 2) := by decide +kernel
theorem dX9_init_510 : decode cX9_init 510 = .ok (.bipush 102, 2) := by decide +kernel
theorem dX9_init_512 : decode cX9_init 512 = .ok (.bastore, 1) := by decide +kernel
theorem dX9_init_513 : decode cX9_init 513 = .ok (.dup, 1) := by decide +kernel
theorem dX9_init_514 : decode cX9_init 514 = .ok (.bipush 78, 2) := by decide +kernel
theorem dX9_init_516 : decode cX9_init 516 = .ok (.bipush 32, 2) := by decide +kernel
theorem dX9_init_518 : decode cX9_init 518 = .ok (.bastore, 1) := by decide +kernel
theorem dX9_init_519 : decode cX9_init 519 = .ok (.dup, 1) := by decide +kernel
theorem dX9_init_520 : decode cX9_init 520 = .ok (.bipush 79, 2) := by decide +kernel
theorem dX9_init_522 : decode cX9_init 522 = .ok (.bipush 97, 2) := by decide +kernel
theorem dX9_init_524 : decode cX9_init 524 = .ok (.bastore, 1) := by decide +kernel
theorem dX9_init_525 : decode cX9_init 525 = .ok (.dup, 1) := by decide +kernel
theorem dX9_init_526 : decode cX9_init 526 = .ok (.bipush 80, 2) := by decide +kernel
theorem dX9_init_528 : decode cX9_init 528 = .ok (.bipush 99, 2) := by decide +kernel
theorem dX9_init_530 : decode cX9_init 530 = .ok (.bastore, 1) := by decide +kernel
theorem dX9_init_531 : decode cX9_init 531 = .ok (.dup, 1) := by decide +kernel
theorem dX9_init_532 : decode cX9_init 532 = .ok (.bipush 81, 2) := by decide +kernel
theorem dX9_init_534 : decode cX9_init 534 = .ok (.bipush 114, 2) := by decide +kernel
theorem dX9_init_536 : decode cX9_init 536 = .ok (.bastore, 1) := by decide +kernel
theorem dX9_init_537 : decode cX9_init 537 = .ok (.dup, 1) := by decide +kernel
theorem dX9_init_538 : decode cX9_init 538 = .ok (.bipush 82, 2) := by decide +kernel
theorem dX9_init_540 : decode cX9_init 540 = .ok (.bipush 111, 2) := by decide +kernel
theorem dX9_init_542 : decode cX9_init 542 = .ok (.bastore, 1) := by decide +kernel
theorem dX9_init_543 : decode cX9_init 543 = .ok (.dup, 1) := by decide +kernel
theorem dX9_init_544 : decode cX9_init 544 = .ok (.bipush 83, 2) := by decide +kernel
theorem dX9_init_546 : decode cX9_init 546 = .ok (.bipush 115, 2) := by decide +kernel
theorem dX9_init_548 : decode cX9_init 548 = .ok (.bastore, 1) := by decide +kernel
theorem dX9_init_549 : decode cX9_init 549 = .ok (.dup, 1) := by decide +kernel
theorem dX9_init_550 : decode cX9_init 550 = .ok (.bipush 84, 2) := by decide +kernel
theorem dX9_init_552 : decode cX9_init 552 = .ok (.bipush 115, 2) := by decide +kernel
theorem dX9_init_554 : decode cX9_init 554 = .ok (.bastore, 1) := by decide +kernel
theorem dX9_init_555 : decode cX9_init 555 = .ok (.dup, 1) := by decide +kernel
theorem dX9_init_556 : decode cX9_init 556 = .ok (.bipush 85, 2) := by decide +kernel
theorem dX9_init_558 : decode cX9_init 558 = .ok (.bipush 32, 2) := by decide +kernel
theorem dX9_init_560 : decode cX9_init 560 = .ok (.bastore, 1) := by decide +kernel
theorem dX9_init_561 : decode cX9_init 561 = .ok (.dup, 1) := by decide +kernel
theorem dX9_init_562 : decode cX9_init 562 = .ok (.bipush 86, 2) := by decide +kernel
theorem dX9_init_564 : decode cX9_init 564 = .ok (.bipush 100, 2) := by decide +kernel
theorem dX9_init_566 : decode cX9_init 566 = .ok (.bastore, 1) := by decide +kernel
theorem dX9_init_567 : decode cX9_init 567 = .ok (.dup, 1) := by decide +kernel
theorem dX9_init_568 : decode cX9_init 568 = .ok (.bipush 87, 2) := by decide +kernel
theorem dX9_init_570 : decode cX9_init 570 = .ok (.bipush 97, 2) := by decide +kernel
theorem dX9_init_572 : decode cX9_init 572 = .ok (.bastore, 1) := by decide +kernel
theorem dX9_init_573 : decode cX9_init 573 = .ok (.dup, 1) := by decide +kernel
theorem dX9_init_574 : decode cX9_init 574 = .ok (.bipush 88, 2) := by decide +kernel
theorem dX9_init_576 : decode cX9_init 576 = .ok (.bipush 121, 2) := by decide +kernel
theorem dX9_init_578 : decode cX9_init 578 = .ok (.bastore, 1) := by decide +kernel
theorem dX9_init_579 : decode cX9_init 579 = .ok (.dup, 1) := by decide +kernel
theorem dX9_init_580 : decode cX9_init 580 = .ok (.bipush 89, 2) := by decide +kernel
theorem dX9_init_582 : decode cX9_init 582 = .ok (.bipush 32, 2) := by decide +kernel
theorem dX9_init_584 : decode cX9_init 584 = .ok (.bastore, 1) := by decide +kernel
theorem dX9_init_585 : decode cX9_init 585 = .ok (.dup, 1) := by decide +kernel
theorem dX9_init_586 : decode cX9_init 586 = .ok (.bipush 90, 2) := by decide +kernel
theorem dX9_init_588 : decode cX9_init 588 = .ok (.bipush 100, 2) := by decide +kernel
theorem dX9_init_590 : decode cX9_init 590 = .ok (.bastore, 1) := by decide +kernel
theorem dX9_init_591 : decode cX9_init 591 = .ok (.dup, 1) := by decide +kernel
theorem dX9_init_592 : decode cX9_init 592 = .ok (.bipush 91, 2) := by decide +kernel
theorem dX9_init_594 : decode cX9_init 594 = .ok (.bipush 111, 2) := by decide +kernel
theorem dX9_init_596 : decode cX9_init 596 = .ok (.bastore, 1) := by decide +kernel
theorem dX9_init_597 : decode cX9_init 597 = .ok (.dup, 1) := by decide +kernel
theorem dX9_init_598 : decode cX9_init 598 = .ok (.bipush 92, 2) := by decide +kernel
theorem dX9_init_600 : decode cX9_init 600 = .ok (.bipush 110, 2) := by decide +kernel
theorem dX9_init_602 : decode cX9_init 602 = .ok (.bastore, 1) := by decide +kernel
theorem dX9_init_603 : decode cX9_init 603 = .ok (.dup, 1) := by decide +kernel
theorem dX9_init_604 : decode cX9_init 604 = .ok (.bipush 93, 2) := by decide +kernel
theorem dX9_init_606 : decode cX9_init 606 = .ok (.bipush 101, 2) := by decide +kernel
theorem dX9_init_608 : decode cX9_init 608 = .ok (.bastore, 1) := by decide +kernel
theorem dX9_init_609 : decode cX9_init 609 = .ok (.dup, 1) := by decide +kernel
theorem dX9_init_610 : decode cX9_init 610 = .ok (.bipush 94, 2) := by decide +kernel
theorem dX9_init_612 : decode cX9_init 612 = .ok (.bipush 32, 2) := by decide +kernel
theorem dX9_init_614 : decode cX9_init 614 = .ok (.bastore, 1) := by decide +kernel
theorem dX9_init_615 : decode cX9_init 615 = .ok (.dup, 1) := by decide +kernel
theorem dX9_init_616 : decode cX9_init 616 = .ok (.bipush 95, 2) := by decide +kernel
theorem dX9_init_618 : decode cX9_init 618 = .ok (.bipush 108, 2) := by decide +kernel
theorem dX9_init_620 : decode cX9_init 620 = .ok (.bastore, 1) := by decide +kernel
theorem dX9_init_621 : decode cX9_init 621 = .ok (.dup, 1) := by decide +kernel
theorem dX9_init_622 : decode cX9_init 622 = .ok (.bipush 96, 2) := by decide +kernel
theorem dX9_init_624 : decode cX9_init 624 = .ok (.bipush 97, 2) := by decide +kernel
theorem dX9_init_626 : decode cX9_init 626 = .ok (.bastore, 1) := by decide +kernel
theorem dX9_init_627 : decode cX9_init 627 = .ok (.dup, 1) := by decide +kernel
theorem dX9_init_628 : decode cX9_init 628 = .ok (.bipush 97, 2) := by decide +kernel
theorem dX9_init_630 : decode cX9_init 630 = .ok (.bipush 116, 2) := by decide +kernel
theorem dX9_init_632 : decode cX9_init 632 = .ok (.bastore, 1) := by decide +kernel
theorem dX9_init_633 : decode cX9_init 633 = .ok (.dup, 1) := by decide +kernel
theorem dX9_init_634 : decode cX9_init 634 = .ok (.bipush 98, 2) := by decide +kernel
theorem dX9_init_636 : decode cX9_init 636 = .ok (.bipush 101, 2) := by decide +kernel
theorem dX9_init_638 : decode cX9_init 638 = .ok (.bastore, 1) := by decide +kernel
theorem dX9_init_639 : decode cX9_init 639 = .ok (.dup, 1) := by decide +kernel
theorem dX9_init_640 : decode cX9_init 640 = .ok (.bipush 99, 2) := by decide +kernel
theorem dX9_init_642 : decode cX9_init 642 = .ok (.bipush 115, 2) := by decide +kernel
theorem dX9_init_644 : decode cX9_init 644 = .ok (.bastore, 1) := by decide +kernel
theorem dX9_init_645 : decode cX9_init 645 = .ok (.dup, 1) := by decide +kernel
theorem dX9_init_646 : decode cX9_init 646 = .ok (.bipush 100, 2) := by decide +kernel
theorem dX9_init_648 : decode cX9_init 648 = .ok (.bipush 116, 2) := by decide +kernel
theorem dX9_init_650 : decode cX9_init 650 = .ok (.bastore, 1) := by decide +kernel
theorem dX9_init_651 : decode cX9_init 651 = .ok (.dup, 1) := by decide +kernel
theorem dX9_init_652 : decode cX9_init 652 = .ok (.bipush 101, 2) := by decide +kernel
theorem dX9_init_654 : decode cX9_init 654 = .ok (.bipush 32, 2) := by decide +kernel
theorem dX9_init_656 : decode cX9_init 656 = .ok (.bastore, 1) := by decide +kernel
theorem dX9_init_657 : decode cX9_init 657 = .ok (.dup, 1) := by decide +kernel
theorem dX9_init_658 : decode cX9_init 658 = .ok (.bipush 102, 2) := by decide +kernel
theorem dX9_init_660 : decode cX9_init 660 = .ok (.bipush 104, 2) := by decide +kernel
theorem dX9_init_662 : decode cX9_init 662 = .ok (.bastore, 1) := by decide +kernel
theorem dX9_init_663 : decode cX9_init 663 = .ok (.dup, 1) := by decide +kernel
theorem dX9_init_664 : decode cX9_init 664 = .ok (.bipush 103, 2) := by decide +kernel
theorem dX9_init_666 : decode cX9_init 666 = .ok (.bipush 97, 2) := by decide +kernel
theorem dX9_init_668 : decode cX9_init 668 = .ok (.bastore, 1) := by decide +kernel
theorem dX9_init_669 : decode cX9_init 669 = .ok (.dup, 1) := by decide +kernel
theorem dX9_init_670 : decode cX9_init 670 = .ok (.bipush 104, 2) := by decide +kernel
theorem dX9_init_672 : decode cX9_init 672 = .ok (.bipush 110, 2) := by decide +kernel
theorem dX9_init_674 : decode cX9_init 674 = .ok (.bastore, 1) := by decide +kernel
theorem dX9_init_675 : decode cX9_init 675 = .ok (.dup, 1) := by decide +kernel
theorem dX9_init_676 : decode cX9_init 676 = .ok (.bipush 105, 2) := by decide +kernel
theorem dX9_init_678 : decode cX9_init 678 = .ok (.bipush 100, 2) := by decide +kernel
theorem dX9_init_680 : decode cX9_init 680 = .ok (.bastore, 1) := by decide +kernel
theorem dX9_init_681 : decode cX9_init 681 = .ok (.dup, 1) := by decide +kernel
theorem dX9_init_682 : decode cX9_init 682 = .ok (.bipush 106, 2) := by decide +kernel
theorem dX9_init_684 : decode cX9_init 684 = .ok (.bipush 32, 2) := by decide +kernel
theorem dX9_init_686 : decode cX9_init 686 = .ok (.bastore, 1) := by decide +kernel
theorem dX9_init_687 : decode cX9_init 687 = .ok (.dup, 1) := by decide +kernel
theorem dX9_init_688 : decode cX9_init 688 = .ok (.bipush 107, 2) := by decide +kernel
theorem dX9_init_690 : decode cX9_init 690 = .ok (.bipush 116, 2) := by decide +kernel
theorem dX9_init_692 : decode cX9_init 692 = .ok (.bastore, 1) := by decide +kernel
theorem dX9_init_693 : decode cX9_init 693 = .ok (.dup, 1) := by decide +kernel
theorem dX9_init_694 : decode cX9_init 694 = .ok (.bipush 108, 2) := by decide +kernel
theorem dX9_init_696 : decode cX9_init 696 = .ok (.bipush 97, 2) := by decide +kernel
theorem dX9_init_698 : decode cX9_init 698 = .ok (.bastore, 1) := by decide +kernel
theorem dX9_init_699 : decode cX9_init 699 = .ok (.dup, 1) := by decide +kernel
theorem dX9_init_700 : decode cX9_init 700 = .ok (.bipush 109, 2) := by decide +kernel
theorem dX9_init_702 : decode cX9_init 702 = .ok (.bipush 107, 2) := by decide +kernel
theorem dX9_init_704 : decode cX9_init 704 = .ok (.bastore, 1) := by decide +kernel
theorem dX9_init_705 : decode cX9_init 705 = .ok (.dup, 1) := by decide +kernel
theorem dX9_init_706 : decode cX9_init 706 = .ok (.bipush 110, 2) := by decide +kernel
theorem dX9_init_708 : decode cX9_init 708 = .ok (.bipush 101, 2) := by decide +kernel
theorem dX9_init_710 : decode cX9_init 710 = .ok (.bastore, 1) := by decide +kernel
theorem dX9_init_711 : decode cX9_init 711 = .ok (.dup, 1) := by decide +kernel
theorem dX9_init_712 : decode cX9_init 712 = .ok (.bipush 111, 2) := by decide +kernel
theorem dX9_init_714 : decode cX9_init 714 = .ok (.bipush 32, 2) := by decide +kernel
theorem dX9_init_716 : decode cX9_init 716 = .ok (.bastore, 1) := by decide +kernel
theorem dX9_init_717 : decode cX9_init 717 = .ok (.dup, 1) := by decide +kernel
theorem dX9_init_718 : decode cX9_init 718 = .ok (.bipush 112, 2) := by decide +kernel
theorem dX9_init_720 : decode cX9_init 720 = .ok (.bipush 98, 2) := by decide +kernel
theorem dX9_init_722 : decode cX9_init 722 = .ok (.bastore, 1) := by decide +kernel
theorem dX9_init_723 : decode cX9_init 723 = .ok (.dup, 1) := by decide +kernel
theorem dX9_init_724 : decode cX9_init 724 = .ok (.bipush 113, 2) := by decide +kernel
theorem dX9_init_726 : decode cX9_init 726 = .ok (.bipush 121, 2) := by decide +kernel
theorem dX9_init_728 : decode cX9_init 728 = .ok (.bastore, 1) := by decide +kernel
theorem dX9_init_729 : decode cX9_init 729 = .ok (.dup, 1) := by decide +kernel
theorem dX9_init_730 : decode cX9_init 730 = .ok (.bipush 114, 2) := by decide +kernel
theorem dX9_init_732 : decode cX9_init 732 = .ok (.bipush 32, 2) := by decide +kernel
theorem dX9_init_734 : decode cX9_init 734 = .ok (.bastore, 1) := by decide +kernel
theorem dX9_init_735 : decode cX9_init 735 = .ok (.dup, 1) := by decide +kernel
theorem dX9_init_736 : decode cX9_init 736 = .ok (.bipush 115, 2) := by decide +kernel
theorem dX9_init_738 : decode cX9_init 738 = .ok (.bipush 115, 2) := by decide +kernel
theorem dX9_init_740 : decode cX9_init 740 = .ok (.bastore, 1) := by decide +kernel
theorem dX9_init_741 : decode cX9_init 741 = .ok (.dup, 1) := by decide +kernel
theorem dX9_init_742 : decode cX9_init 742 = .ok (.bipush 116, 2) := by decide +kernel
theorem dX9_init_744 : decode cX9_init 744 = .ok (.bipush 104, 2) := by decide +kernel
theorem dX9_init_746 : decode cX9_init 746 = .ok (.bastore, 1) := by decide +kernel
theorem dX9_init_747 : decode cX9_init 747 = .ok (.dup, 1) := by decide +kernel
theorem dX9_init_748 : decode cX9_init 748 = .ok (.bipush 117, 2) := by decide +kernel
theorem dX9_init_750 : decode cX9_init 750 = .ok (.bipush 105, 2) := by decide +kernel
theorem dX9_init_752 : decode cX9_init 752 = .ok (.bastore, 1) := by decide +kernel
theorem dX9_init_753 : decode cX9_init 753 = .ok (.dup, 1) := by decide +kernel
theorem dX9_init_754 : decode cX9_init 754 = .ok (.bipush 118, 2) := by decide +kernel
theorem dX9_init_756 : decode cX9_init 756 = .ok (.bipush 102, 2) := by decide +kernel
theorem dX9_init_758 : decode cX9_init 758 = .ok (.bastore, 1) := by decide +kernel
theorem dX9_init_759 : decode cX9_init 759 = .ok (.dup, 1) := by decide +kernel
theorem dX9_init_760 : decode cX9_init 760 = .ok (.bipush 119, 2) := by decide +kernel
theorem dX9_init_762 : decode cX9_init 762 = .ok (.bipush 116, 2) := by decide +kernel
theorem dX9_init_764 : decode cX9_init 764 = .ok (.bastore, 1) := by decide +kernel
theorem dX9_init_765 : decode cX9_init 765 = .ok (.dup, 1) := by decide +kernel
theorem dX9_init_766 : decode cX9_init 766 = .ok (.bipush 120, 2) := by decide +kernel
theorem dX9_init_768 : decode cX9_init 768 = .ok (.bipush 32, 2) := by decide +kernel
theorem dX9_init_770 : decode cX9_init 770 = .ok (.bastore, 1) := by decide +kernel
theorem dX9_init_771 : decode cX9_init 771 = .ok (.dup, 1) := by decide +kernel
theorem dX9_init_772 : decode cX9_init 772 = .ok (.bipush 121, 2) := by decide +kernel
theorem dX9_init_774 : decode cX9_init 774 = .ok (.bipush 116, 2) := by decide +kernel
theorem dX9_init_776 : decode cX9_init 776 = .ok (.bastore, 1) := by decide +kernel
theorem dX9_init_777 : decode cX9_init 777 = .ok (.dup, 1) := by decide +kernel
theorem dX9_init_778 : decode cX9_init 778 = .ok (.bipush 122, 2) := by decide +kernel
theorem dX9_init_780 : decode cX9_init 780 = .ok (.bipush 111, 2) := by decide +kernel
theorem dX9_init_782 : decode cX9_init 782 = .ok (.bastore, 1) := by decide +kernel
theorem dX9_init_783 : decode cX9_init 783 = .ok (.dup, 1) := by decide +kernel
theorem dX9_init_784 : decode cX9_init 784 = .ok (.bipush 123, 2) := by decide +kernel
theorem dX9_init_786 : decode cX9_init 786 = .ok (.bipush 32, 2) := by decide +kernel
theorem dX9_init_788 : decode cX9_init 788 = .ok (.bastore, 1) := by decide +kernel
theorem dX9_init_789 : decode cX9_init 789 = .ok (.dup, 1) := by decide +kernel
theorem dX9_init_790 : decode cX9_init 790 = .ok (.bipush 124, 2) := by decide +kernel
theorem dX9_init_792 : decode cX9_init 792 = .ok (.bipush 111, 2) := by decide +kernel
theorem dX9_init_794 : decode cX9_init 794 = .ok (.bastore, 1) := by decide +kernel
theorem dX9_init_795 : decode cX9_init 795 = .ok (.dup, 1) := by decide +kernel
theorem dX9_init_796 : decode cX9_init 796 = .ok (.bipush 125, 2) := by decide +kernel
theorem dX9_init_798 : decode cX9_init 798 = .ok (.bipush 102, 2) := by decide +kernel
theorem dX9_init_800 : decode cX9_init 800 = .ok (.bastore, 1) := by decide +kernel
theorem dX9_init_801 : decode cX9_init 801 = .ok (.dup, 1) := by decide +kernel
theorem dX9_init_802 : decode cX9_init 802 = .ok (.bipush 126, 2) := by decide +kernel
theorem dX9_init_804 : decode cX9_init 804 = .ok (.bipush 32, 2) := by decide +kernel
theorem dX9_init_806 : decode cX9_init 806 = .ok (.bastore, 1) := by decide +kernel
theorem dX9_init_807 : decode cX9_init 807 = .ok (.dup, 1) := by decide +kernel
theorem dX9_init_808 : decode cX9_init 808 = .ok (.bipush 127, 2) := by decide +kernel
theorem dX9_init_810 : decode cX9_init 810 = .ok (.bipush 102, 2) := by decide +kernel
theorem dX9_init_812 : decode cX9_init 812 = .ok (.bastore, 1) := by decide +kernel
theorem dX9_init_813 : decode cX9_init 813 = .ok (.dup, 1) := by decide +kernel
theorem dX9_init_814 : decode cX9_init 814 = .ok (.sipush 128, 3) := by decide +kernel
theorem dX9_init_817 : decode cX9_init 817 = .ok (.bipush 101, 2) := by decide +kernel
theorem dX9_init_819 : decode cX9_init 819 = .ok (.bastore, 1) := by decide +kernel
theorem dX9_init_820 : decode cX9_init 820 = .ok (.dup, 1) := by decide +kernel
theorem dX9_init_821 : decode cX9_init 821 = .ok (.sipush 129, 3) := by decide +kernel
theorem dX9_init_824 : decode cX9_init 824 = .ok (.bipush 110, 2) := by decide +kernel
theorem dX9_init_826 : decode cX9_init 826 = .ok (.bastore, 1) := by decide +kernel
theorem dX9_init_827 : decode cX9_init 827 = .ok (.dup, 1) := by decide +kernel
theorem dX9_init_828 : decode cX9_init 828 = .ok (.sipush 130, 3) := by decide +kernel
theorem dX9_init_831 : decode cX9_init 831 = .ok (.bipush 99, 2) := by decide +kernel
theorem dX9_init_833 : decode cX9_init 833 = .ok (.bastore, 1) := by decide +kernel
theorem dX9_init_834 : decode cX9_init 834 = .ok (.dup, 1) := by decide +kernel
theorem dX9_init_835 : decode cX9_init 835 = .ok (.sipush 131, 3) := by decide +kernel
theorem dX9_init_838 : decode cX9_init 838 = .ok (.bipush 101, 2) := by decide +kernel
theorem dX9_init_840 : decode cX9_init 840 = .ok (.bastore, 1) := by decide +kernel
theorem dX9_init_841 : decode cX9_init 841 = .ok (.dup, 1) := by decide +kernel
theorem dX9_init_842 : decode cX9_init 842 = .ok (.sipush 132, 3) := by decide +kernel
theorem dX9_init_845 : decode cX9_init 845 = .ok (.bipush 32, 2) := by decide +kernel
theorem dX9_init_847 : decode cX9_init 847 = .ok (.bastore, 1) := by decide +kernel
theorem dX9_init_848 : decode cX9_init 848 = .ok (.dup, 1) := by decide +kernel
theorem dX9_init_849 : decode cX9_init 849 = .ok (.sipush 133, 3) := by decide +kernel
theorem dX9_init_852 : decode cX9_init 852 = .ok (.bipush 112, 2) := by decide +kernel
theorem dX9_init_854 : decode cX9_init 854 = .ok (.bastore, 1) := by decide +kernel
theorem dX9_init_855 : decode cX9_init 855 = .ok (.dup, 1) := by decide +kernel
theorem dX9_init_856 : decode cX9_init 856 = .ok (.sipush 134, 3) := by decide +kernel
theorem dX9_init_859 : decode cX9_init 859 = .ok (.bipush 97, 2) := by decide +kernel
theorem dX9_init_861 : decode cX9_init 861 = .ok (.bastore, 1) := by decide +kernel
theorem dX9_init_862 : decode cX9_init 862 = .ok (.dup, 1) := by decide +kernel
theorem dX9_init_863 : decode cX9_init 863 = .ok (.sipush 135, 3) := by decide +kernel
theorem dX9_init_866 : decode cX9_init 866 = .ok (.bipush 115, 2) := by decide +kernel
theorem dX9_init_868 : decode cX9_init 868 = .ok (.bastore, 1) := by decide +kernel
theorem dX9_init_869 : decode cX9_init 869 = .ok (.dup, 1) := by decide +kernel
theorem dX9_init_870 : decode cX9_init 870 = .ok (.sipush 136, 3) := by decide +kernel
theorem dX9_init_873 : decode cX9_init 873 = .ok (.bipush 115, 2) := by decide +kernel
theorem dX9_init_875 : decode cX9_init 875 = .ok (.bastore, 1) := by decide +kernel
theorem dX9_init_876 : decode cX9_init 876 = .ok (.dup, 1) := by decide +kernel
theorem dX9_init_877 : decode cX9_init 877 = .ok (.sipush 137, 3) := by decide +kernel
theorem dX9_init_880 : decode cX9_init 880 = .ok (.bipush 32, 2) := by decide +kernel
theorem dX9_init_882 : decode cX9_init 882 = .ok (.bastore, 1) := by decide +kernel
theorem dX9_init_883 : decode cX9_init 883 = .ok (.dup, 1) := by decide +kernel
theorem dX9_init_884 : decode cX9_init 884 = .ok (.sipush 138, 3) := by decide +kernel
theorem dX9_init_887 : decode cX9_init 887 = .ok (.bipush 116, 2) := by decide +kernel
theorem dX9_init_889 : decode cX9_init 889 = .ok (.bastore, 1) := by decide +kernel
theorem dX9_init_890 : decode cX9_init 890 = .ok (.dup, 1) := by decide +kernel
theorem dX9_init_891 : decode cX9_init 891 = .ok (.sipush 139, 3) := by decide +kernel
theorem dX9_init_894 : decode cX9_init 894 = .ok (.bipush 105, 2) := by decide +kernel
theorem dX9_init_896 : decode cX9_init 896 = .ok (.bastore, 1) := by decide +kernel
theorem dX9_init_897 : decode cX9_init 897 = .ok (.dup, 1) := by decide +kernel
theorem dX9_init_898 : decode cX9_init 898 = .ok (.sipush 140, 3) := by decide +kernel
theorem dX9_init_901 : decode cX9_init 901 = .ok (.bipush 109, 2) := by decide +kernel
theorem dX9_init_903 : decode cX9_init 903 = .ok (.bastore, 1) := by decide +kernel
theorem dX9_init_904 : decode cX9_init 904 = .ok (.dup, 1) := by decide +kernel
theorem dX9_init_905 : decode cX9_init 905 = .ok (.sipush 141, 3) := by decide +kernel
theorem dX9_init_908 : decode cX9_init 908 = .ok (.bipush 101, 2) := by decide +kernel
theorem dX9_init_910 : decode cX9_init 910 = .ok (.bastore, 1) := by decide +kernel
theorem dX9_init_911 : decode cX9_init 911 = .ok (.dup, 1) := by decide +kernel
theorem dX9_init_912 : decode cX9_init 912 = .ok (.sipush 142, 3) := by decide +kernel
theorem dX9_init_915 : decode cX9_init 915 = .ok (.bipush 115, 2) := by decide +kernel
theorem dX9_init_917 : decode cX9_init 917 = .ok (.bastore, 1) := by decide +kernel
theorem dX9_init_918 : decode cX9_init 918 = .ok (.dup, 1) := by decide +kernel
theorem dX9_init_919 : decode cX9_init 919 = .ok (.sipush 143, 3) := by decide +kernel
theorem dX9_init_922 : decode cX9_init 922 = .ok (.bipush 32, 2) := by decide +kernel
theorem dX9_init_924 : decode cX9_init 924 = .ok (.bastore, 1) := by decide +kernel
theorem dX9_init_925 : decode cX9_init 925 = .ok (.putfield 41, 3) := by decide +kernel
theorem dX9_init_928 : decode cX9_init 928 = .ok (.aload_n 0, 1) := by decide +kernel
theorem dX9_init_929 : decode cX9_init 929 = .ok (.sipush 400, 3) := by decide +kernel
theorem dX9_init_932 : decode cX9_init 932 = .ok (.newarray .byte, 2) := by decide +kernel
theorem dX9_init_934 : decode cX9_init 934 = .ok (.putfield 45, 3) := by decide +kernel
theorem dX9_init_937 : decode cX9_init 937 = .ok (.aload_n 0, 1) := by decide +kernel
theorem dX9_init_938 : decode cX9_init 938 = .ok (.iconst 5, 1) := by decide +kernel
theorem dX9_init_939 : decode cX9_init 939 = .ok (.newarray .int, 2) := by decide +kernel
theorem dX9_init_941 : decode cX9_init 941 = .ok (.putfield 48, 3) := by decide +kernel
theorem dX9_init_944 : decode cX9_init 944 = .ok (.aload_n 0, 1) := by decide +kernel
theorem dX9_init_945 : decode cX9_init 945 = .ok (.iconst (-1), 1) := by decide +kernel
theorem dX9_init_946 : decode cX9_init 946 = .ok (.putfield 51, 3) := by decide +kernel
theorem dX9_init_949 : decode cX9_init 949 = .ok (.aload_n 0, 1) := by decide +kernel
theorem dX9_init_950 : decode cX9_init 950 = .ok (.sipush 401, 3) := by decide +kernel
theorem dX9_init_953 : decode cX9_init 953 = .ok (.newarray .int, 2) := by decide +kernel
theorem dX9_init_955 : decode cX9_init 955 = .ok (.putfield 54, 3) := by decide +kernel
theorem dX9_init_958 : decode cX9_init 958 = .ok (.aload_n 0, 1) := by decide +kernel
theorem dX9_init_959 : decode cX9_init 959 = .ok (.sipush 401, 3) := by decide +kernel
theorem dX9_init_962 : decode cX9_init 962 = .ok (.newarray .int, 2) := by decide +kernel
theorem dX9_init_964 : decode cX9_init 964 = .ok (.putfield 57, 3) := by decide +kernel
theorem dX9_init_967 : decode cX9_init 967 = .ok (.aload_n 0, 1) := by decide +kernel
theorem dX9_init_968 : decode cX9_init 968 = .ok (.sipush 401, 3) := by decide +kernel
theorem dX9_init_971 : decode cX9_init 971 = .ok (.newarray .int, 2) := by decide +kernel
theorem dX9_init_973 : decode cX9_init 973 = .ok (.putfield 60, 3) := by decide +kernel
theorem dX9_init_976 : decode cX9_init 976 = .ok (.aload_n 0, 1) := by decide +kernel
theorem dX9_init_977 : decode cX9_init 977 = .ok (.bipush 10, 2) := by decide +kernel
theorem dX9_init_979 : decode cX9_init 979 = .ok (.newarray .int, 2) := by decide +kernel
theorem dX9_init_981 : decode cX9_init 981 = .ok (.putfield 63, 3) := by decide +kernel
theorem dX9_init_984 : decode cX9_init 984 = .ok (.aload_n 0, 1) := by decide +kernel
theorem dX9_init_985 : decode cX9_init 985 = .ok (.sipush 528, 3) := by decide +kernel
theorem dX9_init_988 : decode cX9_init 988 = .ok (.newarray .int, 2) := by decide +kernel
theorem dX9_init_990 : decode cX9_init 990 = .ok (.putfield 66, 3) := by decide +kernel
theorem dX9_init_993 : decode cX9_init 993 = .ok (.aload_n 0, 1) := by decide +kernel
theorem dX9_init_994 : decode cX9_init 994 = .ok (.sipush 528, 3) := by decide +kernel
theorem dX9_init_997 : decode cX9_init 997 = .ok (.newarray .int, 2) := by decide +kernel
theorem dX9_init_999 : decode cX9_init 999 = .ok (.putfield 69, 3) := by decide +kernel
theorem dX9_init_1002 : decode cX9_init 1002 = .ok (.aload_n 0, 1) := by decide +kernel
theorem dX9_init_1003 : decode cX9_init 1003 = .ok (.bipush 10, 2) := by decide +kernel
theorem dX9_init_1005 : decode cX9_init 1005 = .ok (.newarray .int, 2) := by decide +kernel
theorem dX9_init_1007 : decode cX9_init 1007 = .ok (.putfield 72, 3) := by decide +kernel
theorem dX9_init_1010 : decode cX9_init 1010 = .ok (.aload_n 0, 1) := by decide +kernel
theorem dX9_init_1011 : decode cX9_init 1011 = .ok (.sipush 1024, 3) := by decide +kernel
theorem dX9_init_1014 : decode cX9_init 1014 = .ok (.newarray .int, 2) := by decide +kernel
theorem dX9_init_1016 : decode cX9_init 1016 = .ok (.putfield 75, 3) := by decide +kernel
theorem dX9_init_1019 : decode cX9_init 1019 = .ok (.aload_n 0, 1) := by decide +kernel
theorem dX9_init_1020 : decode cX9_init 1020 = .ok (.sipush 1024, 3) := by decide +kernel
theorem dX9_init_1023 : decode cX9_init 1023 = .ok (.newarray .int, 2) := by decide +kernel
theorem dX9_init_1025 : decode cX9_init 1025 = .ok (.putfield 78, 3) := by decide +kernel
theorem dX9_init_1028 : decode cX9_init 1028 = .ok (.aload_n 0, 1) := by decide +kernel
theorem dX9_init_1029 : decode cX9_init 1029 = .ok (.bipush 26, 2) := by decide +kernel
theorem dX9_init_1031 : decode cX9_init 1031 = .ok (.newarray .int, 2) := by decide +kernel
theorem dX9_init_1033 : decode cX9_init 1033 = .ok (.putfield 81, 3) := by decide +kernel
theorem dX9_init_1036 : decode cX9_init 1036 = .ok (.aload_n 0, 1) := by decide +kernel
theorem dX9_init_1037 : decode cX9_init 1037 = .ok (.sipush 150, 3) := by decide +kernel
theorem dX9_init_1040 : decode cX9_init 1040 = .ok (.newarray .int, 2) := by decide +kernel
theorem dX9_init_1042 : decode cX9_init 1042 = .ok (.putfield 84, 3) := by decide +kernel
theorem dX9_init_1045 : decode cX9_init 1045 = .ok (.aload_n 0, 1) := by decide +kernel
theorem dX9_init_1046 : decode cX9_init 1046 = .ok (.bipush 26, 2) := by decide +kernel
theorem dX9_init_1048 : decode cX9_init 1048 = .ok (.newarray .int, 2) := by decide +kernel
theorem dX9_init_1050 : decode cX9_init 1050 = .ok (.putfield 87, 3) := by decide +kernel
theorem dX9_init_1053 : decode cX9_init 1053 = .ok (.aload_n 0, 1) := by decide +kernel
theorem dX9_init_1054 : decode cX9_init 1054 = .ok (.bipush 32, 2) := by decide +kernel
theorem dX9_init_1056 : decode cX9_init 1056 = .ok (.newarray .int, 2) := by decide +kernel
theorem dX9_init_1058 : decode cX9_init 1058 = .ok (.putfield 90, 3) := by decide +kernel
theorem dX9_init_1061 : decode cX9_init 1061 = .ok (.aload_n 0, 1) := by decide +kernel
theorem dX9_init_1062 : decode cX9_init 1062 = .ok (.bipush 21, 2) := by decide +kernel
theorem dX9_init_1064 : decode cX9_init 1064 = .ok (.newarray .long, 2) := by decide +kernel
theorem dX9_init_1066 : decode cX9_init 1066 = .ok (.putfield 93, 3) := by decide +kernel
theorem dX9_init_1069 : decode cX9_init 1069 = .ok (.aload_n 0, 1) := by decide +kernel
theorem dX9_init_1070 : decode cX9_init 1070 = .ok (.iconst (-1), 1) := by decide +kernel
theorem dX9_init_1071 : decode cX9_init 1071 = .ok (.putfield 97, 3) := by decide +kernel
theorem dX9_init_1074 : decode cX9_init 1074 = .ok (.aload_n 0, 1) := by decide +kernel
theorem dX9_init_1075 : decode cX9_init 1075 = .ok (.iconst 3, 1) := by decide +kernel
theorem dX9_init_1076 : decode cX9_init 1076 = .ok (.newarray .long, 2) := by decide +kernel
theorem dX9_init_1078 : decode cX9_init 1078 = .ok (.putfield 100, 3) := by decide +kernel
theorem dX9_init_1081 : decode cX9_init 1081 = .ok (.aload_n 0, 1) := by decide +kernel
theorem dX9_init_1082 : decode cX9_init 1082 = .ok (.bipush 32, 2) := by decide +kernel
theorem dX9_init_1084 : decode cX9_init 1084 = .ok (.newarray .int, 2) := by decide +kernel
theorem dX9_init_1086 : decode cX9_init 1086 = .ok (.putfield 103, 3) := by decide +kernel
theorem dX9_init_1089 : decode cX9_init 1089 = .ok (.aload_n 0, 1) := by decide +kernel
theorem dX9_init_1090 : decode cX9_init 1090 = .ok (.iconst (-1), 1) := by decide +kernel
theorem dX9_init_1091 : decode cX9_init 1091 = .ok (.putfield 106, 3) := by decide +kernel
theorem dX9_init_1094 : decode cX9_init 1094 = .ok (.aload_n 0, 1) := by decide +kernel
theorem dX9_init_1095 : decode cX9_init 1095 = .ok (.getfield 28, 3) := by decide +kernel
theorem dX9_init_1098 : decode cX9_init 1098 = .ok (.bipush 101, 2) := by decide +kernel
theorem dX9_init_1100 : decode cX9_init 1100 = .ok (.iconst 1, 1) := by decide +kernel
theorem dX9_init_1101 : decode cX9_init 1101 = .ok (.iastore, 1) := by decide +kernel
theorem dX9_init_1102 : decode cX9_init 1102 = .ok (.aload_n 0, 1) := by decide +kernel
theorem dX9_init_1103 : decode cX9_init 1103 = .ok (.getfield 28, 3) := by decide +kernel
theorem dX9_init_1106 : decode cX9_init 1106 = .ok (.bipush 107, 2) := by decide +kernel
theorem dX9_init_1108 : decode cX9_init 1108 = .ok (.iconst (-1), 1) := by decide +kernel
theorem dX9_init_1109 : decode cX9_init 1109 = .ok (.iastore, 1) := by decide +kernel
theorem dX9_init_1110 : decode cX9_init 1110 = .ok (.return_, 1) := by decide +kernel
theorem dX9_laysAside_0 : decode cX9_laysAside 0 = .ok (.iconst 0, 1) := by decide +kernel
theorem dX9_laysAside_1 : decode cX9_laysAside 1 = .ok (.istore_n 2, 1) := by decide +kernel
theorem dX9_laysAside_2 : decode cX9_laysAside 2 = .ok (.iload_n 2, 1) := by decide +kernel
theorem dX9_laysAside_3 : decode cX9_laysAside 3 = .ok (.bipush 32, 2) := by decide +kernel
theorem dX9_laysAside_5 : decode cX9_laysAside 5 = .ok (.if_icmp .ge 26, 3) := by decide +kernel
theorem dX9_laysAside_8 : decode cX9_laysAside 8 = .ok (.aload_n 0, 1) := by decide +kernel
theorem dX9_laysAside_9 : decode cX9_laysAside 9 = .ok (.getfield 38, 3) := by decide +kernel
theorem dX9_laysAside_12 : decode cX9_laysAside 12 = .ok (.bipush 32, 2) := by decide +kernel
theorem dX9_laysAside_14 : decode cX9_laysAside 14 = .ok (.iload_n 1, 1) := by decide +kernel
theorem dX9_laysAside_15 : decode cX9_laysAside 15 = .ok (.imul, 1) := by decide +kernel
theorem dX9_laysAside_16 : decode cX9_laysAside 16 = .ok (.iload_n 2, 1) := by decide +kernel
theorem dX9_laysAside_17 : decode cX9_laysAside 17 = .ok (.iadd, 1) := by decide +kernel
theorem dX9_laysAside_18 : decode cX9_laysAside 18 = .ok (.aload_n 0, 1) := by decide +kernel
theorem dX9_laysAside_19 : decode cX9_laysAside 19 = .ok (.getfield 28, 3) := by decide +kernel
theorem dX9_laysAside_22 : decode cX9_laysAside 22 = .ok (.iload_n 2, 1) := by decide +kernel
theorem dX9_laysAside_23 : decode cX9_laysAside 23 = .ok (.iaload, 1) := by decide +kernel
theorem dX9_laysAside_24 : decode cX9_laysAside 24 = .ok (.iastore, 1) := by decide +kernel
theorem dX9_laysAside_25 : decode cX9_laysAside 25 = .ok (.iinc 2 1, 3) := by decide +kernel
theorem dX9_laysAside_28 : decode cX9_laysAside 28 = .ok (.goto (-26), 3) := by decide +kernel
theorem dX9_laysAside_31 : decode cX9_laysAside 31 = .ok (.return_, 1) := by decide +kernel
theorem dX9_takesBack_0 : decode cX9_takesBack 0 = .ok (.iconst 0, 1) := by decide +kernel
theorem dX9_takesBack_1 : decode cX9_takesBack 1 = .ok (.istore_n 2, 1) := by decide +kernel
theorem dX9_takesBack_2 : decode cX9_takesBack 2 = .ok (.iload_n 2, 1) := by decide +kernel
theorem dX9_takesBack_3 : decode cX9_takesBack 3 = .ok (.bipush 32, 2) := by decide +kernel
theorem dX9_takesBack_5 : decode cX9_takesBack 5 = .ok (.if_icmp .ge 26, 3) := by decide +kernel
theorem dX9_takesBack_8 : decode cX9_takesBack 8 = .ok (.aload_n 0, 1) := by decide +kernel
theorem dX9_takesBack_9 : decode cX9_takesBack 9 = .ok (.getfield 28, 3) := by decide +kernel
theorem dX9_takesBack_12 : decode cX9_takesBack 12 = .ok (.iload_n 2, 1) := by decide +kernel
theorem dX9_takesBack_13 : decode cX9_takesBack 13 = .ok (.aload_n 0, 1) := by decide +kernel
theorem dX9_takesBack_14 : decode cX9_takesBack 14 = .ok (.getfield 38, 3) := by decide +kernel
theorem dX9_takesBack_17 : decode cX9_takesBack 17 = .ok (.bipush 32, 2) := by decide +kernel
theorem dX9_takesBack_19 : decode cX9_takesBack 19 = .ok (.iload_n 1, 1) := by decide +kernel
theorem dX9_takesBack_20 : decode cX9_takesBack 20 = .ok (.imul, 1) := by decide +kernel
theorem dX9_takesBack_21 : decode cX9_takesBack 21 = .ok (.iload_n 2, 1) := by decide +kernel
theorem dX9_takesBack_22 : decode cX9_takesBack 22 = .ok (.iadd, 1) := by decide +kernel
theorem dX9_takesBack_23 : decode cX9_takesBack 23 = .ok (.iaload, 1) := by decide +kernel
theorem dX9_takesBack_24 : decode cX9_takesBack 24 = .ok (.iastore, 1) := by decide +kernel
theorem dX9_takesBack_25 : decode cX9_takesBack 25 = .ok (.iinc 2 1, 3) := by decide +kernel
theorem dX9_takesBack_28 : decode cX9_takesBack 28 = .ok (.goto (-26), 3) := by decide +kernel
theorem dX9_takesBack_31 : decode cX9_takesBack 31 = .ok (.return_, 1) := by decide +kernel
theorem dX9_image_0 : decode cX9_image 0 = .ok (.iload_n 1, 1) := by decide +kernel
theorem dX9_image_1 : decode cX9_image 1 = .ok (.iconst 0, 1) := by decide +kernel
theorem dX9_image_2 : decode cX9_image 2 = .ok (.iconst 1, 1) := by decide +kernel
theorem dX9_image_3 : decode cX9_image 3 = .ok (.invokestatic 18, 3) := by decide +kernel
theorem dX9_image_6 : decode cX9_image 6 = .ok (.ifCond .ne 9, 3) := by decide +kernel
theorem dX9_image_9 : decode cX9_image 9 = .ok (.aload_n 0, 1) := by decide +kernel
theorem dX9_image_10 : decode cX9_image 10 = .ok (.iconst (-1), 1) := by decide +kernel
theorem dX9_image_11 : decode cX9_image 11 = .ok (.invokevirtual 109, 3) := by decide +kernel
theorem dX9_image_14 : decode cX9_image 14 = .ok (.ireturn, 1) := by decide +kernel
theorem dX9_image_15 : decode cX9_image 15 = .ok (.iconst 0, 1) := by decide +kernel
theorem dX9_image_16 : decode cX9_image 16 = .ok (.istore_n 2, 1) := by decide +kernel
theorem dX9_image_17 : decode cX9_image 17 = .ok (.iload_n 2, 1) := by decide +kernel
theorem dX9_image_18 : decode cX9_image 18 = .ok (.sipush 5715, 3) := by decide +kernel
theorem dX9_image_21 : decode cX9_image 21 = .ok (.if_icmp .ge 27, 3) := by decide +kernel
theorem dX9_image_24 : decode cX9_image 24 = .ok (.aload_n 0, 1) := by decide +kernel
theorem dX9_image_25 : decode cX9_image 25 = .ok (.getfield 31, 3) := by decide +kernel
theorem dX9_image_28 : decode cX9_image 28 = .ok (.sipush 5715, 3) := by decide +kernel
theorem dX9_image_31 : decode cX9_image 31 = .ok (.iload_n 1, 1) := by decide +kernel
theorem dX9_image_32 : decode cX9_image 32 = .ok (.imul, 1) := by decide +kernel
theorem dX9_image_33 : decode cX9_image 33 = .ok (.iload_n 2, 1) := by decide +kernel
theorem dX9_image_34 : decode cX9_image 34 = .ok (.iadd, 1) := by decide +kernel
theorem dX9_image_35 : decode cX9_image 35 = .ok (.aload_n 0, 1) := by decide +kernel
theorem dX9_image_36 : decode cX9_image 36 = .ok (.getfield 28, 3) := by decide +kernel
theorem dX9_image_39 : decode cX9_image 39 = .ok (.iload_n 2, 1) := by decide +kernel
theorem dX9_image_40 : decode cX9_image 40 = .ok (.iaload, 1) := by decide +kernel
theorem dX9_image_41 : decode cX9_image 41 = .ok (.iastore, 1) := by decide +kernel
theorem dX9_image_42 : decode cX9_image 42 = .ok (.iinc 2 1, 3) := by decide +kernel
theorem dX9_image_45 : decode cX9_image 45 = .ok (.goto (-28), 3) := by decide +kernel
theorem dX9_image_48 : decode cX9_image 48 = .ok (.aload_n 0, 1) := by decide +kernel
theorem dX9_image_49 : decode cX9_image 49 = .ok (.getfield 34, 3) := by decide +kernel
theorem dX9_image_52 : decode cX9_image 52 = .ok (.iload_n 1, 1) := by decide +kernel
theorem dX9_image_53 : decode cX9_image 53 = .ok (.iconst 1, 1) := by decide +kernel
theorem dX9_image_54 : decode cX9_image 54 = .ok (.bastore, 1) := by decide +kernel
theorem dX9_image_55 : decode cX9_image 55 = .ok (.aload_n 0, 1) := by decide +kernel
theorem dX9_image_56 : decode cX9_image 56 = .ok (.iconst 0, 1) := by decide +kernel
theorem dX9_image_57 : decode cX9_image 57 = .ok (.invokevirtual 14, 3) := by decide +kernel
theorem dX9_image_60 : decode cX9_image 60 = .ok (.ireturn, 1) := by decide +kernel
theorem dX9_back_0 : decode cX9_back 0 = .ok (.iload_n 1, 1) := by decide +kernel
theorem dX9_back_1 : decode cX9_back 1 = .ok (.iconst 0, 1) := by decide +kernel
theorem dX9_back_2 : decode cX9_back 2 = .ok (.iconst 1, 1) := by decide +kernel
theorem dX9_back_3 : decode cX9_back 3 = .ok (.invokestatic 18, 3) := by decide +kernel
theorem dX9_back_6 : decode cX9_back 6 = .ok (.ifCond .ne 9, 3) := by decide +kernel
theorem dX9_back_9 : decode cX9_back 9 = .ok (.aload_n 0, 1) := by decide +kernel
theorem dX9_back_10 : decode cX9_back 10 = .ok (.iconst (-1), 1) := by decide +kernel
theorem dX9_back_11 : decode cX9_back 11 = .ok (.invokevirtual 109, 3) := by decide +kernel
theorem dX9_back_14 : decode cX9_back 14 = .ok (.ireturn, 1) := by decide +kernel
theorem dX9_back_15 : decode cX9_back 15 = .ok (.aload_n 0, 1) := by decide +kernel
theorem dX9_back_16 : decode cX9_back 16 = .ok (.getfield 34, 3) := by decide +kernel
theorem dX9_back_19 : decode cX9_back 19 = .ok (.iload_n 1, 1) := by decide +kernel
theorem dX9_back_20 : decode cX9_back 20 = .ok (.baload, 1) := by decide +kernel
theorem dX9_back_21 : decode cX9_back 21 = .ok (.ifCond .ne 10, 3) := by decide +kernel
theorem dX9_back_24 : decode cX9_back 24 = .ok (.aload_n 0, 1) := by decide +kernel
theorem dX9_back_25 : decode cX9_back 25 = .ok (.bipush (-2), 2) := by decide +kernel
theorem dX9_back_27 : decode cX9_back 27 = .ok (.invokevirtual 109, 3) := by decide +kernel
theorem dX9_back_30 : decode cX9_back 30 = .ok (.ireturn, 1) := by decide +kernel
theorem dX9_back_31 : decode cX9_back 31 = .ok (.iconst 0, 1) := by decide +kernel
theorem dX9_back_32 : decode cX9_back 32 = .ok (.istore_n 2, 1) := by decide +kernel
theorem dX9_back_33 : decode cX9_back 33 = .ok (.iload_n 2, 1) := by decide +kernel
theorem dX9_back_34 : decode cX9_back 34 = .ok (.sipush 5715, 3) := by decide +kernel
theorem dX9_back_37 : decode cX9_back 37 = .ok (.if_icmp .ge 27, 3) := by decide +kernel
theorem dX9_back_40 : decode cX9_back 40 = .ok (.aload_n 0, 1) := by decide +kernel
theorem dX9_back_41 : decode cX9_back 41 = .ok (.getfield 28, 3) := by decide +kernel
theorem dX9_back_44 : decode cX9_back 44 = .ok (.iload_n 2, 1) := by decide +kernel
theorem dX9_back_45 : decode cX9_back 45 = .ok (.aload_n 0, 1) := by decide +kernel
theorem dX9_back_46 : decode cX9_back 46 = .ok (.getfield 31, 3) := by decide +kernel
theorem dX9_back_49 : decode cX9_back 49 = .ok (.sipush 5715, 3) := by decide +kernel
theorem dX9_back_52 : decode cX9_back 52 = .ok (.iload_n 1, 1) := by decide +kernel
theorem dX9_back_53 : decode cX9_back 53 = .ok (.imul, 1) := by decide +kernel
theorem dX9_back_54 : decode cX9_back 54 = .ok (.iload_n 2, 1) := by decide +kernel
theorem dX9_back_55 : decode cX9_back 55 = .ok (.iadd, 1) := by decide +kernel
theorem dX9_back_56 : decode cX9_back 56 = .ok (.iaload, 1) := by decide +kernel
theorem dX9_back_57 : decode cX9_back 57 = .ok (.iastore, 1) := by decide +kernel
theorem dX9_back_58 : decode cX9_back 58 = .ok (.iinc 2 1, 3) := by decide +kernel
theorem dX9_back_61 : decode cX9_back 61 = .ok (.goto (-28), 3) := by decide +kernel
theorem dX9_back_64 : decode cX9_back 64 = .ok (.aload_n 0, 1) := by decide +kernel
theorem dX9_back_65 : decode cX9_back 65 = .ok (.iconst 0, 1) := by decide +kernel
theorem dX9_back_66 : decode cX9_back 66 = .ok (.invokevirtual 112, 3) := by decide +kernel
theorem dX9_back_69 : decode cX9_back 69 = .ok (.ireturn, 1) := by decide +kernel
theorem dX9_isClerk_0 : decode cX9_isClerk 0 = .ok (.iload_n 1, 1) := by decide +kernel
theorem dX9_isClerk_1 : decode cX9_isClerk 1 = .ok (.iconst 0, 1) := by decide +kernel
theorem dX9_isClerk_2 : decode cX9_isClerk 2 = .ok (.aload_n 0, 1) := by decide +kernel
theorem dX9_isClerk_3 : decode cX9_isClerk 3 = .ok (.getfield 28, 3) := by decide +kernel
theorem dX9_isClerk_6 : decode cX9_isClerk 6 = .ok (.bipush 103, 2) := by decide +kernel
theorem dX9_isClerk_8 : decode cX9_isClerk 8 = .ok (.iaload, 1) := by decide +kernel
theorem dX9_isClerk_9 : decode cX9_isClerk 9 = .ok (.iconst 1, 1) := by decide +kernel
theorem dX9_isClerk_10 : decode cX9_isClerk 10 = .ok (.isub, 1) := by decide +kernel
theorem dX9_isClerk_11 : decode cX9_isClerk 11 = .ok (.invokestatic 18, 3) := by decide +kernel
theorem dX9_isClerk_14 : decode cX9_isClerk 14 = .ok (.ireturn, 1) := by decide +kernel
theorem dX9_enter_0 : decode cX9_enter 0 = .ok (.iload_n 1, 1) := by decide +kernel
theorem dX9_enter_1 : decode cX9_enter 1 = .ok (.invokestatic 115, 3) := by decide +kernel
theorem dX9_enter_4 : decode cX9_enter 4 = .ok (.ifCond .eq 14, 3) := by decide +kernel
theorem dX9_enter_7 : decode cX9_enter 7 = .ok (.iload_n 2, 1) := by decide +kernel
theorem dX9_enter_8 : decode cX9_enter 8 = .ok (.iconst 0, 1) := by decide +kernel
theorem dX9_enter_9 : decode cX9_enter 9 = .ok (.sipush 999, 3) := by decide +kernel
theorem dX9_enter_12 : decode cX9_enter 12 = .ok (.invokestatic 18, 3) := by decide +kernel
theorem dX9_enter_15 : decode cX9_enter 15 = .ok (.ifCond .ne 9, 3) := by decide +kernel
theorem dX9_enter_18 : decode cX9_enter 18 = .ok (.aload_n 0, 1) := by decide +kernel
theorem dX9_enter_19 : decode cX9_enter 19 = .ok (.iconst (-1), 1) := by decide +kernel
theorem dX9_enter_20 : decode cX9_enter 20 = .ok (.invokevirtual 109, 3) := by decide +kernel
theorem dX9_enter_23 : decode cX9_enter 23 = .ok (.ireturn, 1) := by decide +kernel
theorem dX9_enter_24 : decode cX9_enter 24 = .ok (.aload_n 0, 1) := by decide +kernel
theorem dX9_enter_25 : decode cX9_enter 25 = .ok (.getfield 28, 3) := by decide +kernel
theorem dX9_enter_28 : decode cX9_enter 28 = .ok (.iconst 0, 1) := by decide +kernel
theorem dX9_enter_29 : decode cX9_enter 29 = .ok (.iload_n 1, 1) := by decide +kernel
theorem dX9_enter_30 : decode cX9_enter 30 = .ok (.iadd, 1) := by decide +kernel
theorem dX9_enter_31 : decode cX9_enter 31 = .ok (.iaload, 1) := by decide +kernel
theorem dX9_enter_32 : decode cX9_enter 32 = .ok (.istore_n 3, 1) := by decide +kernel
theorem dX9_enter_33 : decode cX9_enter 33 = .ok (.aload_n 0, 1) := by decide +kernel
theorem dX9_enter_34 : decode cX9_enter 34 = .ok (.getfield 28, 3) := by decide +kernel
theorem dX9_enter_37 : decode cX9_enter 37 = .ok (.iconst 0, 1) := by decide +kernel
theorem dX9_enter_38 : decode cX9_enter 38 = .ok (.iload_n 1, 1) := by decide +kernel
theorem dX9_enter_39 : decode cX9_enter 39 = .ok (.iadd, 1) := by decide +kernel
theorem dX9_enter_40 : decode cX9_enter 40 = .ok (.iload_n 2, 1) := by decide +kernel
theorem dX9_enter_41 : decode cX9_enter 41 = .ok (.iastore, 1) := by decide +kernel
theorem dX9_enter_42 : decode cX9_enter 42 = .ok (.aload_n 0, 1) := by decide +kernel
theorem dX9_enter_43 : decode cX9_enter 43 = .ok (.iload_n 3, 1) := by decide +kernel
theorem dX9_enter_44 : decode cX9_enter 44 = .ok (.invokevirtual 112, 3) := by decide +kernel
theorem dX9_enter_47 : decode cX9_enter 47 = .ok (.ireturn, 1) := by decide +kernel
theorem dX9_at_0 : decode cX9_at 0 = .ok (.iload_n 1, 1) := by decide +kernel
theorem dX9_at_1 : decode cX9_at 1 = .ok (.invokestatic 115, 3) := by decide +kernel
theorem dX9_at_4 : decode cX9_at 4 = .ok (.ifCond .ne 5, 3) := by decide +kernel
theorem dX9_at_7 : decode cX9_at 7 = .ok (.iconst (-1), 1) := by decide +kernel
theorem dX9_at_8 : decode cX9_at 8 = .ok (.ireturn, 1) := by decide +kernel
theorem dX9_at_9 : decode cX9_at 9 = .ok (.iload_n 2, 1) := by decide +kernel
theorem dX9_at_10 : decode cX9_at 10 = .ok (.tableswitch 79 0 3 #[30, 39, 59, 65], 30) := by decide +kernel
theorem dX9_at_40 : decode cX9_at 40 = .ok (.aload_n 0, 1) := by decide +kernel
theorem dX9_at_41 : decode cX9_at 41 = .ok (.getfield 28, 3) := by decide +kernel
theorem dX9_at_44 : decode cX9_at 44 = .ok (.iconst 0, 1) := by decide +kernel
theorem dX9_at_45 : decode cX9_at 45 = .ok (.iload_n 1, 1) := by decide +kernel
theorem dX9_at_46 : decode cX9_at 46 = .ok (.iadd, 1) := by decide +kernel
theorem dX9_at_47 : decode cX9_at 47 = .ok (.iaload, 1) := by decide +kernel
theorem dX9_at_48 : decode cX9_at 48 = .ok (.ireturn, 1) := by decide +kernel
theorem dX9_at_49 : decode cX9_at 49 = .ok (.aload_n 0, 1) := by decide +kernel
theorem dX9_at_50 : decode cX9_at 50 = .ok (.getfield 28, 3) := by decide +kernel
theorem dX9_at_53 : decode cX9_at 53 = .ok (.bipush 30, 2) := by decide +kernel
theorem dX9_at_55 : decode cX9_at 55 = .ok (.iaload, 1) := by decide +kernel
theorem dX9_at_56 : decode cX9_at 56 = .ok (.iload_n 1, 1) := by decide +kernel
theorem dX9_at_57 : decode cX9_at 57 = .ok (.invokestatic 119, 3) := by decide +kernel
theorem dX9_at_60 : decode cX9_at 60 = .ok (.ifCond .eq 7, 3) := by decide +kernel
theorem dX9_at_63 : decode cX9_at 63 = .ok (.iconst 1, 1) := by decide +kernel
theorem dX9_at_64 : decode cX9_at 64 = .ok (.goto 4, 3) := by decide +kernel
theorem dX9_at_67 : decode cX9_at 67 = .ok (.iconst 0, 1) := by decide +kernel
theorem dX9_at_68 : decode cX9_at 68 = .ok (.ireturn, 1) := by decide +kernel
theorem dX9_at_69 : decode cX9_at 69 = .ok (.aload_n 0, 1) := by decide +kernel
theorem dX9_at_70 : decode cX9_at 70 = .ok (.iload_n 1, 1) := by decide +kernel
theorem dX9_at_71 : decode cX9_at 71 = .ok (.invokevirtual 123, 3) := by decide +kernel
theorem dX9_at_74 : decode cX9_at 74 = .ok (.ireturn, 1) := by decide +kernel
theorem dX9_at_75 : decode cX9_at 75 = .ok (.aload_n 0, 1) := by decide +kernel
theorem dX9_at_76 : decode cX9_at 76 = .ok (.iload_n 1, 1) := by decide +kernel
theorem dX9_at_77 : decode cX9_at 77 = .ok (.invokevirtual 126, 3) := by decide +kernel
theorem dX9_at_80 : decode cX9_at 80 = .ok (.ifCond .eq 7, 3) := by decide +kernel
theorem dX9_at_83 : decode cX9_at 83 = .ok (.iconst 1, 1) := by decide +kernel
theorem dX9_at_84 : decode cX9_at 84 = .ok (.goto 4, 3) := by decide +kernel
theorem dX9_at_87 : decode cX9_at 87 = .ok (.iconst 0, 1) := by decide +kernel
theorem dX9_at_88 : decode cX9_at 88 = .ok (.ireturn, 1) := by decide +kernel
theorem dX9_at_89 : decode cX9_at 89 = .ok (.iconst (-1), 1) := by decide +kernel
theorem dX9_at_90 : decode cX9_at 90 = .ok (.ireturn, 1) := by decide +kernel
theorem dX9_told_0 : decode cX9_told 0 = .ok (.iload_n 1, 1) := by decide +kernel
theorem dX9_told_1 : decode cX9_told 1 = .ok (.iconst 0, 1) := by decide +kernel
theorem dX9_told_2 : decode cX9_told 2 = .ok (.iconst 1, 1) := by decide +kernel
theorem dX9_told_3 : decode cX9_told 3 = .ok (.invokestatic 18, 3) := by decide +kernel
theorem dX9_told_6 : decode cX9_told 6 = .ok (.ifCond .eq 21, 3) := by decide +kernel
theorem dX9_told_9 : decode cX9_told 9 = .ok (.iload_n 2, 1) := by decide +kernel
theorem dX9_told_10 : decode cX9_told 10 = .ok (.invokestatic 129, 3) := by decide +kernel
theorem dX9_told_13 : decode cX9_told 13 = .ok (.ifCond .eq 14, 3) := by decide +kernel
theorem dX9_told_16 : decode cX9_told 16 = .ok (.iload_n 3, 1) := by decide +kernel
theorem dX9_told_17 : decode cX9_told 17 = .ok (.iconst 0, 1) := by decide +kernel
theorem dX9_told_18 : decode cX9_told 18 = .ok (.sipush 9999, 3) := by decide +kernel
theorem dX9_told_21 : decode cX9_told 21 = .ok (.invokestatic 18, 3) := by decide +kernel
theorem dX9_told_24 : decode cX9_told 24 = .ok (.ifCond .ne 9, 3) := by decide +kernel
theorem dX9_told_27 : decode cX9_told 27 = .ok (.aload_n 0, 1) := by decide +kernel
theorem dX9_told_28 : decode cX9_told 28 = .ok (.iconst (-1), 1) := by decide +kernel
theorem dX9_told_29 : decode cX9_told 29 = .ok (.invokevirtual 109, 3) := by decide +kernel
theorem dX9_told_32 : decode cX9_told 32 = .ok (.ireturn, 1) := by decide +kernel
theorem dX9_told_33 : decode cX9_told 33 = .ok (.bipush 32, 2) := by decide +kernel
theorem dX9_told_35 : decode cX9_told 35 = .ok (.iconst 5, 1) := by decide +kernel
theorem dX9_told_36 : decode cX9_told 36 = .ok (.iload_n 1, 1) := by decide +kernel
theorem dX9_told_37 : decode cX9_told 37 = .ok (.imul, 1) := by decide +kernel
theorem dX9_told_38 : decode cX9_told 38 = .ok (.iadd, 1) := by decide +kernel
theorem dX9_told_39 : decode cX9_told 39 = .ok (.iload_n 2, 1) := by decide +kernel
theorem dX9_told_40 : decode cX9_told 40 = .ok (.iadd, 1) := by decide +kernel
theorem dX9_told_41 : decode cX9_told 41 = .ok (.istore 4, 2) := by decide +kernel
theorem dX9_told_43 : decode cX9_told 43 = .ok (.aload_n 0, 1) := by decide +kernel
theorem dX9_told_44 : decode cX9_told 44 = .ok (.getfield 28, 3) := by decide +kernel
theorem dX9_told_47 : decode cX9_told 47 = .ok (.iload 4, 2) := by decide +kernel
theorem dX9_told_49 : decode cX9_told 49 = .ok (.iaload, 1) := by decide +kernel
theorem dX9_told_50 : decode cX9_told 50 = .ok (.istore 5, 2) := by decide +kernel
theorem dX9_told_52 : decode cX9_told 52 = .ok (.aload_n 0, 1) := by decide +kernel
theorem dX9_told_53 : decode cX9_told 53 = .ok (.getfield 28, 3) := by decide +kernel
theorem dX9_told_56 : decode cX9_told 56 = .ok (.iload 4, 2) := by decide +kernel
theorem dX9_told_58 : decode cX9_told 58 = .ok (.iload_n 3, 1) := by decide +kernel
theorem dX9_told_59 : decode cX9_told 59 = .ok (.iastore, 1) := by decide +kernel
theorem dX9_told_60 : decode cX9_told 60 = .ok (.aload_n 0, 1) := by decide +kernel
theorem dX9_told_61 : decode cX9_told 61 = .ok (.iload 5, 2) := by decide +kernel
theorem dX9_told_63 : decode cX9_told 63 = .ok (.invokevirtual 14, 3) := by decide +kernel
theorem dX9_told_66 : decode cX9_told 66 = .ok (.ireturn, 1) := by decide +kernel
theorem dX9_offBy_0 : decode cX9_offBy 0 = .ok (.aload_n 0, 1) := by decide +kernel
theorem dX9_offBy_1 : decode cX9_offBy 1 = .ok (.getfield 28, 3) := by decide +kernel
theorem dX9_offBy_4 : decode cX9_offBy 4 = .ok (.bipush 32, 2) := by decide +kernel
theorem dX9_offBy_6 : decode cX9_offBy 6 = .ok (.iload_n 1, 1) := by decide +kernel
theorem dX9_offBy_7 : decode cX9_offBy 7 = .ok (.iadd, 1) := by decide +kernel
theorem dX9_offBy_8 : decode cX9_offBy 8 = .ok (.iaload, 1) := by decide +kernel
theorem dX9_offBy_9 : decode cX9_offBy 9 = .ok (.istore_n 2, 1) := by decide +kernel
theorem dX9_offBy_10 : decode cX9_offBy 10 = .ok (.iload_n 1, 1) := by decide +kernel
theorem dX9_offBy_11 : decode cX9_offBy 11 = .ok (.iconst 5, 1) := by decide +kernel
theorem dX9_offBy_12 : decode cX9_offBy 12 = .ok (.irem, 1) := by decide +kernel
theorem dX9_offBy_13 : decode cX9_offBy 13 = .ok (.istore_n 3, 1) := by decide +kernel
theorem dX9_offBy_14 : decode cX9_offBy 14 = .ok (.iconst 0, 1) := by decide +kernel
theorem dX9_offBy_15 : decode cX9_offBy 15 = .ok (.istore 4, 2) := by decide +kernel
theorem dX9_offBy_17 : decode cX9_offBy 17 = .ok (.iload 4, 2) := by decide +kernel
theorem dX9_offBy_19 : decode cX9_offBy 19 = .ok (.iconst 5, 1) := by decide +kernel
theorem dX9_offBy_20 : decode cX9_offBy 20 = .ok (.if_icmp .ge 39, 3) := by decide +kernel
theorem dX9_offBy_23 : decode cX9_offBy 23 = .ok (.iload_n 2, 1) := by decide +kernel
theorem dX9_offBy_24 : decode cX9_offBy 24 = .ok (.aload_n 0, 1) := by decide +kernel
theorem dX9_offBy_25 : decode cX9_offBy 25 = .ok (.getfield 28, 3) := by decide +kernel
theorem dX9_offBy_28 : decode cX9_offBy 28 = .ok (.iconst 0, 1) := by decide +kernel
theorem dX9_offBy_29 : decode cX9_offBy 29 = .ok (.iload_n 1, 1) := by decide +kernel
theorem dX9_offBy_30 : decode cX9_offBy 30 = .ok (.iconst 5, 1) := by decide +kernel
theorem dX9_offBy_31 : decode cX9_offBy 31 = .ok (.if_icmp .ge 12, 3) := by decide +kernel
theorem dX9_offBy_34 : decode cX9_offBy 34 = .ok (.iconst 5, 1) := by decide +kernel
theorem dX9_offBy_35 : decode cX9_offBy 35 = .ok (.iload_n 3, 1) := by decide +kernel
theorem dX9_offBy_36 : decode cX9_offBy 36 = .ok (.imul, 1) := by decide +kernel
theorem dX9_offBy_37 : decode cX9_offBy 37 = .ok (.iload 4, 2) := by decide +kernel
theorem dX9_offBy_39 : decode cX9_offBy 39 = .ok (.iadd, 1) := by decide +kernel
theorem dX9_offBy_40 : decode cX9_offBy 40 = .ok (.goto 9, 3) := by decide +kernel
theorem dX9_offBy_43 : decode cX9_offBy 43 = .ok (.iconst 5, 1) := by decide +kernel
theorem dX9_offBy_44 : decode cX9_offBy 44 = .ok (.iload 4, 2) := by decide +kernel
theorem dX9_offBy_46 : decode cX9_offBy 46 = .ok (.imul, 1) := by decide +kernel
theorem dX9_offBy_47 : decode cX9_offBy 47 = .ok (.iload_n 3, 1) := by decide +kernel
theorem dX9_offBy_48 : decode cX9_offBy 48 = .ok (.iadd, 1) := by decide +kernel
theorem dX9_offBy_49 : decode cX9_offBy 49 = .ok (.iadd, 1) := by decide +kernel
theorem dX9_offBy_50 : decode cX9_offBy 50 = .ok (.iaload, 1) := by decide +kernel
theorem dX9_offBy_51 : decode cX9_offBy 51 = .ok (.isub, 1) := by decide +kernel
theorem dX9_offBy_52 : decode cX9_offBy 52 = .ok (.istore_n 2, 1) := by decide +kernel
theorem dX9_offBy_53 : decode cX9_offBy 53 = .ok (.iinc 4 1, 3) := by decide +kernel
theorem dX9_offBy_56 : decode cX9_offBy 56 = .ok (.goto (-39), 3) := by decide +kernel
theorem dX9_offBy_59 : decode cX9_offBy 59 = .ok (.iload_n 2, 1) := by decide +kernel
theorem dX9_offBy_60 : decode cX9_offBy 60 = .ok (.ireturn, 1) := by decide +kernel
theorem dX9_off_0 : decode cX9_off 0 = .ok (.iload_n 1, 1) := by decide +kernel
theorem dX9_off_1 : decode cX9_off 1 = .ok (.iconst 0, 1) := by decide +kernel
theorem dX9_off_2 : decode cX9_off 2 = .ok (.iconst 1, 1) := by decide +kernel
theorem dX9_off_3 : decode cX9_off 3 = .ok (.invokestatic 18, 3) := by decide +kernel
theorem dX9_off_6 : decode cX9_off 6 = .ok (.ifCond .eq 22, 3) := by decide +kernel
theorem dX9_off_9 : decode cX9_off 9 = .ok (.iload_n 2, 1) := by decide +kernel
theorem dX9_off_10 : decode cX9_off 10 = .ok (.invokestatic 129, 3) := by decide +kernel
theorem dX9_off_13 : decode cX9_off 13 = .ok (.ifCond .eq 15, 3) := by decide +kernel
theorem dX9_off_16 : decode cX9_off 16 = .ok (.aload_n 0, 1) := by decide +kernel
theorem dX9_off_17 : decode cX9_off 17 = .ok (.iconst 5, 1) := by decide +kernel
theorem dX9_off_18 : decode cX9_off 18 = .ok (.iload_n 1, 1) := by decide +kernel
theorem dX9_off_19 : decode cX9_off 19 = .ok (.imul, 1) := by decide +kernel
theorem dX9_off_20 : decode cX9_off 20 = .ok (.iload_n 2, 1) := by decide +kernel
theorem dX9_off_21 : decode cX9_off 21 = .ok (.iadd, 1) := by decide +kernel
theorem dX9_off_22 : decode cX9_off 22 = .ok (.invokevirtual 132, 3) := by decide +kernel
theorem dX9_off_25 : decode cX9_off 25 = .ok (.goto 5, 3) := by decide +kernel
theorem dX9_off_28 : decode cX9_off 28 = .ok (.ldc 135, 2) := by decide +kernel
theorem dX9_off_30 : decode cX9_off 30 = .ok (.ireturn, 1) := by decide +kernel
theorem dX9_clerk_0 : decode cX9_clerk 0 = .ok (.iload_n 1, 1) := by decide +kernel
theorem dX9_clerk_1 : decode cX9_clerk 1 = .ok (.iconst 0, 1) := by decide +kernel
theorem dX9_clerk_2 : decode cX9_clerk 2 = .ok (.bipush 9, 2) := by decide +kernel
theorem dX9_clerk_4 : decode cX9_clerk 4 = .ok (.invokestatic 18, 3) := by decide +kernel
theorem dX9_clerk_7 : decode cX9_clerk 7 = .ok (.ifCond .ne 9, 3) := by decide +kernel
theorem dX9_clerk_10 : decode cX9_clerk 10 = .ok (.aload_n 0, 1) := by decide +kernel
theorem dX9_clerk_11 : decode cX9_clerk 11 = .ok (.iconst (-1), 1) := by decide +kernel
theorem dX9_clerk_12 : decode cX9_clerk 12 = .ok (.invokevirtual 109, 3) := by decide +kernel
theorem dX9_clerk_15 : decode cX9_clerk 15 = .ok (.ireturn, 1) := by decide +kernel
theorem dX9_clerk_16 : decode cX9_clerk 16 = .ok (.aload_n 0, 1) := by decide +kernel
theorem dX9_clerk_17 : decode cX9_clerk 17 = .ok (.getfield 28, 3) := by decide +kernel
theorem dX9_clerk_20 : decode cX9_clerk 20 = .ok (.bipush 103, 2) := by decide +kernel
theorem dX9_clerk_22 : decode cX9_clerk 22 = .ok (.iaload, 1) := by decide +kernel
theorem dX9_clerk_23 : decode cX9_clerk 23 = .ok (.istore_n 2, 1) := by decide +kernel
theorem dX9_clerk_24 : decode cX9_clerk 24 = .ok (.iload_n 2, 1) := by decide +kernel
theorem dX9_clerk_25 : decode cX9_clerk 25 = .ok (.iconst 5, 1) := by decide +kernel
theorem dX9_clerk_26 : decode cX9_clerk 26 = .ok (.if_icmp .ne 10, 3) := by decide +kernel
theorem dX9_clerk_29 : decode cX9_clerk 29 = .ok (.aload_n 0, 1) := by decide +kernel
theorem dX9_clerk_30 : decode cX9_clerk 30 = .ok (.bipush (-5), 2) := by decide +kernel
theorem dX9_clerk_32 : decode cX9_clerk 32 = .ok (.invokevirtual 109, 3) := by decide +kernel
theorem dX9_clerk_35 : decode cX9_clerk 35 = .ok (.ireturn, 1) := by decide +kernel
theorem dX9_clerk_36 : decode cX9_clerk 36 = .ok (.aload_n 0, 1) := by decide +kernel
theorem dX9_clerk_37 : decode cX9_clerk 37 = .ok (.getfield 28, 3) := by decide +kernel
theorem dX9_clerk_40 : decode cX9_clerk 40 = .ok (.bipush 42, 2) := by decide +kernel
theorem dX9_clerk_42 : decode cX9_clerk 42 = .ok (.iload_n 2, 1) := by decide +kernel
theorem dX9_clerk_43 : decode cX9_clerk 43 = .ok (.iadd, 1) := by decide +kernel
theorem dX9_clerk_44 : decode cX9_clerk 44 = .ok (.iload_n 1, 1) := by decide +kernel
theorem dX9_clerk_45 : decode cX9_clerk 45 = .ok (.iastore, 1) := by decide +kernel
theorem dX9_clerk_46 : decode cX9_clerk 46 = .ok (.aload_n 0, 1) := by decide +kernel
theorem dX9_clerk_47 : decode cX9_clerk 47 = .ok (.getfield 28, 3) := by decide +kernel
theorem dX9_clerk_50 : decode cX9_clerk 50 = .ok (.bipush 25, 2) := by decide +kernel
theorem dX9_clerk_52 : decode cX9_clerk 52 = .ok (.iload_n 2, 1) := by decide +kernel
theorem dX9_clerk_53 : decode cX9_clerk 53 = .ok (.iadd, 1) := by decide +kernel
theorem dX9_clerk_54 : decode cX9_clerk 54 = .ok (.iconst 0, 1) := by decide +kernel
theorem dX9_clerk_55 : decode cX9_clerk 55 = .ok (.iastore, 1) := by decide +kernel
theorem dX9_clerk_56 : decode cX9_clerk 56 = .ok (.aload_n 0, 1) := by decide +kernel
theorem dX9_clerk_57 : decode cX9_clerk 57 = .ok (.getfield 28, 3) := by decide +kernel
theorem dX9_clerk_60 : decode cX9_clerk 60 = .ok (.bipush 103, 2) := by decide +kernel
theorem dX9_clerk_62 : decode cX9_clerk 62 = .ok (.dup2, 1) := by decide +kernel
theorem dX9_clerk_63 : decode cX9_clerk 63 = .ok (.iaload, 1) := by decide +kernel
theorem dX9_clerk_64 : decode cX9_clerk 64 = .ok (.iconst 1, 1) := by decide +kernel
theorem dX9_clerk_65 : decode cX9_clerk 65 = .ok (.iadd, 1) := by decide +kernel
theorem dX9_clerk_66 : decode cX9_clerk 66 = .ok (.iastore, 1) := by decide +kernel
theorem dX9_clerk_67 : decode cX9_clerk 67 = .ok (.aload_n 0, 1) := by decide +kernel
theorem dX9_clerk_68 : decode cX9_clerk 68 = .ok (.iload_n 2, 1) := by decide +kernel
theorem dX9_clerk_69 : decode cX9_clerk 69 = .ok (.invokevirtual 112, 3) := by decide +kernel
theorem dX9_clerk_72 : decode cX9_clerk 72 = .ok (.ireturn, 1) := by decide +kernel
theorem dX9_of_0 : decode cX9_of 0 = .ok (.aload_n 0, 1) := by decide +kernel
theorem dX9_of_1 : decode cX9_of 1 = .ok (.iload_n 1, 1) := by decide +kernel
theorem dX9_of_2 : decode cX9_of 2 = .ok (.invokevirtual 136, 3) := by decide +kernel
theorem dX9_of_5 : decode cX9_of 5 = .ok (.ifCond .ne 5, 3) := by decide +kernel
theorem dX9_of_8 : decode cX9_of 8 = .ok (.iconst (-1), 1) := by decide +kernel
theorem dX9_of_9 : decode cX9_of 9 = .ok (.ireturn, 1) := by decide +kernel
theorem dX9_of_10 : decode cX9_of 10 = .ok (.iload_n 2, 1) := by decide +kernel
theorem dX9_of_11 : decode cX9_of 11 = .ok (.lookupswitch 45 #[(0, 25), (1, 35)], 25) := by decide +kernel
theorem dX9_of_36 : decode cX9_of 36 = .ok (.aload_n 0, 1) := by decide +kernel
theorem dX9_of_37 : decode cX9_of 37 = .ok (.getfield 28, 3) := by decide +kernel
theorem dX9_of_40 : decode cX9_of 40 = .ok (.bipush 42, 2) := by decide +kernel
theorem dX9_of_42 : decode cX9_of 42 = .ok (.iload_n 1, 1) := by decide +kernel
theorem dX9_of_43 : decode cX9_of 43 = .ok (.iadd, 1) := by decide +kernel
theorem dX9_of_44 : decode cX9_of 44 = .ok (.iaload, 1) := by decide +kernel
theorem dX9_of_45 : decode cX9_of 45 = .ok (.ireturn, 1) := by decide +kernel
theorem dX9_of_46 : decode cX9_of 46 = .ok (.aload_n 0, 1) := by decide +kernel
theorem dX9_of_47 : decode cX9_of 47 = .ok (.getfield 28, 3) := by decide +kernel
theorem dX9_of_50 : decode cX9_of 50 = .ok (.bipush 25, 2) := by decide +kernel
theorem dX9_of_52 : decode cX9_of 52 = .ok (.iload_n 1, 1) := by decide +kernel
theorem dX9_of_53 : decode cX9_of 53 = .ok (.iadd, 1) := by decide +kernel
theorem dX9_of_54 : decode cX9_of 54 = .ok (.iaload, 1) := by decide +kernel
theorem dX9_of_55 : decode cX9_of 55 = .ok (.ireturn, 1) := by decide +kernel
theorem dX9_of_56 : decode cX9_of 56 = .ok (.iconst (-1), 1) := by decide +kernel
theorem dX9_of_57 : decode cX9_of 57 = .ok (.ireturn, 1) := by decide +kernel
theorem dX9_asks_0 : decode cX9_asks 0 = .ok (.aload_n 0, 1) := by decide +kernel
theorem dX9_asks_1 : decode cX9_asks 1 = .ok (.iload_n 1, 1) := by decide +kernel
theorem dX9_asks_2 : decode cX9_asks 2 = .ok (.invokevirtual 136, 3) := by decide +kernel
theorem dX9_asks_5 : decode cX9_asks 5 = .ok (.ifCond .eq 10, 3) := by decide +kernel
theorem dX9_asks_8 : decode cX9_asks 8 = .ok (.iload_n 2, 1) := by decide +kernel
theorem dX9_asks_9 : decode cX9_asks 9 = .ok (.invokestatic 115, 3) := by decide +kernel
theorem dX9_asks_12 : decode cX9_asks 12 = .ok (.ifCond .ne 5, 3) := by decide +kernel
theorem dX9_asks_15 : decode cX9_asks 15 = .ok (.iconst (-1), 1) := by decide +kernel
theorem dX9_asks_16 : decode cX9_asks 16 = .ok (.ireturn, 1) := by decide +kernel
theorem dX9_asks_17 : decode cX9_asks 17 = .ok (.iload_n 3, 1) := by decide +kernel
theorem dX9_asks_18 : decode cX9_asks 18 = .ok (.lookupswitch 48 #[(0, 26), (1, 33)], 26) := by decide +kernel
theorem dX9_asks_44 : decode cX9_asks 44 = .ok (.aload_n 0, 1) := by decide +kernel
theorem dX9_asks_45 : decode cX9_asks 45 = .ok (.iload_n 1, 1) := by decide +kernel
theorem dX9_asks_46 : decode cX9_asks 46 = .ok (.iload_n 2, 1) := by decide +kernel
theorem dX9_asks_47 : decode cX9_asks 47 = .ok (.invokevirtual 139, 3) := by decide +kernel
theorem dX9_asks_50 : decode cX9_asks 50 = .ok (.ireturn, 1) := by decide +kernel
theorem dX9_asks_51 : decode cX9_asks 51 = .ok (.aload_n 0, 1) := by decide +kernel
theorem dX9_asks_52 : decode cX9_asks 52 = .ok (.iload_n 1, 1) := by decide +kernel
theorem dX9_asks_53 : decode cX9_asks 53 = .ok (.iload_n 2, 1) := by decide +kernel
theorem dX9_asks_54 : decode cX9_asks 54 = .ok (.invokevirtual 143, 3) := by decide +kernel
theorem dX9_asks_57 : decode cX9_asks 57 = .ok (.ifCond .eq 7, 3) := by decide +kernel
theorem dX9_asks_60 : decode cX9_asks 60 = .ok (.iconst 1, 1) := by decide +kernel
theorem dX9_asks_61 : decode cX9_asks 61 = .ok (.goto 4, 3) := by decide +kernel
theorem dX9_asks_64 : decode cX9_asks 64 = .ok (.iconst 0, 1) := by decide +kernel
theorem dX9_asks_65 : decode cX9_asks 65 = .ok (.ireturn, 1) := by decide +kernel
theorem dX9_asks_66 : decode cX9_asks 66 = .ok (.iconst (-1), 1) := by decide +kernel
theorem dX9_asks_67 : decode cX9_asks 67 = .ok (.ireturn, 1) := by decide +kernel
theorem dX9_isTerm_0 : decode cX9_isTerm 0 = .ok (.iload_n 0, 1) := by decide +kernel
theorem dX9_isTerm_1 : decode cX9_isTerm 1 = .ok (.tableswitch 52 0 2 #[27, 36, 44], 27) := by decide +kernel
theorem dX9_isTerm_28 : decode cX9_isTerm 28 = .ok (.iload_n 1, 1) := by decide +kernel
theorem dX9_isTerm_29 : decode cX9_isTerm 29 = .ok (.iconst 0, 1) := by decide +kernel
theorem dX9_isTerm_30 : decode cX9_isTerm 30 = .ok (.sipush 999, 3) := by decide +kernel
theorem dX9_isTerm_33 : decode cX9_isTerm 33 = .ok (.invokestatic 18, 3) := by decide +kernel
theorem dX9_isTerm_36 : decode cX9_isTerm 36 = .ok (.ireturn, 1) := by decide +kernel
theorem dX9_isTerm_37 : decode cX9_isTerm 37 = .ok (.iload_n 1, 1) := by decide +kernel
theorem dX9_isTerm_38 : decode cX9_isTerm 38 = .ok (.iconst 0, 1) := by decide +kernel
theorem dX9_isTerm_39 : decode cX9_isTerm 39 = .ok (.bipush 10, 2) := by decide +kernel
theorem dX9_isTerm_41 : decode cX9_isTerm 41 = .ok (.invokestatic 18, 3) := by decide +kernel
theorem dX9_isTerm_44 : decode cX9_isTerm 44 = .ok (.ireturn, 1) := by decide +kernel
theorem dX9_isTerm_45 : decode cX9_isTerm 45 = .ok (.iload_n 1, 1) := by decide +kernel
theorem dX9_isTerm_46 : decode cX9_isTerm 46 = .ok (.iconst 0, 1) := by decide +kernel
theorem dX9_isTerm_47 : decode cX9_isTerm 47 = .ok (.bipush 9, 2) := by decide +kernel
theorem dX9_isTerm_49 : decode cX9_isTerm 49 = .ok (.invokestatic 18, 3) := by decide +kernel
theorem dX9_isTerm_52 : decode cX9_isTerm 52 = .ok (.ireturn, 1) := by decide +kernel
theorem dX9_isTerm_53 : decode cX9_isTerm 53 = .ok (.iconst 0, 1) := by decide +kernel
theorem dX9_isTerm_54 : decode cX9_isTerm 54 = .ok (.ireturn, 1) := by decide +kernel
theorem dX9_termAt_0 : decode cX9_termAt 0 = .ok (.iload_n 0, 1) := by decide +kernel
theorem dX9_termAt_1 : decode cX9_termAt 1 = .ok (.ifCond .ne 8, 3) := by decide +kernel
theorem dX9_termAt_4 : decode cX9_termAt 4 = .ok (.bipush 31, 2) := by decide +kernel
theorem dX9_termAt_6 : decode cX9_termAt 6 = .ok (.goto 15, 3) := by decide +kernel
theorem dX9_termAt_9 : decode cX9_termAt 9 = .ok (.iload_n 0, 1) := by decide +kernel
theorem dX9_termAt_10 : decode cX9_termAt 10 = .ok (.iconst 1, 1) := by decide +kernel
theorem dX9_termAt_11 : decode cX9_termAt 11 = .ok (.if_icmp .ne 8, 3) := by decide +kernel
theorem dX9_termAt_14 : decode cX9_termAt 14 = .ok (.bipush 101, 2) := by decide +kernel
theorem dX9_termAt_16 : decode cX9_termAt 16 = .ok (.goto 5, 3) := by decide +kernel
theorem dX9_termAt_19 : decode cX9_termAt 19 = .ok (.bipush 102, 2) := by decide +kernel
theorem dX9_termAt_21 : decode cX9_termAt 21 = .ok (.ireturn, 1) := by decide +kernel
theorem dX9_terms_0 : decode cX9_terms 0 = .ok (.iload_n 1, 1) := by decide +kernel
theorem dX9_terms_1 : decode cX9_terms 1 = .ok (.iload_n 2, 1) := by decide +kernel
theorem dX9_terms_2 : decode cX9_terms 2 = .ok (.invokestatic 146, 3) := by decide +kernel
theorem dX9_terms_5 : decode cX9_terms 5 = .ok (.ifCond .ne 9, 3) := by decide +kernel
theorem dX9_terms_8 : decode cX9_terms 8 = .ok (.aload_n 0, 1) := by decide +kernel
theorem dX9_terms_9 : decode cX9_terms 9 = .ok (.iconst (-1), 1) := by decide +kernel
theorem dX9_terms_10 : decode cX9_terms 10 = .ok (.invokevirtual 109, 3) := by decide +kernel
theorem dX9_terms_13 : decode cX9_terms 13 = .ok (.ireturn, 1) := by decide +kernel
theorem dX9_terms_14 : decode cX9_terms 14 = .ok (.aload_n 0, 1) := by decide +kernel
theorem dX9_terms_15 : decode cX9_terms 15 = .ok (.getfield 28, 3) := by decide +kernel
theorem dX9_terms_18 : decode cX9_terms 18 = .ok (.iload_n 1, 1) := by decide +kernel
theorem dX9_terms_19 : decode cX9_terms 19 = .ok (.invokestatic 149, 3) := by decide +kernel
theorem dX9_terms_22 : decode cX9_terms 22 = .ok (.iaload, 1) := by decide +kernel
theorem dX9_terms_23 : decode cX9_terms 23 = .ok (.istore_n 3, 1) := by decide +kernel
theorem dX9_terms_24 : decode cX9_terms 24 = .ok (.aload_n 0, 1) := by decide +kernel
theorem dX9_terms_25 : decode cX9_terms 25 = .ok (.getfield 28, 3) := by decide +kernel
theorem dX9_terms_28 : decode cX9_terms 28 = .ok (.iload_n 1, 1) := by decide +kernel
theorem dX9_terms_29 : decode cX9_terms 29 = .ok (.invokestatic 149, 3) := by decide +kernel
theorem dX9_terms_32 : decode cX9_terms 32 = .ok (.iload_n 2, 1) := by decide +kernel
theorem dX9_terms_33 : decode cX9_terms 33 = .ok (.iastore, 1) := by decide +kernel
theorem dX9_terms_34 : decode cX9_terms 34 = .ok (.aload_n 0, 1) := by decide +kernel
theorem dX9_terms_35 : decode cX9_terms 35 = .ok (.iload_n 3, 1) := by decide +kernel
theorem dX9_terms_36 : decode cX9_terms 36 = .ok (.invokevirtual 112, 3) := by decide +kernel
theorem dX9_terms_39 : decode cX9_terms 39 = .ok (.ireturn, 1) := by decide +kernel
theorem dX9_row_0 : decode cX9_row 0 = .ok (.aload_n 0, 1) := by decide +kernel
theorem dX9_row_1 : decode cX9_row 1 = .ok (.getfield 152, 3) := by decide +kernel
theorem dX9_row_4 : decode cX9_row 4 = .ok (.istore_n 1, 1) := by decide +kernel
theorem dX9_row_5 : decode cX9_row 5 = .ok (.aload_n 0, 1) := by decide +kernel
theorem dX9_row_6 : decode cX9_row 6 = .ok (.iconst 0, 1) := by decide +kernel
theorem dX9_row_7 : decode cX9_row 7 = .ok (.putfield 152, 3) := by decide +kernel
theorem dX9_row_10 : decode cX9_row 10 = .ok (.iload_n 1, 1) := by decide +kernel
theorem dX9_row_11 : decode cX9_row 11 = .ok (.ifCond .ne 10, 3) := by decide +kernel
theorem dX9_row_14 : decode cX9_row 14 = .ok (.aload_n 0, 1) := by decide +kernel
theorem dX9_row_15 : decode cX9_row 15 = .ok (.bipush (-6), 2) := by decide +kernel
theorem dX9_row_17 : decode cX9_row 17 = .ok (.invokevirtual 109, 3) := by decide +kernel
theorem dX9_row_20 : decode cX9_row 20 = .ok (.ireturn, 1) := by decide +kernel
theorem dX9_row_21 : decode cX9_row 21 = .ok (.iconst 0, 1) := by decide +kernel
theorem dX9_row_22 : decode cX9_row 22 = .ok (.istore_n 2, 1) := by decide +kernel
theorem dX9_row_23 : decode cX9_row 23 = .ok (.aload_n 0, 1) := by decide +kernel
theorem dX9_row_24 : decode cX9_row 24 = .ok (.iload_n 1, 1) := by decide +kernel
theorem dX9_row_25 : decode cX9_row 25 = .ok (.iconst 3, 1) := by decide +kernel
theorem dX9_row_26 : decode cX9_row 26 = .ok (.irem, 1) := by decide +kernel
theorem dX9_row_27 : decode cX9_row 27 = .ok (.ifCond .ne 7, 3) := by decide +kernel
theorem dX9_row_30 : decode cX9_row 30 = .ok (.iconst 0, 1) := by decide +kernel
theorem dX9_row_31 : decode cX9_row 31 = .ok (.goto 4, 3) := by decide +kernel
theorem dX9_row_34 : decode cX9_row 34 = .ok (.iconst 1, 1) := by decide +kernel
theorem dX9_row_35 : decode cX9_row 35 = .ok (.putfield 155, 3) := by decide +kernel
theorem dX9_row_38 : decode cX9_row 38 = .ok (.iconst 0, 1) := by decide +kernel
theorem dX9_row_39 : decode cX9_row 39 = .ok (.istore_n 3, 1) := by decide +kernel
theorem dX9_row_40 : decode cX9_row 40 = .ok (.iload_n 3, 1) := by decide +kernel
theorem dX9_row_41 : decode cX9_row 41 = .ok (.iconst 3, 1) := by decide +kernel
theorem dX9_row_42 : decode cX9_row 42 = .ok (.iadd, 1) := by decide +kernel
theorem dX9_row_43 : decode cX9_row 43 = .ok (.iload_n 1, 1) := by decide +kernel
theorem dX9_row_44 : decode cX9_row 44 = .ok (.if_icmp .gt 132, 3) := by decide +kernel
theorem dX9_row_47 : decode cX9_row 47 = .ok (.aload_n 0, 1) := by decide +kernel
theorem dX9_row_48 : decode cX9_row 48 = .ok (.getfield 45, 3) := by decide +kernel
theorem dX9_row_51 : decode cX9_row 51 = .ok (.iload_n 3, 1) := by decide +kernel
theorem dX9_row_52 : decode cX9_row 52 = .ok (.baload, 1) := by decide +kernel
theorem dX9_row_53 : decode cX9_row 53 = .ok (.invokestatic 115, 3) := by decide +kernel
theorem dX9_row_56 : decode cX9_row 56 = .ok (.ifCond .eq 41, 3) := by decide +kernel
theorem dX9_row_59 : decode cX9_row 59 = .ok (.aload_n 0, 1) := by decide +kernel
theorem dX9_row_60 : decode cX9_row 60 = .ok (.getfield 45, 3) := by decide +kernel
theorem dX9_row_63 : decode cX9_row 63 = .ok (.iload_n 3, 1) := by decide +kernel
theorem dX9_row_64 : decode cX9_row 64 = .ok (.iconst 1, 1) := by decide +kernel
theorem dX9_row_65 : decode cX9_row 65 = .ok (.iadd, 1) := by decide +kernel
theorem dX9_row_66 : decode cX9_row 66 = .ok (.baload, 1) := by decide +kernel
theorem dX9_row_67 : decode cX9_row 67 = .ok (.iconst 0, 1) := by decide +kernel
theorem dX9_row_68 : decode cX9_row 68 = .ok (.bipush 9, 2) := by decide +kernel
theorem dX9_row_70 : decode cX9_row 70 = .ok (.invokestatic 18, 3) := by decide +kernel
theorem dX9_row_73 : decode cX9_row 73 = .ok (.ifCond .eq 24, 3) := by decide +kernel
theorem dX9_row_76 : decode cX9_row 76 = .ok (.aload_n 0, 1) := by decide +kernel
theorem dX9_row_77 : decode cX9_row 77 = .ok (.getfield 45, 3) := by decide +kernel
theorem dX9_row_80 : decode cX9_row 80 = .ok (.iload_n 3, 1) := by decide +kernel
theorem dX9_row_81 : decode cX9_row 81 = .ok (.iconst 2, 1) := by decide +kernel
theorem dX9_row_82 : decode cX9_row 82 = .ok (.iadd, 1) := by decide +kernel
theorem dX9_row_83 : decode cX9_row 83 = .ok (.baload, 1) := by decide +kernel
theorem dX9_row_84 : decode cX9_row 84 = .ok (.iconst 0, 1) := by decide +kernel
theorem dX9_row_85 : decode cX9_row 85 = .ok (.bipush 99, 2) := by decide +kernel
theorem dX9_row_87 : decode cX9_row 87 = .ok (.invokestatic 18, 3) := by decide +kernel
theorem dX9_row_90 : decode cX9_row 90 = .ok (.ifCond .eq 7, 3) := by decide +kernel
theorem dX9_row_93 : decode cX9_row 93 = .ok (.iconst 1, 1) := by decide +kernel
theorem dX9_row_94 : decode cX9_row 94 = .ok (.goto 4, 3) := by decide +kernel
theorem dX9_row_97 : decode cX9_row 97 = .ok (.iconst 0, 1) := by decide +kernel
theorem dX9_row_98 : decode cX9_row 98 = .ok (.istore 4, 2) := by decide +kernel
theorem dX9_row_100 : decode cX9_row 100 = .ok (.iload 4, 2) := by decide +kernel
theorem dX9_row_102 : decode cX9_row 102 = .ok (.ifCond .eq 36, 3) := by decide +kernel
theorem dX9_row_105 : decode cX9_row 105 = .ok (.aload_n 0, 1) := by decide +kernel
theorem dX9_row_106 : decode cX9_row 106 = .ok (.getfield 28, 3) := by decide +kernel
theorem dX9_row_109 : decode cX9_row 109 = .ok (.iconst 0, 1) := by decide +kernel
theorem dX9_row_110 : decode cX9_row 110 = .ok (.aload_n 0, 1) := by decide +kernel
theorem dX9_row_111 : decode cX9_row 111 = .ok (.getfield 45, 3) := by decide +kernel
theorem dX9_row_114 : decode cX9_row 114 = .ok (.iload_n 3, 1) := by decide +kernel
theorem dX9_row_115 : decode cX9_row 115 = .ok (.baload, 1) := by decide +kernel
theorem dX9_row_116 : decode cX9_row 116 = .ok (.iadd, 1) := by decide +kernel
theorem dX9_row_117 : decode cX9_row 117 = .ok (.bipush 100, 2) := by decide +kernel
theorem dX9_row_119 : decode cX9_row 119 = .ok (.aload_n 0, 1) := by decide +kernel
theorem dX9_row_120 : decode cX9_row 120 = .ok (.getfield 45, 3) := by decide +kernel
theorem dX9_row_123 : decode cX9_row 123 = .ok (.iload_n 3, 1) := by decide +kernel
theorem dX9_row_124 : decode cX9_row 124 = .ok (.iconst 1, 1) := by decide +kernel
theorem dX9_row_125 : decode cX9_row 125 = .ok (.iadd, 1) := by decide +kernel
theorem dX9_row_126 : decode cX9_row 126 = .ok (.baload, 1) := by decide +kernel
theorem dX9_row_127 : decode cX9_row 127 = .ok (.imul, 1) := by decide +kernel
theorem dX9_row_128 : decode cX9_row 128 = .ok (.aload_n 0, 1) := by decide +kernel
theorem dX9_row_129 : decode cX9_row 129 = .ok (.getfield 45, 3) := by decide +kernel
theorem dX9_row_132 : decode cX9_row 132 = .ok (.iload_n 3, 1) := by decide +kernel
theorem dX9_row_133 : decode cX9_row 133 = .ok (.iconst 2, 1) := by decide +kernel
theorem dX9_row_134 : decode cX9_row 134 = .ok (.iadd, 1) := by decide +kernel
theorem dX9_row_135 : decode cX9_row 135 = .ok (.baload, 1) := by decide +kernel
theorem dX9_row_136 : decode cX9_row 136 = .ok (.iadd, 1) := by decide +kernel
theorem dX9_row_137 : decode cX9_row 137 = .ok (.iastore, 1) := by decide +kernel
theorem dX9_row_138 : decode cX9_row 138 = .ok (.iload_n 2, 1) := by decide +kernel
theorem dX9_row_139 : decode cX9_row 139 = .ok (.iload 4, 2) := by decide +kernel
theorem dX9_row_141 : decode cX9_row 141 = .ok (.ifCond .eq 7, 3) := by decide +kernel
theorem dX9_row_144 : decode cX9_row 144 = .ok (.iconst 1, 1) := by decide +kernel
theorem dX9_row_145 : decode cX9_row 145 = .ok (.goto 4, 3) := by decide +kernel
theorem dX9_row_148 : decode cX9_row 148 = .ok (.iconst 0, 1) := by decide +kernel
theorem dX9_row_149 : decode cX9_row 149 = .ok (.iadd, 1) := by decide +kernel
theorem dX9_row_150 : decode cX9_row 150 = .ok (.istore_n 2, 1) := by decide +kernel
theorem dX9_row_151 : decode cX9_row 151 = .ok (.aload_n 0, 1) := by decide +kernel
theorem dX9_row_152 : decode cX9_row 152 = .ok (.dup, 1) := by decide +kernel
theorem dX9_row_153 : decode cX9_row 153 = .ok (.getfield 155, 3) := by decide +kernel
theorem dX9_row_156 : decode cX9_row 156 = .ok (.iload 4, 2) := by decide +kernel
