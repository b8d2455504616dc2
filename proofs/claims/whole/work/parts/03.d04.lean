theorem dX9_row_158 : decode cX9_row 158 = .ok (.ifCond .eq 7, 3) := by decide +kernel
theorem dX9_row_161 : decode cX9_row 161 = .ok (.iconst 0, 1) := by decide +kernel
theorem dX9_row_162 : decode cX9_row 162 = .ok (.goto 4, 3) := by decide +kernel
theorem dX9_row_165 : decode cX9_row 165 = .ok (.iconst 1, 1) := by decide +kernel
theorem dX9_row_166 : decode cX9_row 166 = .ok (.iadd, 1) := by decide +kernel
theorem dX9_row_167 : decode cX9_row 167 = .ok (.putfield 155, 3) := by decide +kernel
theorem dX9_row_170 : decode cX9_row 170 = .ok (.iinc 3 3, 3) := by decide +kernel
theorem dX9_row_173 : decode cX9_row 173 = .ok (.goto (-133), 3) := by decide +kernel
theorem dX9_row_176 : decode cX9_row 176 = .ok (.aload_n 0, 1) := by decide +kernel
theorem dX9_row_177 : decode cX9_row 177 = .ok (.iload_n 2, 1) := by decide +kernel
theorem dX9_row_178 : decode cX9_row 178 = .ok (.invokevirtual 112, 3) := by decide +kernel
theorem dX9_row_181 : decode cX9_row 181 = .ok (.ireturn, 1) := by decide +kernel
theorem dX9_smudges_0 : decode cX9_smudges 0 = .ok (.aload_n 0, 1) := by decide +kernel
theorem dX9_smudges_1 : decode cX9_smudges 1 = .ok (.getfield 155, 3) := by decide +kernel
theorem dX9_smudges_4 : decode cX9_smudges 4 = .ok (.ireturn, 1) := by decide +kernel
theorem dX9_feed_0 : decode cX9_feed 0 = .ok (.aload_n 0, 1) := by decide +kernel
theorem dX9_feed_1 : decode cX9_feed 1 = .ok (.getfield 152, 3) := by decide +kernel
theorem dX9_feed_4 : decode cX9_feed 4 = .ok (.bipush 20, 2) := by decide +kernel
theorem dX9_feed_6 : decode cX9_feed 6 = .ok (.iadd, 1) := by decide +kernel
theorem dX9_feed_7 : decode cX9_feed 7 = .ok (.sipush 400, 3) := by decide +kernel
theorem dX9_feed_10 : decode cX9_feed 10 = .ok (.if_icmp .le 5, 3) := by decide +kernel
theorem dX9_feed_13 : decode cX9_feed 13 = .ok (.iconst (-1), 1) := by decide +kernel
theorem dX9_feed_14 : decode cX9_feed 14 = .ok (.ireturn, 1) := by decide +kernel
theorem dX9_feed_15 : decode cX9_feed 15 = .ok (.aload_n 0, 1) := by decide +kernel
theorem dX9_feed_16 : decode cX9_feed 16 = .ok (.getfield 48, 3) := by decide +kernel
theorem dX9_feed_19 : decode cX9_feed 19 = .ok (.iconst 0, 1) := by decide +kernel
theorem dX9_feed_20 : decode cX9_feed 20 = .ok (.iload_n 1, 1) := by decide +kernel
theorem dX9_feed_21 : decode cX9_feed 21 = .ok (.iastore, 1) := by decide +kernel
theorem dX9_feed_22 : decode cX9_feed 22 = .ok (.aload_n 0, 1) := by decide +kernel
theorem dX9_feed_23 : decode cX9_feed 23 = .ok (.getfield 48, 3) := by decide +kernel
theorem dX9_feed_26 : decode cX9_feed 26 = .ok (.iconst 1, 1) := by decide +kernel
theorem dX9_feed_27 : decode cX9_feed 27 = .ok (.iload_n 2, 1) := by decide +kernel
theorem dX9_feed_28 : decode cX9_feed 28 = .ok (.iastore, 1) := by decide +kernel
theorem dX9_feed_29 : decode cX9_feed 29 = .ok (.aload_n 0, 1) := by decide +kernel
theorem dX9_feed_30 : decode cX9_feed 30 = .ok (.getfield 48, 3) := by decide +kernel
theorem dX9_feed_33 : decode cX9_feed 33 = .ok (.iconst 2, 1) := by decide +kernel
theorem dX9_feed_34 : decode cX9_feed 34 = .ok (.iload_n 3, 1) := by decide +kernel
theorem dX9_feed_35 : decode cX9_feed 35 = .ok (.iastore, 1) := by decide +kernel
theorem dX9_feed_36 : decode cX9_feed 36 = .ok (.aload_n 0, 1) := by decide +kernel
theorem dX9_feed_37 : decode cX9_feed 37 = .ok (.getfield 48, 3) := by decide +kernel
theorem dX9_feed_40 : decode cX9_feed 40 = .ok (.iconst 3, 1) := by decide +kernel
theorem dX9_feed_41 : decode cX9_feed 41 = .ok (.iload 4, 2) := by decide +kernel
theorem dX9_feed_43 : decode cX9_feed 43 = .ok (.iastore, 1) := by decide +kernel
theorem dX9_feed_44 : decode cX9_feed 44 = .ok (.aload_n 0, 1) := by decide +kernel
theorem dX9_feed_45 : decode cX9_feed 45 = .ok (.getfield 48, 3) := by decide +kernel
theorem dX9_feed_48 : decode cX9_feed 48 = .ok (.iconst 4, 1) := by decide +kernel
theorem dX9_feed_49 : decode cX9_feed 49 = .ok (.iload 5, 2) := by decide +kernel
theorem dX9_feed_51 : decode cX9_feed 51 = .ok (.iastore, 1) := by decide +kernel
theorem dX9_feed_52 : decode cX9_feed 52 = .ok (.iconst 0, 1) := by decide +kernel
theorem dX9_feed_53 : decode cX9_feed 53 = .ok (.istore 6, 2) := by decide +kernel
theorem dX9_feed_55 : decode cX9_feed 55 = .ok (.iload 6, 2) := by decide +kernel
theorem dX9_feed_57 : decode cX9_feed 57 = .ok (.bipush 20, 2) := by decide +kernel
theorem dX9_feed_59 : decode cX9_feed 59 = .ok (.if_icmp .ge 42, 3) := by decide +kernel
theorem dX9_feed_62 : decode cX9_feed 62 = .ok (.aload_n 0, 1) := by decide +kernel
theorem dX9_feed_63 : decode cX9_feed 63 = .ok (.getfield 45, 3) := by decide +kernel
theorem dX9_feed_66 : decode cX9_feed 66 = .ok (.aload_n 0, 1) := by decide +kernel
theorem dX9_feed_67 : decode cX9_feed 67 = .ok (.getfield 152, 3) := by decide +kernel
theorem dX9_feed_70 : decode cX9_feed 70 = .ok (.iload 6, 2) := by decide +kernel
theorem dX9_feed_72 : decode cX9_feed 72 = .ok (.iadd, 1) := by decide +kernel
theorem dX9_feed_73 : decode cX9_feed 73 = .ok (.aload_n 0, 1) := by decide +kernel
theorem dX9_feed_74 : decode cX9_feed 74 = .ok (.getfield 48, 3) := by decide +kernel
theorem dX9_feed_77 : decode cX9_feed 77 = .ok (.iload 6, 2) := by decide +kernel
theorem dX9_feed_79 : decode cX9_feed 79 = .ok (.iconst 4, 1) := by decide +kernel
theorem dX9_feed_80 : decode cX9_feed 80 = .ok (.idiv, 1) := by decide +kernel
theorem dX9_feed_81 : decode cX9_feed 81 = .ok (.iaload, 1) := by decide +kernel
theorem dX9_feed_82 : decode cX9_feed 82 = .ok (.bipush 24, 2) := by decide +kernel
theorem dX9_feed_84 : decode cX9_feed 84 = .ok (.bipush 8, 2) := by decide +kernel
theorem dX9_feed_86 : decode cX9_feed 86 = .ok (.iload 6, 2) := by decide +kernel
theorem dX9_feed_88 : decode cX9_feed 88 = .ok (.iconst 4, 1) := by decide +kernel
theorem dX9_feed_89 : decode cX9_feed 89 = .ok (.irem, 1) := by decide +kernel
theorem dX9_feed_90 : decode cX9_feed 90 = .ok (.imul, 1) := by decide +kernel
theorem dX9_feed_91 : decode cX9_feed 91 = .ok (.isub, 1) := by decide +kernel
theorem dX9_feed_92 : decode cX9_feed 92 = .ok (.ishr, 1) := by decide +kernel
theorem dX9_feed_93 : decode cX9_feed 93 = .ok (.i2b, 1) := by decide +kernel
theorem dX9_feed_94 : decode cX9_feed 94 = .ok (.bastore, 1) := by decide +kernel
theorem dX9_feed_95 : decode cX9_feed 95 = .ok (.iinc 6 1, 3) := by decide +kernel
theorem dX9_feed_98 : decode cX9_feed 98 = .ok (.goto (-43), 3) := by decide +kernel
theorem dX9_feed_101 : decode cX9_feed 101 = .ok (.aload_n 0, 1) := by decide +kernel
theorem dX9_feed_102 : decode cX9_feed 102 = .ok (.dup, 1) := by decide +kernel
theorem dX9_feed_103 : decode cX9_feed 103 = .ok (.getfield 152, 3) := by decide +kernel
theorem dX9_feed_106 : decode cX9_feed 106 = .ok (.bipush 20, 2) := by decide +kernel
theorem dX9_feed_108 : decode cX9_feed 108 = .ok (.iadd, 1) := by decide +kernel
theorem dX9_feed_109 : decode cX9_feed 109 = .ok (.putfield 152, 3) := by decide +kernel
theorem dX9_feed_112 : decode cX9_feed 112 = .ok (.aload_n 0, 1) := by decide +kernel
theorem dX9_feed_113 : decode cX9_feed 113 = .ok (.getfield 152, 3) := by decide +kernel
theorem dX9_feed_116 : decode cX9_feed 116 = .ok (.ireturn, 1) := by decide +kernel
theorem dX9_end_0 : decode cX9_end 0 = .ok (.iload_n 1, 1) := by decide +kernel
theorem dX9_end_1 : decode cX9_end 1 = .ok (.iconst 0, 1) := by decide +kernel
theorem dX9_end_2 : decode cX9_end 2 = .ok (.aload_n 0, 1) := by decide +kernel
theorem dX9_end_3 : decode cX9_end 3 = .ok (.getfield 152, 3) := by decide +kernel
theorem dX9_end_6 : decode cX9_end 6 = .ok (.invokestatic 18, 3) := by decide +kernel
theorem dX9_end_9 : decode cX9_end 9 = .ok (.ifCond .ne 5, 3) := by decide +kernel
theorem dX9_end_12 : decode cX9_end 12 = .ok (.iconst (-1), 1) := by decide +kernel
theorem dX9_end_13 : decode cX9_end 13 = .ok (.ireturn, 1) := by decide +kernel
theorem dX9_end_14 : decode cX9_end 14 = .ok (.aload_n 0, 1) := by decide +kernel
theorem dX9_end_15 : decode cX9_end 15 = .ok (.iload_n 1, 1) := by decide +kernel
theorem dX9_end_16 : decode cX9_end 16 = .ok (.putfield 152, 3) := by decide +kernel
theorem dX9_end_19 : decode cX9_end 19 = .ok (.iload_n 1, 1) := by decide +kernel
theorem dX9_end_20 : decode cX9_end 20 = .ok (.ireturn, 1) := by decide +kernel
theorem dX9_isSmall_0 : decode cX9_isSmall 0 = .ok (.iload_n 0, 1) := by decide +kernel
theorem dX9_isSmall_1 : decode cX9_isSmall 1 = .ok (.bipush 97, 2) := by decide +kernel
theorem dX9_isSmall_3 : decode cX9_isSmall 3 = .ok (.if_icmp .lt 13, 3) := by decide +kernel
theorem dX9_isSmall_6 : decode cX9_isSmall 6 = .ok (.iload_n 0, 1) := by decide +kernel
theorem dX9_isSmall_7 : decode cX9_isSmall 7 = .ok (.bipush 122, 2) := by decide +kernel
theorem dX9_isSmall_9 : decode cX9_isSmall 9 = .ok (.if_icmp .gt 7, 3) := by decide +kernel
theorem dX9_isSmall_12 : decode cX9_isSmall 12 = .ok (.iconst 1, 1) := by decide +kernel
theorem dX9_isSmall_13 : decode cX9_isSmall 13 = .ok (.goto 4, 3) := by decide +kernel
theorem dX9_isSmall_16 : decode cX9_isSmall 16 = .ok (.iconst 0, 1) := by decide +kernel
theorem dX9_isSmall_17 : decode cX9_isSmall 17 = .ok (.ireturn, 1) := by decide +kernel
theorem dX9_isDigit_0 : decode cX9_isDigit 0 = .ok (.iload_n 0, 1) := by decide +kernel
theorem dX9_isDigit_1 : decode cX9_isDigit 1 = .ok (.bipush 48, 2) := by decide +kernel
theorem dX9_isDigit_3 : decode cX9_isDigit 3 = .ok (.if_icmp .lt 13, 3) := by decide +kernel
theorem dX9_isDigit_6 : decode cX9_isDigit 6 = .ok (.iload_n 0, 1) := by decide +kernel
theorem dX9_isDigit_7 : decode cX9_isDigit 7 = .ok (.bipush 57, 2) := by decide +kernel
theorem dX9_isDigit_9 : decode cX9_isDigit 9 = .ok (.if_icmp .gt 7, 3) := by decide +kernel
theorem dX9_isDigit_12 : decode cX9_isDigit 12 = .ok (.iconst 1, 1) := by decide +kernel
theorem dX9_isDigit_13 : decode cX9_isDigit 13 = .ok (.goto 4, 3) := by decide +kernel
theorem dX9_isDigit_16 : decode cX9_isDigit 16 = .ok (.iconst 0, 1) := by decide +kernel
theorem dX9_isDigit_17 : decode cX9_isDigit 17 = .ok (.ireturn, 1) := by decide +kernel
theorem dX9_wordOf_0 : decode cX9_wordOf 0 = .ok (.iconst 1, 1) := by decide +kernel
theorem dX9_wordOf_1 : decode cX9_wordOf 1 = .ok (.istore_n 3, 1) := by decide +kernel
theorem dX9_wordOf_2 : decode cX9_wordOf 2 = .ok (.iconst 0, 1) := by decide +kernel
theorem dX9_wordOf_3 : decode cX9_wordOf 3 = .ok (.istore 4, 2) := by decide +kernel
theorem dX9_wordOf_5 : decode cX9_wordOf 5 = .ok (.iload 4, 2) := by decide +kernel
theorem dX9_wordOf_7 : decode cX9_wordOf 7 = .ok (.aload_n 0, 1) := by decide +kernel
theorem dX9_wordOf_8 : decode cX9_wordOf 8 = .ok (.getfield 41, 3) := by decide +kernel
theorem dX9_wordOf_11 : decode cX9_wordOf 11 = .ok (.arraylength, 1) := by decide +kernel
theorem dX9_wordOf_12 : decode cX9_wordOf 12 = .ok (.if_icmp .ge 114, 3) := by decide +kernel
theorem dX9_wordOf_15 : decode cX9_wordOf 15 = .ok (.iconst 0, 1) := by decide +kernel
theorem dX9_wordOf_16 : decode cX9_wordOf 16 = .ok (.istore 5, 2) := by decide +kernel
theorem dX9_wordOf_18 : decode cX9_wordOf 18 = .ok (.aload_n 0, 1) := by decide +kernel
theorem dX9_wordOf_19 : decode cX9_wordOf 19 = .ok (.getfield 41, 3) := by decide +kernel
theorem dX9_wordOf_22 : decode cX9_wordOf 22 = .ok (.iload 4, 2) := by decide +kernel
theorem dX9_wordOf_24 : decode cX9_wordOf 24 = .ok (.iload 5, 2) := by decide +kernel
theorem dX9_wordOf_26 : decode cX9_wordOf 26 = .ok (.iadd, 1) := by decide +kernel
theorem dX9_wordOf_27 : decode cX9_wordOf 27 = .ok (.baload, 1) := by decide +kernel
theorem dX9_wordOf_28 : decode cX9_wordOf 28 = .ok (.bipush 32, 2) := by decide +kernel
theorem dX9_wordOf_30 : decode cX9_wordOf 30 = .ok (.if_icmp .eq 9, 3) := by decide +kernel
theorem dX9_wordOf_33 : decode cX9_wordOf 33 = .ok (.iinc 5 1, 3) := by decide +kernel
theorem dX9_wordOf_36 : decode cX9_wordOf 36 = .ok (.goto (-18), 3) := by decide +kernel
theorem dX9_wordOf_39 : decode cX9_wordOf 39 = .ok (.iload 5, 2) := by decide +kernel
theorem dX9_wordOf_41 : decode cX9_wordOf 41 = .ok (.iload_n 2, 1) := by decide +kernel
theorem dX9_wordOf_42 : decode cX9_wordOf 42 = .ok (.iload_n 1, 1) := by decide +kernel
theorem dX9_wordOf_43 : decode cX9_wordOf 43 = .ok (.isub, 1) := by decide +kernel
theorem dX9_wordOf_44 : decode cX9_wordOf 44 = .ok (.if_icmp .ne 7, 3) := by decide +kernel
theorem dX9_wordOf_47 : decode cX9_wordOf 47 = .ok (.iconst 1, 1) := by decide +kernel
theorem dX9_wordOf_48 : decode cX9_wordOf 48 = .ok (.goto 4, 3) := by decide +kernel
theorem dX9_wordOf_51 : decode cX9_wordOf 51 = .ok (.iconst 0, 1) := by decide +kernel
theorem dX9_wordOf_52 : decode cX9_wordOf 52 = .ok (.istore 6, 2) := by decide +kernel
theorem dX9_wordOf_54 : decode cX9_wordOf 54 = .ok (.iconst 0, 1) := by decide +kernel
theorem dX9_wordOf_55 : decode cX9_wordOf 55 = .ok (.istore 7, 2) := by decide +kernel
theorem dX9_wordOf_57 : decode cX9_wordOf 57 = .ok (.iload 7, 2) := by decide +kernel
theorem dX9_wordOf_59 : decode cX9_wordOf 59 = .ok (.iload 5, 2) := by decide +kernel
theorem dX9_wordOf_61 : decode cX9_wordOf 61 = .ok (.if_icmp .ge 43, 3) := by decide +kernel
theorem dX9_wordOf_64 : decode cX9_wordOf 64 = .ok (.iload 6, 2) := by decide +kernel
theorem dX9_wordOf_66 : decode cX9_wordOf 66 = .ok (.ifCond .eq 38, 3) := by decide +kernel
theorem dX9_wordOf_69 : decode cX9_wordOf 69 = .ok (.aload_n 0, 1) := by decide +kernel
theorem dX9_wordOf_70 : decode cX9_wordOf 70 = .ok (.getfield 41, 3) := by decide +kernel
theorem dX9_wordOf_73 : decode cX9_wordOf 73 = .ok (.iload 4, 2) := by decide +kernel
theorem dX9_wordOf_75 : decode cX9_wordOf 75 = .ok (.iload 7, 2) := by decide +kernel
theorem dX9_wordOf_77 : decode cX9_wordOf 77 = .ok (.iadd, 1) := by decide +kernel
theorem dX9_wordOf_78 : decode cX9_wordOf 78 = .ok (.baload, 1) := by decide +kernel
theorem dX9_wordOf_79 : decode cX9_wordOf 79 = .ok (.aload_n 0, 1) := by decide +kernel
theorem dX9_wordOf_80 : decode cX9_wordOf 80 = .ok (.getfield 45, 3) := by decide +kernel
theorem dX9_wordOf_83 : decode cX9_wordOf 83 = .ok (.iload_n 1, 1) := by decide +kernel
theorem dX9_wordOf_84 : decode cX9_wordOf 84 = .ok (.iload 7, 2) := by decide +kernel
theorem dX9_wordOf_86 : decode cX9_wordOf 86 = .ok (.iadd, 1) := by decide +kernel
theorem dX9_wordOf_87 : decode cX9_wordOf 87 = .ok (.baload, 1) := by decide +kernel
theorem dX9_wordOf_88 : decode cX9_wordOf 88 = .ok (.if_icmp .ne 7, 3) := by decide +kernel
theorem dX9_wordOf_91 : decode cX9_wordOf 91 = .ok (.iconst 1, 1) := by decide +kernel
theorem dX9_wordOf_92 : decode cX9_wordOf 92 = .ok (.goto 4, 3) := by decide +kernel
theorem dX9_wordOf_95 : decode cX9_wordOf 95 = .ok (.iconst 0, 1) := by decide +kernel
theorem dX9_wordOf_96 : decode cX9_wordOf 96 = .ok (.istore 6, 2) := by decide +kernel
theorem dX9_wordOf_98 : decode cX9_wordOf 98 = .ok (.iinc 7 1, 3) := by decide +kernel
theorem dX9_wordOf_101 : decode cX9_wordOf 101 = .ok (.goto (-44), 3) := by decide +kernel
theorem dX9_wordOf_104 : decode cX9_wordOf 104 = .ok (.iload 6, 2) := by decide +kernel
theorem dX9_wordOf_106 : decode cX9_wordOf 106 = .ok (.ifCond .eq 5, 3) := by decide +kernel
theorem dX9_wordOf_109 : decode cX9_wordOf 109 = .ok (.iload_n 3, 1) := by decide +kernel
theorem dX9_wordOf_110 : decode cX9_wordOf 110 = .ok (.ireturn, 1) := by decide +kernel
theorem dX9_wordOf_111 : decode cX9_wordOf 111 = .ok (.iload 4, 2) := by decide +kernel
theorem dX9_wordOf_113 : decode cX9_wordOf 113 = .ok (.iload 5, 2) := by decide +kernel
theorem dX9_wordOf_115 : decode cX9_wordOf 115 = .ok (.iconst 1, 1) := by decide +kernel
theorem dX9_wordOf_116 : decode cX9_wordOf 116 = .ok (.iadd, 1) := by decide +kernel
theorem dX9_wordOf_117 : decode cX9_wordOf 117 = .ok (.iadd, 1) := by decide +kernel
theorem dX9_wordOf_118 : decode cX9_wordOf 118 = .ok (.istore 4, 2) := by decide +kernel
theorem dX9_wordOf_120 : decode cX9_wordOf 120 = .ok (.iinc 3 1, 3) := by decide +kernel
theorem dX9_wordOf_123 : decode cX9_wordOf 123 = .ok (.goto (-118), 3) := by decide +kernel
theorem dX9_wordOf_126 : decode cX9_wordOf 126 = .ok (.iconst 0, 1) := by decide +kernel
theorem dX9_wordOf_127 : decode cX9_wordOf 127 = .ok (.ireturn, 1) := by decide +kernel
theorem dX9_splits_0 : decode cX9_splits 0 = .ok (.aload_n 0, 1) := by decide +kernel
theorem dX9_splits_1 : decode cX9_splits 1 = .ok (.iconst 0, 1) := by decide +kernel
theorem dX9_splits_2 : decode cX9_splits 2 = .ok (.putfield 158, 3) := by decide +kernel
theorem dX9_splits_5 : decode cX9_splits 5 = .ok (.iconst 0, 1) := by decide +kernel
theorem dX9_splits_6 : decode cX9_splits 6 = .ok (.istore_n 2, 1) := by decide +kernel
theorem dX9_splits_7 : decode cX9_splits 7 = .ok (.iload_n 2, 1) := by decide +kernel
theorem dX9_splits_8 : decode cX9_splits 8 = .ok (.iload_n 1, 1) := by decide +kernel
theorem dX9_splits_9 : decode cX9_splits 9 = .ok (.if_icmp .ge 254, 3) := by decide +kernel
theorem dX9_splits_12 : decode cX9_splits 12 = .ok (.aload_n 0, 1) := by decide +kernel
theorem dX9_splits_13 : decode cX9_splits 13 = .ok (.getfield 45, 3) := by decide +kernel
theorem dX9_splits_16 : decode cX9_splits 16 = .ok (.iload_n 2, 1) := by decide +kernel
theorem dX9_splits_17 : decode cX9_splits 17 = .ok (.baload, 1) := by decide +kernel
theorem dX9_splits_18 : decode cX9_splits 18 = .ok (.istore_n 3, 1) := by decide +kernel
theorem dX9_splits_19 : decode cX9_splits 19 = .ok (.iload_n 3, 1) := by decide +kernel
theorem dX9_splits_20 : decode cX9_splits 20 = .ok (.bipush 32, 2) := by decide +kernel
theorem dX9_splits_22 : decode cX9_splits 22 = .ok (.if_icmp .ne 9, 3) := by decide +kernel
theorem dX9_splits_25 : decode cX9_splits 25 = .ok (.iinc 2 1, 3) := by decide +kernel
theorem dX9_splits_28 : decode cX9_splits 28 = .ok (.goto (-21), 3) := by decide +kernel
theorem dX9_splits_31 : decode cX9_splits 31 = .ok (.iload_n 2, 1) := by decide +kernel
theorem dX9_splits_32 : decode cX9_splits 32 = .ok (.iconst 1, 1) := by decide +kernel
theorem dX9_splits_33 : decode cX9_splits 33 = .ok (.iadd, 1) := by decide +kernel
theorem dX9_splits_34 : decode cX9_splits 34 = .ok (.istore 4, 2) := by decide +kernel
theorem dX9_splits_36 : decode cX9_splits 36 = .ok (.iload_n 3, 1) := by decide +kernel
theorem dX9_splits_37 : decode cX9_splits 37 = .ok (.invokestatic 161, 3) := by decide +kernel
theorem dX9_splits_40 : decode cX9_splits 40 = .ok (.ifCond .eq 28, 3) := by decide +kernel
theorem dX9_splits_43 : decode cX9_splits 43 = .ok (.iload 4, 2) := by decide +kernel
theorem dX9_splits_45 : decode cX9_splits 45 = .ok (.iload_n 1, 1) := by decide +kernel
theorem dX9_splits_46 : decode cX9_splits 46 = .ok (.if_icmp .ge 22, 3) := by decide +kernel
theorem dX9_splits_49 : decode cX9_splits 49 = .ok (.aload_n 0, 1) := by decide +kernel
theorem dX9_splits_50 : decode cX9_splits 50 = .ok (.getfield 45, 3) := by decide +kernel
theorem dX9_splits_53 : decode cX9_splits 53 = .ok (.iload 4, 2) := by decide +kernel
theorem dX9_splits_55 : decode cX9_splits 55 = .ok (.baload, 1) := by decide +kernel
theorem dX9_splits_56 : decode cX9_splits 56 = .ok (.invokestatic 161, 3) := by decide +kernel
theorem dX9_splits_59 : decode cX9_splits 59 = .ok (.ifCond .eq 9, 3) := by decide +kernel
theorem dX9_splits_62 : decode cX9_splits 62 = .ok (.iinc 4 1, 3) := by decide +kernel
theorem dX9_splits_65 : decode cX9_splits 65 = .ok (.goto (-22), 3) := by decide +kernel
theorem dX9_splits_68 : decode cX9_splits 68 = .ok (.iload_n 3, 1) := by decide +kernel
theorem dX9_splits_69 : decode cX9_splits 69 = .ok (.invokestatic 164, 3) := by decide +kernel
theorem dX9_splits_72 : decode cX9_splits 72 = .ok (.ifCond .eq 28, 3) := by decide +kernel
theorem dX9_splits_75 : decode cX9_splits 75 = .ok (.iload 4, 2) := by decide +kernel
theorem dX9_splits_77 : decode cX9_splits 77 = .ok (.iload_n 1, 1) := by decide +kernel
theorem dX9_splits_78 : decode cX9_splits 78 = .ok (.if_icmp .ge 22, 3) := by decide +kernel
theorem dX9_splits_81 : decode cX9_splits 81 = .ok (.aload_n 0, 1) := by decide +kernel
theorem dX9_splits_82 : decode cX9_splits 82 = .ok (.getfield 45, 3) := by decide +kernel
theorem dX9_splits_85 : decode cX9_splits 85 = .ok (.iload 4, 2) := by decide +kernel
theorem dX9_splits_87 : decode cX9_splits 87 = .ok (.baload, 1) := by decide +kernel
theorem dX9_splits_88 : decode cX9_splits 88 = .ok (.invokestatic 164, 3) := by decide +kernel
theorem dX9_splits_91 : decode cX9_splits 91 = .ok (.ifCond .eq 9, 3) := by decide +kernel
theorem dX9_splits_94 : decode cX9_splits 94 = .ok (.iinc 4 1, 3) := by decide +kernel
theorem dX9_splits_97 : decode cX9_splits 97 = .ok (.goto (-22), 3) := by decide +kernel
theorem dX9_splits_100 : decode cX9_splits 100 = .ok (.aload_n 0, 1) := by decide +kernel
theorem dX9_splits_101 : decode cX9_splits 101 = .ok (.getfield 60, 3) := by decide +kernel
theorem dX9_splits_104 : decode cX9_splits 104 = .ok (.aload_n 0, 1) := by decide +kernel
theorem dX9_splits_105 : decode cX9_splits 105 = .ok (.getfield 158, 3) := by decide +kernel
theorem dX9_splits_108 : decode cX9_splits 108 = .ok (.iload_n 2, 1) := by decide +kernel
theorem dX9_splits_109 : decode cX9_splits 109 = .ok (.iastore, 1) := by decide +kernel
theorem dX9_splits_110 : decode cX9_splits 110 = .ok (.aload_n 0, 1) := by decide +kernel
theorem dX9_splits_111 : decode cX9_splits 111 = .ok (.getfield 57, 3) := by decide +kernel
theorem dX9_splits_114 : decode cX9_splits 114 = .ok (.aload_n 0, 1) := by decide +kernel
theorem dX9_splits_115 : decode cX9_splits 115 = .ok (.getfield 158, 3) := by decide +kernel
theorem dX9_splits_118 : decode cX9_splits 118 = .ok (.iconst 0, 1) := by decide +kernel
theorem dX9_splits_119 : decode cX9_splits 119 = .ok (.iastore, 1) := by decide +kernel
theorem dX9_splits_120 : decode cX9_splits 120 = .ok (.aload_n 0, 1) := by decide +kernel
theorem dX9_splits_121 : decode cX9_splits 121 = .ok (.getfield 54, 3) := by decide +kernel
theorem dX9_splits_124 : decode cX9_splits 124 = .ok (.aload_n 0, 1) := by decide +kernel
theorem dX9_splits_125 : decode cX9_splits 125 = .ok (.getfield 158, 3) := by decide +kernel
theorem dX9_splits_128 : decode cX9_splits 128 = .ok (.iload_n 3, 1) := by decide +kernel
theorem dX9_splits_129 : decode cX9_splits 129 = .ok (.invokestatic 161, 3) := by decide +kernel
theorem dX9_splits_132 : decode cX9_splits 132 = .ok (.ifCond .eq 13, 3) := by decide +kernel
theorem dX9_splits_135 : decode cX9_splits 135 = .ok (.aload_n 0, 1) := by decide +kernel
theorem dX9_splits_136 : decode cX9_splits 136 = .ok (.iload_n 2, 1) := by decide +kernel
theorem dX9_splits_137 : decode cX9_splits 137 = .ok (.iload 4, 2) := by decide +kernel
theorem dX9_splits_139 : decode cX9_splits 139 = .ok (.invokevirtual 167, 3) := by decide +kernel
theorem dX9_splits_142 : decode cX9_splits 142 = .ok (.goto 23, 3) := by decide +kernel
theorem dX9_splits_145 : decode cX9_splits 145 = .ok (.iload_n 3, 1) := by decide +kernel
theorem dX9_splits_146 : decode cX9_splits 146 = .ok (.invokestatic 164, 3) := by decide +kernel
theorem dX9_splits_149 : decode cX9_splits 149 = .ok (.ifCond .eq 8, 3) := by decide +kernel
theorem dX9_splits_152 : decode cX9_splits 152 = .ok (.bipush 50, 2) := by decide +kernel
theorem dX9_splits_154 : decode cX9_splits 154 = .ok (.goto 11, 3) := by decide +kernel
theorem dX9_splits_157 : decode cX9_splits 157 = .ok (.bipush 100, 2) := by decide +kernel
theorem dX9_splits_159 : decode cX9_splits 159 = .ok (.iload_n 3, 1) := by decide +kernel
theorem dX9_splits_160 : decode cX9_splits 160 = .ok (.sipush 255, 3) := by decide +kernel
theorem dX9_splits_163 : decode cX9_splits 163 = .ok (.iand, 1) := by decide +kernel
theorem dX9_splits_164 : decode cX9_splits 164 = .ok (.iadd, 1) := by decide +kernel
theorem dX9_splits_165 : decode cX9_splits 165 = .ok (.iastore, 1) := by decide +kernel
theorem dX9_splits_166 : decode cX9_splits 166 = .ok (.iload_n 2, 1) := by decide +kernel
theorem dX9_splits_167 : decode cX9_splits 167 = .ok (.istore 5, 2) := by decide +kernel
theorem dX9_splits_169 : decode cX9_splits 169 = .ok (.iload 5, 2) := by decide +kernel
theorem dX9_splits_171 : decode cX9_splits 171 = .ok (.iload 4, 2) := by decide +kernel
theorem dX9_splits_173 : decode cX9_splits 173 = .ok (.if_icmp .ge 74, 3) := by decide +kernel
theorem dX9_splits_176 : decode cX9_splits 176 = .ok (.iload_n 3, 1) := by decide +kernel
theorem dX9_splits_177 : decode cX9_splits 177 = .ok (.invokestatic 164, 3) := by decide +kernel
theorem dX9_splits_180 : decode cX9_splits 180 = .ok (.ifCond .eq 67, 3) := by decide +kernel
theorem dX9_splits_183 : decode cX9_splits 183 = .ok (.aload_n 0, 1) := by decide +kernel
theorem dX9_splits_184 : decode cX9_splits 184 = .ok (.getfield 57, 3) := by decide +kernel
theorem dX9_splits_187 : decode cX9_splits 187 = .ok (.aload_n 0, 1) := by decide +kernel
theorem dX9_splits_188 : decode cX9_splits 188 = .ok (.getfield 158, 3) := by decide +kernel
theorem dX9_splits_191 : decode cX9_splits 191 = .ok (.aload_n 0, 1) := by decide +kernel
theorem dX9_splits_192 : decode cX9_splits 192 = .ok (.getfield 57, 3) := by decide +kernel
theorem dX9_splits_195 : decode cX9_splits 195 = .ok (.aload_n 0, 1) := by decide +kernel
theorem dX9_splits_196 : decode cX9_splits 196 = .ok (.getfield 158, 3) := by decide +kernel
theorem dX9_splits_199 : decode cX9_splits 199 = .ok (.iaload, 1) := by decide +kernel
theorem dX9_splits_200 : decode cX9_splits 200 = .ok (.ldc 170, 2) := by decide +kernel
theorem dX9_splits_202 : decode cX9_splits 202 = .ok (.if_icmp .le 15, 3) := by decide +kernel
theorem dX9_splits_205 : decode cX9_splits 205 = .ok (.aload_n 0, 1) := by decide +kernel
theorem dX9_splits_206 : decode cX9_splits 206 = .ok (.getfield 57, 3) := by decide +kernel
theorem dX9_splits_209 : decode cX9_splits 209 = .ok (.aload_n 0, 1) := by decide +kernel
theorem dX9_splits_210 : decode cX9_splits 210 = .ok (.getfield 158, 3) := by decide +kernel
theorem dX9_splits_213 : decode cX9_splits 213 = .ok (.iaload, 1) := by decide +kernel
theorem dX9_splits_214 : decode cX9_splits 214 = .ok (.goto 26, 3) := by decide +kernel
theorem dX9_splits_217 : decode cX9_splits 217 = .ok (.bipush 10, 2) := by decide +kernel
theorem dX9_splits_219 : decode cX9_splits 219 = .ok (.aload_n 0, 1) := by decide +kernel
theorem dX9_splits_220 : decode cX9_splits 220 = .ok (.getfield 57, 3) := by decide +kernel
theorem dX9_splits_223 : decode cX9_splits 223 = .ok (.aload_n 0, 1) := by decide +kernel
theorem dX9_splits_224 : decode cX9_splits 224 = .ok (.getfield 158, 3) := by decide +kernel
theorem dX9_splits_227 : decode cX9_splits 227 = .ok (.iaload, 1) := by decide +kernel
theorem dX9_splits_228 : decode cX9_splits 228 = .ok (.imul, 1) := by decide +kernel
theorem dX9_splits_229 : decode cX9_splits 229 = .ok (.aload_n 0, 1) := by decide +kernel
theorem dX9_splits_230 : decode cX9_splits 230 = .ok (.getfield 45, 3) := by decide +kernel
theorem dX9_splits_233 : decode cX9_splits 233 = .ok (.iload 5, 2) := by decide +kernel
theorem dX9_splits_235 : decode cX9_splits 235 = .ok (.baload, 1) := by decide +kernel
theorem dX9_splits_236 : decode cX9_splits 236 = .ok (.iadd, 1) := by decide +kernel
theorem dX9_splits_237 : decode cX9_splits 237 = .ok (.bipush 48, 2) := by decide +kernel
theorem dX9_splits_239 : decode cX9_splits 239 = .ok (.isub, 1) := by decide +kernel
theorem dX9_splits_240 : decode cX9_splits 240 = .ok (.iastore, 1) := by decide +kernel
theorem dX9_splits_241 : decode cX9_splits 241 = .ok (.iinc 5 1, 3) := by decide +kernel
theorem dX9_splits_244 : decode cX9_splits 244 = .ok (.goto (-75), 3) := by decide +kernel
theorem dX9_splits_247 : decode cX9_splits 247 = .ok (.aload_n 0, 1) := by decide +kernel
theorem dX9_splits_248 : decode cX9_splits 248 = .ok (.dup, 1) := by decide +kernel
theorem dX9_splits_249 : decode cX9_splits 249 = .ok (.getfield 158, 3) := by decide +kernel
theorem dX9_splits_252 : decode cX9_splits 252 = .ok (.iconst 1, 1) := by decide +kernel
theorem dX9_splits_253 : decode cX9_splits 253 = .ok (.iadd, 1) := by decide +kernel
theorem dX9_splits_254 : decode cX9_splits 254 = .ok (.putfield 158, 3) := by decide +kernel
theorem dX9_splits_257 : decode cX9_splits 257 = .ok (.iload 4, 2) := by decide +kernel
theorem dX9_splits_259 : decode cX9_splits 259 = .ok (.istore_n 2, 1) := by decide +kernel
theorem dX9_splits_260 : decode cX9_splits 260 = .ok (.goto (-253), 3) := by decide +kernel
theorem dX9_splits_263 : decode cX9_splits 263 = .ok (.aload_n 0, 1) := by decide +kernel
theorem dX9_splits_264 : decode cX9_splits 264 = .ok (.getfield 60, 3) := by decide +kernel
theorem dX9_splits_267 : decode cX9_splits 267 = .ok (.aload_n 0, 1) := by decide +kernel
theorem dX9_splits_268 : decode cX9_splits 268 = .ok (.getfield 158, 3) := by decide +kernel
theorem dX9_splits_271 : decode cX9_splits 271 = .ok (.iload_n 1, 1) := by decide +kernel
theorem dX9_splits_272 : decode cX9_splits 272 = .ok (.iastore, 1) := by decide +kernel
theorem dX9_splits_273 : decode cX9_splits 273 = .ok (.aload_n 0, 1) := by decide +kernel
theorem dX9_splits_274 : decode cX9_splits 274 = .ok (.getfield 54, 3) := by decide +kernel
theorem dX9_splits_277 : decode cX9_splits 277 = .ok (.aload_n 0, 1) := by decide +kernel
theorem dX9_splits_278 : decode cX9_splits 278 = .ok (.getfield 158, 3) := by decide +kernel
theorem dX9_splits_281 : decode cX9_splits 281 = .ok (.iconst 0, 1) := by decide +kernel
theorem dX9_splits_282 : decode cX9_splits 282 = .ok (.iastore, 1) := by decide +kernel
theorem dX9_splits_283 : decode cX9_splits 283 = .ok (.aload_n 0, 1) := by decide +kernel
theorem dX9_splits_284 : decode cX9_splits 284 = .ok (.getfield 57, 3) := by decide +kernel
theorem dX9_splits_287 : decode cX9_splits 287 = .ok (.aload_n 0, 1) := by decide +kernel
theorem dX9_splits_288 : decode cX9_splits 288 = .ok (.getfield 158, 3) := by decide +kernel
theorem dX9_splits_291 : decode cX9_splits 291 = .ok (.iconst 0, 1) := by decide +kernel
theorem dX9_splits_292 : decode cX9_splits 292 = .ok (.iastore, 1) := by decide +kernel
theorem dX9_splits_293 : decode cX9_splits 293 = .ok (.return_, 1) := by decide +kernel
theorem dX9_fine_0 : decode cX9_fine 0 = .ok (.aload_n 0, 1) := by decide +kernel
theorem dX9_fine_1 : decode cX9_fine 1 = .ok (.getfield 171, 3) := by decide +kernel
theorem dX9_fine_4 : decode cX9_fine 4 = .ok (.iconst (-1), 1) := by decide +kernel
theorem dX9_fine_5 : decode cX9_fine 5 = .ok (.if_icmp .ne 7, 3) := by decide +kernel
theorem dX9_fine_8 : decode cX9_fine 8 = .ok (.iconst 1, 1) := by decide +kernel
theorem dX9_fine_9 : decode cX9_fine 9 = .ok (.goto 4, 3) := by decide +kernel
theorem dX9_fine_12 : decode cX9_fine 12 = .ok (.iconst 0, 1) := by decide +kernel
theorem dX9_fine_13 : decode cX9_fine 13 = .ok (.ireturn, 1) := by decide +kernel
theorem dX9_faults_0 : decode cX9_faults 0 = .ok (.aload_n 0, 1) := by decide +kernel
theorem dX9_faults_1 : decode cX9_faults 1 = .ok (.invokevirtual 174, 3) := by decide +kernel
theorem dX9_faults_4 : decode cX9_faults 4 = .ok (.ifCond .eq 16, 3) := by decide +kernel
theorem dX9_faults_7 : decode cX9_faults 7 = .ok (.aload_n 0, 1) := by decide +kernel
theorem dX9_faults_8 : decode cX9_faults 8 = .ok (.aload_n 0, 1) := by decide +kernel
theorem dX9_faults_9 : decode cX9_faults 9 = .ok (.getfield 60, 3) := by decide +kernel
theorem dX9_faults_12 : decode cX9_faults 12 = .ok (.aload_n 0, 1) := by decide +kernel
theorem dX9_faults_13 : decode cX9_faults 13 = .ok (.getfield 178, 3) := by decide +kernel
theorem dX9_faults_16 : decode cX9_faults 16 = .ok (.iaload, 1) := by decide +kernel
theorem dX9_faults_17 : decode cX9_faults 17 = .ok (.putfield 171, 3) := by decide +kernel
theorem dX9_faults_20 : decode cX9_faults 20 = .ok (.return_, 1) := by decide +kernel
theorem dX9_takes0_0 : decode cX9_takes0 0 = .ok (.aload_n 0, 1) := by decide +kernel
theorem dX9_takes0_1 : decode cX9_takes0 1 = .ok (.invokevirtual 174, 3) := by decide +kernel
theorem dX9_takes0_4 : decode cX9_takes0 4 = .ok (.ifCond .eq 20, 3) := by decide +kernel
theorem dX9_takes0_7 : decode cX9_takes0 7 = .ok (.aload_n 0, 1) := by decide +kernel
theorem dX9_takes0_8 : decode cX9_takes0 8 = .ok (.getfield 54, 3) := by decide +kernel
theorem dX9_takes0_11 : decode cX9_takes0 11 = .ok (.aload_n 0, 1) := by decide +kernel
theorem dX9_takes0_12 : decode cX9_takes0 12 = .ok (.getfield 178, 3) := by decide +kernel
theorem dX9_takes0_15 : decode cX9_takes0 15 = .ok (.iaload, 1) := by decide +kernel
theorem dX9_takes0_16 : decode cX9_takes0 16 = .ok (.iload_n 1, 1) := by decide +kernel
theorem dX9_takes0_17 : decode cX9_takes0 17 = .ok (.if_icmp .ne 7, 3) := by decide +kernel
theorem dX9_takes0_20 : decode cX9_takes0 20 = .ok (.iconst 1, 1) := by decide +kernel
theorem dX9_takes0_21 : decode cX9_takes0 21 = .ok (.goto 4, 3) := by decide +kernel
theorem dX9_takes0_24 : decode cX9_takes0 24 = .ok (.iconst 0, 1) := by decide +kernel
theorem dX9_takes0_25 : decode cX9_takes0 25 = .ok (.istore_n 2, 1) := by decide +kernel
theorem dX9_takes0_26 : decode cX9_takes0 26 = .ok (.iload_n 2, 1) := by decide +kernel
theorem dX9_takes0_27 : decode cX9_takes0 27 = .ok (.ifCond .eq 13, 3) := by decide +kernel
theorem dX9_takes0_30 : decode cX9_takes0 30 = .ok (.aload_n 0, 1) := by decide +kernel
theorem dX9_takes0_31 : decode cX9_takes0 31 = .ok (.dup, 1) := by decide +kernel
theorem dX9_takes0_32 : decode cX9_takes0 32 = .ok (.getfield 178, 3) := by decide +kernel
theorem dX9_takes0_35 : decode cX9_takes0 35 = .ok (.iconst 1, 1) := by decide +kernel
theorem dX9_takes0_36 : decode cX9_takes0 36 = .ok (.iadd, 1) := by decide +kernel
theorem dX9_takes0_37 : decode cX9_takes0 37 = .ok (.putfield 178, 3) := by decide +kernel
theorem dX9_takes0_40 : decode cX9_takes0 40 = .ok (.iload_n 2, 1) := by decide +kernel
theorem dX9_takes0_41 : decode cX9_takes0 41 = .ok (.ireturn, 1) := by decide +kernel
theorem dX9_must_0 : decode cX9_must 0 = .ok (.aload_n 0, 1) := by decide +kernel
theorem dX9_must_1 : decode cX9_must 1 = .ok (.iload_n 1, 1) := by decide +kernel
theorem dX9_must_2 : decode cX9_must 2 = .ok (.invokevirtual 181, 3) := by decide +kernel
theorem dX9_must_5 : decode cX9_must 5 = .ok (.ifCond .ne 7, 3) := by decide +kernel
theorem dX9_must_8 : decode cX9_must 8 = .ok (.aload_n 0, 1) := by decide +kernel
theorem dX9_must_9 : decode cX9_must 9 = .ok (.invokevirtual 184, 3) := by decide +kernel
theorem dX9_must_12 : decode cX9_must 12 = .ok (.return_, 1) := by decide +kernel
theorem dX9_leaf_0 : decode cX9_leaf 0 = .ok (.aload_n 0, 1) := by decide +kernel
theorem dX9_leaf_1 : decode cX9_leaf 1 = .ok (.getfield 187, 3) := by decide +kernel
theorem dX9_leaf_4 : decode cX9_leaf 4 = .ok (.bipush 50, 2) := by decide +kernel
theorem dX9_leaf_6 : decode cX9_leaf 6 = .ok (.if_icmp .ne 7, 3) := by decide +kernel
theorem dX9_leaf_9 : decode cX9_leaf 9 = .ok (.aload_n 0, 1) := by decide +kernel
theorem dX9_leaf_10 : decode cX9_leaf 10 = .ok (.invokevirtual 184, 3) := by decide +kernel
theorem dX9_leaf_13 : decode cX9_leaf 13 = .ok (.aload_n 0, 1) := by decide +kernel
theorem dX9_leaf_14 : decode cX9_leaf 14 = .ok (.dup, 1) := by decide +kernel
theorem dX9_leaf_15 : decode cX9_leaf 15 = .ok (.getfield 187, 3) := by decide +kernel
theorem dX9_leaf_18 : decode cX9_leaf 18 = .ok (.iconst 1, 1) := by decide +kernel
theorem dX9_leaf_19 : decode cX9_leaf 19 = .ok (.iadd, 1) := by decide +kernel
theorem dX9_leaf_20 : decode cX9_leaf 20 = .ok (.putfield 187, 3) := by decide +kernel
theorem dX9_leaf_23 : decode cX9_leaf 23 = .ok (.aload_n 0, 1) := by decide +kernel
theorem dX9_leaf_24 : decode cX9_leaf 24 = .ok (.invokevirtual 174, 3) := by decide +kernel
theorem dX9_leaf_27 : decode cX9_leaf 27 = .ok (.ifCond .eq 13, 3) := by decide +kernel
theorem dX9_leaf_30 : decode cX9_leaf 30 = .ok (.aload_n 0, 1) := by decide +kernel
theorem dX9_leaf_31 : decode cX9_leaf 31 = .ok (.dup, 1) := by decide +kernel
theorem dX9_leaf_32 : decode cX9_leaf 32 = .ok (.getfield 178, 3) := by decide +kernel
theorem dX9_leaf_35 : decode cX9_leaf 35 = .ok (.iconst 1, 1) := by decide +kernel
theorem dX9_leaf_36 : decode cX9_leaf 36 = .ok (.iadd, 1) := by decide +kernel
theorem dX9_leaf_37 : decode cX9_leaf 37 = .ok (.putfield 178, 3) := by decide +kernel
theorem dX9_leaf_40 : decode cX9_leaf 40 = .ok (.return_, 1) := by decide +kernel
theorem dX9_sign_0 : decode cX9_sign 0 = .ok (.bipush 100, 2) := by decide +kernel
theorem dX9_sign_2 : decode cX9_sign 2 = .ok (.iload_n 0, 1) := by decide +kernel
theorem dX9_sign_3 : decode cX9_sign 3 = .ok (.iadd, 1) := by decide +kernel
theorem dX9_sign_4 : decode cX9_sign 4 = .ok (.ireturn, 1) := by decide +kernel
theorem dX9_mustNumber_0 : decode cX9_mustNumber 0 = .ok (.aload_n 0, 1) := by decide +kernel
theorem dX9_mustNumber_1 : decode cX9_mustNumber 1 = .ok (.invokevirtual 174, 3) := by decide +kernel
theorem dX9_mustNumber_4 : decode cX9_mustNumber 4 = .ok (.ifCond .eq 38, 3) := by decide +kernel
theorem dX9_mustNumber_7 : decode cX9_mustNumber 7 = .ok (.aload_n 0, 1) := by decide +kernel
theorem dX9_mustNumber_8 : decode cX9_mustNumber 8 = .ok (.getfield 54, 3) := by decide +kernel
theorem dX9_mustNumber_11 : decode cX9_mustNumber 11 = .ok (.aload_n 0, 1) := by decide +kernel
theorem dX9_mustNumber_12 : decode cX9_mustNumber 12 = .ok (.getfield 178, 3) := by decide +kernel
theorem dX9_mustNumber_15 : decode cX9_mustNumber 15 = .ok (.iaload, 1) := by decide +kernel
theorem dX9_mustNumber_16 : decode cX9_mustNumber 16 = .ok (.bipush 50, 2) := by decide +kernel
theorem dX9_mustNumber_18 : decode cX9_mustNumber 18 = .ok (.if_icmp .ne 20, 3) := by decide +kernel
theorem dX9_mustNumber_21 : decode cX9_mustNumber 21 = .ok (.aload_n 0, 1) := by decide +kernel
theorem dX9_mustNumber_22 : decode cX9_mustNumber 22 = .ok (.getfield 57, 3) := by decide +kernel
theorem dX9_mustNumber_25 : decode cX9_mustNumber 25 = .ok (.aload_n 0, 1) := by decide +kernel
theorem dX9_mustNumber_26 : decode cX9_mustNumber 26 = .ok (.getfield 178, 3) := by decide +kernel
theorem dX9_mustNumber_29 : decode cX9_mustNumber 29 = .ok (.iaload, 1) := by decide +kernel
theorem dX9_mustNumber_30 : decode cX9_mustNumber 30 = .ok (.iload_n 1, 1) := by decide +kernel
theorem dX9_mustNumber_31 : decode cX9_mustNumber 31 = .ok (.iload_n 2, 1) := by decide +kernel
theorem dX9_mustNumber_32 : decode cX9_mustNumber 32 = .ok (.invokestatic 18, 3) := by decide +kernel
theorem dX9_mustNumber_35 : decode cX9_mustNumber 35 = .ok (.ifCond .ne 7, 3) := by decide +kernel
theorem dX9_mustNumber_38 : decode cX9_mustNumber 38 = .ok (.aload_n 0, 1) := by decide +kernel
theorem dX9_mustNumber_39 : decode cX9_mustNumber 39 = .ok (.invokevirtual 184, 3) := by decide +kernel
theorem dX9_mustNumber_42 : decode cX9_mustNumber 42 = .ok (.aload_n 0, 1) := by decide +kernel
theorem dX9_mustNumber_43 : decode cX9_mustNumber 43 = .ok (.invokevirtual 174, 3) := by decide +kernel
theorem dX9_mustNumber_46 : decode cX9_mustNumber 46 = .ok (.ifCond .eq 13, 3) := by decide +kernel
theorem dX9_mustNumber_49 : decode cX9_mustNumber 49 = .ok (.aload_n 0, 1) := by decide +kernel
theorem dX9_mustNumber_50 : decode cX9_mustNumber 50 = .ok (.dup, 1) := by decide +kernel
theorem dX9_mustNumber_51 : decode cX9_mustNumber 51 = .ok (.getfield 178, 3) := by decide +kernel
theorem dX9_mustNumber_54 : decode cX9_mustNumber 54 = .ok (.iconst 1, 1) := by decide +kernel
theorem dX9_mustNumber_55 : decode cX9_mustNumber 55 = .ok (.iadd, 1) := by decide +kernel
theorem dX9_mustNumber_56 : decode cX9_mustNumber 56 = .ok (.putfield 178, 3) := by decide +kernel
theorem dX9_mustNumber_59 : decode cX9_mustNumber 59 = .ok (.return_, 1) := by decide +kernel
theorem dX9_readClause_0 : decode cX9_readClause 0 = .ok (.aload_n 0, 1) := by decide +kernel
theorem dX9_readClause_1 : decode cX9_readClause 1 = .ok (.iconst 1, 1) := by decide +kernel
theorem dX9_readClause_2 : decode cX9_readClause 2 = .ok (.invokevirtual 181, 3) := by decide +kernel
theorem dX9_readClause_5 : decode cX9_readClause 5 = .ok (.ifCond .ne 11, 3) := by decide +kernel
theorem dX9_readClause_8 : decode cX9_readClause 8 = .ok (.aload_n 0, 1) := by decide +kernel
theorem dX9_readClause_9 : decode cX9_readClause 9 = .ok (.iconst 2, 1) := by decide +kernel
theorem dX9_readClause_10 : decode cX9_readClause 10 = .ok (.invokevirtual 181, 3) := by decide +kernel
theorem dX9_readClause_13 : decode cX9_readClause 13 = .ok (.ifCond .eq 11, 3) := by decide +kernel
theorem dX9_readClause_16 : decode cX9_readClause 16 = .ok (.aload_n 0, 1) := by decide +kernel
theorem dX9_readClause_17 : decode cX9_readClause 17 = .ok (.iconst 0, 1) := by decide +kernel
theorem dX9_readClause_18 : decode cX9_readClause 18 = .ok (.invokevirtual 190, 3) := by decide +kernel
theorem dX9_readClause_21 : decode cX9_readClause 21 = .ok (.goto 16, 3) := by decide +kernel
theorem dX9_readClause_24 : decode cX9_readClause 24 = .ok (.aload_n 0, 1) := by decide +kernel
theorem dX9_readClause_25 : decode cX9_readClause 25 = .ok (.iconst 3, 1) := by decide +kernel
theorem dX9_readClause_26 : decode cX9_readClause 26 = .ok (.invokevirtual 181, 3) := by decide +kernel
theorem dX9_readClause_29 : decode cX9_readClause 29 = .ok (.ifCond .ne 8, 3) := by decide +kernel
theorem dX9_readClause_32 : decode cX9_readClause 32 = .ok (.aload_n 0, 1) := by decide +kernel
theorem dX9_readClause_33 : decode cX9_readClause 33 = .ok (.iconst 4, 1) := by decide +kernel
theorem dX9_readClause_34 : decode cX9_readClause 34 = .ok (.invokevirtual 194, 3) := by decide +kernel
theorem dX9_readClause_37 : decode cX9_readClause 37 = .ok (.aload_n 0, 1) := by decide +kernel
theorem dX9_readClause_38 : decode cX9_readClause 38 = .ok (.iconst 5, 1) := by decide +kernel
theorem dX9_readClause_39 : decode cX9_readClause 39 = .ok (.invokevirtual 181, 3) := by decide +kernel
theorem dX9_readClause_42 : decode cX9_readClause 42 = .ok (.ifCond .eq 8, 3) := by decide +kernel
theorem dX9_readClause_45 : decode cX9_readClause 45 = .ok (.aload_n 0, 1) := by decide +kernel
theorem dX9_readClause_46 : decode cX9_readClause 46 = .ok (.iconst 0, 1) := by decide +kernel
theorem dX9_readClause_47 : decode cX9_readClause 47 = .ok (.invokevirtual 197, 3) := by decide +kernel
theorem dX9_readClause_50 : decode cX9_readClause 50 = .ok (.return_, 1) := by decide +kernel
theorem dX9_readOrder_0 : decode cX9_readOrder 0 = .ok (.aload_n 0, 1) := by decide +kernel
theorem dX9_readOrder_1 : decode cX9_readOrder 1 = .ok (.bipush 22, 2) := by decide +kernel
theorem dX9_readOrder_3 : decode cX9_readOrder 3 = .ok (.invokevirtual 181, 3) := by decide +kernel
theorem dX9_readOrder_6 : decode cX9_readOrder 6 = .ok (.ifCond .eq 22, 3) := by decide +kernel
theorem dX9_readOrder_9 : decode cX9_readOrder 9 = .ok (.aload_n 0, 1) := by decide +kernel
theorem dX9_readOrder_10 : decode cX9_readOrder 10 = .ok (.iconst 0, 1) := by decide +kernel
theorem dX9_readOrder_11 : decode cX9_readOrder 11 = .ok (.invokevirtual 190, 3) := by decide +kernel
theorem dX9_readOrder_14 : decode cX9_readOrder 14 = .ok (.aload_n 0, 1) := by decide +kernel
theorem dX9_readOrder_15 : decode cX9_readOrder 15 = .ok (.bipush 23, 2) := by decide +kernel
theorem dX9_readOrder_17 : decode cX9_readOrder 17 = .ok (.invokevirtual 194, 3) := by decide +kernel
theorem dX9_readOrder_20 : decode cX9_readOrder 20 = .ok (.aload_n 0, 1) := by decide +kernel
theorem dX9_readOrder_21 : decode cX9_readOrder 21 = .ok (.iconst 0, 1) := by decide +kernel
theorem dX9_readOrder_22 : decode cX9_readOrder 22 = .ok (.invokevirtual 190, 3) := by decide +kernel
theorem dX9_readOrder_25 : decode cX9_readOrder 25 = .ok (.goto 65, 3) := by decide +kernel
theorem dX9_readOrder_28 : decode cX9_readOrder 28 = .ok (.aload_n 0, 1) := by decide +kernel
theorem dX9_readOrder_29 : decode cX9_readOrder 29 = .ok (.bipush 24, 2) := by decide +kernel
theorem dX9_readOrder_31 : decode cX9_readOrder 31 = .ok (.invokevirtual 181, 3) := by decide +kernel
theorem dX9_readOrder_34 : decode cX9_readOrder 34 = .ok (.ifCond .eq 33, 3) := by decide +kernel
theorem dX9_readOrder_37 : decode cX9_readOrder 37 = .ok (.aload_n 0, 1) := by decide +kernel
theorem dX9_readOrder_38 : decode cX9_readOrder 38 = .ok (.iconst 0, 1) := by decide +kernel
theorem dX9_readOrder_39 : decode cX9_readOrder 39 = .ok (.invokevirtual 190, 3) := by decide +kernel
theorem dX9_readOrder_42 : decode cX9_readOrder 42 = .ok (.aload_n 0, 1) := by decide +kernel
theorem dX9_readOrder_43 : decode cX9_readOrder 43 = .ok (.bipush 25, 2) := by decide +kernel
theorem dX9_readOrder_45 : decode cX9_readOrder 45 = .ok (.invokevirtual 194, 3) := by decide +kernel
theorem dX9_readOrder_48 : decode cX9_readOrder 48 = .ok (.aload_n 0, 1) := by decide +kernel
theorem dX9_readOrder_49 : decode cX9_readOrder 49 = .ok (.iconst 0, 1) := by decide +kernel
theorem dX9_readOrder_50 : decode cX9_readOrder 50 = .ok (.invokevirtual 190, 3) := by decide +kernel
theorem dX9_readOrder_53 : decode cX9_readOrder 53 = .ok (.aload_n 0, 1) := by decide +kernel
theorem dX9_readOrder_54 : decode cX9_readOrder 54 = .ok (.bipush 26, 2) := by decide +kernel
theorem dX9_readOrder_56 : decode cX9_readOrder 56 = .ok (.invokevirtual 194, 3) := by decide +kernel
theorem dX9_readOrder_59 : decode cX9_readOrder 59 = .ok (.aload_n 0, 1) := by decide +kernel
theorem dX9_readOrder_60 : decode cX9_readOrder 60 = .ok (.iconst 0, 1) := by decide +kernel
theorem dX9_readOrder_61 : decode cX9_readOrder 61 = .ok (.invokevirtual 190, 3) := by decide +kernel
theorem dX9_readOrder_64 : decode cX9_readOrder 64 = .ok (.goto 26, 3) := by decide +kernel
theorem dX9_readOrder_67 : decode cX9_readOrder 67 = .ok (.aload_n 0, 1) := by decide +kernel
theorem dX9_readOrder_68 : decode cX9_readOrder 68 = .ok (.bipush 27, 2) := by decide +kernel
theorem dX9_readOrder_70 : decode cX9_readOrder 70 = .ok (.invokevirtual 181, 3) := by decide +kernel
theorem dX9_readOrder_73 : decode cX9_readOrder 73 = .ok (.ifCond .eq 11, 3) := by decide +kernel
theorem dX9_readOrder_76 : decode cX9_readOrder 76 = .ok (.aload_n 0, 1) := by decide +kernel
theorem dX9_readOrder_77 : decode cX9_readOrder 77 = .ok (.iconst 0, 1) := by decide +kernel
theorem dX9_readOrder_78 : decode cX9_readOrder 78 = .ok (.invokevirtual 190, 3) := by decide +kernel
theorem dX9_readOrder_81 : decode cX9_readOrder 81 = .ok (.goto 9, 3) := by decide +kernel
theorem dX9_readOrder_84 : decode cX9_readOrder 84 = .ok (.aload_n 0, 1) := by decide +kernel
theorem dX9_readOrder_85 : decode cX9_readOrder 85 = .ok (.bipush 28, 2) := by decide +kernel
theorem dX9_readOrder_87 : decode cX9_readOrder 87 = .ok (.invokevirtual 194, 3) := by decide +kernel
theorem dX9_readOrder_90 : decode cX9_readOrder 90 = .ok (.aload_n 0, 1) := by decide +kernel
theorem dX9_readOrder_91 : decode cX9_readOrder 91 = .ok (.bipush 29, 2) := by decide +kernel
theorem dX9_readOrder_93 : decode cX9_readOrder 93 = .ok (.invokevirtual 181, 3) := by decide +kernel
theorem dX9_readOrder_96 : decode cX9_readOrder 96 = .ok (.ifCond .eq 10, 3) := by decide +kernel
theorem dX9_readOrder_99 : decode cX9_readOrder 99 = .ok (.aload_n 0, 1) := by decide +kernel
theorem dX9_readOrder_100 : decode cX9_readOrder 100 = .ok (.iconst 1, 1) := by decide +kernel
theorem dX9_readOrder_101 : decode cX9_readOrder 101 = .ok (.bipush 20, 2) := by decide +kernel
theorem dX9_readOrder_103 : decode cX9_readOrder 103 = .ok (.invokevirtual 200, 3) := by decide +kernel
theorem dX9_readOrder_106 : decode cX9_readOrder 106 = .ok (.aload_n 0, 1) := by decide +kernel
theorem dX9_readOrder_107 : decode cX9_readOrder 107 = .ok (.iconst 5, 1) := by decide +kernel
theorem dX9_readOrder_108 : decode cX9_readOrder 108 = .ok (.invokevirtual 181, 3) := by decide +kernel
theorem dX9_readOrder_111 : decode cX9_readOrder 111 = .ok (.ifCond .eq 8, 3) := by decide +kernel
theorem dX9_readOrder_114 : decode cX9_readOrder 114 = .ok (.aload_n 0, 1) := by decide +kernel
theorem dX9_readOrder_115 : decode cX9_readOrder 115 = .ok (.iconst 0, 1) := by decide +kernel
theorem dX9_readOrder_116 : decode cX9_readOrder 116 = .ok (.invokevirtual 197, 3) := by decide +kernel
theorem dX9_readOrder_119 : decode cX9_readOrder 119 = .ok (.return_, 1) := by decide +kernel
theorem dX9_readOne_0 : decode cX9_readOne 0 = .ok (.aload_n 0, 1) := by decide +kernel
theorem dX9_readOne_1 : decode cX9_readOne 1 = .ok (.getfield 204, 3) := by decide +kernel
theorem dX9_readOne_4 : decode cX9_readOne 4 = .ok (.ifCond .eq 10, 3) := by decide +kernel
theorem dX9_readOne_7 : decode cX9_readOne 7 = .ok (.aload_n 0, 1) := by decide +kernel
theorem dX9_readOne_8 : decode cX9_readOne 8 = .ok (.invokevirtual 208, 3) := by decide +kernel
theorem dX9_readOne_11 : decode cX9_readOne 11 = .ok (.goto 7, 3) := by decide +kernel
theorem dX9_readOne_14 : decode cX9_readOne 14 = .ok (.aload_n 0, 1) := by decide +kernel
theorem dX9_readOne_15 : decode cX9_readOne 15 = .ok (.invokevirtual 211, 3) := by decide +kernel
theorem dX9_readOne_18 : decode cX9_readOne 18 = .ok (.return_, 1) := by decide +kernel
theorem dX9_readTest_0 : decode cX9_readTest 0 = .ok (.aload_n 0, 1) := by decide +kernel
theorem dX9_readTest_1 : decode cX9_readTest 1 = .ok (.iload_n 1, 1) := by decide +kernel
theorem dX9_readTest_2 : decode cX9_readTest 2 = .ok (.invokevirtual 214, 3) := by decide +kernel
theorem dX9_readTest_5 : decode cX9_readTest 5 = .ok (.aload_n 0, 1) := by decide +kernel
theorem dX9_readTest_6 : decode cX9_readTest 6 = .ok (.bipush 6, 2) := by decide +kernel
theorem dX9_readTest_8 : decode cX9_readTest 8 = .ok (.invokevirtual 181, 3) := by decide +kernel
theorem dX9_readTest_11 : decode cX9_readTest 11 = .ok (.ifCond .eq 11, 3) := by decide +kernel
theorem dX9_readTest_14 : decode cX9_readTest 14 = .ok (.aload_n 0, 1) := by decide +kernel
theorem dX9_readTest_15 : decode cX9_readTest 15 = .ok (.iload_n 1, 1) := by decide +kernel
theorem dX9_readTest_16 : decode cX9_readTest 16 = .ok (.invokevirtual 214, 3) := by decide +kernel
theorem dX9_readTest_19 : decode cX9_readTest 19 = .ok (.goto (-14), 3) := by decide +kernel
theorem dX9_readTest_22 : decode cX9_readTest 22 = .ok (.return_, 1) := by decide +kernel
theorem dX9_readBoth_0 : decode cX9_readBoth 0 = .ok (.aload_n 0, 1) := by decide +kernel
theorem dX9_readBoth_1 : decode cX9_readBoth 1 = .ok (.iload_n 1, 1) := by decide +kernel
theorem dX9_readBoth_2 : decode cX9_readBoth 2 = .ok (.invokevirtual 217, 3) := by decide +kernel
theorem dX9_readBoth_5 : decode cX9_readBoth 5 = .ok (.aload_n 0, 1) := by decide +kernel
theorem dX9_readBoth_6 : decode cX9_readBoth 6 = .ok (.bipush 7, 2) := by decide +kernel
theorem dX9_readBoth_8 : decode cX9_readBoth 8 = .ok (.invokevirtual 181, 3) := by decide +kernel
theorem dX9_readBoth_11 : decode cX9_readBoth 11 = .ok (.ifCond .eq 11, 3) := by decide +kernel
theorem dX9_readBoth_14 : decode cX9_readBoth 14 = .ok (.aload_n 0, 1) := by decide +kernel
theorem dX9_readBoth_15 : decode cX9_readBoth 15 = .ok (.iload_n 1, 1) := by decide +kernel
theorem dX9_readBoth_16 : decode cX9_readBoth 16 = .ok (.invokevirtual 217, 3) := by decide +kernel
theorem dX9_readBoth_19 : decode cX9_readBoth 19 = .ok (.goto (-14), 3) := by decide +kernel
theorem dX9_readBoth_22 : decode cX9_readBoth 22 = .ok (.return_, 1) := by decide +kernel
theorem dX9_readPlain_0 : decode cX9_readPlain 0 = .ok (.iconst 1, 1) := by decide +kernel
theorem dX9_readPlain_1 : decode cX9_readPlain 1 = .ok (.istore_n 2, 1) := by decide +kernel
theorem dX9_readPlain_2 : decode cX9_readPlain 2 = .ok (.iload_n 2, 1) := by decide +kernel
theorem dX9_readPlain_3 : decode cX9_readPlain 3 = .ok (.ifCond .eq 13, 3) := by decide +kernel
theorem dX9_readPlain_6 : decode cX9_readPlain 6 = .ok (.aload_n 0, 1) := by decide +kernel
theorem dX9_readPlain_7 : decode cX9_readPlain 7 = .ok (.bipush 8, 2) := by decide +kernel
theorem dX9_readPlain_9 : decode cX9_readPlain 9 = .ok (.invokevirtual 181, 3) := by decide +kernel
theorem dX9_readPlain_12 : decode cX9_readPlain 12 = .ok (.istore_n 2, 1) := by decide +kernel
theorem dX9_readPlain_13 : decode cX9_readPlain 13 = .ok (.goto (-11), 3) := by decide +kernel
theorem dX9_readPlain_16 : decode cX9_readPlain 16 = .ok (.aload_n 0, 1) := by decide +kernel
theorem dX9_readPlain_17 : decode cX9_readPlain 17 = .ok (.invokevirtual 174, 3) := by decide +kernel
theorem dX9_readPlain_20 : decode cX9_readPlain 20 = .ok (.ifCond .ne 4, 3) := by decide +kernel
theorem dX9_readPlain_23 : decode cX9_readPlain 23 = .ok (.return_, 1) := by decide +kernel
theorem dX9_readPlain_24 : decode cX9_readPlain 24 = .ok (.aload_n 0, 1) := by decide +kernel
theorem dX9_readPlain_25 : decode cX9_readPlain 25 = .ok (.getfield 54, 3) := by decide +kernel
theorem dX9_readPlain_28 : decode cX9_readPlain 28 = .ok (.aload_n 0, 1) := by decide +kernel
theorem dX9_readPlain_29 : decode cX9_readPlain 29 = .ok (.getfield 178, 3) := by decide +kernel
theorem dX9_readPlain_32 : decode cX9_readPlain 32 = .ok (.iaload, 1) := by decide +kernel
theorem dX9_readPlain_33 : decode cX9_readPlain 33 = .ok (.istore_n 3, 1) := by decide +kernel
theorem dX9_readPlain_34 : decode cX9_readPlain 34 = .ok (.iload_n 3, 1) := by decide +kernel
theorem dX9_readPlain_35 : decode cX9_readPlain 35 = .ok (.bipush 40, 2) := by decide +kernel
theorem dX9_readPlain_37 : decode cX9_readPlain 37 = .ok (.invokestatic 220, 3) := by decide +kernel
theorem dX9_readPlain_40 : decode cX9_readPlain 40 = .ok (.if_icmp .ne 50, 3) := by decide +kernel
theorem dX9_readPlain_43 : decode cX9_readPlain 43 = .ok (.iload_n 1, 1) := by decide +kernel
theorem dX9_readPlain_44 : decode cX9_readPlain 44 = .ok (.bipush 8, 2) := by decide +kernel
theorem dX9_readPlain_46 : decode cX9_readPlain 46 = .ok (.if_icmp .ne 7, 3) := by decide +kernel
theorem dX9_readPlain_49 : decode cX9_readPlain 49 = .ok (.aload_n 0, 1) := by decide +kernel
theorem dX9_readPlain_50 : decode cX9_readPlain 50 = .ok (.invokevirtual 184, 3) := by decide +kernel
theorem dX9_readPlain_53 : decode cX9_readPlain 53 = .ok (.aload_n 0, 1) := by decide +kernel
theorem dX9_readPlain_54 : decode cX9_readPlain 54 = .ok (.invokevirtual 174, 3) := by decide +kernel
theorem dX9_readPlain_57 : decode cX9_readPlain 57 = .ok (.ifCond .ne 4, 3) := by decide +kernel
theorem dX9_readPlain_60 : decode cX9_readPlain 60 = .ok (.return_, 1) := by decide +kernel
theorem dX9_readPlain_61 : decode cX9_readPlain 61 = .ok (.aload_n 0, 1) := by decide +kernel
theorem dX9_readPlain_62 : decode cX9_readPlain 62 = .ok (.dup, 1) := by decide +kernel
theorem dX9_readPlain_63 : decode cX9_readPlain 63 = .ok (.getfield 178, 3) := by decide +kernel
theorem dX9_readPlain_66 : decode cX9_readPlain 66 = .ok (.iconst 1, 1) := by decide +kernel
theorem dX9_readPlain_67 : decode cX9_readPlain 67 = .ok (.iadd, 1) := by decide +kernel
theorem dX9_readPlain_68 : decode cX9_readPlain 68 = .ok (.putfield 178, 3) := by decide +kernel
theorem dX9_readPlain_71 : decode cX9_readPlain 71 = .ok (.aload_n 0, 1) := by decide +kernel
theorem dX9_readPlain_72 : decode cX9_readPlain 72 = .ok (.iload_n 1, 1) := by decide +kernel
theorem dX9_readPlain_73 : decode cX9_readPlain 73 = .ok (.iconst 1, 1) := by decide +kernel
theorem dX9_readPlain_74 : decode cX9_readPlain 74 = .ok (.iadd, 1) := by decide +kernel
theorem dX9_readPlain_75 : decode cX9_readPlain 75 = .ok (.invokevirtual 197, 3) := by decide +kernel
theorem dX9_readPlain_78 : decode cX9_readPlain 78 = .ok (.aload_n 0, 1) := by decide +kernel
theorem dX9_readPlain_79 : decode cX9_readPlain 79 = .ok (.bipush 41, 2) := by decide +kernel
theorem dX9_readPlain_81 : decode cX9_readPlain 81 = .ok (.invokestatic 220, 3) := by decide +kernel
theorem dX9_readPlain_84 : decode cX9_readPlain 84 = .ok (.invokevirtual 194, 3) := by decide +kernel
theorem dX9_readPlain_87 : decode cX9_readPlain 87 = .ok (.goto 46, 3) := by decide +kernel
theorem dX9_readPlain_90 : decode cX9_readPlain 90 = .ok (.aload_n 0, 1) := by decide +kernel
theorem dX9_readPlain_91 : decode cX9_readPlain 91 = .ok (.iload_n 1, 1) := by decide +kernel
theorem dX9_readPlain_92 : decode cX9_readPlain 92 = .ok (.invokevirtual 190, 3) := by decide +kernel
theorem dX9_readPlain_95 : decode cX9_readPlain 95 = .ok (.aload_n 0, 1) := by decide +kernel
theorem dX9_readPlain_96 : decode cX9_readPlain 96 = .ok (.bipush 60, 2) := by decide +kernel
theorem dX9_readPlain_98 : decode cX9_readPlain 98 = .ok (.invokestatic 220, 3) := by decide +kernel
theorem dX9_readPlain_101 : decode cX9_readPlain 101 = .ok (.invokevirtual 181, 3) := by decide +kernel
theorem dX9_readPlain_104 : decode cX9_readPlain 104 = .ok (.ifCond .ne 24, 3) := by decide +kernel
theorem dX9_readPlain_107 : decode cX9_readPlain 107 = .ok (.aload_n 0, 1) := by decide +kernel
theorem dX9_readPlain_108 : decode cX9_readPlain 108 = .ok (.bipush 62, 2) := by decide +kernel
theorem dX9_readPlain_110 : decode cX9_readPlain 110 = .ok (.invokestatic 220, 3) := by decide +kernel
theorem dX9_readPlain_113 : decode cX9_readPlain 113 = .ok (.invokevirtual 181, 3) := by decide +kernel
theorem dX9_readPlain_116 : decode cX9_readPlain 116 = .ok (.ifCond .ne 12, 3) := by decide +kernel
theorem dX9_readPlain_119 : decode cX9_readPlain 119 = .ok (.aload_n 0, 1) := by decide +kernel
theorem dX9_readPlain_120 : decode cX9_readPlain 120 = .ok (.bipush 61, 2) := by decide +kernel
theorem dX9_readPlain_122 : decode cX9_readPlain 122 = .ok (.invokestatic 220, 3) := by decide +kernel
theorem dX9_readPlain_125 : decode cX9_readPlain 125 = .ok (.invokevirtual 194, 3) := by decide +kernel
theorem dX9_readPlain_128 : decode cX9_readPlain 128 = .ok (.aload_n 0, 1) := by decide +kernel
theorem dX9_readPlain_129 : decode cX9_readPlain 129 = .ok (.iload_n 1, 1) := by decide +kernel
theorem dX9_readPlain_130 : decode cX9_readPlain 130 = .ok (.invokevirtual 190, 3) := by decide +kernel
theorem dX9_readPlain_133 : decode cX9_readPlain 133 = .ok (.return_, 1) := by decide +kernel
theorem dX9_readSum_0 : decode cX9_readSum 0 = .ok (.aload_n 0, 1) := by decide +kernel
theorem dX9_readSum_1 : decode cX9_readSum 1 = .ok (.iload_n 1, 1) := by decide +kernel
theorem dX9_readSum_2 : decode cX9_readSum 2 = .ok (.invokevirtual 224, 3) := by decide +kernel
theorem dX9_readSum_5 : decode cX9_readSum 5 = .ok (.aload_n 0, 1) := by decide +kernel
theorem dX9_readSum_6 : decode cX9_readSum 6 = .ok (.bipush 43, 2) := by decide +kernel
theorem dX9_readSum_8 : decode cX9_readSum 8 = .ok (.invokestatic 220, 3) := by decide +kernel
theorem dX9_readSum_11 : decode cX9_readSum 11 = .ok (.invokevirtual 181, 3) := by decide +kernel
theorem dX9_readSum_14 : decode cX9_readSum 14 = .ok (.ifCond .ne 15, 3) := by decide +kernel
theorem dX9_readSum_17 : decode cX9_readSum 17 = .ok (.aload_n 0, 1) := by decide +kernel
theorem dX9_readSum_18 : decode cX9_readSum 18 = .ok (.bipush 45, 2) := by decide +kernel
theorem dX9_readSum_20 : decode cX9_readSum 20 = .ok (.invokestatic 220, 3) := by decide +kernel
theorem dX9_readSum_23 : decode cX9_readSum 23 = .ok (.invokevirtual 181, 3) := by decide +kernel
theorem dX9_readSum_26 : decode cX9_readSum 26 = .ok (.ifCond .eq 11, 3) := by decide +kernel
theorem dX9_readSum_29 : decode cX9_readSum 29 = .ok (.aload_n 0, 1) := by decide +kernel
theorem dX9_readSum_30 : decode cX9_readSum 30 = .ok (.iload_n 1, 1) := by decide +kernel
theorem dX9_readSum_31 : decode cX9_readSum 31 = .ok (.invokevirtual 224, 3) := by decide +kernel
theorem dX9_readSum_34 : decode cX9_readSum 34 = .ok (.goto (-29), 3) := by decide +kernel
theorem dX9_readSum_37 : decode cX9_readSum 37 = .ok (.return_, 1) := by decide +kernel
theorem dX9_readTerm_0 : decode cX9_readTerm 0 = .ok (.aload_n 0, 1) := by decide +kernel
theorem dX9_readTerm_1 : decode cX9_readTerm 1 = .ok (.iload_n 1, 1) := by decide +kernel
theorem dX9_readTerm_2 : decode cX9_readTerm 2 = .ok (.invokevirtual 227, 3) := by decide +kernel
theorem dX9_readTerm_5 : decode cX9_readTerm 5 = .ok (.aload_n 0, 1) := by decide +kernel
theorem dX9_readTerm_6 : decode cX9_readTerm 6 = .ok (.bipush 42, 2) := by decide +kernel
theorem dX9_readTerm_8 : decode cX9_readTerm 8 = .ok (.invokestatic 220, 3) := by decide +kernel
theorem dX9_readTerm_11 : decode cX9_readTerm 11 = .ok (.invokevirtual 181, 3) := by decide +kernel
theorem dX9_readTerm_14 : decode cX9_readTerm 14 = .ok (.ifCond .ne 27, 3) := by decide +kernel
theorem dX9_readTerm_17 : decode cX9_readTerm 17 = .ok (.aload_n 0, 1) := by decide +kernel
theorem dX9_readTerm_18 : decode cX9_readTerm 18 = .ok (.bipush 47, 2) := by decide +kernel
theorem dX9_readTerm_20 : decode cX9_readTerm 20 = .ok (.invokestatic 220, 3) := by decide +kernel
theorem dX9_readTerm_23 : decode cX9_readTerm 23 = .ok (.invokevirtual 181, 3) := by decide +kernel
theorem dX9_readTerm_26 : decode cX9_readTerm 26 = .ok (.ifCond .ne 15, 3) := by decide +kernel
theorem dX9_readTerm_29 : decode cX9_readTerm 29 = .ok (.aload_n 0, 1) := by decide +kernel
theorem dX9_readTerm_30 : decode cX9_readTerm 30 = .ok (.bipush 37, 2) := by decide +kernel
theorem dX9_readTerm_32 : decode cX9_readTerm 32 = .ok (.invokestatic 220, 3) := by decide +kernel
theorem dX9_readTerm_35 : decode cX9_readTerm 35 = .ok (.invokevirtual 181, 3) := by decide +kernel
theorem dX9_readTerm_38 : decode cX9_readTerm 38 = .ok (.ifCond .eq 11, 3) := by decide +kernel
theorem dX9_readTerm_41 : decode cX9_readTerm 41 = .ok (.aload_n 0, 1) := by decide +kernel
theorem dX9_readTerm_42 : decode cX9_readTerm 42 = .ok (.iload_n 1, 1) := by decide +kernel
theorem dX9_readTerm_43 : decode cX9_readTerm 43 = .ok (.invokevirtual 227, 3) := by decide +kernel
theorem dX9_readTerm_46 : decode cX9_readTerm 46 = .ok (.goto (-41), 3) := by decide +kernel
theorem dX9_readTerm_49 : decode cX9_readTerm 49 = .ok (.return_, 1) := by decide +kernel
theorem dX9_readPart_0 : decode cX9_readPart 0 = .ok (.aload_n 0, 1) := by decide +kernel
theorem dX9_readPart_1 : decode cX9_readPart 1 = .ok (.invokevirtual 174, 3) := by decide +kernel
theorem dX9_readPart_4 : decode cX9_readPart 4 = .ok (.ifCond .ne 4, 3) := by decide +kernel
theorem dX9_readPart_7 : decode cX9_readPart 7 = .ok (.return_, 1) := by decide +kernel
theorem dX9_readPart_8 : decode cX9_readPart 8 = .ok (.aload_n 0, 1) := by decide +kernel
theorem dX9_readPart_9 : decode cX9_readPart 9 = .ok (.getfield 54, 3) := by decide +kernel
theorem dX9_readPart_12 : decode cX9_readPart 12 = .ok (.aload_n 0, 1) := by decide +kernel
theorem dX9_readPart_13 : decode cX9_readPart 13 = .ok (.getfield 178, 3) := by decide +kernel
theorem dX9_readPart_16 : decode cX9_readPart 16 = .ok (.iaload, 1) := by decide +kernel
theorem dX9_readPart_17 : decode cX9_readPart 17 = .ok (.istore_n 2, 1) := by decide +kernel
theorem dX9_readPart_18 : decode cX9_readPart 18 = .ok (.iload_n 2, 1) := by decide +kernel
theorem dX9_readPart_19 : decode cX9_readPart 19 = .ok (.bipush 91, 2) := by decide +kernel
theorem dX9_readPart_21 : decode cX9_readPart 21 = .ok (.invokestatic 220, 3) := by decide +kernel
theorem dX9_readPart_24 : decode cX9_readPart 24 = .ok (.if_icmp .ne 50, 3) := by decide +kernel
theorem dX9_readPart_27 : decode cX9_readPart 27 = .ok (.iload_n 1, 1) := by decide +kernel
theorem dX9_readPart_28 : decode cX9_readPart 28 = .ok (.bipush 8, 2) := by decide +kernel
theorem dX9_readPart_30 : decode cX9_readPart 30 = .ok (.if_icmp .ne 7, 3) := by decide +kernel
theorem dX9_readPart_33 : decode cX9_readPart 33 = .ok (.aload_n 0, 1) := by decide +kernel
theorem dX9_readPart_34 : decode cX9_readPart 34 = .ok (.invokevirtual 184, 3) := by decide +kernel
theorem dX9_readPart_37 : decode cX9_readPart 37 = .ok (.aload_n 0, 1) := by decide +kernel
theorem dX9_readPart_38 : decode cX9_readPart 38 = .ok (.invokevirtual 174, 3) := by decide +kernel
theorem dX9_readPart_41 : decode cX9_readPart 41 = .ok (.ifCond .ne 4, 3) := by decide +kernel
theorem dX9_readPart_44 : decode cX9_readPart 44 = .ok (.return_, 1) := by decide +kernel
theorem dX9_readPart_45 : decode cX9_readPart 45 = .ok (.aload_n 0, 1) := by decide +kernel
theorem dX9_readPart_46 : decode cX9_readPart 46 = .ok (.dup, 1) := by decide +kernel
theorem dX9_readPart_47 : decode cX9_readPart 47 = .ok (.getfield 178, 3) := by decide +kernel
theorem dX9_readPart_50 : decode cX9_readPart 50 = .ok (.iconst 1, 1) := by decide +kernel
theorem dX9_readPart_51 : decode cX9_readPart 51 = .ok (.iadd, 1) := by decide +kernel
theorem dX9_readPart_52 : decode cX9_readPart 52 = .ok (.putfield 178, 3) := by decide +kernel
theorem dX9_readPart_55 : decode cX9_readPart 55 = .ok (.aload_n 0, 1) := by decide +kernel
theorem dX9_readPart_56 : decode cX9_readPart 56 = .ok (.iload_n 1, 1) := by decide +kernel
theorem dX9_readPart_57 : decode cX9_readPart 57 = .ok (.iconst 1, 1) := by decide +kernel
theorem dX9_readPart_58 : decode cX9_readPart 58 = .ok (.iadd, 1) := by decide +kernel
theorem dX9_readPart_59 : decode cX9_readPart 59 = .ok (.invokevirtual 190, 3) := by decide +kernel
theorem dX9_readPart_62 : decode cX9_readPart 62 = .ok (.aload_n 0, 1) := by decide +kernel
theorem dX9_readPart_63 : decode cX9_readPart 63 = .ok (.bipush 93, 2) := by decide +kernel
theorem dX9_readPart_65 : decode cX9_readPart 65 = .ok (.invokestatic 220, 3) := by decide +kernel
theorem dX9_readPart_68 : decode cX9_readPart 68 = .ok (.invokevirtual 194, 3) := by decide +kernel
theorem dX9_readPart_71 : decode cX9_readPart 71 = .ok (.goto 102, 3) := by decide +kernel
theorem dX9_readPart_74 : decode cX9_readPart 74 = .ok (.iload_n 2, 1) := by decide +kernel
theorem dX9_readPart_75 : decode cX9_readPart 75 = .ok (.bipush 50, 2) := by decide +kernel
theorem dX9_readPart_77 : decode cX9_readPart 77 = .ok (.if_icmp .ne 18, 3) := by decide +kernel
theorem dX9_readPart_80 : decode cX9_readPart 80 = .ok (.aload_n 0, 1) := by decide +kernel
theorem dX9_readPart_81 : decode cX9_readPart 81 = .ok (.getfield 57, 3) := by decide +kernel
theorem dX9_readPart_84 : decode cX9_readPart 84 = .ok (.aload_n 0, 1) := by decide +kernel
theorem dX9_readPart_85 : decode cX9_readPart 85 = .ok (.getfield 178, 3) := by decide +kernel
theorem dX9_readPart_88 : decode cX9_readPart 88 = .ok (.iaload, 1) := by decide +kernel
theorem dX9_readPart_89 : decode cX9_readPart 89 = .ok (.sipush 1000, 3) := by decide +kernel
theorem dX9_readPart_92 : decode cX9_readPart 92 = .ok (.if_icmp .le 19, 3) := by decide +kernel
theorem dX9_readPart_95 : decode cX9_readPart 95 = .ok (.iload_n 2, 1) := by decide +kernel
theorem dX9_readPart_96 : decode cX9_readPart 96 = .ok (.aload_n 0, 1) := by decide +kernel
theorem dX9_readPart_97 : decode cX9_readPart 97 = .ok (.getfield 230, 3) := by decide +kernel
theorem dX9_readPart_100 : decode cX9_readPart 100 = .ok (.if_icmp .lt 69, 3) := by decide +kernel
theorem dX9_readPart_103 : decode cX9_readPart 103 = .ok (.iload_n 2, 1) := by decide +kernel
theorem dX9_readPart_104 : decode cX9_readPart 104 = .ok (.aload_n 0, 1) := by decide +kernel
theorem dX9_readPart_105 : decode cX9_readPart 105 = .ok (.getfield 233, 3) := by decide +kernel
theorem dX9_readPart_108 : decode cX9_readPart 108 = .ok (.if_icmp .gt 61, 3) := by decide +kernel
theorem dX9_readPart_111 : decode cX9_readPart 111 = .ok (.aload_n 0, 1) := by decide +kernel
theorem dX9_readPart_112 : decode cX9_readPart 112 = .ok (.invokevirtual 236, 3) := by decide +kernel
theorem dX9_readPart_115 : decode cX9_readPart 115 = .ok (.aload_n 0, 1) := by decide +kernel
theorem dX9_readPart_116 : decode cX9_readPart 116 = .ok (.getfield 204, 3) := by decide +kernel
theorem dX9_readPart_119 : decode cX9_readPart 119 = .ok (.ifCond .eq 16, 3) := by decide +kernel
theorem dX9_readPart_122 : decode cX9_readPart 122 = .ok (.iload_n 2, 1) := by decide +kernel
theorem dX9_readPart_123 : decode cX9_readPart 123 = .ok (.bipush 15, 2) := by decide +kernel
theorem dX9_readPart_125 : decode cX9_readPart 125 = .ok (.if_icmp .ne 10, 3) := by decide +kernel
theorem dX9_readPart_128 : decode cX9_readPart 128 = .ok (.aload_n 0, 1) := by decide +kernel
theorem dX9_readPart_129 : decode cX9_readPart 129 = .ok (.iconst 0, 1) := by decide +kernel
theorem dX9_readPart_130 : decode cX9_readPart 130 = .ok (.bipush 24, 2) := by decide +kernel
theorem dX9_readPart_132 : decode cX9_readPart 132 = .ok (.invokevirtual 200, 3) := by decide +kernel
theorem dX9_readPart_135 : decode cX9_readPart 135 = .ok (.aload_n 0, 1) := by decide +kernel
theorem dX9_readPart_136 : decode cX9_readPart 136 = .ok (.getfield 204, 3) := by decide +kernel
theorem dX9_readPart_139 : decode cX9_readPart 139 = .ok (.ifCond .eq 34, 3) := by decide +kernel
theorem dX9_readPart_142 : decode cX9_readPart 142 = .ok (.iload_n 2, 1) := by decide +kernel
theorem dX9_readPart_143 : decode cX9_readPart 143 = .ok (.bipush 16, 2) := by decide +kernel
theorem dX9_readPart_145 : decode cX9_readPart 145 = .ok (.if_icmp .eq 15, 3) := by decide +kernel
theorem dX9_readPart_148 : decode cX9_readPart 148 = .ok (.iload_n 2, 1) := by decide +kernel
theorem dX9_readPart_149 : decode cX9_readPart 149 = .ok (.bipush 17, 2) := by decide +kernel
theorem dX9_readPart_151 : decode cX9_readPart 151 = .ok (.if_icmp .eq 9, 3) := by decide +kernel
theorem dX9_readPart_154 : decode cX9_readPart 154 = .ok (.iload_n 2, 1) := by decide +kernel
theorem dX9_readPart_155 : decode cX9_readPart 155 = .ok (.bipush 21, 2) := by decide +kernel
theorem dX9_readPart_157 : decode cX9_readPart 157 = .ok (.if_icmp .ne 16, 3) := by decide +kernel
theorem dX9_readPart_160 : decode cX9_readPart 160 = .ok (.aload_n 0, 1) := by decide +kernel
theorem dX9_readPart_161 : decode cX9_readPart 161 = .ok (.iconst 0, 1) := by decide +kernel
theorem dX9_readPart_162 : decode cX9_readPart 162 = .ok (.iconst 4, 1) := by decide +kernel
theorem dX9_readPart_163 : decode cX9_readPart 163 = .ok (.invokevirtual 200, 3) := by decide +kernel
theorem dX9_readPart_166 : decode cX9_readPart 166 = .ok (.goto 7, 3) := by decide +kernel
theorem dX9_readPart_169 : decode cX9_readPart 169 = .ok (.aload_n 0, 1) := by decide +kernel
theorem dX9_readPart_170 : decode cX9_readPart 170 = .ok (.invokevirtual 184, 3) := by decide +kernel
theorem dX9_readPart_173 : decode cX9_readPart 173 = .ok (.return_, 1) := by decide +kernel
theorem dX9_reads_0 : decode cX9_reads 0 = .ok (.aload_n 0, 1) := by decide +kernel
theorem dX9_reads_1 : decode cX9_reads 1 = .ok (.aload_n 0, 1) := by decide +kernel
theorem dX9_reads_2 : decode cX9_reads 2 = .ok (.getfield 152, 3) := by decide +kernel
theorem dX9_reads_5 : decode cX9_reads 5 = .ok (.invokevirtual 239, 3) := by decide +kernel
theorem dX9_reads_8 : decode cX9_reads 8 = .ok (.aload_n 0, 1) := by decide +kernel
theorem dX9_reads_9 : decode cX9_reads 9 = .ok (.iconst 0, 1) := by decide +kernel
theorem dX9_reads_10 : decode cX9_reads 10 = .ok (.putfield 152, 3) := by decide +kernel
theorem dX9_reads_13 : decode cX9_reads 13 = .ok (.aload_n 0, 1) := by decide +kernel
theorem dX9_reads_14 : decode cX9_reads 14 = .ok (.iconst 0, 1) := by decide +kernel
theorem dX9_reads_15 : decode cX9_reads 15 = .ok (.putfield 178, 3) := by decide +kernel
theorem dX9_reads_18 : decode cX9_reads 18 = .ok (.aload_n 0, 1) := by decide +kernel
theorem dX9_reads_19 : decode cX9_reads 19 = .ok (.iconst 0, 1) := by decide +kernel
theorem dX9_reads_20 : decode cX9_reads 20 = .ok (.putfield 187, 3) := by decide +kernel
theorem dX9_reads_23 : decode cX9_reads 23 = .ok (.aload_n 0, 1) := by decide +kernel
theorem dX9_reads_24 : decode cX9_reads 24 = .ok (.iconst (-1), 1) := by decide +kernel
theorem dX9_reads_25 : decode cX9_reads 25 = .ok (.putfield 171, 3) := by decide +kernel
theorem dX9_reads_28 : decode cX9_reads 28 = .ok (.aload_n 0, 1) := by decide +kernel
theorem dX9_reads_29 : decode cX9_reads 29 = .ok (.invokevirtual 242, 3) := by decide +kernel
theorem dX9_reads_32 : decode cX9_reads 32 = .ok (.iconst 1, 1) := by decide +kernel
theorem dX9_reads_33 : decode cX9_reads 33 = .ok (.istore_n 1, 1) := by decide +kernel
theorem dX9_reads_34 : decode cX9_reads 34 = .ok (.aload_n 0, 1) := by decide +kernel
theorem dX9_reads_35 : decode cX9_reads 35 = .ok (.bipush 59, 2) := by decide +kernel
theorem dX9_reads_37 : decode cX9_reads 37 = .ok (.invokestatic 220, 3) := by decide +kernel
theorem dX9_reads_40 : decode cX9_reads 40 = .ok (.invokevirtual 181, 3) := by decide +kernel
theorem dX9_reads_43 : decode cX9_reads 43 = .ok (.ifCond .eq 30, 3) := by decide +kernel
theorem dX9_reads_46 : decode cX9_reads 46 = .ok (.iload_n 1, 1) := by decide +kernel
theorem dX9_reads_47 : decode cX9_reads 47 = .ok (.bipush 12, 2) := by decide +kernel
theorem dX9_reads_49 : decode cX9_reads 49 = .ok (.if_icmp .ne 7, 3) := by decide +kernel
theorem dX9_reads_52 : decode cX9_reads 52 = .ok (.aload_n 0, 1) := by decide +kernel
theorem dX9_reads_53 : decode cX9_reads 53 = .ok (.invokevirtual 184, 3) := by decide +kernel
theorem dX9_reads_56 : decode cX9_reads 56 = .ok (.aload_n 0, 1) := by decide +kernel
theorem dX9_reads_57 : decode cX9_reads 57 = .ok (.invokevirtual 174, 3) := by decide +kernel
theorem dX9_reads_60 : decode cX9_reads 60 = .ok (.ifCond .eq 7, 3) := by decide +kernel
theorem dX9_reads_63 : decode cX9_reads 63 = .ok (.aload_n 0, 1) := by decide +kernel
theorem dX9_reads_64 : decode cX9_reads 64 = .ok (.invokevirtual 242, 3) := by decide +kernel
theorem dX9_reads_67 : decode cX9_reads 67 = .ok (.iinc 1 1, 3) := by decide +kernel
theorem dX9_reads_70 : decode cX9_reads 70 = .ok (.goto (-36), 3) := by decide +kernel
theorem dX9_reads_73 : decode cX9_reads 73 = .ok (.aload_n 0, 1) := by decide +kernel
theorem dX9_reads_74 : decode cX9_reads 74 = .ok (.invokevirtual 174, 3) := by decide +kernel
theorem dX9_reads_77 : decode cX9_reads 77 = .ok (.ifCond .eq 18, 3) := by decide +kernel
theorem dX9_reads_80 : decode cX9_reads 80 = .ok (.aload_n 0, 1) := by decide +kernel
theorem dX9_reads_81 : decode cX9_reads 81 = .ok (.getfield 178, 3) := by decide +kernel
theorem dX9_reads_84 : decode cX9_reads 84 = .ok (.aload_n 0, 1) := by decide +kernel
theorem dX9_reads_85 : decode cX9_reads 85 = .ok (.getfield 158, 3) := by decide +kernel
theorem dX9_reads_88 : decode cX9_reads 88 = .ok (.if_icmp .ge 7, 3) := by decide +kernel
theorem dX9_reads_91 : decode cX9_reads 91 = .ok (.aload_n 0, 1) := by decide +kernel
theorem dX9_reads_92 : decode cX9_reads 92 = .ok (.invokevirtual 184, 3) := by decide +kernel
theorem dX9_reads_95 : decode cX9_reads 95 = .ok (.aload_n 0, 1) := by decide +kernel
theorem dX9_reads_96 : decode cX9_reads 96 = .ok (.aload_n 0, 1) := by decide +kernel
theorem dX9_reads_97 : decode cX9_reads 97 = .ok (.getfield 171, 3) := by decide +kernel
theorem dX9_reads_100 : decode cX9_reads 100 = .ok (.putfield 51, 3) := by decide +kernel
theorem dX9_reads_103 : decode cX9_reads 103 = .ok (.aload_n 0, 1) := by decide +kernel
theorem dX9_reads_104 : decode cX9_reads 104 = .ok (.invokevirtual 174, 3) := by decide +kernel
theorem dX9_reads_107 : decode cX9_reads 107 = .ok (.ireturn, 1) := by decide +kernel
theorem dX9_readsAs_0 : decode cX9_readsAs 0 = .ok (.aload_n 0, 1) := by decide +kernel
theorem dX9_readsAs_1 : decode cX9_readsAs 1 = .ok (.iload_n 1, 1) := by decide +kernel
theorem dX9_readsAs_2 : decode cX9_readsAs 2 = .ok (.putfield 204, 3) := by decide +kernel
theorem dX9_readsAs_5 : decode cX9_readsAs 5 = .ok (.aload_n 0, 1) := by decide +kernel
theorem dX9_readsAs_6 : decode cX9_readsAs 6 = .ok (.iload_n 1, 1) := by decide +kernel
theorem dX9_readsAs_7 : decode cX9_readsAs 7 = .ok (.ifCond .eq 8, 3) := by decide +kernel
theorem dX9_readsAs_10 : decode cX9_readsAs 10 = .ok (.bipush 15, 2) := by decide +kernel
theorem dX9_readsAs_12 : decode cX9_readsAs 12 = .ok (.goto 5, 3) := by decide +kernel
theorem dX9_readsAs_15 : decode cX9_readsAs 15 = .ok (.bipush 9, 2) := by decide +kernel
theorem dX9_readsAs_17 : decode cX9_readsAs 17 = .ok (.putfield 230, 3) := by decide +kernel
theorem dX9_readsAs_20 : decode cX9_readsAs 20 = .ok (.aload_n 0, 1) := by decide +kernel
theorem dX9_readsAs_21 : decode cX9_readsAs 21 = .ok (.iload_n 1, 1) := by decide +kernel
theorem dX9_readsAs_22 : decode cX9_readsAs 22 = .ok (.ifCond .eq 8, 3) := by decide +kernel
theorem dX9_readsAs_25 : decode cX9_readsAs 25 = .ok (.bipush 21, 2) := by decide +kernel
theorem dX9_readsAs_27 : decode cX9_readsAs 27 = .ok (.goto 5, 3) := by decide +kernel
theorem dX9_readsAs_30 : decode cX9_readsAs 30 = .ok (.bipush 18, 2) := by decide +kernel
theorem dX9_readsAs_32 : decode cX9_readsAs 32 = .ok (.putfield 233, 3) := by decide +kernel
theorem dX9_readsAs_35 : decode cX9_readsAs 35 = .ok (.aload_n 0, 1) := by decide +kernel
theorem dX9_readsAs_36 : decode cX9_readsAs 36 = .ok (.invokevirtual 245, 3) := by decide +kernel
theorem dX9_readsAs_39 : decode cX9_readsAs 39 = .ok (.ireturn, 1) := by decide +kernel
theorem dX9_lays_0 : decode cX9_lays 0 = .ok (.aload_n 0, 1) := by decide +kernel
theorem dX9_lays_1 : decode cX9_lays 1 = .ok (.getfield 28, 3) := by decide +kernel
theorem dX9_lays_4 : decode cX9_lays 4 = .ok (.bipush 108, 2) := by decide +kernel
theorem dX9_lays_6 : decode cX9_lays 6 = .ok (.iload_n 1, 1) := by decide +kernel
theorem dX9_lays_7 : decode cX9_lays 7 = .ok (.iadd, 1) := by decide +kernel
theorem dX9_lays_8 : decode cX9_lays 8 = .ok (.aload_n 0, 1) := by decide +kernel
theorem dX9_lays_9 : decode cX9_lays 9 = .ok (.getfield 158, 3) := by decide +kernel
theorem dX9_lays_12 : decode cX9_lays 12 = .ok (.iastore, 1) := by decide +kernel
theorem dX9_lays_13 : decode cX9_lays 13 = .ok (.iconst 0, 1) := by decide +kernel
theorem dX9_lays_14 : decode cX9_lays 14 = .ok (.istore_n 2, 1) := by decide +kernel
theorem dX9_lays_15 : decode cX9_lays 15 = .ok (.iload_n 2, 1) := by decide +kernel
theorem dX9_lays_16 : decode cX9_lays 16 = .ok (.aload_n 0, 1) := by decide +kernel
theorem dX9_lays_17 : decode cX9_lays 17 = .ok (.getfield 158, 3) := by decide +kernel
theorem dX9_lays_20 : decode cX9_lays 20 = .ok (.if_icmp .ge 52, 3) := by decide +kernel
theorem dX9_lays_23 : decode cX9_lays 23 = .ok (.aload_n 0, 1) := by decide +kernel
theorem dX9_lays_24 : decode cX9_lays 24 = .ok (.getfield 28, 3) := by decide +kernel
theorem dX9_lays_27 : decode cX9_lays 27 = .ok (.bipush 115, 2) := by decide +kernel
theorem dX9_lays_29 : decode cX9_lays 29 = .ok (.sipush 400, 3) := by decide +kernel
theorem dX9_lays_32 : decode cX9_lays 32 = .ok (.iload_n 1, 1) := by decide +kernel
theorem dX9_lays_33 : decode cX9_lays 33 = .ok (.imul, 1) := by decide +kernel
theorem dX9_lays_34 : decode cX9_lays 34 = .ok (.iadd, 1) := by decide +kernel
theorem dX9_lays_35 : decode cX9_lays 35 = .ok (.iload_n 2, 1) := by decide +kernel
theorem dX9_lays_36 : decode cX9_lays 36 = .ok (.iadd, 1) := by decide +kernel
theorem dX9_lays_37 : decode cX9_lays 37 = .ok (.aload_n 0, 1) := by decide +kernel
theorem dX9_lays_38 : decode cX9_lays 38 = .ok (.getfield 54, 3) := by decide +kernel
theorem dX9_lays_41 : decode cX9_lays 41 = .ok (.iload_n 2, 1) := by decide +kernel
theorem dX9_lays_42 : decode cX9_lays 42 = .ok (.iaload, 1) := by decide +kernel
theorem dX9_lays_43 : decode cX9_lays 43 = .ok (.iastore, 1) := by decide +kernel
theorem dX9_lays_44 : decode cX9_lays 44 = .ok (.aload_n 0, 1) := by decide +kernel
theorem dX9_lays_45 : decode cX9_lays 45 = .ok (.getfield 28, 3) := by decide +kernel
theorem dX9_lays_48 : decode cX9_lays 48 = .ok (.sipush 2915, 3) := by decide +kernel
theorem dX9_lays_51 : decode cX9_lays 51 = .ok (.sipush 400, 3) := by decide +kernel
theorem dX9_lays_54 : decode cX9_lays 54 = .ok (.iload_n 1, 1) := by decide +kernel
theorem dX9_lays_55 : decode cX9_lays 55 = .ok (.imul, 1) := by decide +kernel
theorem dX9_lays_56 : decode cX9_lays 56 = .ok (.iadd, 1) := by decide +kernel
theorem dX9_lays_57 : decode cX9_lays 57 = .ok (.iload_n 2, 1) := by decide +kernel
theorem dX9_lays_58 : decode cX9_lays 58 = .ok (.iadd, 1) := by decide +kernel
theorem dX9_lays_59 : decode cX9_lays 59 = .ok (.aload_n 0, 1) := by decide +kernel
theorem dX9_lays_60 : decode cX9_lays 60 = .ok (.getfield 57, 3) := by decide +kernel
theorem dX9_lays_63 : decode cX9_lays 63 = .ok (.iload_n 2, 1) := by decide +kernel
theorem dX9_lays_64 : decode cX9_lays 64 = .ok (.iaload, 1) := by decide +kernel
theorem dX9_lays_65 : decode cX9_lays 65 = .ok (.iastore, 1) := by decide +kernel
theorem dX9_lays_66 : decode cX9_lays 66 = .ok (.iinc 2 1, 3) := by decide +kernel
theorem dX9_lays_69 : decode cX9_lays 69 = .ok (.goto (-54), 3) := by decide +kernel
theorem dX9_lays_72 : decode cX9_lays 72 = .ok (.return_, 1) := by decide +kernel
theorem dX9_law_0 : decode cX9_law 0 = .ok (.aload_n 0, 1) := by decide +kernel
theorem dX9_law_1 : decode cX9_law 1 = .ok (.getfield 28, 3) := by decide +kernel
theorem dX9_law_4 : decode cX9_law 4 = .ok (.bipush 106, 2) := by decide +kernel
theorem dX9_law_6 : decode cX9_law 6 = .ok (.iaload, 1) := by decide +kernel
theorem dX9_law_7 : decode cX9_law 7 = .ok (.bipush 6, 2) := by decide +kernel
theorem dX9_law_9 : decode cX9_law 9 = .ok (.if_icmp .ne 15, 3) := by decide +kernel
theorem dX9_law_12 : decode cX9_law 12 = .ok (.aload_n 0, 1) := by decide +kernel
theorem dX9_law_13 : decode cX9_law 13 = .ok (.iconst 0, 1) := by decide +kernel
theorem dX9_law_14 : decode cX9_law 14 = .ok (.putfield 152, 3) := by decide +kernel
theorem dX9_law_17 : decode cX9_law 17 = .ok (.aload_n 0, 1) := by decide +kernel
theorem dX9_law_18 : decode cX9_law 18 = .ok (.bipush (-5), 2) := by decide +kernel
theorem dX9_law_20 : decode cX9_law 20 = .ok (.invokevirtual 109, 3) := by decide +kernel
theorem dX9_law_23 : decode cX9_law 23 = .ok (.ireturn, 1) := by decide +kernel
theorem dX9_law_24 : decode cX9_law 24 = .ok (.aload_n 0, 1) := by decide +kernel
theorem dX9_law_25 : decode cX9_law 25 = .ok (.iconst 0, 1) := by decide +kernel
theorem dX9_law_26 : decode cX9_law 26 = .ok (.invokevirtual 248, 3) := by decide +kernel
theorem dX9_law_29 : decode cX9_law 29 = .ok (.ifCond .ne 10, 3) := by decide +kernel
theorem dX9_law_32 : decode cX9_law 32 = .ok (.aload_n 0, 1) := by decide +kernel
theorem dX9_law_33 : decode cX9_law 33 = .ok (.bipush (-6), 2) := by decide +kernel
theorem dX9_law_35 : decode cX9_law 35 = .ok (.invokevirtual 109, 3) := by decide +kernel
theorem dX9_law_38 : decode cX9_law 38 = .ok (.ireturn, 1) := by decide +kernel
theorem dX9_law_39 : decode cX9_law 39 = .ok (.aload_n 0, 1) := by decide +kernel
theorem dX9_law_40 : decode cX9_law 40 = .ok (.aload_n 0, 1) := by decide +kernel
theorem dX9_law_41 : decode cX9_law 41 = .ok (.getfield 28, 3) := by decide +kernel
theorem dX9_law_44 : decode cX9_law 44 = .ok (.bipush 106, 2) := by decide +kernel
theorem dX9_law_46 : decode cX9_law 46 = .ok (.iaload, 1) := by decide +kernel
theorem dX9_law_47 : decode cX9_law 47 = .ok (.invokevirtual 252, 3) := by decide +kernel
theorem dX9_law_50 : decode cX9_law 50 = .ok (.aload_n 0, 1) := by decide +kernel
theorem dX9_law_51 : decode cX9_law 51 = .ok (.getfield 28, 3) := by decide +kernel
theorem dX9_law_54 : decode cX9_law 54 = .ok (.bipush 106, 2) := by decide +kernel
theorem dX9_law_56 : decode cX9_law 56 = .ok (.dup2, 1) := by decide +kernel
theorem dX9_law_57 : decode cX9_law 57 = .ok (.iaload, 1) := by decide +kernel
theorem dX9_law_58 : decode cX9_law 58 = .ok (.iconst 1, 1) := by decide +kernel
theorem dX9_law_59 : decode cX9_law 59 = .ok (.iadd, 1) := by decide +kernel
theorem dX9_law_60 : decode cX9_law 60 = .ok (.iastore, 1) := by decide +kernel
theorem dX9_law_61 : decode cX9_law 61 = .ok (.aload_n 0, 1) := by decide +kernel
theorem dX9_law_62 : decode cX9_law 62 = .ok (.aload_n 0, 1) := by decide +kernel
theorem dX9_law_63 : decode cX9_law 63 = .ok (.getfield 28, 3) := by decide +kernel
theorem dX9_law_66 : decode cX9_law 66 = .ok (.bipush 106, 2) := by decide +kernel
theorem dX9_law_68 : decode cX9_law 68 = .ok (.iaload, 1) := by decide +kernel
theorem dX9_law_69 : decode cX9_law 69 = .ok (.iconst 1, 1) := by decide +kernel
theorem dX9_law_70 : decode cX9_law 70 = .ok (.isub, 1) := by decide +kernel
theorem dX9_law_71 : decode cX9_law 71 = .ok (.invokevirtual 14, 3) := by decide +kernel
theorem dX9_law_74 : decode cX9_law 74 = .ok (.ireturn, 1) := by decide +kernel
theorem dX9_fault_0 : decode cX9_fault 0 = .ok (.aload_n 0, 1) := by decide +kernel
theorem dX9_fault_1 : decode cX9_fault 1 = .ok (.getfield 51, 3) := by decide +kernel
theorem dX9_fault_4 : decode cX9_fault 4 = .ok (.ireturn, 1) := by decide +kernel
theorem dX9_force_0 : decode cX9_force 0 = .ok (.iload_n 1, 1) := by decide +kernel
theorem dX9_force_1 : decode cX9_force 1 = .ok (.iconst (-1), 1) := by decide +kernel
theorem dX9_force_2 : decode cX9_force 2 = .ok (.aload_n 0, 1) := by decide +kernel
theorem dX9_force_3 : decode cX9_force 3 = .ok (.getfield 28, 3) := by decide +kernel
theorem dX9_force_6 : decode cX9_force 6 = .ok (.bipush 106, 2) := by decide +kernel
theorem dX9_force_8 : decode cX9_force 8 = .ok (.iaload, 1) := by decide +kernel
theorem dX9_force_9 : decode cX9_force 9 = .ok (.iconst 1, 1) := by decide +kernel
theorem dX9_force_10 : decode cX9_force 10 = .ok (.isub, 1) := by decide +kernel
theorem dX9_force_11 : decode cX9_force 11 = .ok (.invokestatic 18, 3) := by decide +kernel
theorem dX9_force_14 : decode cX9_force 14 = .ok (.ifCond .ne 10, 3) := by decide +kernel
theorem dX9_force_17 : decode cX9_force 17 = .ok (.aload_n 0, 1) := by decide +kernel
theorem dX9_force_18 : decode cX9_force 18 = .ok (.bipush (-2), 2) := by decide +kernel
theorem dX9_force_20 : decode cX9_force 20 = .ok (.invokevirtual 109, 3) := by decide +kernel
theorem dX9_force_23 : decode cX9_force 23 = .ok (.ireturn, 1) := by decide +kernel
theorem dX9_force_24 : decode cX9_force 24 = .ok (.aload_n 0, 1) := by decide +kernel
theorem dX9_force_25 : decode cX9_force 25 = .ok (.getfield 28, 3) := by decide +kernel
theorem dX9_force_28 : decode cX9_force 28 = .ok (.bipush 107, 2) := by decide +kernel
theorem dX9_force_30 : decode cX9_force 30 = .ok (.iaload, 1) := by decide +kernel
theorem dX9_force_31 : decode cX9_force 31 = .ok (.istore_n 2, 1) := by decide +kernel
theorem dX9_force_32 : decode cX9_force 32 = .ok (.aload_n 0, 1) := by decide +kernel
theorem dX9_force_33 : decode cX9_force 33 = .ok (.getfield 28, 3) := by decide +kernel
theorem dX9_force_36 : decode cX9_force 36 = .ok (.bipush 107, 2) := by decide +kernel
theorem dX9_force_38 : decode cX9_force 38 = .ok (.iload_n 1, 1) := by decide +kernel
theorem dX9_force_39 : decode cX9_force 39 = .ok (.iastore, 1) := by decide +kernel
theorem dX9_force_40 : decode cX9_force 40 = .ok (.aload_n 0, 1) := by decide +kernel
theorem dX9_force_41 : decode cX9_force 41 = .ok (.iload_n 2, 1) := by decide +kernel
theorem dX9_force_42 : decode cX9_force 42 = .ok (.invokevirtual 14, 3) := by decide +kernel
theorem dX9_force_45 : decode cX9_force 45 = .ok (.ireturn, 1) := by decide +kernel
theorem dX9_codeAt_0 : decode cX9_codeAt 0 = .ok (.iload_n 1, 1) := by decide +kernel
theorem dX9_codeAt_1 : decode cX9_codeAt 1 = .ok (.aload_n 0, 1) := by decide +kernel
theorem dX9_codeAt_2 : decode cX9_codeAt 2 = .ok (.getfield 255, 3) := by decide +kernel
theorem dX9_codeAt_5 : decode cX9_codeAt 5 = .ok (.if_icmp .ge 15, 3) := by decide +kernel
theorem dX9_codeAt_8 : decode cX9_codeAt 8 = .ok (.aload_n 0, 1) := by decide +kernel
theorem dX9_codeAt_9 : decode cX9_codeAt 9 = .ok (.getfield 28, 3) := by decide +kernel
theorem dX9_codeAt_12 : decode cX9_codeAt 12 = .ok (.bipush 115, 2) := by decide +kernel
theorem dX9_codeAt_14 : decode cX9_codeAt 14 = .ok (.iload_n 1, 1) := by decide +kernel
theorem dX9_codeAt_15 : decode cX9_codeAt 15 = .ok (.iadd, 1) := by decide +kernel
theorem dX9_codeAt_16 : decode cX9_codeAt 16 = .ok (.iaload, 1) := by decide +kernel
theorem dX9_codeAt_17 : decode cX9_codeAt 17 = .ok (.goto 4, 3) := by decide +kernel
theorem dX9_codeAt_20 : decode cX9_codeAt 20 = .ok (.iconst 0, 1) := by decide +kernel
theorem dX9_codeAt_21 : decode cX9_codeAt 21 = .ok (.ireturn, 1) := by decide +kernel
theorem dX9_passes0_0 : decode cX9_passes0 0 = .ok (.aload_n 0, 1) := by decide +kernel
theorem dX9_passes0_1 : decode cX9_passes0 1 = .ok (.aload_n 0, 1) := by decide +kernel
theorem dX9_passes0_2 : decode cX9_passes0 2 = .ok (.getfield 258, 3) := by decide +kernel
theorem dX9_passes0_5 : decode cX9_passes0 5 = .ok (.invokevirtual 261, 3) := by decide +kernel
theorem dX9_passes0_8 : decode cX9_passes0 8 = .ok (.iload_n 1, 1) := by decide +kernel
theorem dX9_passes0_9 : decode cX9_passes0 9 = .ok (.if_icmp .ne 7, 3) := by decide +kernel
theorem dX9_passes0_12 : decode cX9_passes0 12 = .ok (.iconst 1, 1) := by decide +kernel
theorem dX9_passes0_13 : decode cX9_passes0 13 = .ok (.goto 4, 3) := by decide +kernel
theorem dX9_passes0_16 : decode cX9_passes0 16 = .ok (.iconst 0, 1) := by decide +kernel
theorem dX9_passes0_17 : decode cX9_passes0 17 = .ok (.istore_n 2, 1) := by decide +kernel
theorem dX9_passes0_18 : decode cX9_passes0 18 = .ok (.iload_n 2, 1) := by decide +kernel
theorem dX9_passes0_19 : decode cX9_passes0 19 = .ok (.ifCond .eq 13, 3) := by decide +kernel
theorem dX9_passes0_22 : decode cX9_passes0 22 = .ok (.aload_n 0, 1) := by decide +kernel
theorem dX9_passes0_23 : decode cX9_passes0 23 = .ok (.dup, 1) := by decide +kernel
theorem dX9_passes0_24 : decode cX9_passes0 24 = .ok (.getfield 258, 3) := by decide +kernel
theorem dX9_passes0_27 : decode cX9_passes0 27 = .ok (.iconst 1, 1) := by decide +kernel
theorem dX9_passes0_28 : decode cX9_passes0 28 = .ok (.iadd, 1) := by decide +kernel
theorem dX9_passes0_29 : decode cX9_passes0 29 = .ok (.putfield 258, 3) := by decide +kernel
theorem dX9_passes0_32 : decode cX9_passes0 32 = .ok (.iload_n 2, 1) := by decide +kernel
theorem dX9_passes0_33 : decode cX9_passes0 33 = .ok (.ireturn, 1) := by decide +kernel
theorem dX9_bounded_0 : decode cX9_bounded 0 = .ok (.iload_n 3, 1) := by decide +kernel
theorem dX9_bounded_1 : decode cX9_bounded 1 = .ok (.ifCond .eq 24, 3) := by decide +kernel
theorem dX9_bounded_4 : decode cX9_bounded 4 = .ok (.lload_n 1, 1) := by decide +kernel
theorem dX9_bounded_5 : decode cX9_bounded 5 = .ok (.ldc2_w 264, 3) := by decide +kernel
theorem dX9_bounded_8 : decode cX9_bounded 8 = .ok (.lcmp, 1) := by decide +kernel
theorem dX9_bounded_9 : decode cX9_bounded 9 = .ok (.ifCond .gt 11, 3) := by decide +kernel
theorem dX9_bounded_12 : decode cX9_bounded 12 = .ok (.lload_n 1, 1) := by decide +kernel
theorem dX9_bounded_13 : decode cX9_bounded 13 = .ok (.ldc2_w 266, 3) := by decide +kernel
theorem dX9_bounded_16 : decode cX9_bounded 16 = .ok (.lcmp, 1) := by decide +kernel
theorem dX9_bounded_17 : decode cX9_bounded 17 = .ok (.ifCond .ge 8, 3) := by decide +kernel
theorem dX9_bounded_20 : decode cX9_bounded 20 = .ok (.aload_n 0, 1) := by decide +kernel
theorem dX9_bounded_21 : decode cX9_bounded 21 = .ok (.iconst 1, 1) := by decide +kernel
theorem dX9_bounded_22 : decode cX9_bounded 22 = .ok (.putfield 268, 3) := by decide +kernel
theorem dX9_bounded_25 : decode cX9_bounded 25 = .ok (.aload_n 0, 1) := by decide +kernel
theorem dX9_bounded_26 : decode cX9_bounded 26 = .ok (.getfield 268, 3) := by decide +kernel
theorem dX9_bounded_29 : decode cX9_bounded 29 = .ok (.ifCond .eq 7, 3) := by decide +kernel
theorem dX9_bounded_32 : decode cX9_bounded 32 = .ok (.lconst 0, 1) := by decide +kernel
theorem dX9_bounded_33 : decode cX9_bounded 33 = .ok (.goto 4, 3) := by decide +kernel
theorem dX9_bounded_36 : decode cX9_bounded 36 = .ok (.lload_n 1, 1) := by decide +kernel
theorem dX9_bounded_37 : decode cX9_bounded 37 = .ok (.lreturn, 1) := by decide +kernel
theorem dX9_sumOf_0 : decode cX9_sumOf 0 = .ok (.aload_n 0, 1) := by decide +kernel
theorem dX9_sumOf_1 : decode cX9_sumOf 1 = .ok (.iload_n 1, 1) := by decide +kernel
theorem dX9_sumOf_2 : decode cX9_sumOf 2 = .ok (.invokevirtual 271, 3) := by decide +kernel
theorem dX9_sumOf_5 : decode cX9_sumOf 5 = .ok (.lstore_n 2, 1) := by decide +kernel
theorem dX9_sumOf_6 : decode cX9_sumOf 6 = .ok (.aload_n 0, 1) := by decide +kernel
theorem dX9_sumOf_7 : decode cX9_sumOf 7 = .ok (.aload_n 0, 1) := by decide +kernel
theorem dX9_sumOf_8 : decode cX9_sumOf 8 = .ok (.getfield 258, 3) := by decide +kernel
theorem dX9_sumOf_11 : decode cX9_sumOf 11 = .ok (.invokevirtual 261, 3) := by decide +kernel
theorem dX9_sumOf_14 : decode cX9_sumOf 14 = .ok (.bipush 43, 2) := by decide +kernel
theorem dX9_sumOf_16 : decode cX9_sumOf 16 = .ok (.invokestatic 220, 3) := by decide +kernel
theorem dX9_sumOf_19 : decode cX9_sumOf 19 = .ok (.if_icmp .eq 19, 3) := by decide +kernel
theorem dX9_sumOf_22 : decode cX9_sumOf 22 = .ok (.aload_n 0, 1) := by decide +kernel
theorem dX9_sumOf_23 : decode cX9_sumOf 23 = .ok (.aload_n 0, 1) := by decide +kernel
theorem dX9_sumOf_24 : decode cX9_sumOf 24 = .ok (.getfield 258, 3) := by decide +kernel
theorem dX9_sumOf_27 : decode cX9_sumOf 27 = .ok (.invokevirtual 261, 3) := by decide +kernel
theorem dX9_sumOf_30 : decode cX9_sumOf 30 = .ok (.bipush 45, 2) := by decide +kernel
theorem dX9_sumOf_32 : decode cX9_sumOf 32 = .ok (.invokestatic 220, 3) := by decide +kernel
theorem dX9_sumOf_35 : decode cX9_sumOf 35 = .ok (.if_icmp .ne 68, 3) := by decide +kernel
theorem dX9_sumOf_38 : decode cX9_sumOf 38 = .ok (.aload_n 0, 1) := by decide +kernel
theorem dX9_sumOf_39 : decode cX9_sumOf 39 = .ok (.aload_n 0, 1) := by decide +kernel
theorem dX9_sumOf_40 : decode cX9_sumOf 40 = .ok (.getfield 258, 3) := by decide +kernel
theorem dX9_sumOf_43 : decode cX9_sumOf 43 = .ok (.invokevirtual 261, 3) := by decide +kernel
theorem dX9_sumOf_46 : decode cX9_sumOf 46 = .ok (.bipush 43, 2) := by decide +kernel
theorem dX9_sumOf_48 : decode cX9_sumOf 48 = .ok (.invokestatic 220, 3) := by decide +kernel
theorem dX9_sumOf_51 : decode cX9_sumOf 51 = .ok (.if_icmp .ne 7, 3) := by decide +kernel
theorem dX9_sumOf_54 : decode cX9_sumOf 54 = .ok (.iconst 1, 1) := by decide +kernel
theorem dX9_sumOf_55 : decode cX9_sumOf 55 = .ok (.goto 4, 3) := by decide +kernel
theorem dX9_sumOf_58 : decode cX9_sumOf 58 = .ok (.iconst 0, 1) := by decide +kernel
theorem dX9_sumOf_59 : decode cX9_sumOf 59 = .ok (.istore 4, 2) := by decide +kernel
theorem dX9_sumOf_61 : decode cX9_sumOf 61 = .ok (.aload_n 0, 1) := by decide +kernel
theorem dX9_sumOf_62 : decode cX9_sumOf 62 = .ok (.dup, 1) := by decide +kernel
theorem dX9_sumOf_63 : decode cX9_sumOf 63 = .ok (.getfield 258, 3) := by decide +kernel
theorem dX9_sumOf_66 : decode cX9_sumOf 66 = .ok (.iconst 1, 1) := by decide +kernel
theorem dX9_sumOf_67 : decode cX9_sumOf 67 = .ok (.iadd, 1) := by decide +kernel
theorem dX9_sumOf_68 : decode cX9_sumOf 68 = .ok (.putfield 258, 3) := by decide +kernel
theorem dX9_sumOf_71 : decode cX9_sumOf 71 = .ok (.aload_n 0, 1) := by decide +kernel
theorem dX9_sumOf_72 : decode cX9_sumOf 72 = .ok (.iload_n 1, 1) := by decide +kernel
theorem dX9_sumOf_73 : decode cX9_sumOf 73 = .ok (.invokevirtual 271, 3) := by decide +kernel
theorem dX9_sumOf_76 : decode cX9_sumOf 76 = .ok (.lstore 5, 2) := by decide +kernel
theorem dX9_sumOf_78 : decode cX9_sumOf 78 = .ok (.aload_n 0, 1) := by decide +kernel
theorem dX9_sumOf_79 : decode cX9_sumOf 79 = .ok (.iload 4, 2) := by decide +kernel
theorem dX9_sumOf_81 : decode cX9_sumOf 81 = .ok (.ifCond .eq 10, 3) := by decide +kernel
theorem dX9_sumOf_84 : decode cX9_sumOf 84 = .ok (.lload_n 2, 1) := by decide +kernel
theorem dX9_sumOf_85 : decode cX9_sumOf 85 = .ok (.lload 5, 2) := by decide +kernel
theorem dX9_sumOf_87 : decode cX9_sumOf 87 = .ok (.ladd, 1) := by decide +kernel
theorem dX9_sumOf_88 : decode cX9_sumOf 88 = .ok (.goto 7, 3) := by decide +kernel
theorem dX9_sumOf_91 : decode cX9_sumOf 91 = .ok (.lload_n 2, 1) := by decide +kernel
theorem dX9_sumOf_92 : decode cX9_sumOf 92 = .ok (.lload 5, 2) := by decide +kernel
theorem dX9_sumOf_94 : decode cX9_sumOf 94 = .ok (.lsub, 1) := by decide +kernel
theorem dX9_sumOf_95 : decode cX9_sumOf 95 = .ok (.iload_n 1, 1) := by decide +kernel
theorem dX9_sumOf_96 : decode cX9_sumOf 96 = .ok (.invokevirtual 275, 3) := by decide +kernel
theorem dX9_sumOf_99 : decode cX9_sumOf 99 = .ok (.lstore_n 2, 1) := by decide +kernel
theorem dX9_sumOf_100 : decode cX9_sumOf 100 = .ok (.goto (-94), 3) := by decide +kernel
theorem dX9_sumOf_103 : decode cX9_sumOf 103 = .ok (.lload_n 2, 1) := by decide +kernel
theorem dX9_sumOf_104 : decode cX9_sumOf 104 = .ok (.lreturn, 1) := by decide +kernel
theorem dX9_termOf_0 : decode cX9_termOf 0 = .ok (.aload_n 0, 1) := by decide +kernel
theorem dX9_termOf_1 : decode cX9_termOf 1 = .ok (.iload_n 1, 1) := by decide +kernel
theorem dX9_termOf_2 : decode cX9_termOf 2 = .ok (.invokevirtual 279, 3) := by decide +kernel
theorem dX9_termOf_5 : decode cX9_termOf 5 = .ok (.lstore_n 2, 1) := by decide +kernel
theorem dX9_termOf_6 : decode cX9_termOf 6 = .ok (.aload_n 0, 1) := by decide +kernel
theorem dX9_termOf_7 : decode cX9_termOf 7 = .ok (.aload_n 0, 1) := by decide +kernel
theorem dX9_termOf_8 : decode cX9_termOf 8 = .ok (.getfield 258, 3) := by decide +kernel
theorem dX9_termOf_11 : decode cX9_termOf 11 = .ok (.invokevirtual 261, 3) := by decide +kernel
theorem dX9_termOf_14 : decode cX9_termOf 14 = .ok (.bipush 42, 2) := by decide +kernel
theorem dX9_termOf_16 : decode cX9_termOf 16 = .ok (.invokestatic 220, 3) := by decide +kernel
theorem dX9_termOf_19 : decode cX9_termOf 19 = .ok (.if_icmp .eq 35, 3) := by decide +kernel
theorem dX9_termOf_22 : decode cX9_termOf 22 = .ok (.aload_n 0, 1) := by decide +kernel
theorem dX9_termOf_23 : decode cX9_termOf 23 = .ok (.aload_n 0, 1) := by decide +kernel
theorem dX9_termOf_24 : decode cX9_termOf 24 = .ok (.getfield 258, 3) := by decide +kernel
theorem dX9_termOf_27 : decode cX9_termOf 27 = .ok (.invokevirtual 261, 3) := by decide +kernel
theorem dX9_termOf_30 : decode cX9_termOf 30 = .ok (.bipush 47, 2) := by decide +kernel
theorem dX9_termOf_32 : decode cX9_termOf 32 = .ok (.invokestatic 220, 3) := by decide +kernel
theorem dX9_termOf_35 : decode cX9_termOf 35 = .ok (.if_icmp .eq 19, 3) := by decide +kernel
theorem dX9_termOf_38 : decode cX9_termOf 38 = .ok (.aload_n 0, 1) := by decide +kernel
theorem dX9_termOf_39 : decode cX9_termOf 39 = .ok (.aload_n 0, 1) := by decide +kernel
theorem dX9_termOf_40 : decode cX9_termOf 40 = .ok (.getfield 258, 3) := by decide +kernel
theorem dX9_termOf_43 : decode cX9_termOf 43 = .ok (.invokevirtual 261, 3) := by decide +kernel
theorem dX9_termOf_46 : decode cX9_termOf 46 = .ok (.bipush 37, 2) := by decide +kernel
theorem dX9_termOf_48 : decode cX9_termOf 48 = .ok (.invokestatic 220, 3) := by decide +kernel
theorem dX9_termOf_51 : decode cX9_termOf 51 = .ok (.if_icmp .ne 117, 3) := by decide +kernel
theorem dX9_termOf_54 : decode cX9_termOf 54 = .ok (.aload_n 0, 1) := by decide +kernel
theorem dX9_termOf_55 : decode cX9_termOf 55 = .ok (.aload_n 0, 1) := by decide +kernel
theorem dX9_termOf_56 : decode cX9_termOf 56 = .ok (.getfield 258, 3) := by decide +kernel
theorem dX9_termOf_59 : decode cX9_termOf 59 = .ok (.invokevirtual 261, 3) := by decide +kernel
theorem dX9_termOf_62 : decode cX9_termOf 62 = .ok (.istore 4, 2) := by decide +kernel
theorem dX9_termOf_64 : decode cX9_termOf 64 = .ok (.aload_n 0, 1) := by decide +kernel
theorem dX9_termOf_65 : decode cX9_termOf 65 = .ok (.dup, 1) := by decide +kernel
theorem dX9_termOf_66 : decode cX9_termOf 66 = .ok (.getfield 258, 3) := by decide +kernel
theorem dX9_termOf_69 : decode cX9_termOf 69 = .ok (.iconst 1, 1) := by decide +kernel
theorem dX9_termOf_70 : decode cX9_termOf 70 = .ok (.iadd, 1) := by decide +kernel
theorem dX9_termOf_71 : decode cX9_termOf 71 = .ok (.putfield 258, 3) := by decide +kernel
theorem dX9_termOf_74 : decode cX9_termOf 74 = .ok (.aload_n 0, 1) := by decide +kernel
theorem dX9_termOf_75 : decode cX9_termOf 75 = .ok (.iload_n 1, 1) := by decide +kernel
theorem dX9_termOf_76 : decode cX9_termOf 76 = .ok (.invokevirtual 279, 3) := by decide +kernel
theorem dX9_termOf_79 : decode cX9_termOf 79 = .ok (.lstore 5, 2) := by decide +kernel
theorem dX9_termOf_81 : decode cX9_termOf 81 = .ok (.iload 4, 2) := by decide +kernel
theorem dX9_termOf_83 : decode cX9_termOf 83 = .ok (.bipush 42, 2) := by decide +kernel
theorem dX9_termOf_85 : decode cX9_termOf 85 = .ok (.invokestatic 220, 3) := by decide +kernel
theorem dX9_termOf_88 : decode cX9_termOf 88 = .ok (.if_icmp .eq 33, 3) := by decide +kernel
theorem dX9_termOf_91 : decode cX9_termOf 91 = .ok (.lload 5, 2) := by decide +kernel
theorem dX9_termOf_93 : decode cX9_termOf 93 = .ok (.lconst 0, 1) := by decide +kernel
theorem dX9_termOf_94 : decode cX9_termOf 94 = .ok (.lcmp, 1) := by decide +kernel
theorem dX9_termOf_95 : decode cX9_termOf 95 = .ok (.ifCond .ne 26, 3) := by decide +kernel
theorem dX9_termOf_98 : decode cX9_termOf 98 = .ok (.aload_n 0, 1) := by decide +kernel
theorem dX9_termOf_99 : decode cX9_termOf 99 = .ok (.aload_n 0, 1) := by decide +kernel
theorem dX9_termOf_100 : decode cX9_termOf 100 = .ok (.getfield 268, 3) := by decide +kernel
theorem dX9_termOf_103 : decode cX9_termOf 103 = .ok (.ifCond .ne 7, 3) := by decide +kernel
theorem dX9_termOf_106 : decode cX9_termOf 106 = .ok (.iload_n 1, 1) := by decide +kernel
theorem dX9_termOf_107 : decode cX9_termOf 107 = .ok (.ifCond .eq 7, 3) := by decide +kernel
theorem dX9_termOf_110 : decode cX9_termOf 110 = .ok (.iconst 1, 1) := by decide +kernel
theorem dX9_termOf_111 : decode cX9_termOf 111 = .ok (.goto 4, 3) := by decide +kernel
theorem dX9_termOf_114 : decode cX9_termOf 114 = .ok (.iconst 0, 1) := by decide +kernel
theorem dX9_termOf_115 : decode cX9_termOf 115 = .ok (.putfield 268, 3) := by decide +kernel
theorem dX9_termOf_118 : decode cX9_termOf 118 = .ok (.lconst 1, 1) := by decide +kernel
theorem dX9_termOf_119 : decode cX9_termOf 119 = .ok (.lstore 5, 2) := by decide +kernel
theorem dX9_termOf_121 : decode cX9_termOf 121 = .ok (.aload_n 0, 1) := by decide +kernel
theorem dX9_termOf_122 : decode cX9_termOf 122 = .ok (.iload 4, 2) := by decide +kernel
theorem dX9_termOf_124 : decode cX9_termOf 124 = .ok (.bipush 42, 2) := by decide +kernel
theorem dX9_termOf_126 : decode cX9_termOf 126 = .ok (.invokestatic 220, 3) := by decide +kernel
theorem dX9_termOf_129 : decode cX9_termOf 129 = .ok (.if_icmp .ne 10, 3) := by decide +kernel
theorem dX9_termOf_132 : decode cX9_termOf 132 = .ok (.lload_n 2, 1) := by decide +kernel
theorem dX9_termOf_133 : decode cX9_termOf 133 = .ok (.lload 5, 2) := by decide +kernel
theorem dX9_termOf_135 : decode cX9_termOf 135 = .ok (.lmul, 1) := by decide +kernel
theorem dX9_termOf_136 : decode cX9_termOf 136 = .ok (.goto 24, 3) := by decide +kernel
theorem dX9_termOf_139 : decode cX9_termOf 139 = .ok (.iload 4, 2) := by decide +kernel
theorem dX9_termOf_141 : decode cX9_termOf 141 = .ok (.bipush 47, 2) := by decide +kernel
theorem dX9_termOf_143 : decode cX9_termOf 143 = .ok (.invokestatic 220, 3) := by decide +kernel
theorem dX9_termOf_146 : decode cX9_termOf 146 = .ok (.if_icmp .ne 10, 3) := by decide +kernel
theorem dX9_termOf_149 : decode cX9_termOf 149 = .ok (.lload_n 2, 1) := by decide +kernel
theorem dX9_termOf_150 : decode cX9_termOf 150 = .ok (.lload 5, 2) := by decide +kernel
theorem dX9_termOf_152 : decode cX9_termOf 152 = .ok (.ldiv, 1) := by decide +kernel
theorem dX9_termOf_153 : decode cX9_termOf 153 = .ok (.goto 7, 3) := by decide +kernel
theorem dX9_termOf_156 : decode cX9_termOf 156 = .ok (.lload_n 2, 1) := by decide +kernel
theorem dX9_termOf_157 : decode cX9_termOf 157 = .ok (.lload 5, 2) := by decide +kernel
theorem dX9_termOf_159 : decode cX9_termOf 159 = .ok (.lrem, 1) := by decide +kernel
theorem dX9_termOf_160 : decode cX9_termOf 160 = .ok (.iload_n 1, 1) := by decide +kernel
theorem dX9_termOf_161 : decode cX9_termOf 161 = .ok (.invokevirtual 275, 3) := by decide +kernel
theorem dX9_termOf_164 : decode cX9_termOf 164 = .ok (.lstore_n 2, 1) := by decide +kernel
theorem dX9_termOf_165 : decode cX9_termOf 165 = .ok (.goto (-159), 3) := by decide +kernel
theorem dX9_termOf_168 : decode cX9_termOf 168 = .ok (.lload_n 2, 1) := by decide +kernel
theorem dX9_termOf_169 : decode cX9_termOf 169 = .ok (.lreturn, 1) := by decide +kernel
theorem dX9_partOf_0 : decode cX9_partOf 0 = .ok (.aload_n 0, 1) := by decide +kernel
theorem dX9_partOf_1 : decode cX9_partOf 1 = .ok (.bipush 91, 2) := by decide +kernel
theorem dX9_partOf_3 : decode cX9_partOf 3 = .ok (.invokestatic 220, 3) := by decide +kernel
theorem dX9_partOf_6 : decode cX9_partOf 6 = .ok (.invokevirtual 282, 3) := by decide +kernel
theorem dX9_partOf_9 : decode cX9_partOf 9 = .ok (.ifCond .eq 21, 3) := by decide +kernel
theorem dX9_partOf_12 : decode cX9_partOf 12 = .ok (.aload_n 0, 1) := by decide +kernel
theorem dX9_partOf_13 : decode cX9_partOf 13 = .ok (.iload_n 1, 1) := by decide +kernel
theorem dX9_partOf_14 : decode cX9_partOf 14 = .ok (.invokevirtual 285, 3) := by decide +kernel
theorem dX9_partOf_17 : decode cX9_partOf 17 = .ok (.lstore_n 2, 1) := by decide +kernel
theorem dX9_partOf_18 : decode cX9_partOf 18 = .ok (.aload_n 0, 1) := by decide +kernel
theorem dX9_partOf_19 : decode cX9_partOf 19 = .ok (.dup, 1) := by decide +kernel
theorem dX9_partOf_20 : decode cX9_partOf 20 = .ok (.getfield 258, 3) := by decide +kernel
theorem dX9_partOf_23 : decode cX9_partOf 23 = .ok (.iconst 1, 1) := by decide +kernel
theorem dX9_partOf_24 : decode cX9_partOf 24 = .ok (.iadd, 1) := by decide +kernel
theorem dX9_partOf_25 : decode cX9_partOf 25 = .ok (.putfield 258, 3) := by decide +kernel
theorem dX9_partOf_28 : decode cX9_partOf 28 = .ok (.lload_n 2, 1) := by decide +kernel
theorem dX9_partOf_29 : decode cX9_partOf 29 = .ok (.lreturn, 1) := by decide +kernel
theorem dX9_partOf_30 : decode cX9_partOf 30 = .ok (.aload_n 0, 1) := by decide +kernel
theorem dX9_partOf_31 : decode cX9_partOf 31 = .ok (.aload_n 0, 1) := by decide +kernel
theorem dX9_partOf_32 : decode cX9_partOf 32 = .ok (.getfield 258, 3) := by decide +kernel
theorem dX9_partOf_35 : decode cX9_partOf 35 = .ok (.invokevirtual 261, 3) := by decide +kernel
theorem dX9_partOf_38 : decode cX9_partOf 38 = .ok (.istore_n 2, 1) := by decide +kernel
theorem dX9_partOf_39 : decode cX9_partOf 39 = .ok (.iconst 0, 1) := by decide +kernel
theorem dX9_partOf_40 : decode cX9_partOf 40 = .ok (.istore_n 3, 1) := by decide +kernel
theorem dX9_partOf_41 : decode cX9_partOf 41 = .ok (.aload_n 0, 1) := by decide +kernel
theorem dX9_partOf_42 : decode cX9_partOf 42 = .ok (.dup, 1) := by decide +kernel
theorem dX9_partOf_43 : decode cX9_partOf 43 = .ok (.getfield 258, 3) := by decide +kernel
theorem dX9_partOf_46 : decode cX9_partOf 46 = .ok (.iconst 1, 1) := by decide +kernel
theorem dX9_partOf_47 : decode cX9_partOf 47 = .ok (.iadd, 1) := by decide +kernel
theorem dX9_partOf_48 : decode cX9_partOf 48 = .ok (.putfield 258, 3) := by decide +kernel
theorem dX9_partOf_51 : decode cX9_partOf 51 = .ok (.aload_n 0, 1) := by decide +kernel
theorem dX9_partOf_52 : decode cX9_partOf 52 = .ok (.getfield 288, 3) := by decide +kernel
theorem dX9_partOf_55 : decode cX9_partOf 55 = .ok (.ifCond .eq 51, 3) := by decide +kernel
theorem dX9_partOf_58 : decode cX9_partOf 58 = .ok (.iload_n 2, 1) := by decide +kernel
theorem dX9_partOf_59 : decode cX9_partOf 59 = .ok (.bipush 15, 2) := by decide +kernel
theorem dX9_partOf_61 : decode cX9_partOf 61 = .ok (.if_icmp .eq 21, 3) := by decide +kernel
theorem dX9_partOf_64 : decode cX9_partOf 64 = .ok (.iload_n 2, 1) := by decide +kernel
theorem dX9_partOf_65 : decode cX9_partOf 65 = .ok (.bipush 16, 2) := by decide +kernel
theorem dX9_partOf_67 : decode cX9_partOf 67 = .ok (.if_icmp .eq 15, 3) := by decide +kernel
theorem dX9_partOf_70 : decode cX9_partOf 70 = .ok (.iload_n 2, 1) := by decide +kernel
theorem dX9_partOf_71 : decode cX9_partOf 71 = .ok (.bipush 17, 2) := by decide +kernel
theorem dX9_partOf_73 : decode cX9_partOf 73 = .ok (.if_icmp .eq 9, 3) := by decide +kernel
theorem dX9_partOf_76 : decode cX9_partOf 76 = .ok (.iload_n 2, 1) := by decide +kernel
theorem dX9_partOf_77 : decode cX9_partOf 77 = .ok (.bipush 21, 2) := by decide +kernel
theorem dX9_partOf_79 : decode cX9_partOf 79 = .ok (.if_icmp .ne 27, 3) := by decide +kernel
theorem dX9_partOf_82 : decode cX9_partOf 82 = .ok (.aload_n 0, 1) := by decide +kernel
theorem dX9_partOf_83 : decode cX9_partOf 83 = .ok (.getfield 28, 3) := by decide +kernel
theorem dX9_partOf_86 : decode cX9_partOf 86 = .ok (.sipush 2915, 3) := by decide +kernel
theorem dX9_partOf_89 : decode cX9_partOf 89 = .ok (.aload_n 0, 1) := by decide +kernel
theorem dX9_partOf_90 : decode cX9_partOf 90 = .ok (.getfield 258, 3) := by decide +kernel
theorem dX9_partOf_93 : decode cX9_partOf 93 = .ok (.iadd, 1) := by decide +kernel
theorem dX9_partOf_94 : decode cX9_partOf 94 = .ok (.iaload, 1) := by decide +kernel
theorem dX9_partOf_95 : decode cX9_partOf 95 = .ok (.istore_n 3, 1) := by decide +kernel
theorem dX9_partOf_96 : decode cX9_partOf 96 = .ok (.aload_n 0, 1) := by decide +kernel
theorem dX9_partOf_97 : decode cX9_partOf 97 = .ok (.dup, 1) := by decide +kernel
theorem dX9_partOf_98 : decode cX9_partOf 98 = .ok (.getfield 258, 3) := by decide +kernel
theorem dX9_partOf_101 : decode cX9_partOf 101 = .ok (.iconst 1, 1) := by decide +kernel
theorem dX9_partOf_102 : decode cX9_partOf 102 = .ok (.iadd, 1) := by decide +kernel
theorem dX9_partOf_103 : decode cX9_partOf 103 = .ok (.putfield 258, 3) := by decide +kernel
theorem dX9_partOf_106 : decode cX9_partOf 106 = .ok (.iload_n 1, 1) := by decide +kernel
theorem dX9_partOf_107 : decode cX9_partOf 107 = .ok (.ifCond .eq 10, 3) := by decide +kernel
theorem dX9_partOf_110 : decode cX9_partOf 110 = .ok (.aload_n 0, 1) := by decide +kernel
theorem dX9_partOf_111 : decode cX9_partOf 111 = .ok (.getfield 268, 3) := by decide +kernel
theorem dX9_partOf_114 : decode cX9_partOf 114 = .ok (.ifCond .eq 5, 3) := by decide +kernel
theorem dX9_partOf_117 : decode cX9_partOf 117 = .ok (.lconst 0, 1) := by decide +kernel
theorem dX9_partOf_118 : decode cX9_partOf 118 = .ok (.lreturn, 1) := by decide +kernel
theorem dX9_partOf_119 : decode cX9_partOf 119 = .ok (.iload_n 2, 1) := by decide +kernel
theorem dX9_partOf_120 : decode cX9_partOf 120 = .ok (.bipush 50, 2) := by decide +kernel
theorem dX9_partOf_122 : decode cX9_partOf 122 = .ok (.if_icmp .ne 20, 3) := by decide +kernel
theorem dX9_partOf_125 : decode cX9_partOf 125 = .ok (.aload_n 0, 1) := by decide +kernel
theorem dX9_partOf_126 : decode cX9_partOf 126 = .ok (.getfield 28, 3) := by decide +kernel
theorem dX9_partOf_129 : decode cX9_partOf 129 = .ok (.sipush 2915, 3) := by decide +kernel
theorem dX9_partOf_132 : decode cX9_partOf 132 = .ok (.aload_n 0, 1) := by decide +kernel
theorem dX9_partOf_133 : decode cX9_partOf 133 = .ok (.getfield 258, 3) := by decide +kernel
theorem dX9_partOf_136 : decode cX9_partOf 136 = .ok (.iadd, 1) := by decide +kernel
theorem dX9_partOf_137 : decode cX9_partOf 137 = .ok (.iconst 1, 1) := by decide +kernel
theorem dX9_partOf_138 : decode cX9_partOf 138 = .ok (.isub, 1) := by decide +kernel
theorem dX9_partOf_139 : decode cX9_partOf 139 = .ok (.iaload, 1) := by decide +kernel
theorem dX9_partOf_140 : decode cX9_partOf 140 = .ok (.i2l, 1) := by decide +kernel
theorem dX9_partOf_141 : decode cX9_partOf 141 = .ok (.lreturn, 1) := by decide +kernel
theorem dX9_partOf_142 : decode cX9_partOf 142 = .ok (.aload_n 0, 1) := by decide +kernel
theorem dX9_partOf_143 : decode cX9_partOf 143 = .ok (.getfield 288, 3) := by decide +kernel
theorem dX9_partOf_146 : decode cX9_partOf 146 = .ok (.ifCond .eq 13, 3) := by decide +kernel
theorem dX9_partOf_149 : decode cX9_partOf 149 = .ok (.aload_n 0, 1) := by decide +kernel
theorem dX9_partOf_150 : decode cX9_partOf 150 = .ok (.iload_n 2, 1) := by decide +kernel
theorem dX9_partOf_151 : decode cX9_partOf 151 = .ok (.iload_n 3, 1) := by decide +kernel
theorem dX9_partOf_152 : decode cX9_partOf 152 = .ok (.invokevirtual 291, 3) := by decide +kernel
theorem dX9_partOf_155 : decode cX9_partOf 155 = .ok (.i2l, 1) := by decide +kernel
theorem dX9_partOf_156 : decode cX9_partOf 156 = .ok (.goto 13, 3) := by decide +kernel
theorem dX9_partOf_159 : decode cX9_partOf 159 = .ok (.aload_n 0, 1) := by decide +kernel
theorem dX9_partOf_160 : decode cX9_partOf 160 = .ok (.getfield 63, 3) := by decide +kernel
theorem dX9_partOf_163 : decode cX9_partOf 163 = .ok (.iload_n 2, 1) := by decide +kernel
theorem dX9_partOf_164 : decode cX9_partOf 164 = .ok (.bipush 9, 2) := by decide +kernel
theorem dX9_partOf_166 : decode cX9_partOf 166 = .ok (.isub, 1) := by decide +kernel
theorem dX9_partOf_167 : decode cX9_partOf 167 = .ok (.iaload, 1) := by decide +kernel
theorem dX9_partOf_168 : decode cX9_partOf 168 = .ok (.i2l, 1) := by decide +kernel
theorem dX9_partOf_169 : decode cX9_partOf 169 = .ok (.lreturn, 1) := by decide +kernel
theorem dX9_orderValue_0 : decode cX9_orderValue 0 = .ok (.iload_n 1, 1) := by decide +kernel
theorem dX9_orderValue_1 : decode cX9_orderValue 1 = .ok (.tableswitch 101 15 21 #[43, 52, 58, 88, 96, 101, 66], 43) := by decide +kernel
theorem dX9_orderValue_44 : decode cX9_orderValue 44 = .ok (.aload_n 0, 1) := by decide +kernel
theorem dX9_orderValue_45 : decode cX9_orderValue 45 = .ok (.getfield 28, 3) := by decide +kernel
theorem dX9_orderValue_48 : decode cX9_orderValue 48 = .ok (.iconst 0, 1) := by decide +kernel
theorem dX9_orderValue_49 : decode cX9_orderValue 49 = .ok (.iload_n 2, 1) := by decide +kernel
theorem dX9_orderValue_50 : decode cX9_orderValue 50 = .ok (.iadd, 1) := by decide +kernel
theorem dX9_orderValue_51 : decode cX9_orderValue 51 = .ok (.iaload, 1) := by decide +kernel
theorem dX9_orderValue_52 : decode cX9_orderValue 52 = .ok (.ireturn, 1) := by decide +kernel
theorem dX9_orderValue_53 : decode cX9_orderValue 53 = .ok (.aload_n 0, 1) := by decide +kernel
theorem dX9_orderValue_54 : decode cX9_orderValue 54 = .ok (.iload_n 2, 1) := by decide +kernel
theorem dX9_orderValue_55 : decode cX9_orderValue 55 = .ok (.invokevirtual 132, 3) := by decide +kernel
theorem dX9_orderValue_58 : decode cX9_orderValue 58 = .ok (.ireturn, 1) := by decide +kernel
theorem dX9_orderValue_59 : decode cX9_orderValue 59 = .ok (.aload_n 0, 1) := by decide +kernel
theorem dX9_orderValue_60 : decode cX9_orderValue 60 = .ok (.iconst 5, 1) := by decide +kernel
theorem dX9_orderValue_61 : decode cX9_orderValue 61 = .ok (.iload_n 2, 1) := by decide +kernel
theorem dX9_orderValue_62 : decode cX9_orderValue 62 = .ok (.iadd, 1) := by decide +kernel
theorem dX9_orderValue_63 : decode cX9_orderValue 63 = .ok (.invokevirtual 132, 3) := by decide +kernel
theorem dX9_orderValue_66 : decode cX9_orderValue 66 = .ok (.ireturn, 1) := by decide +kernel
theorem dX9_orderValue_67 : decode cX9_orderValue 67 = .ok (.aload_n 0, 1) := by decide +kernel
theorem dX9_orderValue_68 : decode cX9_orderValue 68 = .ok (.iload_n 2, 1) := by decide +kernel
theorem dX9_orderValue_69 : decode cX9_orderValue 69 = .ok (.invokevirtual 136, 3) := by decide +kernel
theorem dX9_orderValue_72 : decode cX9_orderValue 72 = .ok (.ifCond .eq 15, 3) := by decide +kernel
theorem dX9_orderValue_75 : decode cX9_orderValue 75 = .ok (.aload_n 0, 1) := by decide +kernel
theorem dX9_orderValue_76 : decode cX9_orderValue 76 = .ok (.getfield 28, 3) := by decide +kernel
theorem dX9_orderValue_79 : decode cX9_orderValue 79 = .ok (.bipush 25, 2) := by decide +kernel
theorem dX9_orderValue_81 : decode cX9_orderValue 81 = .ok (.iload_n 2, 1) := by decide +kernel
theorem dX9_orderValue_82 : decode cX9_orderValue 82 = .ok (.iadd, 1) := by decide +kernel
theorem dX9_orderValue_83 : decode cX9_orderValue 83 = .ok (.iaload, 1) := by decide +kernel
theorem dX9_orderValue_84 : decode cX9_orderValue 84 = .ok (.goto 4, 3) := by decide +kernel
theorem dX9_orderValue_87 : decode cX9_orderValue 87 = .ok (.iconst (-1), 1) := by decide +kernel
theorem dX9_orderValue_88 : decode cX9_orderValue 88 = .ok (.ireturn, 1) := by decide +kernel
theorem dX9_orderValue_89 : decode cX9_orderValue 89 = .ok (.aload_n 0, 1) := by decide +kernel
theorem dX9_orderValue_90 : decode cX9_orderValue 90 = .ok (.getfield 28, 3) := by decide +kernel
theorem dX9_orderValue_93 : decode cX9_orderValue 93 = .ok (.bipush 31, 2) := by decide +kernel
theorem dX9_orderValue_95 : decode cX9_orderValue 95 = .ok (.iaload, 1) := by decide +kernel
theorem dX9_orderValue_96 : decode cX9_orderValue 96 = .ok (.ireturn, 1) := by decide +kernel
theorem dX9_orderValue_97 : decode cX9_orderValue 97 = .ok (.aload_n 0, 1) := by decide +kernel
theorem dX9_orderValue_98 : decode cX9_orderValue 98 = .ok (.getfield 294, 3) := by decide +kernel
theorem dX9_orderValue_101 : decode cX9_orderValue 101 = .ok (.ireturn, 1) := by decide +kernel
theorem dX9_orderValue_102 : decode cX9_orderValue 102 = .ok (.aload_n 0, 1) := by decide +kernel
theorem dX9_orderValue_103 : decode cX9_orderValue 103 = .ok (.getfield 297, 3) := by decide +kernel
theorem dX9_orderValue_106 : decode cX9_orderValue 106 = .ok (.ireturn, 1) := by decide +kernel
theorem dX9_testOf_0 : decode cX9_testOf 0 = .ok (.aload_n 0, 1) := by decide +kernel
theorem dX9_testOf_1 : decode cX9_testOf 1 = .ok (.iload_n 1, 1) := by decide +kernel
theorem dX9_testOf_2 : decode cX9_testOf 2 = .ok (.invokevirtual 300, 3) := by decide +kernel
theorem dX9_testOf_5 : decode cX9_testOf 5 = .ok (.istore_n 2, 1) := by decide +kernel
theorem dX9_testOf_6 : decode cX9_testOf 6 = .ok (.aload_n 0, 1) := by decide +kernel
theorem dX9_testOf_7 : decode cX9_testOf 7 = .ok (.bipush 6, 2) := by decide +kernel
theorem dX9_testOf_9 : decode cX9_testOf 9 = .ok (.invokevirtual 282, 3) := by decide +kernel
theorem dX9_testOf_12 : decode cX9_testOf 12 = .ok (.ifCond .eq 38, 3) := by decide +kernel
theorem dX9_testOf_15 : decode cX9_testOf 15 = .ok (.aload_n 0, 1) := by decide +kernel
theorem dX9_testOf_16 : decode cX9_testOf 16 = .ok (.iload_n 1, 1) := by decide +kernel
theorem dX9_testOf_17 : decode cX9_testOf 17 = .ok (.ifCond .eq 11, 3) := by decide +kernel
theorem dX9_testOf_20 : decode cX9_testOf 20 = .ok (.iload_n 2, 1) := by decide +kernel
theorem dX9_testOf_21 : decode cX9_testOf 21 = .ok (.ifCond .ne 7, 3) := by decide +kernel
theorem dX9_testOf_24 : decode cX9_testOf 24 = .ok (.iconst 1, 1) := by decide +kernel
theorem dX9_testOf_25 : decode cX9_testOf 25 = .ok (.goto 4, 3) := by decide +kernel
theorem dX9_testOf_28 : decode cX9_testOf 28 = .ok (.iconst 0, 1) := by decide +kernel
theorem dX9_testOf_29 : decode cX9_testOf 29 = .ok (.invokevirtual 300, 3) := by decide +kernel
theorem dX9_testOf_32 : decode cX9_testOf 32 = .ok (.istore_n 3, 1) := by decide +kernel
theorem dX9_testOf_33 : decode cX9_testOf 33 = .ok (.iload_n 2, 1) := by decide +kernel
theorem dX9_testOf_34 : decode cX9_testOf 34 = .ok (.ifCond .ne 7, 3) := by decide +kernel
theorem dX9_testOf_37 : decode cX9_testOf 37 = .ok (.iload_n 3, 1) := by decide +kernel
theorem dX9_testOf_38 : decode cX9_testOf 38 = .ok (.ifCond .eq 7, 3) := by decide +kernel
theorem dX9_testOf_41 : decode cX9_testOf 41 = .ok (.iconst 1, 1) := by decide +kernel
theorem dX9_testOf_42 : decode cX9_testOf 42 = .ok (.goto 4, 3) := by decide +kernel
theorem dX9_testOf_45 : decode cX9_testOf 45 = .ok (.iconst 0, 1) := by decide +kernel
theorem dX9_testOf_46 : decode cX9_testOf 46 = .ok (.istore_n 2, 1) := by decide +kernel
theorem dX9_testOf_47 : decode cX9_testOf 47 = .ok (.goto (-41), 3) := by decide +kernel
theorem dX9_testOf_50 : decode cX9_testOf 50 = .ok (.iload_n 2, 1) := by decide +kernel
theorem dX9_testOf_51 : decode cX9_testOf 51 = .ok (.ireturn, 1) := by decide +kernel
theorem dX9_bothOf_0 : decode cX9_bothOf 0 = .ok (.aload_n 0, 1) := by decide +kernel
theorem dX9_bothOf_1 : decode cX9_bothOf 1 = .ok (.iload_n 1, 1) := by decide +kernel
theorem dX9_bothOf_2 : decode cX9_bothOf 2 = .ok (.invokevirtual 303, 3) := by decide +kernel
theorem dX9_bothOf_5 : decode cX9_bothOf 5 = .ok (.istore_n 2, 1) := by decide +kernel
theorem dX9_bothOf_6 : decode cX9_bothOf 6 = .ok (.aload_n 0, 1) := by decide +kernel
theorem dX9_bothOf_7 : decode cX9_bothOf 7 = .ok (.bipush 7, 2) := by decide +kernel
theorem dX9_bothOf_9 : decode cX9_bothOf 9 = .ok (.invokevirtual 282, 3) := by decide +kernel
theorem dX9_bothOf_12 : decode cX9_bothOf 12 = .ok (.ifCond .eq 38, 3) := by decide +kernel
theorem dX9_bothOf_15 : decode cX9_bothOf 15 = .ok (.aload_n 0, 1) := by decide +kernel
theorem dX9_bothOf_16 : decode cX9_bothOf 16 = .ok (.iload_n 1, 1) := by decide +kernel
theorem dX9_bothOf_17 : decode cX9_bothOf 17 = .ok (.ifCond .eq 11, 3) := by decide +kernel
theorem dX9_bothOf_20 : decode cX9_bothOf 20 = .ok (.iload_n 2, 1) := by decide +kernel
theorem dX9_bothOf_21 : decode cX9_bothOf 21 = .ok (.ifCond .eq 7, 3) := by decide +kernel
theorem dX9_bothOf_24 : decode cX9_bothOf 24 = .ok (.iconst 1, 1) := by decide +kernel
theorem dX9_bothOf_25 : decode cX9_bothOf 25 = .ok (.goto 4, 3) := by decide +kernel
theorem dX9_bothOf_28 : decode cX9_bothOf 28 = .ok (.iconst 0, 1) := by decide +kernel
theorem dX9_bothOf_29 : decode cX9_bothOf 29 = .ok (.invokevirtual 303, 3) := by decide +kernel
theorem dX9_bothOf_32 : decode cX9_bothOf 32 = .ok (.istore_n 3, 1) := by decide +kernel
theorem dX9_bothOf_33 : decode cX9_bothOf 33 = .ok (.iload_n 2, 1) := by decide +kernel
theorem dX9_bothOf_34 : decode cX9_bothOf 34 = .ok (.ifCond .eq 11, 3) := by decide +kernel
theorem dX9_bothOf_37 : decode cX9_bothOf 37 = .ok (.iload_n 3, 1) := by decide +kernel
theorem dX9_bothOf_38 : decode cX9_bothOf 38 = .ok (.ifCond .eq 7, 3) := by decide +kernel
theorem dX9_bothOf_41 : decode cX9_bothOf 41 = .ok (.iconst 1, 1) := by decide +kernel
theorem dX9_bothOf_42 : decode cX9_bothOf 42 = .ok (.goto 4, 3) := by decide +kernel
theorem dX9_bothOf_45 : decode cX9_bothOf 45 = .ok (.iconst 0, 1) := by decide +kernel
theorem dX9_bothOf_46 : decode cX9_bothOf 46 = .ok (.istore_n 2, 1) := by decide +kernel
theorem dX9_bothOf_47 : decode cX9_bothOf 47 = .ok (.goto (-41), 3) := by decide +kernel
theorem dX9_bothOf_50 : decode cX9_bothOf 50 = .ok (.iload_n 2, 1) := by decide +kernel
theorem dX9_bothOf_51 : decode cX9_bothOf 51 = .ok (.ireturn, 1) := by decide +kernel
theorem dX9_plainOf_0 : decode cX9_plainOf 0 = .ok (.iconst 0, 1) := by decide +kernel
theorem dX9_plainOf_1 : decode cX9_plainOf 1 = .ok (.istore_n 2, 1) := by decide +kernel
theorem dX9_plainOf_2 : decode cX9_plainOf 2 = .ok (.aload_n 0, 1) := by decide +kernel
theorem dX9_plainOf_3 : decode cX9_plainOf 3 = .ok (.bipush 8, 2) := by decide +kernel
theorem dX9_plainOf_5 : decode cX9_plainOf 5 = .ok (.invokevirtual 282, 3) := by decide +kernel
theorem dX9_plainOf_8 : decode cX9_plainOf 8 = .ok (.ifCond .eq 16, 3) := by decide +kernel
theorem dX9_plainOf_11 : decode cX9_plainOf 11 = .ok (.iload_n 2, 1) := by decide +kernel
theorem dX9_plainOf_12 : decode cX9_plainOf 12 = .ok (.ifCond .ne 7, 3) := by decide +kernel
theorem dX9_plainOf_15 : decode cX9_plainOf 15 = .ok (.iconst 1, 1) := by decide +kernel
theorem dX9_plainOf_16 : decode cX9_plainOf 16 = .ok (.goto 4, 3) := by decide +kernel
theorem dX9_plainOf_19 : decode cX9_plainOf 19 = .ok (.iconst 0, 1) := by decide +kernel
theorem dX9_plainOf_20 : decode cX9_plainOf 20 = .ok (.istore_n 2, 1) := by decide +kernel
theorem dX9_plainOf_21 : decode cX9_plainOf 21 = .ok (.goto (-19), 3) := by decide +kernel
theorem dX9_plainOf_24 : decode cX9_plainOf 24 = .ok (.aload_n 0, 1) := by decide +kernel
theorem dX9_plainOf_25 : decode cX9_plainOf 25 = .ok (.iload_n 1, 1) := by decide +kernel
theorem dX9_plainOf_26 : decode cX9_plainOf 26 = .ok (.invokevirtual 306, 3) := by decide +kernel
theorem dX9_plainOf_29 : decode cX9_plainOf 29 = .ok (.iload_n 2, 1) := by decide +kernel
theorem dX9_plainOf_30 : decode cX9_plainOf 30 = .ok (.if_icmp .eq 7, 3) := by decide +kernel
theorem dX9_plainOf_33 : decode cX9_plainOf 33 = .ok (.iconst 1, 1) := by decide +kernel
theorem dX9_plainOf_34 : decode cX9_plainOf 34 = .ok (.goto 4, 3) := by decide +kernel
theorem dX9_plainOf_37 : decode cX9_plainOf 37 = .ok (.iconst 0, 1) := by decide +kernel
theorem dX9_plainOf_38 : decode cX9_plainOf 38 = .ok (.ireturn, 1) := by decide +kernel
theorem dX9_positiveOf_0 : decode cX9_positiveOf 0 = .ok (.aload_n 0, 1) := by decide +kernel
theorem dX9_positiveOf_1 : decode cX9_positiveOf 1 = .ok (.bipush 40, 2) := by decide +kernel
theorem dX9_positiveOf_3 : decode cX9_positiveOf 3 = .ok (.invokestatic 220, 3) := by decide +kernel
theorem dX9_positiveOf_6 : decode cX9_positiveOf 6 = .ok (.invokevirtual 282, 3) := by decide +kernel
theorem dX9_positiveOf_9 : decode cX9_positiveOf 9 = .ok (.ifCond .eq 21, 3) := by decide +kernel
theorem dX9_positiveOf_12 : decode cX9_positiveOf 12 = .ok (.aload_n 0, 1) := by decide +kernel
theorem dX9_positiveOf_13 : decode cX9_positiveOf 13 = .ok (.iload_n 1, 1) := by decide +kernel
theorem dX9_positiveOf_14 : decode cX9_positiveOf 14 = .ok (.invokevirtual 309, 3) := by decide +kernel
theorem dX9_positiveOf_17 : decode cX9_positiveOf 17 = .ok (.istore_n 2, 1) := by decide +kernel
theorem dX9_positiveOf_18 : decode cX9_positiveOf 18 = .ok (.aload_n 0, 1) := by decide +kernel
theorem dX9_positiveOf_19 : decode cX9_positiveOf 19 = .ok (.dup, 1) := by decide +kernel
theorem dX9_positiveOf_20 : decode cX9_positiveOf 20 = .ok (.getfield 258, 3) := by decide +kernel
theorem dX9_positiveOf_23 : decode cX9_positiveOf 23 = .ok (.iconst 1, 1) := by decide +kernel
theorem dX9_positiveOf_24 : decode cX9_positiveOf 24 = .ok (.iadd, 1) := by decide +kernel
theorem dX9_positiveOf_25 : decode cX9_positiveOf 25 = .ok (.putfield 258, 3) := by decide +kernel
theorem dX9_positiveOf_28 : decode cX9_positiveOf 28 = .ok (.iload_n 2, 1) := by decide +kernel
theorem dX9_positiveOf_29 : decode cX9_positiveOf 29 = .ok (.ireturn, 1) := by decide +kernel
theorem dX9_positiveOf_30 : decode cX9_positiveOf 30 = .ok (.aload_n 0, 1) := by decide +kernel
theorem dX9_positiveOf_31 : decode cX9_positiveOf 31 = .ok (.iload_n 1, 1) := by decide +kernel
theorem dX9_positiveOf_32 : decode cX9_positiveOf 32 = .ok (.invokevirtual 285, 3) := by decide +kernel
theorem dX9_positiveOf_35 : decode cX9_positiveOf 35 = .ok (.lstore_n 2, 1) := by decide +kernel
theorem dX9_positiveOf_36 : decode cX9_positiveOf 36 = .ok (.aload_n 0, 1) := by decide +kernel
theorem dX9_positiveOf_37 : decode cX9_positiveOf 37 = .ok (.aload_n 0, 1) := by decide +kernel
theorem dX9_positiveOf_38 : decode cX9_positiveOf 38 = .ok (.getfield 258, 3) := by decide +kernel
theorem dX9_positiveOf_41 : decode cX9_positiveOf 41 = .ok (.invokevirtual 261, 3) := by decide +kernel
theorem dX9_positiveOf_44 : decode cX9_positiveOf 44 = .ok (.istore 4, 2) := by decide +kernel
theorem dX9_positiveOf_46 : decode cX9_positiveOf 46 = .ok (.aload_n 0, 1) := by decide +kernel
theorem dX9_positiveOf_47 : decode cX9_positiveOf 47 = .ok (.dup, 1) := by decide +kernel
theorem dX9_positiveOf_48 : decode cX9_positiveOf 48 = .ok (.getfield 258, 3) := by decide +kernel
theorem dX9_positiveOf_51 : decode cX9_positiveOf 51 = .ok (.iconst 1, 1) := by decide +kernel
theorem dX9_positiveOf_52 : decode cX9_positiveOf 52 = .ok (.iadd, 1) := by decide +kernel
theorem dX9_positiveOf_53 : decode cX9_positiveOf 53 = .ok (.putfield 258, 3) := by decide +kernel
theorem dX9_positiveOf_56 : decode cX9_positiveOf 56 = .ok (.aload_n 0, 1) := by decide +kernel
theorem dX9_positiveOf_57 : decode cX9_positiveOf 57 = .ok (.iload_n 1, 1) := by decide +kernel
theorem dX9_positiveOf_58 : decode cX9_positiveOf 58 = .ok (.invokevirtual 285, 3) := by decide +kernel
theorem dX9_positiveOf_61 : decode cX9_positiveOf 61 = .ok (.lstore 5, 2) := by decide +kernel
theorem dX9_positiveOf_63 : decode cX9_positiveOf 63 = .ok (.iload_n 1, 1) := by decide +kernel
theorem dX9_positiveOf_64 : decode cX9_positiveOf 64 = .ok (.ifCond .eq 61, 3) := by decide +kernel
theorem dX9_positiveOf_67 : decode cX9_positiveOf 67 = .ok (.aload_n 0, 1) := by decide +kernel
theorem dX9_positiveOf_68 : decode cX9_positiveOf 68 = .ok (.getfield 268, 3) := by decide +kernel
theorem dX9_positiveOf_71 : decode cX9_positiveOf 71 = .ok (.ifCond .ne 54, 3) := by decide +kernel
theorem dX9_positiveOf_74 : decode cX9_positiveOf 74 = .ok (.iload 4, 2) := by decide +kernel
theorem dX9_positiveOf_76 : decode cX9_positiveOf 76 = .ok (.bipush 60, 2) := by decide +kernel
theorem dX9_positiveOf_78 : decode cX9_positiveOf 78 = .ok (.invokestatic 220, 3) := by decide +kernel
theorem dX9_positiveOf_81 : decode cX9_positiveOf 81 = .ok (.if_icmp .ne 13, 3) := by decide +kernel
theorem dX9_positiveOf_84 : decode cX9_positiveOf 84 = .ok (.lload_n 2, 1) := by decide +kernel
theorem dX9_positiveOf_85 : decode cX9_positiveOf 85 = .ok (.lload 5, 2) := by decide +kernel
theorem dX9_positiveOf_87 : decode cX9_positiveOf 87 = .ok (.lcmp, 1) := by decide +kernel
theorem dX9_positiveOf_88 : decode cX9_positiveOf 88 = .ok (.ifCond .ge 37, 3) := by decide +kernel
theorem dX9_positiveOf_91 : decode cX9_positiveOf 91 = .ok (.goto 30, 3) := by decide +kernel
theorem dX9_positiveOf_94 : decode cX9_positiveOf 94 = .ok (.iload 4, 2) := by decide +kernel
theorem dX9_positiveOf_96 : decode cX9_positiveOf 96 = .ok (.bipush 62, 2) := by decide +kernel
theorem dX9_positiveOf_98 : decode cX9_positiveOf 98 = .ok (.invokestatic 220, 3) := by decide +kernel
theorem dX9_positiveOf_101 : decode cX9_positiveOf 101 = .ok (.if_icmp .ne 13, 3) := by decide +kernel
theorem dX9_positiveOf_104 : decode cX9_positiveOf 104 = .ok (.lload_n 2, 1) := by decide +kernel
theorem dX9_positiveOf_105 : decode cX9_positiveOf 105 = .ok (.lload 5, 2) := by decide +kernel
theorem dX9_positiveOf_107 : decode cX9_positiveOf 107 = .ok (.lcmp, 1) := by decide +kernel
theorem dX9_positiveOf_108 : decode cX9_positiveOf 108 = .ok (.ifCond .le 17, 3) := by decide +kernel
theorem dX9_positiveOf_111 : decode cX9_positiveOf 111 = .ok (.goto 10, 3) := by decide +kernel
theorem dX9_positiveOf_114 : decode cX9_positiveOf 114 = .ok (.lload_n 2, 1) := by decide +kernel
theorem dX9_positiveOf_115 : decode cX9_positiveOf 115 = .ok (.lload 5, 2) := by decide +kernel
theorem dX9_positiveOf_117 : decode cX9_positiveOf 117 = .ok (.lcmp, 1) := by decide +kernel
theorem dX9_positiveOf_118 : decode cX9_positiveOf 118 = .ok (.ifCond .ne 7, 3) := by decide +kernel
theorem dX9_positiveOf_121 : decode cX9_positiveOf 121 = .ok (.iconst 1, 1) := by decide +kernel
theorem dX9_positiveOf_122 : decode cX9_positiveOf 122 = .ok (.goto 4, 3) := by decide +kernel
theorem dX9_positiveOf_125 : decode cX9_positiveOf 125 = .ok (.iconst 0, 1) := by decide +kernel
theorem dX9_positiveOf_126 : decode cX9_positiveOf 126 = .ok (.ireturn, 1) := by decide +kernel
theorem dX9_setsAsked_0 : decode cX9_setsAsked 0 = .ok (.aload_n 0, 1) := by decide +kernel
theorem dX9_setsAsked_1 : decode cX9_setsAsked 1 = .ok (.getfield 63, 3) := by decide +kernel
theorem dX9_setsAsked_4 : decode cX9_setsAsked 4 = .ok (.iconst 0, 1) := by decide +kernel
theorem dX9_setsAsked_5 : decode cX9_setsAsked 5 = .ok (.iload_n 2, 1) := by decide +kernel
theorem dX9_setsAsked_6 : decode cX9_setsAsked 6 = .ok (.iastore, 1) := by decide +kernel
theorem dX9_setsAsked_7 : decode cX9_setsAsked 7 = .ok (.aload_n 0, 1) := by decide +kernel
theorem dX9_setsAsked_8 : decode cX9_setsAsked 8 = .ok (.getfield 63, 3) := by decide +kernel
theorem dX9_setsAsked_11 : decode cX9_setsAsked 11 = .ok (.iconst 1, 1) := by decide +kernel
theorem dX9_setsAsked_12 : decode cX9_setsAsked 12 = .ok (.iload_n 2, 1) := by decide +kernel
theorem dX9_setsAsked_13 : decode cX9_setsAsked 13 = .ok (.iconst 5, 1) := by decide +kernel
theorem dX9_setsAsked_14 : decode cX9_setsAsked 14 = .ok (.idiv, 1) := by decide +kernel
theorem dX9_setsAsked_15 : decode cX9_setsAsked 15 = .ok (.iastore, 1) := by decide +kernel
theorem dX9_setsAsked_16 : decode cX9_setsAsked 16 = .ok (.aload_n 0, 1) := by decide +kernel
theorem dX9_setsAsked_17 : decode cX9_setsAsked 17 = .ok (.getfield 63, 3) := by decide +kernel
theorem dX9_setsAsked_20 : decode cX9_setsAsked 20 = .ok (.iconst 2, 1) := by decide +kernel
theorem dX9_setsAsked_21 : decode cX9_setsAsked 21 = .ok (.iload_n 2, 1) := by decide +kernel
theorem dX9_setsAsked_22 : decode cX9_setsAsked 22 = .ok (.iconst 5, 1) := by decide +kernel
theorem dX9_setsAsked_23 : decode cX9_setsAsked 23 = .ok (.irem, 1) := by decide +kernel
theorem dX9_setsAsked_24 : decode cX9_setsAsked 24 = .ok (.iastore, 1) := by decide +kernel
theorem dX9_setsAsked_25 : decode cX9_setsAsked 25 = .ok (.aload_n 0, 1) := by decide +kernel
theorem dX9_setsAsked_26 : decode cX9_setsAsked 26 = .ok (.getfield 63, 3) := by decide +kernel
theorem dX9_setsAsked_29 : decode cX9_setsAsked 29 = .ok (.iconst 3, 1) := by decide +kernel
theorem dX9_setsAsked_30 : decode cX9_setsAsked 30 = .ok (.iload_n 1, 1) := by decide +kernel
theorem dX9_setsAsked_31 : decode cX9_setsAsked 31 = .ok (.iastore, 1) := by decide +kernel
theorem dX9_setsAsked_32 : decode cX9_setsAsked 32 = .ok (.aload_n 0, 1) := by decide +kernel
theorem dX9_setsAsked_33 : decode cX9_setsAsked 33 = .ok (.getfield 63, 3) := by decide +kernel
theorem dX9_setsAsked_36 : decode cX9_setsAsked 36 = .ok (.iconst 4, 1) := by decide +kernel
theorem dX9_setsAsked_37 : decode cX9_setsAsked 37 = .ok (.iload_n 1, 1) := by decide +kernel
theorem dX9_setsAsked_38 : decode cX9_setsAsked 38 = .ok (.iconst (-1), 1) := by decide +kernel
theorem dX9_setsAsked_39 : decode cX9_setsAsked 39 = .ok (.if_icmp .ne 7, 3) := by decide +kernel
theorem dX9_setsAsked_42 : decode cX9_setsAsked 42 = .ok (.iconst (-1), 1) := by decide +kernel
theorem dX9_setsAsked_43 : decode cX9_setsAsked 43 = .ok (.goto 12, 3) := by decide +kernel
theorem dX9_setsAsked_46 : decode cX9_setsAsked 46 = .ok (.aload_n 0, 1) := by decide +kernel
theorem dX9_setsAsked_47 : decode cX9_setsAsked 47 = .ok (.getfield 28, 3) := by decide +kernel
theorem dX9_setsAsked_50 : decode cX9_setsAsked 50 = .ok (.bipush 42, 2) := by decide +kernel
theorem dX9_setsAsked_52 : decode cX9_setsAsked 52 = .ok (.iload_n 1, 1) := by decide +kernel
theorem dX9_setsAsked_53 : decode cX9_setsAsked 53 = .ok (.iadd, 1) := by decide +kernel
theorem dX9_setsAsked_54 : decode cX9_setsAsked 54 = .ok (.iaload, 1) := by decide +kernel
theorem dX9_setsAsked_55 : decode cX9_setsAsked 55 = .ok (.iastore, 1) := by decide +kernel
theorem dX9_setsAsked_56 : decode cX9_setsAsked 56 = .ok (.aload_n 0, 1) := by decide +kernel
theorem dX9_setsAsked_57 : decode cX9_setsAsked 57 = .ok (.getfield 63, 3) := by decide +kernel
theorem dX9_setsAsked_60 : decode cX9_setsAsked 60 = .ok (.iconst 5, 1) := by decide +kernel
theorem dX9_setsAsked_61 : decode cX9_setsAsked 61 = .ok (.aload_n 0, 1) := by decide +kernel
theorem dX9_setsAsked_62 : decode cX9_setsAsked 62 = .ok (.getfield 28, 3) := by decide +kernel
theorem dX9_setsAsked_65 : decode cX9_setsAsked 65 = .ok (.bipush 102, 2) := by decide +kernel
theorem dX9_setsAsked_67 : decode cX9_setsAsked 67 = .ok (.iaload, 1) := by decide +kernel
theorem dX9_setsAsked_68 : decode cX9_setsAsked 68 = .ok (.iastore, 1) := by decide +kernel
theorem dX9_setsAsked_69 : decode cX9_setsAsked 69 = .ok (.aload_n 0, 1) := by decide +kernel
theorem dX9_setsAsked_70 : decode cX9_setsAsked 70 = .ok (.getfield 63, 3) := by decide +kernel
theorem dX9_setsAsked_73 : decode cX9_setsAsked 73 = .ok (.bipush 6, 2) := by decide +kernel
theorem dX9_setsAsked_75 : decode cX9_setsAsked 75 = .ok (.aload_n 0, 1) := by decide +kernel
theorem dX9_setsAsked_76 : decode cX9_setsAsked 76 = .ok (.getfield 28, 3) := by decide +kernel
theorem dX9_setsAsked_79 : decode cX9_setsAsked 79 = .ok (.iconst 0, 1) := by decide +kernel
theorem dX9_setsAsked_80 : decode cX9_setsAsked 80 = .ok (.iload_n 2, 1) := by decide +kernel
