theorem dX8_asks_49 : decode cX8_asks 49 = .ok (.getfield 57, 3) := by decide +kernel
theorem dX8_asks_52 : decode cX8_asks 52 = .ok (.aload_n 0, 1) := by decide +kernel
theorem dX8_asks_53 : decode cX8_asks 53 = .ok (.getfield 12, 3) := by decide +kernel
theorem dX8_asks_56 : decode cX8_asks 56 = .ok (.aload_n 0, 1) := by decide +kernel
theorem dX8_asks_57 : decode cX8_asks 57 = .ok (.getfield 12, 3) := by decide +kernel
theorem dX8_asks_60 : decode cX8_asks 60 = .ok (.invokevirtual 113, 3) := by decide +kernel
theorem dX8_asks_63 : decode cX8_asks 63 = .ok (.iconst 1, 1) := by decide +kernel
theorem dX8_asks_64 : decode cX8_asks 64 = .ok (.iload_n 2, 1) := by decide +kernel
theorem dX8_asks_65 : decode cX8_asks 65 = .ok (.iload_n 1, 1) := by decide +kernel
theorem dX8_asks_66 : decode cX8_asks 66 = .ok (.invokevirtual 117, 3) := by decide +kernel
theorem dX8_asks_69 : decode cX8_asks 69 = .ok (.bipush 99, 2) := by decide +kernel
theorem dX8_asks_71 : decode cX8_asks 71 = .ok (.bipush 10, 2) := by decide +kernel
theorem dX8_asks_73 : decode cX8_asks 73 = .ok (.invokestatic 121, 3) := by decide +kernel
theorem dX8_asks_76 : decode cX8_asks 76 = .ok (.ireturn, 1) := by decide +kernel
theorem dX8_asks_77 : decode cX8_asks 77 = .ok (.aload_n 0, 1) := by decide +kernel
theorem dX8_asks_78 : decode cX8_asks 78 = .ok (.getfield 57, 3) := by decide +kernel
theorem dX8_asks_81 : decode cX8_asks 81 = .ok (.aload_n 0, 1) := by decide +kernel
theorem dX8_asks_82 : decode cX8_asks 82 = .ok (.getfield 12, 3) := by decide +kernel
theorem dX8_asks_85 : decode cX8_asks 85 = .ok (.aload_n 0, 1) := by decide +kernel
theorem dX8_asks_86 : decode cX8_asks 86 = .ok (.getfield 12, 3) := by decide +kernel
theorem dX8_asks_89 : decode cX8_asks 89 = .ok (.invokevirtual 113, 3) := by decide +kernel
theorem dX8_asks_92 : decode cX8_asks 92 = .ok (.iconst 3, 1) := by decide +kernel
theorem dX8_asks_93 : decode cX8_asks 93 = .ok (.iload_n 2, 1) := by decide +kernel
theorem dX8_asks_94 : decode cX8_asks 94 = .ok (.iload_n 1, 1) := by decide +kernel
theorem dX8_asks_95 : decode cX8_asks 95 = .ok (.invokevirtual 117, 3) := by decide +kernel
theorem dX8_asks_98 : decode cX8_asks 98 = .ok (.ldc 125, 2) := by decide +kernel
theorem dX8_asks_100 : decode cX8_asks 100 = .ok (.if_icmp .ne 7, 3) := by decide +kernel
theorem dX8_asks_103 : decode cX8_asks 103 = .ok (.iconst 0, 1) := by decide +kernel
theorem dX8_asks_104 : decode cX8_asks 104 = .ok (.goto 4, 3) := by decide +kernel
theorem dX8_asks_107 : decode cX8_asks 107 = .ok (.iconst 1, 1) := by decide +kernel
theorem dX8_asks_108 : decode cX8_asks 108 = .ok (.ireturn, 1) := by decide +kernel
theorem dX8_asks_109 : decode cX8_asks 109 = .ok (.iconst (-1), 1) := by decide +kernel
theorem dX8_asks_110 : decode cX8_asks 110 = .ok (.ireturn, 1) := by decide +kernel
theorem dX8_terms_0 : decode cX8_terms 0 = .ok (.iload_n 1, 1) := by decide +kernel
theorem dX8_terms_1 : decode cX8_terms 1 = .ok (.iconst 0, 1) := by decide +kernel
theorem dX8_terms_2 : decode cX8_terms 2 = .ok (.iconst 2, 1) := by decide +kernel
theorem dX8_terms_3 : decode cX8_terms 3 = .ok (.invokestatic 93, 3) := by decide +kernel
theorem dX8_terms_6 : decode cX8_terms 6 = .ok (.ifCond .eq 16, 3) := by decide +kernel
theorem dX8_terms_9 : decode cX8_terms 9 = .ok (.iload_n 2, 1) := by decide +kernel
theorem dX8_terms_10 : decode cX8_terms 10 = .ok (.iconst 0, 1) := by decide +kernel
theorem dX8_terms_11 : decode cX8_terms 11 = .ok (.getstatic 153, 3) := by decide +kernel
theorem dX8_terms_14 : decode cX8_terms 14 = .ok (.iload_n 1, 1) := by decide +kernel
theorem dX8_terms_15 : decode cX8_terms 15 = .ok (.iaload, 1) := by decide +kernel
theorem dX8_terms_16 : decode cX8_terms 16 = .ok (.invokestatic 93, 3) := by decide +kernel
theorem dX8_terms_19 : decode cX8_terms 19 = .ok (.ifCond .ne 9, 3) := by decide +kernel
theorem dX8_terms_22 : decode cX8_terms 22 = .ok (.aload_n 0, 1) := by decide +kernel
theorem dX8_terms_23 : decode cX8_terms 23 = .ok (.iconst (-1), 1) := by decide +kernel
theorem dX8_terms_24 : decode cX8_terms 24 = .ok (.invokevirtual 97, 3) := by decide +kernel
theorem dX8_terms_27 : decode cX8_terms 27 = .ok (.ireturn, 1) := by decide +kernel
theorem dX8_terms_28 : decode cX8_terms 28 = .ok (.aload_n 0, 1) := by decide +kernel
theorem dX8_terms_29 : decode cX8_terms 29 = .ok (.getfield 12, 3) := by decide +kernel
theorem dX8_terms_32 : decode cX8_terms 32 = .ok (.getfield 156, 3) := by decide +kernel
theorem dX8_terms_35 : decode cX8_terms 35 = .ok (.iload_n 1, 1) := by decide +kernel
theorem dX8_terms_36 : decode cX8_terms 36 = .ok (.iaload, 1) := by decide +kernel
theorem dX8_terms_37 : decode cX8_terms 37 = .ok (.istore_n 3, 1) := by decide +kernel
theorem dX8_terms_38 : decode cX8_terms 38 = .ok (.aload_n 0, 1) := by decide +kernel
theorem dX8_terms_39 : decode cX8_terms 39 = .ok (.getfield 12, 3) := by decide +kernel
theorem dX8_terms_42 : decode cX8_terms 42 = .ok (.getfield 156, 3) := by decide +kernel
theorem dX8_terms_45 : decode cX8_terms 45 = .ok (.iload_n 1, 1) := by decide +kernel
theorem dX8_terms_46 : decode cX8_terms 46 = .ok (.iload_n 2, 1) := by decide +kernel
theorem dX8_terms_47 : decode cX8_terms 47 = .ok (.iastore, 1) := by decide +kernel
theorem dX8_terms_48 : decode cX8_terms 48 = .ok (.aload_n 0, 1) := by decide +kernel
theorem dX8_terms_49 : decode cX8_terms 49 = .ok (.getfield 29, 3) := by decide +kernel
theorem dX8_terms_52 : decode cX8_terms 52 = .ok (.invokevirtual 104, 3) := by decide +kernel
theorem dX8_terms_55 : decode cX8_terms 55 = .ok (.aload_n 0, 1) := by decide +kernel
theorem dX8_terms_56 : decode cX8_terms 56 = .ok (.iload_n 3, 1) := by decide +kernel
theorem dX8_terms_57 : decode cX8_terms 57 = .ok (.invokevirtual 107, 3) := by decide +kernel
theorem dX8_terms_60 : decode cX8_terms 60 = .ok (.ireturn, 1) := by decide +kernel
theorem dX8_feed_0 : decode cX8_feed 0 = .ok (.aload_n 0, 1) := by decide +kernel
theorem dX8_feed_1 : decode cX8_feed 1 = .ok (.getfield 159, 3) := by decide +kernel
theorem dX8_feed_4 : decode cX8_feed 4 = .ok (.bipush 20, 2) := by decide +kernel
theorem dX8_feed_6 : decode cX8_feed 6 = .ok (.iadd, 1) := by decide +kernel
theorem dX8_feed_7 : decode cX8_feed 7 = .ok (.sipush 400, 3) := by decide +kernel
theorem dX8_feed_10 : decode cX8_feed 10 = .ok (.if_icmp .le 5, 3) := by decide +kernel
theorem dX8_feed_13 : decode cX8_feed 13 = .ok (.iconst (-1), 1) := by decide +kernel
theorem dX8_feed_14 : decode cX8_feed 14 = .ok (.ireturn, 1) := by decide +kernel
theorem dX8_feed_15 : decode cX8_feed 15 = .ok (.aload_n 0, 1) := by decide +kernel
theorem dX8_feed_16 : decode cX8_feed 16 = .ok (.iload_n 1, 1) := by decide +kernel
theorem dX8_feed_17 : decode cX8_feed 17 = .ok (.invokevirtual 162, 3) := by decide +kernel
theorem dX8_feed_20 : decode cX8_feed 20 = .ok (.aload_n 0, 1) := by decide +kernel
theorem dX8_feed_21 : decode cX8_feed 21 = .ok (.iload_n 2, 1) := by decide +kernel
theorem dX8_feed_22 : decode cX8_feed 22 = .ok (.invokevirtual 162, 3) := by decide +kernel
theorem dX8_feed_25 : decode cX8_feed 25 = .ok (.aload_n 0, 1) := by decide +kernel
theorem dX8_feed_26 : decode cX8_feed 26 = .ok (.iload_n 3, 1) := by decide +kernel
theorem dX8_feed_27 : decode cX8_feed 27 = .ok (.invokevirtual 162, 3) := by decide +kernel
theorem dX8_feed_30 : decode cX8_feed 30 = .ok (.aload_n 0, 1) := by decide +kernel
theorem dX8_feed_31 : decode cX8_feed 31 = .ok (.iload 4, 2) := by decide +kernel
theorem dX8_feed_33 : decode cX8_feed 33 = .ok (.invokevirtual 162, 3) := by decide +kernel
theorem dX8_feed_36 : decode cX8_feed 36 = .ok (.aload_n 0, 1) := by decide +kernel
theorem dX8_feed_37 : decode cX8_feed 37 = .ok (.iload 5, 2) := by decide +kernel
theorem dX8_feed_39 : decode cX8_feed 39 = .ok (.invokevirtual 162, 3) := by decide +kernel
theorem dX8_feed_42 : decode cX8_feed 42 = .ok (.aload_n 0, 1) := by decide +kernel
theorem dX8_feed_43 : decode cX8_feed 43 = .ok (.getfield 159, 3) := by decide +kernel
theorem dX8_feed_46 : decode cX8_feed 46 = .ok (.ireturn, 1) := by decide +kernel
theorem dX8_end_0 : decode cX8_end 0 = .ok (.iload_n 1, 1) := by decide +kernel
theorem dX8_end_1 : decode cX8_end 1 = .ok (.iconst 0, 1) := by decide +kernel
theorem dX8_end_2 : decode cX8_end 2 = .ok (.aload_n 0, 1) := by decide +kernel
theorem dX8_end_3 : decode cX8_end 3 = .ok (.getfield 159, 3) := by decide +kernel
theorem dX8_end_6 : decode cX8_end 6 = .ok (.invokestatic 93, 3) := by decide +kernel
theorem dX8_end_9 : decode cX8_end 9 = .ok (.ifCond .ne 5, 3) := by decide +kernel
theorem dX8_end_12 : decode cX8_end 12 = .ok (.iconst (-1), 1) := by decide +kernel
theorem dX8_end_13 : decode cX8_end 13 = .ok (.ireturn, 1) := by decide +kernel
theorem dX8_end_14 : decode cX8_end 14 = .ok (.aload_n 0, 1) := by decide +kernel
theorem dX8_end_15 : decode cX8_end 15 = .ok (.iload_n 1, 1) := by decide +kernel
theorem dX8_end_16 : decode cX8_end 16 = .ok (.putfield 159, 3) := by decide +kernel
theorem dX8_end_19 : decode cX8_end 19 = .ok (.iload_n 1, 1) := by decide +kernel
theorem dX8_end_20 : decode cX8_end 20 = .ok (.ireturn, 1) := by decide +kernel
theorem dX8_row_0 : decode cX8_row 0 = .ok (.aload_n 0, 1) := by decide +kernel
theorem dX8_row_1 : decode cX8_row 1 = .ok (.getfield 159, 3) := by decide +kernel
theorem dX8_row_4 : decode cX8_row 4 = .ok (.ifCond .ne 10, 3) := by decide +kernel
theorem dX8_row_7 : decode cX8_row 7 = .ok (.aload_n 0, 1) := by decide +kernel
theorem dX8_row_8 : decode cX8_row 8 = .ok (.bipush (-6), 2) := by decide +kernel
theorem dX8_row_10 : decode cX8_row 10 = .ok (.invokevirtual 97, 3) := by decide +kernel
theorem dX8_row_13 : decode cX8_row 13 = .ok (.ireturn, 1) := by decide +kernel
theorem dX8_row_14 : decode cX8_row 14 = .ok (.iconst 0, 1) := by decide +kernel
theorem dX8_row_15 : decode cX8_row 15 = .ok (.istore_n 1, 1) := by decide +kernel
theorem dX8_row_16 : decode cX8_row 16 = .ok (.aload_n 0, 1) := by decide +kernel
theorem dX8_row_17 : decode cX8_row 17 = .ok (.iconst 0, 1) := by decide +kernel
theorem dX8_row_18 : decode cX8_row 18 = .ok (.putfield 166, 3) := by decide +kernel
theorem dX8_row_21 : decode cX8_row 21 = .ok (.iconst 0, 1) := by decide +kernel
theorem dX8_row_22 : decode cX8_row 22 = .ok (.istore_n 2, 1) := by decide +kernel
theorem dX8_row_23 : decode cX8_row 23 = .ok (.iload_n 2, 1) := by decide +kernel
theorem dX8_row_24 : decode cX8_row 24 = .ok (.aload_n 0, 1) := by decide +kernel
theorem dX8_row_25 : decode cX8_row 25 = .ok (.getfield 159, 3) := by decide +kernel
theorem dX8_row_28 : decode cX8_row 28 = .ok (.if_icmp .ge 107, 3) := by decide +kernel
theorem dX8_row_31 : decode cX8_row 31 = .ok (.iload_n 2, 1) := by decide +kernel
theorem dX8_row_32 : decode cX8_row 32 = .ok (.iconst 2, 1) := by decide +kernel
theorem dX8_row_33 : decode cX8_row 33 = .ok (.iadd, 1) := by decide +kernel
theorem dX8_row_34 : decode cX8_row 34 = .ok (.aload_n 0, 1) := by decide +kernel
theorem dX8_row_35 : decode cX8_row 35 = .ok (.getfield 159, 3) := by decide +kernel
theorem dX8_row_38 : decode cX8_row 38 = .ok (.if_icmp .ge 81, 3) := by decide +kernel
theorem dX8_row_41 : decode cX8_row 41 = .ok (.aload_n 0, 1) := by decide +kernel
theorem dX8_row_42 : decode cX8_row 42 = .ok (.getfield 36, 3) := by decide +kernel
theorem dX8_row_45 : decode cX8_row 45 = .ok (.iload_n 2, 1) := by decide +kernel
theorem dX8_row_46 : decode cX8_row 46 = .ok (.iaload, 1) := by decide +kernel
theorem dX8_row_47 : decode cX8_row 47 = .ok (.invokestatic 89, 3) := by decide +kernel
theorem dX8_row_50 : decode cX8_row 50 = .ok (.ifCond .eq 69, 3) := by decide +kernel
theorem dX8_row_53 : decode cX8_row 53 = .ok (.aload_n 0, 1) := by decide +kernel
theorem dX8_row_54 : decode cX8_row 54 = .ok (.getfield 36, 3) := by decide +kernel
theorem dX8_row_57 : decode cX8_row 57 = .ok (.iload_n 2, 1) := by decide +kernel
theorem dX8_row_58 : decode cX8_row 58 = .ok (.iconst 1, 1) := by decide +kernel
theorem dX8_row_59 : decode cX8_row 59 = .ok (.iadd, 1) := by decide +kernel
theorem dX8_row_60 : decode cX8_row 60 = .ok (.iaload, 1) := by decide +kernel
theorem dX8_row_61 : decode cX8_row 61 = .ok (.bipush 9, 2) := by decide +kernel
theorem dX8_row_63 : decode cX8_row 63 = .ok (.if_icmp .gt 56, 3) := by decide +kernel
theorem dX8_row_66 : decode cX8_row 66 = .ok (.aload_n 0, 1) := by decide +kernel
theorem dX8_row_67 : decode cX8_row 67 = .ok (.getfield 36, 3) := by decide +kernel
theorem dX8_row_70 : decode cX8_row 70 = .ok (.iload_n 2, 1) := by decide +kernel
theorem dX8_row_71 : decode cX8_row 71 = .ok (.iconst 2, 1) := by decide +kernel
theorem dX8_row_72 : decode cX8_row 72 = .ok (.iadd, 1) := by decide +kernel
theorem dX8_row_73 : decode cX8_row 73 = .ok (.iaload, 1) := by decide +kernel
theorem dX8_row_74 : decode cX8_row 74 = .ok (.bipush 99, 2) := by decide +kernel
theorem dX8_row_76 : decode cX8_row 76 = .ok (.if_icmp .gt 43, 3) := by decide +kernel
theorem dX8_row_79 : decode cX8_row 79 = .ok (.aload_n 0, 1) := by decide +kernel
theorem dX8_row_80 : decode cX8_row 80 = .ok (.getfield 12, 3) := by decide +kernel
theorem dX8_row_83 : decode cX8_row 83 = .ok (.getfield 101, 3) := by decide +kernel
theorem dX8_row_86 : decode cX8_row 86 = .ok (.aload_n 0, 1) := by decide +kernel
theorem dX8_row_87 : decode cX8_row 87 = .ok (.getfield 36, 3) := by decide +kernel
theorem dX8_row_90 : decode cX8_row 90 = .ok (.iload_n 2, 1) := by decide +kernel
theorem dX8_row_91 : decode cX8_row 91 = .ok (.iaload, 1) := by decide +kernel
theorem dX8_row_92 : decode cX8_row 92 = .ok (.bipush 100, 2) := by decide +kernel
theorem dX8_row_94 : decode cX8_row 94 = .ok (.aload_n 0, 1) := by decide +kernel
theorem dX8_row_95 : decode cX8_row 95 = .ok (.getfield 36, 3) := by decide +kernel
theorem dX8_row_98 : decode cX8_row 98 = .ok (.iload_n 2, 1) := by decide +kernel
theorem dX8_row_99 : decode cX8_row 99 = .ok (.iconst 1, 1) := by decide +kernel
theorem dX8_row_100 : decode cX8_row 100 = .ok (.iadd, 1) := by decide +kernel
theorem dX8_row_101 : decode cX8_row 101 = .ok (.iaload, 1) := by decide +kernel
theorem dX8_row_102 : decode cX8_row 102 = .ok (.imul, 1) := by decide +kernel
theorem dX8_row_103 : decode cX8_row 103 = .ok (.aload_n 0, 1) := by decide +kernel
theorem dX8_row_104 : decode cX8_row 104 = .ok (.getfield 36, 3) := by decide +kernel
theorem dX8_row_107 : decode cX8_row 107 = .ok (.iload_n 2, 1) := by decide +kernel
theorem dX8_row_108 : decode cX8_row 108 = .ok (.iconst 2, 1) := by decide +kernel
theorem dX8_row_109 : decode cX8_row 109 = .ok (.iadd, 1) := by decide +kernel
theorem dX8_row_110 : decode cX8_row 110 = .ok (.iaload, 1) := by decide +kernel
theorem dX8_row_111 : decode cX8_row 111 = .ok (.iadd, 1) := by decide +kernel
theorem dX8_row_112 : decode cX8_row 112 = .ok (.iastore, 1) := by decide +kernel
theorem dX8_row_113 : decode cX8_row 113 = .ok (.iinc 1 1, 3) := by decide +kernel
theorem dX8_row_116 : decode cX8_row 116 = .ok (.goto 13, 3) := by decide +kernel
theorem dX8_row_119 : decode cX8_row 119 = .ok (.aload_n 0, 1) := by decide +kernel
theorem dX8_row_120 : decode cX8_row 120 = .ok (.dup, 1) := by decide +kernel
theorem dX8_row_121 : decode cX8_row 121 = .ok (.getfield 166, 3) := by decide +kernel
theorem dX8_row_124 : decode cX8_row 124 = .ok (.iconst 1, 1) := by decide +kernel
theorem dX8_row_125 : decode cX8_row 125 = .ok (.iadd, 1) := by decide +kernel
theorem dX8_row_126 : decode cX8_row 126 = .ok (.putfield 166, 3) := by decide +kernel
theorem dX8_row_129 : decode cX8_row 129 = .ok (.iinc 2 3, 3) := by decide +kernel
theorem dX8_row_132 : decode cX8_row 132 = .ok (.goto (-109), 3) := by decide +kernel
theorem dX8_row_135 : decode cX8_row 135 = .ok (.aload_n 0, 1) := by decide +kernel
theorem dX8_row_136 : decode cX8_row 136 = .ok (.iconst 0, 1) := by decide +kernel
theorem dX8_row_137 : decode cX8_row 137 = .ok (.putfield 159, 3) := by decide +kernel
theorem dX8_row_140 : decode cX8_row 140 = .ok (.aload_n 0, 1) := by decide +kernel
theorem dX8_row_141 : decode cX8_row 141 = .ok (.getfield 29, 3) := by decide +kernel
theorem dX8_row_144 : decode cX8_row 144 = .ok (.invokevirtual 104, 3) := by decide +kernel
theorem dX8_row_147 : decode cX8_row 147 = .ok (.aload_n 0, 1) := by decide +kernel
theorem dX8_row_148 : decode cX8_row 148 = .ok (.iload_n 1, 1) := by decide +kernel
theorem dX8_row_149 : decode cX8_row 149 = .ok (.invokevirtual 107, 3) := by decide +kernel
theorem dX8_row_152 : decode cX8_row 152 = .ok (.ireturn, 1) := by decide +kernel
theorem dX8_smudges_0 : decode cX8_smudges 0 = .ok (.aload_n 0, 1) := by decide +kernel
theorem dX8_smudges_1 : decode cX8_smudges 1 = .ok (.getfield 166, 3) := by decide +kernel
theorem dX8_smudges_4 : decode cX8_smudges 4 = .ok (.ireturn, 1) := by decide +kernel
theorem dX8_law_0 : decode cX8_law 0 = .ok (.aload_n 0, 1) := by decide +kernel
theorem dX8_law_1 : decode cX8_law 1 = .ok (.getfield 12, 3) := by decide +kernel
theorem dX8_law_4 : decode cX8_law 4 = .ok (.getfield 169, 3) := by decide +kernel
theorem dX8_law_7 : decode cX8_law 7 = .ok (.bipush 6, 2) := by decide +kernel
theorem dX8_law_9 : decode cX8_law 9 = .ok (.if_icmp .lt 15, 3) := by decide +kernel
theorem dX8_law_12 : decode cX8_law 12 = .ok (.aload_n 0, 1) := by decide +kernel
theorem dX8_law_13 : decode cX8_law 13 = .ok (.iconst 0, 1) := by decide +kernel
theorem dX8_law_14 : decode cX8_law 14 = .ok (.putfield 159, 3) := by decide +kernel
theorem dX8_law_17 : decode cX8_law 17 = .ok (.aload_n 0, 1) := by decide +kernel
theorem dX8_law_18 : decode cX8_law 18 = .ok (.bipush (-5), 2) := by decide +kernel
theorem dX8_law_20 : decode cX8_law 20 = .ok (.invokevirtual 97, 3) := by decide +kernel
theorem dX8_law_23 : decode cX8_law 23 = .ok (.ireturn, 1) := by decide +kernel
theorem dX8_law_24 : decode cX8_law 24 = .ok (.aload_n 0, 1) := by decide +kernel
theorem dX8_law_25 : decode cX8_law 25 = .ok (.getfield 43, 3) := by decide +kernel
theorem dX8_law_28 : decode cX8_law 28 = .ok (.aload_n 0, 1) := by decide +kernel
theorem dX8_law_29 : decode cX8_law 29 = .ok (.getfield 36, 3) := by decide +kernel
theorem dX8_law_32 : decode cX8_law 32 = .ok (.aload_n 0, 1) := by decide +kernel
theorem dX8_law_33 : decode cX8_law 33 = .ok (.getfield 159, 3) := by decide +kernel
theorem dX8_law_36 : decode cX8_law 36 = .ok (.iconst 1, 1) := by decide +kernel
theorem dX8_law_37 : decode cX8_law 37 = .ok (.invokevirtual 172, 3) := by decide +kernel
theorem dX8_law_40 : decode cX8_law 40 = .ok (.astore_n 1, 1) := by decide +kernel
theorem dX8_law_41 : decode cX8_law 41 = .ok (.aload_n 0, 1) := by decide +kernel
theorem dX8_law_42 : decode cX8_law 42 = .ok (.iconst 0, 1) := by decide +kernel
theorem dX8_law_43 : decode cX8_law 43 = .ok (.putfield 159, 3) := by decide +kernel
theorem dX8_law_46 : decode cX8_law 46 = .ok (.aload_n 1, 1) := by decide +kernel
theorem dX8_law_47 : decode cX8_law 47 = .ok (.ifnonnull 10, 3) := by decide +kernel
theorem dX8_law_50 : decode cX8_law 50 = .ok (.aload_n 0, 1) := by decide +kernel
theorem dX8_law_51 : decode cX8_law 51 = .ok (.bipush (-6), 2) := by decide +kernel
theorem dX8_law_53 : decode cX8_law 53 = .ok (.invokevirtual 97, 3) := by decide +kernel
theorem dX8_law_56 : decode cX8_law 56 = .ok (.ireturn, 1) := by decide +kernel
theorem dX8_law_57 : decode cX8_law 57 = .ok (.aload_n 0, 1) := by decide +kernel
theorem dX8_law_58 : decode cX8_law 58 = .ok (.getfield 12, 3) := by decide +kernel
theorem dX8_law_61 : decode cX8_law 61 = .ok (.getfield 169, 3) := by decide +kernel
theorem dX8_law_64 : decode cX8_law 64 = .ok (.istore_n 2, 1) := by decide +kernel
theorem dX8_law_65 : decode cX8_law 65 = .ok (.aload_n 0, 1) := by decide +kernel
theorem dX8_law_66 : decode cX8_law 66 = .ok (.getfield 12, 3) := by decide +kernel
theorem dX8_law_69 : decode cX8_law 69 = .ok (.getfield 176, 3) := by decide +kernel
theorem dX8_law_72 : decode cX8_law 72 = .ok (.iload_n 2, 1) := by decide +kernel
theorem dX8_law_73 : decode cX8_law 73 = .ok (.aload_n 1, 1) := by decide +kernel
theorem dX8_law_74 : decode cX8_law 74 = .ok (.aastore, 1) := by decide +kernel
theorem dX8_law_75 : decode cX8_law 75 = .ok (.aload_n 0, 1) := by decide +kernel
theorem dX8_law_76 : decode cX8_law 76 = .ok (.getfield 12, 3) := by decide +kernel
theorem dX8_law_79 : decode cX8_law 79 = .ok (.iload_n 2, 1) := by decide +kernel
theorem dX8_law_80 : decode cX8_law 80 = .ok (.iconst 1, 1) := by decide +kernel
theorem dX8_law_81 : decode cX8_law 81 = .ok (.iadd, 1) := by decide +kernel
theorem dX8_law_82 : decode cX8_law 82 = .ok (.putfield 169, 3) := by decide +kernel
theorem dX8_law_85 : decode cX8_law 85 = .ok (.aload_n 0, 1) := by decide +kernel
theorem dX8_law_86 : decode cX8_law 86 = .ok (.iload_n 2, 1) := by decide +kernel
theorem dX8_law_87 : decode cX8_law 87 = .ok (.invokevirtual 107, 3) := by decide +kernel
theorem dX8_law_90 : decode cX8_law 90 = .ok (.ireturn, 1) := by decide +kernel
theorem dX8_orders_0 : decode cX8_orders 0 = .ok (.aload_n 0, 1) := by decide +kernel
theorem dX8_orders_1 : decode cX8_orders 1 = .ok (.iconst (-1), 1) := by decide +kernel
theorem dX8_orders_2 : decode cX8_orders 2 = .ok (.putfield 85, 3) := by decide +kernel
theorem dX8_orders_5 : decode cX8_orders 5 = .ok (.aload_n 0, 1) := by decide +kernel
theorem dX8_orders_6 : decode cX8_orders 6 = .ok (.getfield 43, 3) := by decide +kernel
theorem dX8_orders_9 : decode cX8_orders 9 = .ok (.aload_n 0, 1) := by decide +kernel
theorem dX8_orders_10 : decode cX8_orders 10 = .ok (.getfield 36, 3) := by decide +kernel
theorem dX8_orders_13 : decode cX8_orders 13 = .ok (.aload_n 0, 1) := by decide +kernel
theorem dX8_orders_14 : decode cX8_orders 14 = .ok (.getfield 159, 3) := by decide +kernel
theorem dX8_orders_17 : decode cX8_orders 17 = .ok (.iconst 0, 1) := by decide +kernel
theorem dX8_orders_18 : decode cX8_orders 18 = .ok (.invokevirtual 172, 3) := by decide +kernel
theorem dX8_orders_21 : decode cX8_orders 21 = .ok (.astore_n 1, 1) := by decide +kernel
theorem dX8_orders_22 : decode cX8_orders 22 = .ok (.aload_n 0, 1) := by decide +kernel
theorem dX8_orders_23 : decode cX8_orders 23 = .ok (.iconst 0, 1) := by decide +kernel
theorem dX8_orders_24 : decode cX8_orders 24 = .ok (.putfield 159, 3) := by decide +kernel
theorem dX8_orders_27 : decode cX8_orders 27 = .ok (.aload_n 1, 1) := by decide +kernel
theorem dX8_orders_28 : decode cX8_orders 28 = .ok (.ifnonnull 10, 3) := by decide +kernel
theorem dX8_orders_31 : decode cX8_orders 31 = .ok (.aload_n 0, 1) := by decide +kernel
theorem dX8_orders_32 : decode cX8_orders 32 = .ok (.bipush (-6), 2) := by decide +kernel
theorem dX8_orders_34 : decode cX8_orders 34 = .ok (.invokevirtual 97, 3) := by decide +kernel
theorem dX8_orders_37 : decode cX8_orders 37 = .ok (.ireturn, 1) := by decide +kernel
theorem dX8_orders_38 : decode cX8_orders 38 = .ok (.aload_n 0, 1) := by decide +kernel
theorem dX8_orders_39 : decode cX8_orders 39 = .ok (.getfield 20, 3) := by decide +kernel
theorem dX8_orders_42 : decode cX8_orders 42 = .ok (.aload_n 0, 1) := by decide +kernel
theorem dX8_orders_43 : decode cX8_orders 43 = .ok (.getfield 12, 3) := by decide +kernel
theorem dX8_orders_46 : decode cX8_orders 46 = .ok (.invokevirtual 180, 3) := by decide +kernel
theorem dX8_orders_49 : decode cX8_orders 49 = .ok (.aload_n 0, 1) := by decide +kernel
theorem dX8_orders_50 : decode cX8_orders 50 = .ok (.getfield 33, 3) := by decide +kernel
theorem dX8_orders_53 : decode cX8_orders 53 = .ok (.aload_n 0, 1) := by decide +kernel
theorem dX8_orders_54 : decode cX8_orders 54 = .ok (.getfield 29, 3) := by decide +kernel
theorem dX8_orders_57 : decode cX8_orders 57 = .ok (.invokevirtual 184, 3) := by decide +kernel
theorem dX8_orders_60 : decode cX8_orders 60 = .ok (.aload_n 0, 1) := by decide +kernel
theorem dX8_orders_61 : decode cX8_orders 61 = .ok (.aload_n 1, 1) := by decide +kernel
theorem dX8_orders_62 : decode cX8_orders 62 = .ok (.invokevirtual 187, 3) := by decide +kernel
theorem dX8_orders_65 : decode cX8_orders 65 = .ok (.istore_n 2, 1) := by decide +kernel
theorem dX8_orders_66 : decode cX8_orders 66 = .ok (.iload_n 2, 1) := by decide +kernel
theorem dX8_orders_67 : decode cX8_orders 67 = .ok (.ifCond .lt 9, 3) := by decide +kernel
theorem dX8_orders_70 : decode cX8_orders 70 = .ok (.aload_n 0, 1) := by decide +kernel
theorem dX8_orders_71 : decode cX8_orders 71 = .ok (.iload_n 2, 1) := by decide +kernel
theorem dX8_orders_72 : decode cX8_orders 72 = .ok (.invokevirtual 107, 3) := by decide +kernel
theorem dX8_orders_75 : decode cX8_orders 75 = .ok (.ireturn, 1) := by decide +kernel
theorem dX8_orders_76 : decode cX8_orders 76 = .ok (.aload_n 0, 1) := by decide +kernel
theorem dX8_orders_77 : decode cX8_orders 77 = .ok (.getfield 12, 3) := by decide +kernel
theorem dX8_orders_80 : decode cX8_orders 80 = .ok (.aload_n 0, 1) := by decide +kernel
theorem dX8_orders_81 : decode cX8_orders 81 = .ok (.getfield 20, 3) := by decide +kernel
theorem dX8_orders_84 : decode cX8_orders 84 = .ok (.invokevirtual 180, 3) := by decide +kernel
theorem dX8_orders_87 : decode cX8_orders 87 = .ok (.aload_n 0, 1) := by decide +kernel
theorem dX8_orders_88 : decode cX8_orders 88 = .ok (.getfield 29, 3) := by decide +kernel
theorem dX8_orders_91 : decode cX8_orders 91 = .ok (.aload_n 0, 1) := by decide +kernel
theorem dX8_orders_92 : decode cX8_orders 92 = .ok (.getfield 33, 3) := by decide +kernel
theorem dX8_orders_95 : decode cX8_orders 95 = .ok (.invokevirtual 184, 3) := by decide +kernel
theorem dX8_orders_98 : decode cX8_orders 98 = .ok (.aload_n 0, 1) := by decide +kernel
theorem dX8_orders_99 : decode cX8_orders 99 = .ok (.bipush (-3), 2) := by decide +kernel
theorem dX8_orders_101 : decode cX8_orders 101 = .ok (.invokevirtual 97, 3) := by decide +kernel
theorem dX8_orders_104 : decode cX8_orders 104 = .ok (.ireturn, 1) := by decide +kernel
theorem dX8_fault_0 : decode cX8_fault 0 = .ok (.aload_n 0, 1) := by decide +kernel
theorem dX8_fault_1 : decode cX8_fault 1 = .ok (.getfield 43, 3) := by decide +kernel
theorem dX8_fault_4 : decode cX8_fault 4 = .ok (.getfield 191, 3) := by decide +kernel
theorem dX8_fault_7 : decode cX8_fault 7 = .ok (.ireturn, 1) := by decide +kernel
theorem dX8_stopped_0 : decode cX8_stopped 0 = .ok (.aload_n 0, 1) := by decide +kernel
theorem dX8_stopped_1 : decode cX8_stopped 1 = .ok (.getfield 85, 3) := by decide +kernel
theorem dX8_stopped_4 : decode cX8_stopped 4 = .ok (.ireturn, 1) := by decide +kernel
theorem dX8_force_0 : decode cX8_force 0 = .ok (.iload_n 1, 1) := by decide +kernel
theorem dX8_force_1 : decode cX8_force 1 = .ok (.iconst (-1), 1) := by decide +kernel
theorem dX8_force_2 : decode cX8_force 2 = .ok (.aload_n 0, 1) := by decide +kernel
theorem dX8_force_3 : decode cX8_force 3 = .ok (.getfield 12, 3) := by decide +kernel
theorem dX8_force_6 : decode cX8_force 6 = .ok (.getfield 169, 3) := by decide +kernel
theorem dX8_force_9 : decode cX8_force 9 = .ok (.iconst 1, 1) := by decide +kernel
theorem dX8_force_10 : decode cX8_force 10 = .ok (.isub, 1) := by decide +kernel
theorem dX8_force_11 : decode cX8_force 11 = .ok (.invokestatic 93, 3) := by decide +kernel
theorem dX8_force_14 : decode cX8_force 14 = .ok (.ifCond .ne 10, 3) := by decide +kernel
theorem dX8_force_17 : decode cX8_force 17 = .ok (.aload_n 0, 1) := by decide +kernel
theorem dX8_force_18 : decode cX8_force 18 = .ok (.bipush (-2), 2) := by decide +kernel
theorem dX8_force_20 : decode cX8_force 20 = .ok (.invokevirtual 97, 3) := by decide +kernel
theorem dX8_force_23 : decode cX8_force 23 = .ok (.ireturn, 1) := by decide +kernel
theorem dX8_force_24 : decode cX8_force 24 = .ok (.aload_n 0, 1) := by decide +kernel
theorem dX8_force_25 : decode cX8_force 25 = .ok (.getfield 12, 3) := by decide +kernel
theorem dX8_force_28 : decode cX8_force 28 = .ok (.getfield 194, 3) := by decide +kernel
theorem dX8_force_31 : decode cX8_force 31 = .ok (.istore_n 2, 1) := by decide +kernel
theorem dX8_force_32 : decode cX8_force 32 = .ok (.aload_n 0, 1) := by decide +kernel
theorem dX8_force_33 : decode cX8_force 33 = .ok (.getfield 12, 3) := by decide +kernel
theorem dX8_force_36 : decode cX8_force 36 = .ok (.iload_n 1, 1) := by decide +kernel
theorem dX8_force_37 : decode cX8_force 37 = .ok (.putfield 194, 3) := by decide +kernel
theorem dX8_force_40 : decode cX8_force 40 = .ok (.aload_n 0, 1) := by decide +kernel
theorem dX8_force_41 : decode cX8_force 41 = .ok (.iload_n 2, 1) := by decide +kernel
theorem dX8_force_42 : decode cX8_force 42 = .ok (.invokevirtual 107, 3) := by decide +kernel
theorem dX8_force_45 : decode cX8_force 45 = .ok (.ireturn, 1) := by decide +kernel
theorem dX8_take_0 : decode cX8_take 0 = .ok (.aload_n 0, 1) := by decide +kernel
theorem dX8_take_1 : decode cX8_take 1 = .ok (.aload_n 0, 1) := by decide +kernel
theorem dX8_take_2 : decode cX8_take 2 = .ok (.iconst 0, 1) := by decide +kernel
theorem dX8_take_3 : decode cX8_take 3 = .ok (.iload_n 1, 1) := by decide +kernel
theorem dX8_take_4 : decode cX8_take 4 = .ok (.iload_n 2, 1) := by decide +kernel
theorem dX8_take_5 : decode cX8_take 5 = .ok (.iconst 0, 1) := by decide +kernel
theorem dX8_take_6 : decode cX8_take 6 = .ok (.invokevirtual 197, 3) := by decide +kernel
theorem dX8_take_9 : decode cX8_take 9 = .ok (.invokevirtual 201, 3) := by decide +kernel
theorem dX8_take_12 : decode cX8_take 12 = .ok (.ireturn, 1) := by decide +kernel
theorem dX8_shift_0 : decode cX8_shift 0 = .ok (.aload_n 0, 1) := by decide +kernel
theorem dX8_shift_1 : decode cX8_shift 1 = .ok (.aload_n 0, 1) := by decide +kernel
theorem dX8_shift_2 : decode cX8_shift 2 = .ok (.iconst 1, 1) := by decide +kernel
theorem dX8_shift_3 : decode cX8_shift 3 = .ok (.iload_n 1, 1) := by decide +kernel
theorem dX8_shift_4 : decode cX8_shift 4 = .ok (.iload_n 2, 1) := by decide +kernel
theorem dX8_shift_5 : decode cX8_shift 5 = .ok (.iload_n 3, 1) := by decide +kernel
theorem dX8_shift_6 : decode cX8_shift 6 = .ok (.invokevirtual 197, 3) := by decide +kernel
theorem dX8_shift_9 : decode cX8_shift 9 = .ok (.invokevirtual 201, 3) := by decide +kernel
theorem dX8_shift_12 : decode cX8_shift 12 = .ok (.ireturn, 1) := by decide +kernel
theorem dX8_fence_0 : decode cX8_fence 0 = .ok (.aload_n 0, 1) := by decide +kernel
theorem dX8_fence_1 : decode cX8_fence 1 = .ok (.aload_n 0, 1) := by decide +kernel
theorem dX8_fence_2 : decode cX8_fence 2 = .ok (.iconst 2, 1) := by decide +kernel
theorem dX8_fence_3 : decode cX8_fence 3 = .ok (.iload_n 1, 1) := by decide +kernel
theorem dX8_fence_4 : decode cX8_fence 4 = .ok (.iconst 0, 1) := by decide +kernel
theorem dX8_fence_5 : decode cX8_fence 5 = .ok (.iconst 0, 1) := by decide +kernel
theorem dX8_fence_6 : decode cX8_fence 6 = .ok (.invokevirtual 197, 3) := by decide +kernel
theorem dX8_fence_9 : decode cX8_fence 9 = .ok (.invokevirtual 201, 3) := by decide +kernel
theorem dX8_fence_12 : decode cX8_fence 12 = .ok (.ireturn, 1) := by decide +kernel
theorem dX8_pass_0 : decode cX8_pass 0 = .ok (.aload_n 0, 1) := by decide +kernel
theorem dX8_pass_1 : decode cX8_pass 1 = .ok (.aload_n 0, 1) := by decide +kernel
theorem dX8_pass_2 : decode cX8_pass 2 = .ok (.iconst 3, 1) := by decide +kernel
theorem dX8_pass_3 : decode cX8_pass 3 = .ok (.iconst 0, 1) := by decide +kernel
theorem dX8_pass_4 : decode cX8_pass 4 = .ok (.iconst 0, 1) := by decide +kernel
theorem dX8_pass_5 : decode cX8_pass 5 = .ok (.iconst 0, 1) := by decide +kernel
theorem dX8_pass_6 : decode cX8_pass 6 = .ok (.invokevirtual 197, 3) := by decide +kernel
theorem dX8_pass_9 : decode cX8_pass 9 = .ok (.invokevirtual 201, 3) := by decide +kernel
theorem dX8_pass_12 : decode cX8_pass 12 = .ok (.ireturn, 1) := by decide +kernel
theorem dX8_undo_0 : decode cX8_undo 0 = .ok (.aload_n 0, 1) := by decide +kernel
theorem dX8_undo_1 : decode cX8_undo 1 = .ok (.aload_n 0, 1) := by decide +kernel
theorem dX8_undo_2 : decode cX8_undo 2 = .ok (.getfield 29, 3) := by decide +kernel
theorem dX8_undo_5 : decode cX8_undo 5 = .ok (.aload_n 0, 1) := by decide +kernel
theorem dX8_undo_6 : decode cX8_undo 6 = .ok (.getfield 12, 3) := by decide +kernel
theorem dX8_undo_9 : decode cX8_undo 9 = .ok (.invokevirtual 204, 3) := by decide +kernel
theorem dX8_undo_12 : decode cX8_undo 12 = .ok (.invokevirtual 201, 3) := by decide +kernel
theorem dX8_undo_15 : decode cX8_undo 15 = .ok (.ireturn, 1) := by decide +kernel
theorem dX8_fewest_0 : decode cX8_fewest 0 = .ok (.iconst 0, 1) := by decide +kernel
theorem dX8_fewest_1 : decode cX8_fewest 1 = .ok (.istore_n 1, 1) := by decide +kernel
theorem dX8_fewest_2 : decode cX8_fewest 2 = .ok (.iconst 0, 1) := by decide +kernel
theorem dX8_fewest_3 : decode cX8_fewest 3 = .ok (.istore_n 2, 1) := by decide +kernel
theorem dX8_fewest_4 : decode cX8_fewest 4 = .ok (.iconst 0, 1) := by decide +kernel
theorem dX8_fewest_5 : decode cX8_fewest 5 = .ok (.istore_n 3, 1) := by decide +kernel
theorem dX8_fewest_6 : decode cX8_fewest 6 = .ok (.iload_n 3, 1) := by decide +kernel
theorem dX8_fewest_7 : decode cX8_fewest 7 = .ok (.iconst 2, 1) := by decide +kernel
theorem dX8_fewest_8 : decode cX8_fewest 8 = .ok (.if_icmp .ge 70, 3) := by decide +kernel
theorem dX8_fewest_11 : decode cX8_fewest 11 = .ok (.iconst 0, 1) := by decide +kernel
theorem dX8_fewest_12 : decode cX8_fewest 12 = .ok (.istore 4, 2) := by decide +kernel
theorem dX8_fewest_14 : decode cX8_fewest 14 = .ok (.iload 4, 2) := by decide +kernel
theorem dX8_fewest_16 : decode cX8_fewest 16 = .ok (.iconst 5, 1) := by decide +kernel
theorem dX8_fewest_17 : decode cX8_fewest 17 = .ok (.if_icmp .ge 49, 3) := by decide +kernel
theorem dX8_fewest_20 : decode cX8_fewest 20 = .ok (.aload_n 0, 1) := by decide +kernel
theorem dX8_fewest_21 : decode cX8_fewest 21 = .ok (.getfield 12, 3) := by decide +kernel
theorem dX8_fewest_24 : decode cX8_fewest 24 = .ok (.iload_n 3, 1) := by decide +kernel
theorem dX8_fewest_25 : decode cX8_fewest 25 = .ok (.iload 4, 2) := by decide +kernel
theorem dX8_fewest_27 : decode cX8_fewest 27 = .ok (.invokevirtual 133, 3) := by decide +kernel
theorem dX8_fewest_30 : decode cX8_fewest 30 = .ok (.istore 5, 2) := by decide +kernel
theorem dX8_fewest_32 : decode cX8_fewest 32 = .ok (.iload 5, 2) := by decide +kernel
theorem dX8_fewest_34 : decode cX8_fewest 34 = .ok (.ifCond .eq 26, 3) := by decide +kernel
theorem dX8_fewest_37 : decode cX8_fewest 37 = .ok (.aload_n 0, 1) := by decide +kernel
theorem dX8_fewest_38 : decode cX8_fewest 38 = .ok (.getfield 71, 3) := by decide +kernel
theorem dX8_fewest_41 : decode cX8_fewest 41 = .ok (.iload_n 2, 1) := by decide +kernel
theorem dX8_fewest_42 : decode cX8_fewest 42 = .ok (.iload_n 3, 1) := by decide +kernel
theorem dX8_fewest_43 : decode cX8_fewest 43 = .ok (.ifCond .ne 8, 3) := by decide +kernel
theorem dX8_fewest_46 : decode cX8_fewest 46 = .ok (.iload 5, 2) := by decide +kernel
theorem dX8_fewest_48 : decode cX8_fewest 48 = .ok (.goto 6, 3) := by decide +kernel
theorem dX8_fewest_51 : decode cX8_fewest 51 = .ok (.iload 5, 2) := by decide +kernel
theorem dX8_fewest_53 : decode cX8_fewest 53 = .ok (.ineg, 1) := by decide +kernel
theorem dX8_fewest_54 : decode cX8_fewest 54 = .ok (.invokevirtual 208, 3) := by decide +kernel
theorem dX8_fewest_57 : decode cX8_fewest 57 = .ok (.iinc 2 1, 3) := by decide +kernel
theorem dX8_fewest_60 : decode cX8_fewest 60 = .ok (.iinc 4 1, 3) := by decide +kernel
theorem dX8_fewest_63 : decode cX8_fewest 63 = .ok (.goto (-49), 3) := by decide +kernel
theorem dX8_fewest_66 : decode cX8_fewest 66 = .ok (.iload_n 3, 1) := by decide +kernel
theorem dX8_fewest_67 : decode cX8_fewest 67 = .ok (.ifCond .ne 5, 3) := by decide +kernel
theorem dX8_fewest_70 : decode cX8_fewest 70 = .ok (.iload_n 2, 1) := by decide +kernel
theorem dX8_fewest_71 : decode cX8_fewest 71 = .ok (.istore_n 1, 1) := by decide +kernel
theorem dX8_fewest_72 : decode cX8_fewest 72 = .ok (.iinc 3 1, 3) := by decide +kernel
theorem dX8_fewest_75 : decode cX8_fewest 75 = .ok (.goto (-69), 3) := by decide +kernel
theorem dX8_fewest_78 : decode cX8_fewest 78 = .ok (.iconst 1, 1) := by decide +kernel
theorem dX8_fewest_79 : decode cX8_fewest 79 = .ok (.iload_n 1, 1) := by decide +kernel
theorem dX8_fewest_80 : decode cX8_fewest 80 = .ok (.ishl, 1) := by decide +kernel
theorem dX8_fewest_81 : decode cX8_fewest 81 = .ok (.iconst 1, 1) := by decide +kernel
theorem dX8_fewest_82 : decode cX8_fewest 82 = .ok (.isub, 1) := by decide +kernel
theorem dX8_fewest_83 : decode cX8_fewest 83 = .ok (.istore_n 3, 1) := by decide +kernel
theorem dX8_fewest_84 : decode cX8_fewest 84 = .ok (.aload_n 0, 1) := by decide +kernel
theorem dX8_fewest_85 : decode cX8_fewest 85 = .ok (.getfield 71, 3) := by decide +kernel
theorem dX8_fewest_88 : decode cX8_fewest 88 = .ok (.iload_n 2, 1) := by decide +kernel
theorem dX8_fewest_89 : decode cX8_fewest 89 = .ok (.iload_n 3, 1) := by decide +kernel
theorem dX8_fewest_90 : decode cX8_fewest 90 = .ok (.iconst 1, 1) := by decide +kernel
theorem dX8_fewest_91 : decode cX8_fewest 91 = .ok (.iload_n 2, 1) := by decide +kernel
theorem dX8_fewest_92 : decode cX8_fewest 92 = .ok (.ishl, 1) := by decide +kernel
theorem dX8_fewest_93 : decode cX8_fewest 93 = .ok (.iconst 1, 1) := by decide +kernel
theorem dX8_fewest_94 : decode cX8_fewest 94 = .ok (.isub, 1) := by decide +kernel
theorem dX8_fewest_95 : decode cX8_fewest 95 = .ok (.iload_n 3, 1) := by decide +kernel
theorem dX8_fewest_96 : decode cX8_fewest 96 = .ok (.iconst (-1), 1) := by decide +kernel
theorem dX8_fewest_97 : decode cX8_fewest 97 = .ok (.ixor, 1) := by decide +kernel
theorem dX8_fewest_98 : decode cX8_fewest 98 = .ok (.iand, 1) := by decide +kernel
theorem dX8_fewest_99 : decode cX8_fewest 99 = .ok (.invokevirtual 212, 3) := by decide +kernel
theorem dX8_fewest_102 : decode cX8_fewest 102 = .ok (.istore 4, 2) := by decide +kernel
theorem dX8_fewest_104 : decode cX8_fewest 104 = .ok (.iload 4, 2) := by decide +kernel
theorem dX8_fewest_106 : decode cX8_fewest 106 = .ok (.iconst (-1), 1) := by decide +kernel
theorem dX8_fewest_107 : decode cX8_fewest 107 = .ok (.if_icmp .ne 7, 3) := by decide +kernel
theorem dX8_fewest_110 : decode cX8_fewest 110 = .ok (.iconst (-1), 1) := by decide +kernel
theorem dX8_fewest_111 : decode cX8_fewest 111 = .ok (.goto 7, 3) := by decide +kernel
theorem dX8_fewest_114 : decode cX8_fewest 114 = .ok (.iload_n 2, 1) := by decide +kernel
theorem dX8_fewest_115 : decode cX8_fewest 115 = .ok (.iload 4, 2) := by decide +kernel
theorem dX8_fewest_117 : decode cX8_fewest 117 = .ok (.isub, 1) := by decide +kernel
theorem dX8_fewest_118 : decode cX8_fewest 118 = .ok (.ireturn, 1) := by decide +kernel
theorem dX8_turned_0 : decode cX8_turned 0 = .ok (.iload_n 1, 1) := by decide +kernel
theorem dX8_turned_1 : decode cX8_turned 1 = .ok (.iconst (-1), 1) := by decide +kernel
theorem dX8_turned_2 : decode cX8_turned 2 = .ok (.if_icmp .ge 5, 3) := by decide +kernel
theorem dX8_turned_5 : decode cX8_turned 5 = .ok (.iconst (-1), 1) := by decide +kernel
theorem dX8_turned_6 : decode cX8_turned 6 = .ok (.ireturn, 1) := by decide +kernel
theorem dX8_turned_7 : decode cX8_turned 7 = .ok (.iconst 0, 1) := by decide +kernel
theorem dX8_turned_8 : decode cX8_turned 8 = .ok (.istore_n 2, 1) := by decide +kernel
theorem dX8_turned_9 : decode cX8_turned 9 = .ok (.iconst 0, 1) := by decide +kernel
theorem dX8_turned_10 : decode cX8_turned 10 = .ok (.istore_n 3, 1) := by decide +kernel
theorem dX8_turned_11 : decode cX8_turned 11 = .ok (.iload_n 3, 1) := by decide +kernel
theorem dX8_turned_12 : decode cX8_turned 12 = .ok (.bipush 25, 2) := by decide +kernel
theorem dX8_turned_14 : decode cX8_turned 14 = .ok (.if_icmp .ge 56, 3) := by decide +kernel
theorem dX8_turned_17 : decode cX8_turned 17 = .ok (.iload_n 3, 1) := by decide +kernel
theorem dX8_turned_18 : decode cX8_turned 18 = .ok (.iconst 1, 1) := by decide +kernel
theorem dX8_turned_19 : decode cX8_turned 19 = .ok (.iadd, 1) := by decide +kernel
theorem dX8_turned_20 : decode cX8_turned 20 = .ok (.istore 4, 2) := by decide +kernel
theorem dX8_turned_22 : decode cX8_turned 22 = .ok (.iload 4, 2) := by decide +kernel
theorem dX8_turned_24 : decode cX8_turned 24 = .ok (.bipush 25, 2) := by decide +kernel
theorem dX8_turned_26 : decode cX8_turned 26 = .ok (.if_icmp .ge 38, 3) := by decide +kernel
theorem dX8_turned_29 : decode cX8_turned 29 = .ok (.aload_n 0, 1) := by decide +kernel
theorem dX8_turned_30 : decode cX8_turned 30 = .ok (.getfield 12, 3) := by decide +kernel
theorem dX8_turned_33 : decode cX8_turned 33 = .ok (.iload_n 3, 1) := by decide +kernel
theorem dX8_turned_34 : decode cX8_turned 34 = .ok (.iload 4, 2) := by decide +kernel
theorem dX8_turned_36 : decode cX8_turned 36 = .ok (.invokevirtual 215, 3) := by decide +kernel
theorem dX8_turned_39 : decode cX8_turned 39 = .ok (.ifCond .eq 19, 3) := by decide +kernel
theorem dX8_turned_42 : decode cX8_turned 42 = .ok (.iload_n 2, 1) := by decide +kernel
theorem dX8_turned_43 : decode cX8_turned 43 = .ok (.iload_n 1, 1) := by decide +kernel
theorem dX8_turned_44 : decode cX8_turned 44 = .ok (.if_icmp .ne 11, 3) := by decide +kernel
theorem dX8_turned_47 : decode cX8_turned 47 = .ok (.bipush 100, 2) := by decide +kernel
theorem dX8_turned_49 : decode cX8_turned 49 = .ok (.iload_n 3, 1) := by decide +kernel
theorem dX8_turned_50 : decode cX8_turned 50 = .ok (.imul, 1) := by decide +kernel
theorem dX8_turned_51 : decode cX8_turned 51 = .ok (.iload 4, 2) := by decide +kernel
theorem dX8_turned_53 : decode cX8_turned 53 = .ok (.iadd, 1) := by decide +kernel
theorem dX8_turned_54 : decode cX8_turned 54 = .ok (.ireturn, 1) := by decide +kernel
theorem dX8_turned_55 : decode cX8_turned 55 = .ok (.iinc 2 1, 3) := by decide +kernel
theorem dX8_turned_58 : decode cX8_turned 58 = .ok (.iinc 4 1, 3) := by decide +kernel
theorem dX8_turned_61 : decode cX8_turned 61 = .ok (.goto (-39), 3) := by decide +kernel
theorem dX8_turned_64 : decode cX8_turned 64 = .ok (.iinc 3 1, 3) := by decide +kernel
theorem dX8_turned_67 : decode cX8_turned 67 = .ok (.goto (-56), 3) := by decide +kernel
theorem dX8_turned_70 : decode cX8_turned 70 = .ok (.iload_n 1, 1) := by decide +kernel
theorem dX8_turned_71 : decode cX8_turned 71 = .ok (.iconst (-1), 1) := by decide +kernel
theorem dX8_turned_72 : decode cX8_turned 72 = .ok (.if_icmp .ne 7, 3) := by decide +kernel
theorem dX8_turned_75 : decode cX8_turned 75 = .ok (.iload_n 2, 1) := by decide +kernel
theorem dX8_turned_76 : decode cX8_turned 76 = .ok (.goto 4, 3) := by decide +kernel
theorem dX8_turned_79 : decode cX8_turned 79 = .ok (.iconst (-1), 1) := by decide +kernel
theorem dX8_turned_80 : decode cX8_turned 80 = .ok (.ireturn, 1) := by decide +kernel
theorem dX8_hound_0 : decode cX8_hound 0 = .ok (.iload_n 1, 1) := by decide +kernel
theorem dX8_hound_1 : decode cX8_hound 1 = .ok (.invokestatic 89, 3) := by decide +kernel
theorem dX8_hound_4 : decode cX8_hound 4 = .ok (.ifCond .eq 13, 3) := by decide +kernel
theorem dX8_hound_7 : decode cX8_hound 7 = .ok (.iload_n 2, 1) := by decide +kernel
theorem dX8_hound_8 : decode cX8_hound 8 = .ok (.iconst 0, 1) := by decide +kernel
theorem dX8_hound_9 : decode cX8_hound 9 = .ok (.bipush 99, 2) := by decide +kernel
theorem dX8_hound_11 : decode cX8_hound 11 = .ok (.invokestatic 93, 3) := by decide +kernel
theorem dX8_hound_14 : decode cX8_hound 14 = .ok (.ifCond .ne 5, 3) := by decide +kernel
theorem dX8_hound_17 : decode cX8_hound 17 = .ok (.iconst (-1), 1) := by decide +kernel
theorem dX8_hound_18 : decode cX8_hound 18 = .ok (.ireturn, 1) := by decide +kernel
theorem dX8_hound_19 : decode cX8_hound 19 = .ok (.aload_n 0, 1) := by decide +kernel
theorem dX8_hound_20 : decode cX8_hound 20 = .ok (.getfield 64, 3) := by decide +kernel
theorem dX8_hound_23 : decode cX8_hound 23 = .ok (.aload_n 0, 1) := by decide +kernel
theorem dX8_hound_24 : decode cX8_hound 24 = .ok (.getfield 12, 3) := by decide +kernel
theorem dX8_hound_27 : decode cX8_hound 27 = .ok (.aload_n 0, 1) := by decide +kernel
theorem dX8_hound_28 : decode cX8_hound 28 = .ok (.getfield 12, 3) := by decide +kernel
theorem dX8_hound_31 : decode cX8_hound 31 = .ok (.invokevirtual 113, 3) := by decide +kernel
theorem dX8_hound_34 : decode cX8_hound 34 = .ok (.invokevirtual 218, 3) := by decide +kernel
theorem dX8_hound_37 : decode cX8_hound 37 = .ok (.aload_n 0, 1) := by decide +kernel
theorem dX8_hound_38 : decode cX8_hound 38 = .ok (.getfield 64, 3) := by decide +kernel
theorem dX8_hound_41 : decode cX8_hound 41 = .ok (.iload_n 1, 1) := by decide +kernel
theorem dX8_hound_42 : decode cX8_hound 42 = .ok (.iload_n 2, 1) := by decide +kernel
theorem dX8_hound_43 : decode cX8_hound 43 = .ok (.invokevirtual 222, 3) := by decide +kernel
theorem dX8_hound_46 : decode cX8_hound 46 = .ok (.ireturn, 1) := by decide +kernel
theorem dX8_ring_0 : decode cX8_ring 0 = .ok (.iload_n 1, 1) := by decide +kernel
theorem dX8_ring_1 : decode cX8_ring 1 = .ok (.invokestatic 89, 3) := by decide +kernel
theorem dX8_ring_4 : decode cX8_ring 4 = .ok (.ifCond .eq 12, 3) := by decide +kernel
theorem dX8_ring_7 : decode cX8_ring 7 = .ok (.iload_n 2, 1) := by decide +kernel
theorem dX8_ring_8 : decode cX8_ring 8 = .ok (.iconst 0, 1) := by decide +kernel
theorem dX8_ring_9 : decode cX8_ring 9 = .ok (.iconst 1, 1) := by decide +kernel
theorem dX8_ring_10 : decode cX8_ring 10 = .ok (.invokestatic 93, 3) := by decide +kernel
theorem dX8_ring_13 : decode cX8_ring 13 = .ok (.ifCond .ne 5, 3) := by decide +kernel
theorem dX8_ring_16 : decode cX8_ring 16 = .ok (.iconst (-1), 1) := by decide +kernel
theorem dX8_ring_17 : decode cX8_ring 17 = .ok (.ireturn, 1) := by decide +kernel
theorem dX8_ring_18 : decode cX8_ring 18 = .ok (.aload_n 0, 1) := by decide +kernel
theorem dX8_ring_19 : decode cX8_ring 19 = .ok (.getfield 64, 3) := by decide +kernel
theorem dX8_ring_22 : decode cX8_ring 22 = .ok (.aload_n 0, 1) := by decide +kernel
theorem dX8_ring_23 : decode cX8_ring 23 = .ok (.getfield 12, 3) := by decide +kernel
theorem dX8_ring_26 : decode cX8_ring 26 = .ok (.aload_n 0, 1) := by decide +kernel
theorem dX8_ring_27 : decode cX8_ring 27 = .ok (.getfield 12, 3) := by decide +kernel
theorem dX8_ring_30 : decode cX8_ring 30 = .ok (.invokevirtual 113, 3) := by decide +kernel
theorem dX8_ring_33 : decode cX8_ring 33 = .ok (.invokevirtual 218, 3) := by decide +kernel
theorem dX8_ring_36 : decode cX8_ring 36 = .ok (.aload_n 0, 1) := by decide +kernel
theorem dX8_ring_37 : decode cX8_ring 37 = .ok (.getfield 64, 3) := by decide +kernel
theorem dX8_ring_40 : decode cX8_ring 40 = .ok (.iload_n 1, 1) := by decide +kernel
theorem dX8_ring_41 : decode cX8_ring 41 = .ok (.iload_n 2, 1) := by decide +kernel
theorem dX8_ring_42 : decode cX8_ring 42 = .ok (.iconst 1, 1) := by decide +kernel
theorem dX8_ring_43 : decode cX8_ring 43 = .ok (.if_icmp .ne 7, 3) := by decide +kernel
theorem dX8_ring_46 : decode cX8_ring 46 = .ok (.iconst 1, 1) := by decide +kernel
theorem dX8_ring_47 : decode cX8_ring 47 = .ok (.goto 4, 3) := by decide +kernel
theorem dX8_ring_50 : decode cX8_ring 50 = .ok (.iconst 0, 1) := by decide +kernel
theorem dX8_ring_51 : decode cX8_ring 51 = .ok (.invokevirtual 225, 3) := by decide +kernel
theorem dX8_ring_54 : decode cX8_ring 54 = .ok (.ireturn, 1) := by decide +kernel
theorem dX8_sources_0 : decode cX8_sources 0 = .ok (.iload_n 1, 1) := by decide +kernel
theorem dX8_sources_1 : decode cX8_sources 1 = .ok (.invokestatic 89, 3) := by decide +kernel
theorem dX8_sources_4 : decode cX8_sources 4 = .ok (.ifCond .ne 5, 3) := by decide +kernel
theorem dX8_sources_7 : decode cX8_sources 7 = .ok (.iconst (-1), 1) := by decide +kernel
theorem dX8_sources_8 : decode cX8_sources 8 = .ok (.ireturn, 1) := by decide +kernel
theorem dX8_sources_9 : decode cX8_sources 9 = .ok (.aload_n 0, 1) := by decide +kernel
theorem dX8_sources_10 : decode cX8_sources 10 = .ok (.getfield 64, 3) := by decide +kernel
theorem dX8_sources_13 : decode cX8_sources 13 = .ok (.aload_n 0, 1) := by decide +kernel
theorem dX8_sources_14 : decode cX8_sources 14 = .ok (.getfield 12, 3) := by decide +kernel
theorem dX8_sources_17 : decode cX8_sources 17 = .ok (.aload_n 0, 1) := by decide +kernel
theorem dX8_sources_18 : decode cX8_sources 18 = .ok (.getfield 12, 3) := by decide +kernel
theorem dX8_sources_21 : decode cX8_sources 21 = .ok (.invokevirtual 113, 3) := by decide +kernel
theorem dX8_sources_24 : decode cX8_sources 24 = .ok (.invokevirtual 218, 3) := by decide +kernel
theorem dX8_sources_27 : decode cX8_sources 27 = .ok (.aload_n 0, 1) := by decide +kernel
theorem dX8_sources_28 : decode cX8_sources 28 = .ok (.getfield 64, 3) := by decide +kernel
theorem dX8_sources_31 : decode cX8_sources 31 = .ok (.invokevirtual 229, 3) := by decide +kernel
theorem dX8_sources_34 : decode cX8_sources 34 = .ok (.aload_n 0, 1) := by decide +kernel
theorem dX8_sources_35 : decode cX8_sources 35 = .ok (.getfield 64, 3) := by decide +kernel
theorem dX8_sources_38 : decode cX8_sources 38 = .ok (.iload_n 1, 1) := by decide +kernel
theorem dX8_sources_39 : decode cX8_sources 39 = .ok (.invokevirtual 232, 3) := by decide +kernel
theorem dX8_sources_42 : decode cX8_sources 42 = .ok (.ireturn, 1) := by decide +kernel
theorem dX8_casts_0 : decode cX8_casts 0 = .ok (.iload_n 1, 1) := by decide +kernel
theorem dX8_casts_1 : decode cX8_casts 1 = .ok (.iconst 0, 1) := by decide +kernel
theorem dX8_casts_2 : decode cX8_casts 2 = .ok (.iconst 1, 1) := by decide +kernel
theorem dX8_casts_3 : decode cX8_casts 3 = .ok (.invokestatic 93, 3) := by decide +kernel
theorem dX8_casts_6 : decode cX8_casts 6 = .ok (.ifCond .ne 5, 3) := by decide +kernel
theorem dX8_casts_9 : decode cX8_casts 9 = .ok (.iconst (-1), 1) := by decide +kernel
theorem dX8_casts_10 : decode cX8_casts 10 = .ok (.ireturn, 1) := by decide +kernel
theorem dX8_casts_11 : decode cX8_casts 11 = .ok (.aload_n 0, 1) := by decide +kernel
theorem dX8_casts_12 : decode cX8_casts 12 = .ok (.getfield 64, 3) := by decide +kernel
theorem dX8_casts_15 : decode cX8_casts 15 = .ok (.aload_n 0, 1) := by decide +kernel
theorem dX8_casts_16 : decode cX8_casts 16 = .ok (.getfield 12, 3) := by decide +kernel
theorem dX8_casts_19 : decode cX8_casts 19 = .ok (.aload_n 0, 1) := by decide +kernel
theorem dX8_casts_20 : decode cX8_casts 20 = .ok (.getfield 12, 3) := by decide +kernel
theorem dX8_casts_23 : decode cX8_casts 23 = .ok (.invokevirtual 113, 3) := by decide +kernel
theorem dX8_casts_26 : decode cX8_casts 26 = .ok (.invokevirtual 218, 3) := by decide +kernel
theorem dX8_casts_29 : decode cX8_casts 29 = .ok (.aload_n 0, 1) := by decide +kernel
theorem dX8_casts_30 : decode cX8_casts 30 = .ok (.getfield 64, 3) := by decide +kernel
theorem dX8_casts_33 : decode cX8_casts 33 = .ok (.invokevirtual 229, 3) := by decide +kernel
theorem dX8_casts_36 : decode cX8_casts 36 = .ok (.aload_n 0, 1) := by decide +kernel
theorem dX8_casts_37 : decode cX8_casts 37 = .ok (.getfield 64, 3) := by decide +kernel
theorem dX8_casts_40 : decode cX8_casts 40 = .ok (.invokevirtual 235, 3) := by decide +kernel
theorem dX8_casts_43 : decode cX8_casts 43 = .ok (.istore_n 2, 1) := by decide +kernel
theorem dX8_casts_44 : decode cX8_casts 44 = .ok (.iload_n 1, 1) := by decide +kernel
theorem dX8_casts_45 : decode cX8_casts 45 = .ok (.ifCond .ne 10, 3) := by decide +kernel
theorem dX8_casts_48 : decode cX8_casts 48 = .ok (.iload_n 2, 1) := by decide +kernel
theorem dX8_casts_49 : decode cX8_casts 49 = .ok (.invokestatic 239, 3) := by decide +kernel
theorem dX8_casts_52 : decode cX8_casts 52 = .ok (.goto 4, 3) := by decide +kernel
theorem dX8_casts_55 : decode cX8_casts 55 = .ok (.iload_n 2, 1) := by decide +kernel
theorem dX8_casts_56 : decode cX8_casts 56 = .ok (.ireturn, 1) := by decide +kernel
theorem dX8_seen_0 : decode cX8_seen 0 = .ok (.iload_n 1, 1) := by decide +kernel
theorem dX8_seen_1 : decode cX8_seen 1 = .ok (.invokestatic 89, 3) := by decide +kernel
theorem dX8_seen_4 : decode cX8_seen 4 = .ok (.ifCond .eq 23, 3) := by decide +kernel
theorem dX8_seen_7 : decode cX8_seen 7 = .ok (.iload_n 2, 1) := by decide +kernel
theorem dX8_seen_8 : decode cX8_seen 8 = .ok (.iconst 0, 1) := by decide +kernel
theorem dX8_seen_9 : decode cX8_seen 9 = .ok (.bipush 99, 2) := by decide +kernel
theorem dX8_seen_11 : decode cX8_seen 11 = .ok (.invokestatic 93, 3) := by decide +kernel
theorem dX8_seen_14 : decode cX8_seen 14 = .ok (.ifCond .eq 13, 3) := by decide +kernel
theorem dX8_seen_17 : decode cX8_seen 17 = .ok (.iload_n 3, 1) := by decide +kernel
theorem dX8_seen_18 : decode cX8_seen 18 = .ok (.iconst 0, 1) := by decide +kernel
theorem dX8_seen_19 : decode cX8_seen 19 = .ok (.bipush 25, 2) := by decide +kernel
theorem dX8_seen_21 : decode cX8_seen 21 = .ok (.invokestatic 93, 3) := by decide +kernel
theorem dX8_seen_24 : decode cX8_seen 24 = .ok (.ifCond .ne 9, 3) := by decide +kernel
theorem dX8_seen_27 : decode cX8_seen 27 = .ok (.aload_n 0, 1) := by decide +kernel
theorem dX8_seen_28 : decode cX8_seen 28 = .ok (.iconst (-1), 1) := by decide +kernel
theorem dX8_seen_29 : decode cX8_seen 29 = .ok (.invokevirtual 97, 3) := by decide +kernel
theorem dX8_seen_32 : decode cX8_seen 32 = .ok (.ireturn, 1) := by decide +kernel
theorem dX8_seen_33 : decode cX8_seen 33 = .ok (.aload_n 0, 1) := by decide +kernel
theorem dX8_seen_34 : decode cX8_seen 34 = .ok (.getfield 12, 3) := by decide +kernel
theorem dX8_seen_37 : decode cX8_seen 37 = .ok (.getfield 244, 3) := by decide +kernel
theorem dX8_seen_40 : decode cX8_seen 40 = .ok (.bipush 8, 2) := by decide +kernel
theorem dX8_seen_42 : decode cX8_seen 42 = .ok (.if_icmp .lt 10, 3) := by decide +kernel
theorem dX8_seen_45 : decode cX8_seen 45 = .ok (.aload_n 0, 1) := by decide +kernel
theorem dX8_seen_46 : decode cX8_seen 46 = .ok (.bipush (-5), 2) := by decide +kernel
theorem dX8_seen_48 : decode cX8_seen 48 = .ok (.invokevirtual 97, 3) := by decide +kernel
theorem dX8_seen_51 : decode cX8_seen 51 = .ok (.ireturn, 1) := by decide +kernel
theorem dX8_seen_52 : decode cX8_seen 52 = .ok (.aload_n 0, 1) := by decide +kernel
theorem dX8_seen_53 : decode cX8_seen 53 = .ok (.getfield 12, 3) := by decide +kernel
theorem dX8_seen_56 : decode cX8_seen 56 = .ok (.getfield 247, 3) := by decide +kernel
theorem dX8_seen_59 : decode cX8_seen 59 = .ok (.aload_n 0, 1) := by decide +kernel
theorem dX8_seen_60 : decode cX8_seen 60 = .ok (.getfield 12, 3) := by decide +kernel
theorem dX8_seen_63 : decode cX8_seen 63 = .ok (.getfield 244, 3) := by decide +kernel
theorem dX8_seen_66 : decode cX8_seen 66 = .ok (.iload_n 1, 1) := by decide +kernel
theorem dX8_seen_67 : decode cX8_seen 67 = .ok (.iload_n 2, 1) := by decide +kernel
theorem dX8_seen_68 : decode cX8_seen 68 = .ok (.iload_n 3, 1) := by decide +kernel
theorem dX8_seen_69 : decode cX8_seen 69 = .ok (.invokestatic 250, 3) := by decide +kernel
theorem dX8_seen_72 : decode cX8_seen 72 = .ok (.aload_n 0, 1) := by decide +kernel
theorem dX8_seen_73 : decode cX8_seen 73 = .ok (.getfield 12, 3) := by decide +kernel
theorem dX8_seen_76 : decode cX8_seen 76 = .ok (.dup, 1) := by decide +kernel
theorem dX8_seen_77 : decode cX8_seen 77 = .ok (.getfield 244, 3) := by decide +kernel
theorem dX8_seen_80 : decode cX8_seen 80 = .ok (.iconst 1, 1) := by decide +kernel
theorem dX8_seen_81 : decode cX8_seen 81 = .ok (.iadd, 1) := by decide +kernel
theorem dX8_seen_82 : decode cX8_seen 82 = .ok (.putfield 244, 3) := by decide +kernel
theorem dX8_seen_85 : decode cX8_seen 85 = .ok (.aload_n 0, 1) := by decide +kernel
theorem dX8_seen_86 : decode cX8_seen 86 = .ok (.aload_n 0, 1) := by decide +kernel
theorem dX8_seen_87 : decode cX8_seen 87 = .ok (.getfield 12, 3) := by decide +kernel
theorem dX8_seen_90 : decode cX8_seen 90 = .ok (.getfield 244, 3) := by decide +kernel
theorem dX8_seen_93 : decode cX8_seen 93 = .ok (.invokevirtual 107, 3) := by decide +kernel
theorem dX8_seen_96 : decode cX8_seen 96 = .ok (.ireturn, 1) := by decide +kernel
theorem dX8_fits_0 : decode cX8_fits 0 = .ok (.aload_n 0, 1) := by decide +kernel
theorem dX8_fits_1 : decode cX8_fits 1 = .ok (.getfield 64, 3) := by decide +kernel
theorem dX8_fits_4 : decode cX8_fits 4 = .ok (.aload_n 0, 1) := by decide +kernel
theorem dX8_fits_5 : decode cX8_fits 5 = .ok (.getfield 12, 3) := by decide +kernel
theorem dX8_fits_8 : decode cX8_fits 8 = .ok (.invokevirtual 254, 3) := by decide +kernel
theorem dX8_fits_11 : decode cX8_fits 11 = .ok (.ireturn, 1) := by decide +kernel
theorem dX8_next_0 : decode cX8_next 0 = .ok (.iload_n 1, 1) := by decide +kernel
theorem dX8_next_1 : decode cX8_next 1 = .ok (.iconst 0, 1) := by decide +kernel
theorem dX8_next_2 : decode cX8_next 2 = .ok (.bipush 99, 2) := by decide +kernel
theorem dX8_next_4 : decode cX8_next 4 = .ok (.invokestatic 93, 3) := by decide +kernel
theorem dX8_next_7 : decode cX8_next 7 = .ok (.ifCond .eq 12, 3) := by decide +kernel
theorem dX8_next_10 : decode cX8_next 10 = .ok (.iload_n 2, 1) := by decide +kernel
theorem dX8_next_11 : decode cX8_next 11 = .ok (.iconst 0, 1) := by decide +kernel
theorem dX8_next_12 : decode cX8_next 12 = .ok (.iconst 1, 1) := by decide +kernel
theorem dX8_next_13 : decode cX8_next 13 = .ok (.invokestatic 93, 3) := by decide +kernel
theorem dX8_next_16 : decode cX8_next 16 = .ok (.ifCond .ne 5, 3) := by decide +kernel
theorem dX8_next_19 : decode cX8_next 19 = .ok (.iconst (-1), 1) := by decide +kernel
theorem dX8_next_20 : decode cX8_next 20 = .ok (.ireturn, 1) := by decide +kernel
theorem dX8_next_21 : decode cX8_next 21 = .ok (.aload_n 0, 1) := by decide +kernel
theorem dX8_next_22 : decode cX8_next 22 = .ok (.getfield 64, 3) := by decide +kernel
theorem dX8_next_25 : decode cX8_next 25 = .ok (.aload_n 0, 1) := by decide +kernel
theorem dX8_next_26 : decode cX8_next 26 = .ok (.getfield 12, 3) := by decide +kernel
theorem dX8_next_29 : decode cX8_next 29 = .ok (.invokevirtual 254, 3) := by decide +kernel
theorem dX8_next_32 : decode cX8_next 32 = .ok (.istore_n 3, 1) := by decide +kernel
theorem dX8_next_33 : decode cX8_next 33 = .ok (.iload_n 3, 1) := by decide +kernel
theorem dX8_next_34 : decode cX8_next 34 = .ok (.ifCond .ne 5, 3) := by decide +kernel
theorem dX8_next_37 : decode cX8_next 37 = .ok (.iconst (-1), 1) := by decide +kernel
theorem dX8_next_38 : decode cX8_next 38 = .ok (.ireturn, 1) := by decide +kernel
theorem dX8_next_39 : decode cX8_next 39 = .ok (.aload_n 0, 1) := by decide +kernel
theorem dX8_next_40 : decode cX8_next 40 = .ok (.getfield 64, 3) := by decide +kernel
theorem dX8_next_43 : decode cX8_next 43 = .ok (.aload_n 0, 1) := by decide +kernel
theorem dX8_next_44 : decode cX8_next 44 = .ok (.getfield 12, 3) := by decide +kernel
theorem dX8_next_47 : decode cX8_next 47 = .ok (.iload_n 3, 1) := by decide +kernel
theorem dX8_next_48 : decode cX8_next 48 = .ok (.iload_n 1, 1) := by decide +kernel
theorem dX8_next_49 : decode cX8_next 49 = .ok (.invokevirtual 257, 3) := by decide +kernel
theorem dX8_next_52 : decode cX8_next 52 = .ok (.iconst 0, 1) := by decide +kernel
theorem dX8_next_53 : decode cX8_next 53 = .ok (.istore 4, 2) := by decide +kernel
theorem dX8_next_55 : decode cX8_next 55 = .ok (.iconst 1, 1) := by decide +kernel
theorem dX8_next_56 : decode cX8_next 56 = .ok (.istore 5, 2) := by decide +kernel
theorem dX8_next_58 : decode cX8_next 58 = .ok (.iload 5, 2) := by decide +kernel
theorem dX8_next_60 : decode cX8_next 60 = .ok (.bipush 25, 2) := by decide +kernel
theorem dX8_next_62 : decode cX8_next 62 = .ok (.if_icmp .ge 36, 3) := by decide +kernel
theorem dX8_next_65 : decode cX8_next 65 = .ok (.aload_n 0, 1) := by decide +kernel
theorem dX8_next_66 : decode cX8_next 66 = .ok (.getfield 64, 3) := by decide +kernel
theorem dX8_next_69 : decode cX8_next 69 = .ok (.iload 5, 2) := by decide +kernel
theorem dX8_next_71 : decode cX8_next 71 = .ok (.iload_n 3, 1) := by decide +kernel
theorem dX8_next_72 : decode cX8_next 72 = .ok (.invokevirtual 261, 3) := by decide +kernel
theorem dX8_next_75 : decode cX8_next 75 = .ok (.aload_n 0, 1) := by decide +kernel
theorem dX8_next_76 : decode cX8_next 76 = .ok (.getfield 64, 3) := by decide +kernel
theorem dX8_next_79 : decode cX8_next 79 = .ok (.iload 4, 2) := by decide +kernel
theorem dX8_next_81 : decode cX8_next 81 = .ok (.iload_n 3, 1) := by decide +kernel
theorem dX8_next_82 : decode cX8_next 82 = .ok (.invokevirtual 261, 3) := by decide +kernel
theorem dX8_next_85 : decode cX8_next 85 = .ok (.if_icmp .ge 7, 3) := by decide +kernel
theorem dX8_next_88 : decode cX8_next 88 = .ok (.iload 5, 2) := by decide +kernel
theorem dX8_next_90 : decode cX8_next 90 = .ok (.istore 4, 2) := by decide +kernel
theorem dX8_next_92 : decode cX8_next 92 = .ok (.iinc 5 1, 3) := by decide +kernel
theorem dX8_next_95 : decode cX8_next 95 = .ok (.goto (-37), 3) := by decide +kernel
theorem dX8_next_98 : decode cX8_next 98 = .ok (.iload_n 2, 1) := by decide +kernel
theorem dX8_next_99 : decode cX8_next 99 = .ok (.ifCond .ne 8, 3) := by decide +kernel
theorem dX8_next_102 : decode cX8_next 102 = .ok (.iload 4, 2) := by decide +kernel
theorem dX8_next_104 : decode cX8_next 104 = .ok (.goto 13, 3) := by decide +kernel
theorem dX8_next_107 : decode cX8_next 107 = .ok (.aload_n 0, 1) := by decide +kernel
theorem dX8_next_108 : decode cX8_next 108 = .ok (.getfield 64, 3) := by decide +kernel
theorem dX8_next_111 : decode cX8_next 111 = .ok (.iload 4, 2) := by decide +kernel
theorem dX8_next_113 : decode cX8_next 113 = .ok (.iload_n 3, 1) := by decide +kernel
theorem dX8_next_114 : decode cX8_next 114 = .ok (.invokevirtual 261, 3) := by decide +kernel
theorem dX8_next_117 : decode cX8_next 117 = .ok (.ireturn, 1) := by decide +kernel
theorem dX8_booked_0 : decode cX8_booked 0 = .ok (.iload_n 1, 1) := by decide +kernel
theorem dX8_booked_1 : decode cX8_booked 1 = .ok (.invokestatic 264, 3) := by decide +kernel
theorem dX8_booked_4 : decode cX8_booked 4 = .ok (.ifCond .eq 26, 3) := by decide +kernel
theorem dX8_booked_7 : decode cX8_booked 7 = .ok (.iload_n 2, 1) := by decide +kernel
theorem dX8_booked_8 : decode cX8_booked 8 = .ok (.invokestatic 264, 3) := by decide +kernel
theorem dX8_booked_11 : decode cX8_booked 11 = .ok (.ifCond .eq 19, 3) := by decide +kernel
theorem dX8_booked_14 : decode cX8_booked 14 = .ok (.iload_n 1, 1) := by decide +kernel
theorem dX8_booked_15 : decode cX8_booked 15 = .ok (.iload_n 2, 1) := by decide +kernel
theorem dX8_booked_16 : decode cX8_booked 16 = .ok (.if_icmp .eq 14, 3) := by decide +kernel
theorem dX8_booked_19 : decode cX8_booked 19 = .ok (.iload_n 3, 1) := by decide +kernel
theorem dX8_booked_20 : decode cX8_booked 20 = .ok (.iconst 1, 1) := by decide +kernel
theorem dX8_booked_21 : decode cX8_booked 21 = .ok (.sipush 999, 3) := by decide +kernel
theorem dX8_booked_24 : decode cX8_booked 24 = .ok (.invokestatic 93, 3) := by decide +kernel
theorem dX8_booked_27 : decode cX8_booked 27 = .ok (.ifCond .ne 9, 3) := by decide +kernel
theorem dX8_booked_30 : decode cX8_booked 30 = .ok (.aload_n 0, 1) := by decide +kernel
theorem dX8_booked_31 : decode cX8_booked 31 = .ok (.iconst (-1), 1) := by decide +kernel
theorem dX8_booked_32 : decode cX8_booked 32 = .ok (.invokevirtual 97, 3) := by decide +kernel
theorem dX8_booked_35 : decode cX8_booked 35 = .ok (.ireturn, 1) := by decide +kernel
theorem dX8_booked_36 : decode cX8_booked 36 = .ok (.aload_n 0, 1) := by decide +kernel
theorem dX8_booked_37 : decode cX8_booked 37 = .ok (.getfield 12, 3) := by decide +kernel
theorem dX8_booked_40 : decode cX8_booked 40 = .ok (.getfield 267, 3) := by decide +kernel
theorem dX8_booked_43 : decode cX8_booked 43 = .ok (.bipush 10, 2) := by decide +kernel
theorem dX8_booked_45 : decode cX8_booked 45 = .ok (.if_icmp .lt 10, 3) := by decide +kernel
theorem dX8_booked_48 : decode cX8_booked 48 = .ok (.aload_n 0, 1) := by decide +kernel
theorem dX8_booked_49 : decode cX8_booked 49 = .ok (.bipush (-5), 2) := by decide +kernel
theorem dX8_booked_51 : decode cX8_booked 51 = .ok (.invokevirtual 97, 3) := by decide +kernel
theorem dX8_booked_54 : decode cX8_booked 54 = .ok (.ireturn, 1) := by decide +kernel
theorem dX8_booked_55 : decode cX8_booked 55 = .ok (.aload_n 0, 1) := by decide +kernel
theorem dX8_booked_56 : decode cX8_booked 56 = .ok (.getfield 12, 3) := by decide +kernel
theorem dX8_booked_59 : decode cX8_booked 59 = .ok (.getfield 270, 3) := by decide +kernel
theorem dX8_booked_62 : decode cX8_booked 62 = .ok (.aload_n 0, 1) := by decide +kernel
theorem dX8_booked_63 : decode cX8_booked 63 = .ok (.getfield 12, 3) := by decide +kernel
theorem dX8_booked_66 : decode cX8_booked 66 = .ok (.getfield 267, 3) := by decide +kernel
theorem dX8_booked_69 : decode cX8_booked 69 = .ok (.iload_n 1, 1) := by decide +kernel
theorem dX8_booked_70 : decode cX8_booked 70 = .ok (.iload_n 2, 1) := by decide +kernel
theorem dX8_booked_71 : decode cX8_booked 71 = .ok (.iload_n 3, 1) := by decide +kernel
theorem dX8_booked_72 : decode cX8_booked 72 = .ok (.invokestatic 250, 3) := by decide +kernel
theorem dX8_booked_75 : decode cX8_booked 75 = .ok (.aload_n 0, 1) := by decide +kernel
theorem dX8_booked_76 : decode cX8_booked 76 = .ok (.getfield 12, 3) := by decide +kernel
theorem dX8_booked_79 : decode cX8_booked 79 = .ok (.dup, 1) := by decide +kernel
theorem dX8_booked_80 : decode cX8_booked 80 = .ok (.getfield 267, 3) := by decide +kernel
theorem dX8_booked_83 : decode cX8_booked 83 = .ok (.iconst 1, 1) := by decide +kernel
theorem dX8_booked_84 : decode cX8_booked 84 = .ok (.iadd, 1) := by decide +kernel
theorem dX8_booked_85 : decode cX8_booked 85 = .ok (.putfield 267, 3) := by decide +kernel
theorem dX8_booked_88 : decode cX8_booked 88 = .ok (.aload_n 0, 1) := by decide +kernel
theorem dX8_booked_89 : decode cX8_booked 89 = .ok (.aload_n 0, 1) := by decide +kernel
theorem dX8_booked_90 : decode cX8_booked 90 = .ok (.getfield 12, 3) := by decide +kernel
theorem dX8_booked_93 : decode cX8_booked 93 = .ok (.getfield 267, 3) := by decide +kernel
theorem dX8_booked_96 : decode cX8_booked 96 = .ok (.invokevirtual 107, 3) := by decide +kernel
theorem dX8_booked_99 : decode cX8_booked 99 = .ok (.ireturn, 1) := by decide +kernel
theorem dX8_through_0 : decode cX8_through 0 = .ok (.iload_n 1, 1) := by decide +kernel
theorem dX8_through_1 : decode cX8_through 1 = .ok (.invokestatic 264, 3) := by decide +kernel
theorem dX8_through_4 : decode cX8_through 4 = .ok (.ifCond .eq 24, 3) := by decide +kernel
theorem dX8_through_7 : decode cX8_through 7 = .ok (.iload_n 2, 1) := by decide +kernel
theorem dX8_through_8 : decode cX8_through 8 = .ok (.invokestatic 264, 3) := by decide +kernel
theorem dX8_through_11 : decode cX8_through 11 = .ok (.ifCond .eq 17, 3) := by decide +kernel
theorem dX8_through_14 : decode cX8_through 14 = .ok (.iload_n 1, 1) := by decide +kernel
theorem dX8_through_15 : decode cX8_through 15 = .ok (.iload_n 2, 1) := by decide +kernel
theorem dX8_through_16 : decode cX8_through 16 = .ok (.if_icmp .eq 12, 3) := by decide +kernel
theorem dX8_through_19 : decode cX8_through 19 = .ok (.iload_n 3, 1) := by decide +kernel
theorem dX8_through_20 : decode cX8_through 20 = .ok (.iconst 0, 1) := by decide +kernel
theorem dX8_through_21 : decode cX8_through 21 = .ok (.iconst 1, 1) := by decide +kernel
theorem dX8_through_22 : decode cX8_through 22 = .ok (.invokestatic 93, 3) := by decide +kernel
theorem dX8_through_25 : decode cX8_through 25 = .ok (.ifCond .ne 5, 3) := by decide +kernel
theorem dX8_through_28 : decode cX8_through 28 = .ok (.iconst (-1), 1) := by decide +kernel
theorem dX8_through_29 : decode cX8_through 29 = .ok (.ireturn, 1) := by decide +kernel
theorem dX8_through_30 : decode cX8_through 30 = .ok (.sipush 9991, 3) := by decide +kernel
theorem dX8_through_33 : decode cX8_through 33 = .ok (.istore 4, 2) := by decide +kernel
theorem dX8_through_35 : decode cX8_through 35 = .ok (.iconst 0, 1) := by decide +kernel
theorem dX8_through_36 : decode cX8_through 36 = .ok (.istore 5, 2) := by decide +kernel
theorem dX8_through_38 : decode cX8_through 38 = .ok (.iconst 0, 1) := by decide +kernel
theorem dX8_through_39 : decode cX8_through 39 = .ok (.istore 6, 2) := by decide +kernel
theorem dX8_through_41 : decode cX8_through 41 = .ok (.iload 6, 2) := by decide +kernel
theorem dX8_through_43 : decode cX8_through 43 = .ok (.bipush 32, 2) := by decide +kernel
theorem dX8_through_45 : decode cX8_through 45 = .ok (.if_icmp .ge 57, 3) := by decide +kernel
theorem dX8_through_48 : decode cX8_through 48 = .ok (.iload 6, 2) := by decide +kernel
theorem dX8_through_50 : decode cX8_through 50 = .ok (.iload_n 1, 1) := by decide +kernel
theorem dX8_through_51 : decode cX8_through 51 = .ok (.ishr, 1) := by decide +kernel
theorem dX8_through_52 : decode cX8_through 52 = .ok (.iconst 1, 1) := by decide +kernel
theorem dX8_through_53 : decode cX8_through 53 = .ok (.iand, 1) := by decide +kernel
theorem dX8_through_54 : decode cX8_through 54 = .ok (.iconst 1, 1) := by decide +kernel
theorem dX8_through_55 : decode cX8_through 55 = .ok (.if_icmp .ne 41, 3) := by decide +kernel
theorem dX8_through_58 : decode cX8_through 58 = .ok (.iload 6, 2) := by decide +kernel
theorem dX8_through_60 : decode cX8_through 60 = .ok (.iload_n 2, 1) := by decide +kernel
theorem dX8_through_61 : decode cX8_through 61 = .ok (.ishr, 1) := by decide +kernel
theorem dX8_through_62 : decode cX8_through 62 = .ok (.iconst 1, 1) := by decide +kernel
theorem dX8_through_63 : decode cX8_through 63 = .ok (.iand, 1) := by decide +kernel
theorem dX8_through_64 : decode cX8_through 64 = .ok (.ifCond .ne 32, 3) := by decide +kernel
theorem dX8_through_67 : decode cX8_through 67 = .ok (.aload_n 0, 1) := by decide +kernel
theorem dX8_through_68 : decode cX8_through 68 = .ok (.getfield 12, 3) := by decide +kernel
theorem dX8_through_71 : decode cX8_through 71 = .ok (.iload 6, 2) := by decide +kernel
theorem dX8_through_73 : decode cX8_through 73 = .ok (.invokevirtual 273, 3) := by decide +kernel
theorem dX8_through_76 : decode cX8_through 76 = .ok (.iload 4, 2) := by decide +kernel
theorem dX8_through_78 : decode cX8_through 78 = .ok (.if_icmp .ge 18, 3) := by decide +kernel
theorem dX8_through_81 : decode cX8_through 81 = .ok (.aload_n 0, 1) := by decide +kernel
theorem dX8_through_82 : decode cX8_through 82 = .ok (.getfield 12, 3) := by decide +kernel
theorem dX8_through_85 : decode cX8_through 85 = .ok (.iload 6, 2) := by decide +kernel
theorem dX8_through_87 : decode cX8_through 87 = .ok (.invokevirtual 273, 3) := by decide +kernel
theorem dX8_through_90 : decode cX8_through 90 = .ok (.istore 4, 2) := by decide +kernel
theorem dX8_through_92 : decode cX8_through 92 = .ok (.iload 6, 2) := by decide +kernel
theorem dX8_through_94 : decode cX8_through 94 = .ok (.istore 5, 2) := by decide +kernel
theorem dX8_through_96 : decode cX8_through 96 = .ok (.iinc 6 1, 3) := by decide +kernel
theorem dX8_through_99 : decode cX8_through 99 = .ok (.goto (-58), 3) := by decide +kernel
theorem dX8_through_102 : decode cX8_through 102 = .ok (.iload_n 3, 1) := by decide +kernel
theorem dX8_through_103 : decode cX8_through 103 = .ok (.ifCond .ne 8, 3) := by decide +kernel
theorem dX8_through_106 : decode cX8_through 106 = .ok (.iload 4, 2) := by decide +kernel
theorem dX8_through_108 : decode cX8_through 108 = .ok (.goto 5, 3) := by decide +kernel
theorem dX8_through_111 : decode cX8_through 111 = .ok (.iload 5, 2) := by decide +kernel
theorem dX8_through_113 : decode cX8_through 113 = .ok (.ireturn, 1) := by decide +kernel
theorem dX8_settled_0 : decode cX8_settled 0 = .ok (.iconst 0, 1) := by decide +kernel
theorem dX8_settled_1 : decode cX8_settled 1 = .ok (.istore_n 1, 1) := by decide +kernel
theorem dX8_settled_2 : decode cX8_settled 2 = .ok (.iconst 0, 1) := by decide +kernel
theorem dX8_settled_3 : decode cX8_settled 3 = .ok (.istore_n 2, 1) := by decide +kernel
theorem dX8_settled_4 : decode cX8_settled 4 = .ok (.iload_n 2, 1) := by decide +kernel
theorem dX8_settled_5 : decode cX8_settled 5 = .ok (.iconst 5, 1) := by decide +kernel
theorem dX8_settled_6 : decode cX8_settled 6 = .ok (.if_icmp .ge 34, 3) := by decide +kernel
theorem dX8_settled_9 : decode cX8_settled 9 = .ok (.aload_n 0, 1) := by decide +kernel
theorem dX8_settled_10 : decode cX8_settled 10 = .ok (.getfield 12, 3) := by decide +kernel
theorem dX8_settled_13 : decode cX8_settled 13 = .ok (.iload_n 2, 1) := by decide +kernel
theorem dX8_settled_14 : decode cX8_settled 14 = .ok (.invokevirtual 276, 3) := by decide +kernel
theorem dX8_settled_17 : decode cX8_settled 17 = .ok (.istore_n 3, 1) := by decide +kernel
theorem dX8_settled_18 : decode cX8_settled 18 = .ok (.iload_n 3, 1) := by decide +kernel
theorem dX8_settled_19 : decode cX8_settled 19 = .ok (.ifCond .eq 15, 3) := by decide +kernel
theorem dX8_settled_22 : decode cX8_settled 22 = .ok (.aload_n 0, 1) := by decide +kernel
theorem dX8_settled_23 : decode cX8_settled 23 = .ok (.getfield 71, 3) := by decide +kernel
theorem dX8_settled_26 : decode cX8_settled 26 = .ok (.iload_n 1, 1) := by decide +kernel
theorem dX8_settled_27 : decode cX8_settled 27 = .ok (.iload_n 3, 1) := by decide +kernel
theorem dX8_settled_28 : decode cX8_settled 28 = .ok (.invokevirtual 208, 3) := by decide +kernel
theorem dX8_settled_31 : decode cX8_settled 31 = .ok (.iinc 1 1, 3) := by decide +kernel
theorem dX8_settled_34 : decode cX8_settled 34 = .ok (.iinc 2 1, 3) := by decide +kernel
theorem dX8_settled_37 : decode cX8_settled 37 = .ok (.goto (-33), 3) := by decide +kernel
theorem dX8_settled_40 : decode cX8_settled 40 = .ok (.iconst 1, 1) := by decide +kernel
theorem dX8_settled_41 : decode cX8_settled 41 = .ok (.iload_n 1, 1) := by decide +kernel
theorem dX8_settled_42 : decode cX8_settled 42 = .ok (.ishl, 1) := by decide +kernel
theorem dX8_settled_43 : decode cX8_settled 43 = .ok (.iconst 1, 1) := by decide +kernel
theorem dX8_settled_44 : decode cX8_settled 44 = .ok (.isub, 1) := by decide +kernel
theorem dX8_settled_45 : decode cX8_settled 45 = .ok (.istore_n 2, 1) := by decide +kernel
theorem dX8_settled_46 : decode cX8_settled 46 = .ok (.iload_n 1, 1) := by decide +kernel
theorem dX8_settled_47 : decode cX8_settled 47 = .ok (.aload_n 0, 1) := by decide +kernel
theorem dX8_settled_48 : decode cX8_settled 48 = .ok (.getfield 71, 3) := by decide +kernel
theorem dX8_settled_51 : decode cX8_settled 51 = .ok (.iload_n 1, 1) := by decide +kernel
theorem dX8_settled_52 : decode cX8_settled 52 = .ok (.iload_n 2, 1) := by decide +kernel
theorem dX8_settled_53 : decode cX8_settled 53 = .ok (.iload_n 2, 1) := by decide +kernel
theorem dX8_settled_54 : decode cX8_settled 54 = .ok (.invokevirtual 212, 3) := by decide +kernel
theorem dX8_settled_57 : decode cX8_settled 57 = .ok (.isub, 1) := by decide +kernel
theorem dX8_settled_58 : decode cX8_settled 58 = .ok (.ireturn, 1) := by decide +kernel
theorem dX8_forget_0 : decode cX8_forget 0 = .ok (.aload_n 0, 1) := by decide +kernel
theorem dX8_forget_1 : decode cX8_forget 1 = .ok (.getfield 12, 3) := by decide +kernel
theorem dX8_forget_4 : decode cX8_forget 4 = .ok (.getfield 244, 3) := by decide +kernel
theorem dX8_forget_7 : decode cX8_forget 7 = .ok (.aload_n 0, 1) := by decide +kernel
theorem dX8_forget_8 : decode cX8_forget 8 = .ok (.getfield 12, 3) := by decide +kernel
theorem dX8_forget_11 : decode cX8_forget 11 = .ok (.getfield 267, 3) := by decide +kernel
theorem dX8_forget_14 : decode cX8_forget 14 = .ok (.iadd, 1) := by decide +kernel
theorem dX8_forget_15 : decode cX8_forget 15 = .ok (.istore_n 1, 1) := by decide +kernel
theorem dX8_forget_16 : decode cX8_forget 16 = .ok (.aload_n 0, 1) := by decide +kernel
theorem dX8_forget_17 : decode cX8_forget 17 = .ok (.getfield 12, 3) := by decide +kernel
theorem dX8_forget_20 : decode cX8_forget 20 = .ok (.iconst 0, 1) := by decide +kernel
theorem dX8_forget_21 : decode cX8_forget 21 = .ok (.putfield 244, 3) := by decide +kernel
theorem dX8_forget_24 : decode cX8_forget 24 = .ok (.aload_n 0, 1) := by decide +kernel
theorem dX8_forget_25 : decode cX8_forget 25 = .ok (.getfield 12, 3) := by decide +kernel
theorem dX8_forget_28 : decode cX8_forget 28 = .ok (.iconst 0, 1) := by decide +kernel
theorem dX8_forget_29 : decode cX8_forget 29 = .ok (.putfield 267, 3) := by decide +kernel
theorem dX8_forget_32 : decode cX8_forget 32 = .ok (.iload_n 1, 1) := by decide +kernel
theorem dX8_forget_33 : decode cX8_forget 33 = .ok (.ireturn, 1) := by decide +kernel
theorem dX8_few_0 : decode cX8_few 0 = .ok (.iload_n 1, 1) := by decide +kernel
theorem dX8_few_1 : decode cX8_few 1 = .ok (.iconst 1, 1) := by decide +kernel
theorem dX8_few_2 : decode cX8_few 2 = .ok (.bipush 20, 2) := by decide +kernel
theorem dX8_few_4 : decode cX8_few 4 = .ok (.invokestatic 93, 3) := by decide +kernel
theorem dX8_few_7 : decode cX8_few 7 = .ok (.ifCond .eq 13, 3) := by decide +kernel
theorem dX8_few_10 : decode cX8_few 10 = .ok (.iload_n 2, 1) := by decide +kernel
theorem dX8_few_11 : decode cX8_few 11 = .ok (.iconst 0, 1) := by decide +kernel
theorem dX8_few_12 : decode cX8_few 12 = .ok (.bipush 99, 2) := by decide +kernel
theorem dX8_few_14 : decode cX8_few 14 = .ok (.invokestatic 93, 3) := by decide +kernel
theorem dX8_few_17 : decode cX8_few 17 = .ok (.ifCond .ne 7, 3) := by decide +kernel
theorem dX8_few_20 : decode cX8_few 20 = .ok (.ldc2_w 279, 3) := by decide +kernel
theorem dX8_few_23 : decode cX8_few 23 = .ok (.lreturn, 1) := by decide +kernel
theorem dX8_few_24 : decode cX8_few 24 = .ok (.aload_n 0, 1) := by decide +kernel
theorem dX8_few_25 : decode cX8_few 25 = .ok (.getfield 12, 3) := by decide +kernel
theorem dX8_few_28 : decode cX8_few 28 = .ok (.getfield 156, 3) := by decide +kernel
theorem dX8_few_31 : decode cX8_few 31 = .ok (.iconst 1, 1) := by decide +kernel
theorem dX8_few_32 : decode cX8_few 32 = .ok (.iaload, 1) := by decide +kernel
theorem dX8_few_33 : decode cX8_few 33 = .ok (.istore_n 3, 1) := by decide +kernel
theorem dX8_few_34 : decode cX8_few 34 = .ok (.aload_n 0, 1) := by decide +kernel
theorem dX8_few_35 : decode cX8_few 35 = .ok (.getfield 78, 3) := by decide +kernel
theorem dX8_few_38 : decode cX8_few 38 = .ok (.lconst 0, 1) := by decide +kernel
theorem dX8_few_39 : decode cX8_few 39 = .ok (.invokestatic 281, 3) := by decide +kernel
theorem dX8_few_42 : decode cX8_few 42 = .ok (.aload_n 0, 1) := by decide +kernel
theorem dX8_few_43 : decode cX8_few 43 = .ok (.getfield 78, 3) := by decide +kernel
theorem dX8_few_46 : decode cX8_few 46 = .ok (.iconst 0, 1) := by decide +kernel
theorem dX8_few_47 : decode cX8_few 47 = .ok (.ldc2_w 287, 3) := by decide +kernel
theorem dX8_few_50 : decode cX8_few 50 = .ok (.lastore, 1) := by decide +kernel
theorem dX8_few_51 : decode cX8_few 51 = .ok (.iconst 0, 1) := by decide +kernel
theorem dX8_few_52 : decode cX8_few 52 = .ok (.istore 4, 2) := by decide +kernel
theorem dX8_few_54 : decode cX8_few 54 = .ok (.iload 4, 2) := by decide +kernel
theorem dX8_few_56 : decode cX8_few 56 = .ok (.iload_n 2, 1) := by decide +kernel
theorem dX8_few_57 : decode cX8_few 57 = .ok (.if_icmp .ge 79, 3) := by decide +kernel
theorem dX8_few_60 : decode cX8_few 60 = .ok (.iload_n 1, 1) := by decide +kernel
theorem dX8_few_61 : decode cX8_few 61 = .ok (.iconst 1, 1) := by decide +kernel
theorem dX8_few_62 : decode cX8_few 62 = .ok (.isub, 1) := by decide +kernel
theorem dX8_few_63 : decode cX8_few 63 = .ok (.istore 5, 2) := by decide +kernel
theorem dX8_few_65 : decode cX8_few 65 = .ok (.iload 5, 2) := by decide +kernel
theorem dX8_few_67 : decode cX8_few 67 = .ok (.ifCond .lt 63, 3) := by decide +kernel
theorem dX8_few_70 : decode cX8_few 70 = .ok (.iload 5, 2) := by decide +kernel
theorem dX8_few_72 : decode cX8_few 72 = .ok (.ifCond .le 22, 3) := by decide +kernel
theorem dX8_few_75 : decode cX8_few 75 = .ok (.aload_n 0, 1) := by decide +kernel
theorem dX8_few_76 : decode cX8_few 76 = .ok (.getfield 78, 3) := by decide +kernel
theorem dX8_few_79 : decode cX8_few 79 = .ok (.iload 5, 2) := by decide +kernel
theorem dX8_few_81 : decode cX8_few 81 = .ok (.iconst 1, 1) := by decide +kernel
theorem dX8_few_82 : decode cX8_few 82 = .ok (.isub, 1) := by decide +kernel
theorem dX8_few_83 : decode cX8_few 83 = .ok (.laload, 1) := by decide +kernel
theorem dX8_few_84 : decode cX8_few 84 = .ok (.iload_n 3, 1) := by decide +kernel
theorem dX8_few_85 : decode cX8_few 85 = .ok (.i2l, 1) := by decide +kernel
theorem dX8_few_86 : decode cX8_few 86 = .ok (.lmul, 1) := by decide +kernel
theorem dX8_few_87 : decode cX8_few 87 = .ok (.ldc2_w 289, 3) := by decide +kernel
theorem dX8_few_90 : decode cX8_few 90 = .ok (.ldiv, 1) := by decide +kernel
theorem dX8_few_91 : decode cX8_few 91 = .ok (.goto 4, 3) := by decide +kernel
theorem dX8_few_94 : decode cX8_few 94 = .ok (.lconst 0, 1) := by decide +kernel
theorem dX8_few_95 : decode cX8_few 95 = .ok (.lstore 6, 2) := by decide +kernel
theorem dX8_few_97 : decode cX8_few 97 = .ok (.aload_n 0, 1) := by decide +kernel
theorem dX8_few_98 : decode cX8_few 98 = .ok (.getfield 78, 3) := by decide +kernel
theorem dX8_few_101 : decode cX8_few 101 = .ok (.iload 5, 2) := by decide +kernel
theorem dX8_few_103 : decode cX8_few 103 = .ok (.aload_n 0, 1) := by decide +kernel
theorem dX8_few_104 : decode cX8_few 104 = .ok (.getfield 78, 3) := by decide +kernel
theorem dX8_few_107 : decode cX8_few 107 = .ok (.iload 5, 2) := by decide +kernel
theorem dX8_few_109 : decode cX8_few 109 = .ok (.laload, 1) := by decide +kernel
theorem dX8_few_110 : decode cX8_few 110 = .ok (.bipush 10, 2) := by decide +kernel
theorem dX8_few_112 : decode cX8_few 112 = .ok (.iload_n 3, 1) := by decide +kernel
theorem dX8_few_113 : decode cX8_few 113 = .ok (.isub, 1) := by decide +kernel
theorem dX8_few_114 : decode cX8_few 114 = .ok (.i2l, 1) := by decide +kernel
theorem dX8_few_115 : decode cX8_few 115 = .ok (.lmul, 1) := by decide +kernel
theorem dX8_few_116 : decode cX8_few 116 = .ok (.ldc2_w 289, 3) := by decide +kernel
theorem dX8_few_119 : decode cX8_few 119 = .ok (.ldiv, 1) := by decide +kernel
theorem dX8_few_120 : decode cX8_few 120 = .ok (.lload 6, 2) := by decide +kernel
theorem dX8_few_122 : decode cX8_few 122 = .ok (.ladd, 1) := by decide +kernel
theorem dX8_few_123 : decode cX8_few 123 = .ok (.lastore, 1) := by decide +kernel
theorem dX8_few_124 : decode cX8_few 124 = .ok (.iinc 5 (-1), 3) := by decide +kernel
theorem dX8_few_127 : decode cX8_few 127 = .ok (.goto (-62), 3) := by decide +kernel
theorem dX8_few_130 : decode cX8_few 130 = .ok (.iinc 4 1, 3) := by decide +kernel
theorem dX8_few_133 : decode cX8_few 133 = .ok (.goto (-79), 3) := by decide +kernel
theorem dX8_few_136 : decode cX8_few 136 = .ok (.lconst 0, 1) := by decide +kernel
theorem dX8_few_137 : decode cX8_few 137 = .ok (.lstore 4, 2) := by decide +kernel
theorem dX8_few_139 : decode cX8_few 139 = .ok (.iconst 0, 1) := by decide +kernel
theorem dX8_few_140 : decode cX8_few 140 = .ok (.istore 6, 2) := by decide +kernel
theorem dX8_few_142 : decode cX8_few 142 = .ok (.iload 6, 2) := by decide +kernel
theorem dX8_few_144 : decode cX8_few 144 = .ok (.iload_n 1, 1) := by decide +kernel
theorem dX8_few_145 : decode cX8_few 145 = .ok (.if_icmp .ge 21, 3) := by decide +kernel
theorem dX8_few_148 : decode cX8_few 148 = .ok (.lload 4, 2) := by decide +kernel
theorem dX8_few_150 : decode cX8_few 150 = .ok (.aload_n 0, 1) := by decide +kernel
theorem dX8_few_151 : decode cX8_few 151 = .ok (.getfield 78, 3) := by decide +kernel
theorem dX8_few_154 : decode cX8_few 154 = .ok (.iload 6, 2) := by decide +kernel
theorem dX8_few_156 : decode cX8_few 156 = .ok (.laload, 1) := by decide +kernel
theorem dX8_few_157 : decode cX8_few 157 = .ok (.ladd, 1) := by decide +kernel
theorem dX8_few_158 : decode cX8_few 158 = .ok (.lstore 4, 2) := by decide +kernel
theorem dX8_few_160 : decode cX8_few 160 = .ok (.iinc 6 1, 3) := by decide +kernel
theorem dX8_few_163 : decode cX8_few 163 = .ok (.goto (-21), 3) := by decide +kernel
theorem dX8_few_166 : decode cX8_few 166 = .ok (.lload 4, 2) := by decide +kernel
theorem dX8_few_168 : decode cX8_few 168 = .ok (.lreturn, 1) := by decide +kernel
theorem dX8_weeks_0 : decode cX8_weeks 0 = .ok (.iload_n 1, 1) := by decide +kernel
theorem dX8_weeks_1 : decode cX8_weeks 1 = .ok (.iconst 0, 1) := by decide +kernel
theorem dX8_weeks_2 : decode cX8_weeks 2 = .ok (.ldc_w 291, 3) := by decide +kernel
theorem dX8_weeks_5 : decode cX8_weeks 5 = .ok (.invokestatic 93, 3) := by decide +kernel
theorem dX8_weeks_8 : decode cX8_weeks 8 = .ok (.ifCond .eq 13, 3) := by decide +kernel
theorem dX8_weeks_11 : decode cX8_weeks 11 = .ok (.iload_n 2, 1) := by decide +kernel
theorem dX8_weeks_12 : decode cX8_weeks 12 = .ok (.iconst 1, 1) := by decide +kernel
theorem dX8_weeks_13 : decode cX8_weeks 13 = .ok (.bipush 60, 2) := by decide +kernel
theorem dX8_weeks_15 : decode cX8_weeks 15 = .ok (.invokestatic 93, 3) := by decide +kernel
theorem dX8_weeks_18 : decode cX8_weeks 18 = .ok (.ifCond .ne 9, 3) := by decide +kernel
theorem dX8_weeks_21 : decode cX8_weeks 21 = .ok (.aload_n 0, 1) := by decide +kernel
theorem dX8_weeks_22 : decode cX8_weeks 22 = .ok (.iconst (-1), 1) := by decide +kernel
theorem dX8_weeks_23 : decode cX8_weeks 23 = .ok (.invokevirtual 97, 3) := by decide +kernel
theorem dX8_weeks_26 : decode cX8_weeks 26 = .ok (.ireturn, 1) := by decide +kernel
theorem dX8_weeks_27 : decode cX8_weeks 27 = .ok (.aload_n 0, 1) := by decide +kernel
theorem dX8_weeks_28 : decode cX8_weeks 28 = .ok (.getfield 12, 3) := by decide +kernel
theorem dX8_weeks_31 : decode cX8_weeks 31 = .ok (.getfield 138, 3) := by decide +kernel
theorem dX8_weeks_34 : decode cX8_weeks 34 = .ok (.ifCond .ne 10, 3) := by decide +kernel
theorem dX8_weeks_37 : decode cX8_weeks 37 = .ok (.aload_n 0, 1) := by decide +kernel
theorem dX8_weeks_38 : decode cX8_weeks 38 = .ok (.bipush (-3), 2) := by decide +kernel
theorem dX8_weeks_40 : decode cX8_weeks 40 = .ok (.invokevirtual 97, 3) := by decide +kernel
theorem dX8_weeks_43 : decode cX8_weeks 43 = .ok (.ireturn, 1) := by decide +kernel
theorem dX8_weeks_44 : decode cX8_weeks 44 = .ok (.aload_n 0, 1) := by decide +kernel
theorem dX8_weeks_45 : decode cX8_weeks 45 = .ok (.getfield 23, 3) := by decide +kernel
theorem dX8_weeks_48 : decode cX8_weeks 48 = .ok (.aload_n 0, 1) := by decide +kernel
theorem dX8_weeks_49 : decode cX8_weeks 49 = .ok (.getfield 12, 3) := by decide +kernel
theorem dX8_weeks_52 : decode cX8_weeks 52 = .ok (.invokevirtual 180, 3) := by decide +kernel
theorem dX8_weeks_55 : decode cX8_weeks 55 = .ok (.aload_n 0, 1) := by decide +kernel
theorem dX8_weeks_56 : decode cX8_weeks 56 = .ok (.aload_n 0, 1) := by decide +kernel
theorem dX8_weeks_57 : decode cX8_weeks 57 = .ok (.iload_n 1, 1) := by decide +kernel
theorem dX8_weeks_58 : decode cX8_weeks 58 = .ok (.iload_n 2, 1) := by decide +kernel
theorem dX8_weeks_59 : decode cX8_weeks 59 = .ok (.invokevirtual 292, 3) := by decide +kernel
theorem dX8_weeks_62 : decode cX8_weeks 62 = .ok (.invokevirtual 107, 3) := by decide +kernel
theorem dX8_weeks_65 : decode cX8_weeks 65 = .ok (.ireturn, 1) := by decide +kernel
theorem dX8_drawn_0 : decode cX8_drawn 0 = .ok (.aload_n 0, 1) := by decide +kernel
theorem dX8_drawn_1 : decode cX8_drawn 1 = .ok (.getfield 23, 3) := by decide +kernel
theorem dX8_drawn_4 : decode cX8_drawn 4 = .ok (.getfield 138, 3) := by decide +kernel
theorem dX8_drawn_7 : decode cX8_drawn 7 = .ok (.ifCond .ne 5, 3) := by decide +kernel
theorem dX8_drawn_10 : decode cX8_drawn 10 = .ok (.iconst (-1), 1) := by decide +kernel
theorem dX8_drawn_11 : decode cX8_drawn 11 = .ok (.ireturn, 1) := by decide +kernel
theorem dX8_drawn_12 : decode cX8_drawn 12 = .ok (.iload_n 2, 1) := by decide +kernel
theorem dX8_drawn_13 : decode cX8_drawn 13 = .ok (.ifCond .ne 20, 3) := by decide +kernel
theorem dX8_drawn_16 : decode cX8_drawn 16 = .ok (.iload_n 1, 1) := by decide +kernel
theorem dX8_drawn_17 : decode cX8_drawn 17 = .ok (.invokestatic 89, 3) := by decide +kernel
theorem dX8_drawn_20 : decode cX8_drawn 20 = .ok (.ifCond .eq 13, 3) := by decide +kernel
theorem dX8_drawn_23 : decode cX8_drawn 23 = .ok (.aload_n 0, 1) := by decide +kernel
theorem dX8_drawn_24 : decode cX8_drawn 24 = .ok (.getfield 23, 3) := by decide +kernel
theorem dX8_drawn_27 : decode cX8_drawn 27 = .ok (.getfield 101, 3) := by decide +kernel
theorem dX8_drawn_30 : decode cX8_drawn 30 = .ok (.iload_n 1, 1) := by decide +kernel
theorem dX8_drawn_31 : decode cX8_drawn 31 = .ok (.iaload, 1) := by decide +kernel
theorem dX8_drawn_32 : decode cX8_drawn 32 = .ok (.ireturn, 1) := by decide +kernel
theorem dX8_drawn_33 : decode cX8_drawn 33 = .ok (.iload_n 2, 1) := by decide +kernel
theorem dX8_drawn_34 : decode cX8_drawn 34 = .ok (.iconst 1, 1) := by decide +kernel
theorem dX8_drawn_35 : decode cX8_drawn 35 = .ok (.if_icmp .ne 14, 3) := by decide +kernel
theorem dX8_drawn_38 : decode cX8_drawn 38 = .ok (.aload_n 0, 1) := by decide +kernel
theorem dX8_drawn_39 : decode cX8_drawn 39 = .ok (.getfield 23, 3) := by decide +kernel
theorem dX8_drawn_42 : decode cX8_drawn 42 = .ok (.iload_n 1, 1) := by decide +kernel
theorem dX8_drawn_43 : decode cX8_drawn 43 = .ok (.invokevirtual 150, 3) := by decide +kernel
theorem dX8_drawn_46 : decode cX8_drawn 46 = .ok (.goto 4, 3) := by decide +kernel
theorem dX8_drawn_49 : decode cX8_drawn 49 = .ok (.iconst (-1), 1) := by decide +kernel
theorem dX8_drawn_50 : decode cX8_drawn 50 = .ok (.ireturn, 1) := by decide +kernel
theorem dX8_image_0 : decode cX8_image 0 = .ok (.iload_n 1, 1) := by decide +kernel
theorem dX8_image_1 : decode cX8_image 1 = .ok (.iconst 0, 1) := by decide +kernel
theorem dX8_image_2 : decode cX8_image 2 = .ok (.iconst 1, 1) := by decide +kernel
theorem dX8_image_3 : decode cX8_image 3 = .ok (.invokestatic 93, 3) := by decide +kernel
theorem dX8_image_6 : decode cX8_image 6 = .ok (.ifCond .ne 9, 3) := by decide +kernel
theorem dX8_image_9 : decode cX8_image 9 = .ok (.aload_n 0, 1) := by decide +kernel
theorem dX8_image_10 : decode cX8_image 10 = .ok (.iconst (-1), 1) := by decide +kernel
theorem dX8_image_11 : decode cX8_image 11 = .ok (.invokevirtual 97, 3) := by decide +kernel
theorem dX8_image_14 : decode cX8_image 14 = .ok (.ireturn, 1) := by decide +kernel
theorem dX8_image_15 : decode cX8_image 15 = .ok (.aload_n 0, 1) := by decide +kernel
theorem dX8_image_16 : decode cX8_image 16 = .ok (.getfield 16, 3) := by decide +kernel
theorem dX8_image_19 : decode cX8_image 19 = .ok (.iload_n 1, 1) := by decide +kernel
theorem dX8_image_20 : decode cX8_image 20 = .ok (.aaload, 1) := by decide +kernel
theorem dX8_image_21 : decode cX8_image 21 = .ok (.ifnonnull 16, 3) := by decide +kernel
theorem dX8_image_24 : decode cX8_image 24 = .ok (.aload_n 0, 1) := by decide +kernel
theorem dX8_image_25 : decode cX8_image 25 = .ok (.getfield 16, 3) := by decide +kernel
theorem dX8_image_28 : decode cX8_image 28 = .ok (.iload_n 1, 1) := by decide +kernel
theorem dX8_image_29 : decode cX8_image 29 = .ok (.new 9, 3) := by decide +kernel
theorem dX8_image_32 : decode cX8_image 32 = .ok (.dup, 1) := by decide +kernel
theorem dX8_image_33 : decode cX8_image 33 = .ok (.invokespecial 11, 3) := by decide +kernel
theorem dX8_image_36 : decode cX8_image 36 = .ok (.aastore, 1) := by decide +kernel
theorem dX8_image_37 : decode cX8_image 37 = .ok (.aload_n 0, 1) := by decide +kernel
theorem dX8_image_38 : decode cX8_image 38 = .ok (.getfield 16, 3) := by decide +kernel
theorem dX8_image_41 : decode cX8_image 41 = .ok (.iload_n 1, 1) := by decide +kernel
theorem dX8_image_42 : decode cX8_image 42 = .ok (.aaload, 1) := by decide +kernel
theorem dX8_image_43 : decode cX8_image 43 = .ok (.aload_n 0, 1) := by decide +kernel
theorem dX8_image_44 : decode cX8_image 44 = .ok (.getfield 12, 3) := by decide +kernel
theorem dX8_image_47 : decode cX8_image 47 = .ok (.invokevirtual 180, 3) := by decide +kernel
theorem dX8_image_50 : decode cX8_image 50 = .ok (.aload_n 0, 1) := by decide +kernel
theorem dX8_image_51 : decode cX8_image 51 = .ok (.iconst 0, 1) := by decide +kernel
theorem dX8_image_52 : decode cX8_image 52 = .ok (.invokevirtual 107, 3) := by decide +kernel
theorem dX8_image_55 : decode cX8_image 55 = .ok (.ireturn, 1) := by decide +kernel
theorem dX8_back_0 : decode cX8_back 0 = .ok (.iload_n 1, 1) := by decide +kernel
theorem dX8_back_1 : decode cX8_back 1 = .ok (.iconst 0, 1) := by decide +kernel
theorem dX8_back_2 : decode cX8_back 2 = .ok (.iconst 1, 1) := by decide +kernel
theorem dX8_back_3 : decode cX8_back 3 = .ok (.invokestatic 93, 3) := by decide +kernel
theorem dX8_back_6 : decode cX8_back 6 = .ok (.ifCond .ne 9, 3) := by decide +kernel
theorem dX8_back_9 : decode cX8_back 9 = .ok (.aload_n 0, 1) := by decide +kernel
theorem dX8_back_10 : decode cX8_back 10 = .ok (.iconst (-1), 1) := by decide +kernel
theorem dX8_back_11 : decode cX8_back 11 = .ok (.invokevirtual 97, 3) := by decide +kernel
theorem dX8_back_14 : decode cX8_back 14 = .ok (.ireturn, 1) := by decide +kernel
theorem dX8_back_15 : decode cX8_back 15 = .ok (.aload_n 0, 1) := by decide +kernel
theorem dX8_back_16 : decode cX8_back 16 = .ok (.getfield 16, 3) := by decide +kernel
theorem dX8_back_19 : decode cX8_back 19 = .ok (.iload_n 1, 1) := by decide +kernel
theorem dX8_back_20 : decode cX8_back 20 = .ok (.aaload, 1) := by decide +kernel
theorem dX8_back_21 : decode cX8_back 21 = .ok (.ifnonnull 10, 3) := by decide +kernel
theorem dX8_back_24 : decode cX8_back 24 = .ok (.aload_n 0, 1) := by decide +kernel
theorem dX8_back_25 : decode cX8_back 25 = .ok (.bipush (-2), 2) := by decide +kernel
theorem dX8_back_27 : decode cX8_back 27 = .ok (.invokevirtual 97, 3) := by decide +kernel
theorem dX8_back_30 : decode cX8_back 30 = .ok (.ireturn, 1) := by decide +kernel
theorem dX8_back_31 : decode cX8_back 31 = .ok (.aload_n 0, 1) := by decide +kernel
theorem dX8_back_32 : decode cX8_back 32 = .ok (.getfield 12, 3) := by decide +kernel
theorem dX8_back_35 : decode cX8_back 35 = .ok (.aload_n 0, 1) := by decide +kernel
theorem dX8_back_36 : decode cX8_back 36 = .ok (.getfield 16, 3) := by decide +kernel
theorem dX8_back_39 : decode cX8_back 39 = .ok (.iload_n 1, 1) := by decide +kernel
theorem dX8_back_40 : decode cX8_back 40 = .ok (.aaload, 1) := by decide +kernel
theorem dX8_back_41 : decode cX8_back 41 = .ok (.invokevirtual 180, 3) := by decide +kernel
theorem dX8_back_44 : decode cX8_back 44 = .ok (.aload_n 0, 1) := by decide +kernel
theorem dX8_back_45 : decode cX8_back 45 = .ok (.getfield 29, 3) := by decide +kernel
theorem dX8_back_48 : decode cX8_back 48 = .ok (.invokevirtual 104, 3) := by decide +kernel
theorem dX8_back_51 : decode cX8_back 51 = .ok (.aload_n 0, 1) := by decide +kernel
theorem dX8_back_52 : decode cX8_back 52 = .ok (.iconst 0, 1) := by decide +kernel
theorem dX8_back_53 : decode cX8_back 53 = .ok (.invokevirtual 107, 3) := by decide +kernel
theorem dX8_back_56 : decode cX8_back 56 = .ok (.ireturn, 1) := by decide +kernel
theorem dX8_count_0 : decode cX8_count 0 = .ok (.iload_n 1, 1) := by decide +kernel
theorem dX8_count_1 : decode cX8_count 1 = .ok (.bipush 7, 2) := by decide +kernel
theorem dX8_count_3 : decode cX8_count 3 = .ok (.bipush 11, 2) := by decide +kernel
theorem dX8_count_5 : decode cX8_count 5 = .ok (.invokestatic 93, 3) := by decide +kernel
theorem dX8_count_8 : decode cX8_count 8 = .ok (.ifCond .eq 13, 3) := by decide +kernel
theorem dX8_count_11 : decode cX8_count 11 = .ok (.aload_n 0, 1) := by decide +kernel
theorem dX8_count_12 : decode cX8_count 12 = .ok (.getfield 82, 3) := by decide +kernel
theorem dX8_count_15 : decode cX8_count 15 = .ok (.iload_n 1, 1) := by decide +kernel
theorem dX8_count_16 : decode cX8_count 16 = .ok (.bipush 7, 2) := by decide +kernel
theorem dX8_count_18 : decode cX8_count 18 = .ok (.isub, 1) := by decide +kernel
theorem dX8_count_19 : decode cX8_count 19 = .ok (.iaload, 1) := by decide +kernel
theorem dX8_count_20 : decode cX8_count 20 = .ok (.ireturn, 1) := by decide +kernel
theorem dX8_count_21 : decode cX8_count 21 = .ok (.iload_n 1, 1) := by decide +kernel
theorem dX8_count_22 : decode cX8_count 22 = .ok (.bipush 13, 2) := by decide +kernel
theorem dX8_count_24 : decode cX8_count 24 = .ok (.bipush 15, 2) := by decide +kernel
theorem dX8_count_26 : decode cX8_count 26 = .ok (.invokestatic 93, 3) := by decide +kernel
theorem dX8_count_29 : decode cX8_count 29 = .ok (.ifCond .eq 16, 3) := by decide +kernel
theorem dX8_count_32 : decode cX8_count 32 = .ok (.aload_n 0, 1) := by decide +kernel
theorem dX8_count_33 : decode cX8_count 33 = .ok (.getfield 12, 3) := by decide +kernel
theorem dX8_count_36 : decode cX8_count 36 = .ok (.getfield 156, 3) := by decide +kernel
theorem dX8_count_39 : decode cX8_count 39 = .ok (.iload_n 1, 1) := by decide +kernel
theorem dX8_count_40 : decode cX8_count 40 = .ok (.bipush 13, 2) := by decide +kernel
theorem dX8_count_42 : decode cX8_count 42 = .ok (.isub, 1) := by decide +kernel
theorem dX8_count_43 : decode cX8_count 43 = .ok (.iaload, 1) := by decide +kernel
theorem dX8_count_44 : decode cX8_count 44 = .ok (.ireturn, 1) := by decide +kernel
theorem dX8_count_45 : decode cX8_count 45 = .ok (.iload_n 1, 1) := by decide +kernel
theorem dX8_count_46 : decode cX8_count 46 = .ok (.tableswitch 127 0 12 #[66, 74, 82, 90, 98, 106, 114, 127, 127, 127, 127, 127, 119], 66) := by decide +kernel
theorem dX8_count_112 : decode cX8_count 112 = .ok (.aload_n 0, 1) := by decide +kernel
theorem dX8_count_113 : decode cX8_count 113 = .ok (.getfield 12, 3) := by decide +kernel
theorem dX8_count_116 : decode cX8_count 116 = .ok (.getfield 138, 3) := by decide +kernel
theorem dX8_count_119 : decode cX8_count 119 = .ok (.ireturn, 1) := by decide +kernel
theorem dX8_count_120 : decode cX8_count 120 = .ok (.aload_n 0, 1) := by decide +kernel
theorem dX8_count_121 : decode cX8_count 121 = .ok (.getfield 12, 3) := by decide +kernel
theorem dX8_count_124 : decode cX8_count 124 = .ok (.invokevirtual 295, 3) := by decide +kernel
theorem dX8_count_127 : decode cX8_count 127 = .ok (.ireturn, 1) := by decide +kernel
theorem dX8_count_128 : decode cX8_count 128 = .ok (.aload_n 0, 1) := by decide +kernel
theorem dX8_count_129 : decode cX8_count 129 = .ok (.getfield 12, 3) := by decide +kernel
theorem dX8_count_132 : decode cX8_count 132 = .ok (.getfield 244, 3) := by decide +kernel
theorem dX8_count_135 : decode cX8_count 135 = .ok (.ireturn, 1) := by decide +kernel
theorem dX8_count_136 : decode cX8_count 136 = .ok (.aload_n 0, 1) := by decide +kernel
theorem dX8_count_137 : decode cX8_count 137 = .ok (.getfield 12, 3) := by decide +kernel
theorem dX8_count_140 : decode cX8_count 140 = .ok (.getfield 267, 3) := by decide +kernel
theorem dX8_count_143 : decode cX8_count 143 = .ok (.ireturn, 1) := by decide +kernel
theorem dX8_count_144 : decode cX8_count 144 = .ok (.aload_n 0, 1) := by decide +kernel
theorem dX8_count_145 : decode cX8_count 145 = .ok (.getfield 12, 3) := by decide +kernel
theorem dX8_count_148 : decode cX8_count 148 = .ok (.getfield 169, 3) := by decide +kernel
theorem dX8_count_151 : decode cX8_count 151 = .ok (.ireturn, 1) := by decide +kernel
theorem dX8_count_152 : decode cX8_count 152 = .ok (.aload_n 0, 1) := by decide +kernel
theorem dX8_count_153 : decode cX8_count 153 = .ok (.getfield 29, 3) := by decide +kernel
theorem dX8_count_156 : decode cX8_count 156 = .ok (.getfield 298, 3) := by decide +kernel
theorem dX8_count_159 : decode cX8_count 159 = .ok (.ireturn, 1) := by decide +kernel
theorem dX8_count_160 : decode cX8_count 160 = .ok (.aload_n 0, 1) := by decide +kernel
theorem dX8_count_161 : decode cX8_count 161 = .ok (.getfield 159, 3) := by decide +kernel
theorem dX8_count_164 : decode cX8_count 164 = .ok (.ireturn, 1) := by decide +kernel
theorem dX8_count_165 : decode cX8_count 165 = .ok (.aload_n 0, 1) := by decide +kernel
theorem dX8_count_166 : decode cX8_count 166 = .ok (.getfield 12, 3) := by decide +kernel
theorem dX8_count_169 : decode cX8_count 169 = .ok (.getfield 194, 3) := by decide +kernel
theorem dX8_count_172 : decode cX8_count 172 = .ok (.ireturn, 1) := by decide +kernel
theorem dX8_count_173 : decode cX8_count 173 = .ok (.iconst (-1), 1) := by decide +kernel
theorem dX8_count_174 : decode cX8_count 174 = .ok (.ireturn, 1) := by decide +kernel
theorem dX8_status_0 : decode cX8_status 0 = .ok (.aload_n 0, 1) := by decide +kernel
theorem dX8_status_1 : decode cX8_status 1 = .ok (.getfield 301, 3) := by decide +kernel
theorem dX8_status_4 : decode cX8_status 4 = .ok (.ireturn, 1) := by decide +kernel
theorem dX8_isWithin_0 : decode cX8_isWithin 0 = .ok (.iload_n 0, 1) := by decide +kernel
theorem dX8_isWithin_1 : decode cX8_isWithin 1 = .ok (.iload_n 1, 1) := by decide +kernel
theorem dX8_isWithin_2 : decode cX8_isWithin 2 = .ok (.if_icmp .lt 12, 3) := by decide +kernel
theorem dX8_isWithin_5 : decode cX8_isWithin 5 = .ok (.iload_n 0, 1) := by decide +kernel
theorem dX8_isWithin_6 : decode cX8_isWithin 6 = .ok (.iload_n 2, 1) := by decide +kernel
theorem dX8_isWithin_7 : decode cX8_isWithin 7 = .ok (.if_icmp .gt 7, 3) := by decide +kernel
theorem dX8_isWithin_10 : decode cX8_isWithin 10 = .ok (.iconst 1, 1) := by decide +kernel
theorem dX8_isWithin_11 : decode cX8_isWithin 11 = .ok (.goto 4, 3) := by decide +kernel
theorem dX8_isWithin_14 : decode cX8_isWithin 14 = .ok (.iconst 0, 1) := by decide +kernel
theorem dX8_isWithin_15 : decode cX8_isWithin 15 = .ok (.ireturn, 1) := by decide +kernel
theorem dX8_isCell_0 : decode cX8_isCell 0 = .ok (.iload_n 0, 1) := by decide +kernel
theorem dX8_isCell_1 : decode cX8_isCell 1 = .ok (.ifCond .lt 13, 3) := by decide +kernel
theorem dX8_isCell_4 : decode cX8_isCell 4 = .ok (.iload_n 0, 1) := by decide +kernel
theorem dX8_isCell_5 : decode cX8_isCell 5 = .ok (.bipush 25, 2) := by decide +kernel
theorem dX8_isCell_7 : decode cX8_isCell 7 = .ok (.if_icmp .ge 7, 3) := by decide +kernel
theorem dX8_isCell_10 : decode cX8_isCell 10 = .ok (.iconst 1, 1) := by decide +kernel
theorem dX8_isCell_11 : decode cX8_isCell 11 = .ok (.goto 4, 3) := by decide +kernel
theorem dX8_isCell_14 : decode cX8_isCell 14 = .ok (.iconst 0, 1) := by decide +kernel
theorem dX8_isCell_15 : decode cX8_isCell 15 = .ok (.ireturn, 1) := by decide +kernel
theorem dX8_isLine_0 : decode cX8_isLine 0 = .ok (.iload_n 0, 1) := by decide +kernel
theorem dX8_isLine_1 : decode cX8_isLine 1 = .ok (.ifCond .lt 21, 3) := by decide +kernel
theorem dX8_isLine_4 : decode cX8_isLine 4 = .ok (.iload_n 0, 1) := by decide +kernel
theorem dX8_isLine_5 : decode cX8_isLine 5 = .ok (.iconst 1, 1) := by decide +kernel
theorem dX8_isLine_6 : decode cX8_isLine 6 = .ok (.if_icmp .gt 16, 3) := by decide +kernel
theorem dX8_isLine_9 : decode cX8_isLine 9 = .ok (.iload_n 1, 1) := by decide +kernel
theorem dX8_isLine_10 : decode cX8_isLine 10 = .ok (.ifCond .lt 12, 3) := by decide +kernel
theorem dX8_isLine_13 : decode cX8_isLine 13 = .ok (.iload_n 1, 1) := by decide +kernel
theorem dX8_isLine_14 : decode cX8_isLine 14 = .ok (.iconst 5, 1) := by decide +kernel
theorem dX8_isLine_15 : decode cX8_isLine 15 = .ok (.if_icmp .ge 7, 3) := by decide +kernel
theorem dX8_isLine_18 : decode cX8_isLine 18 = .ok (.iconst 1, 1) := by decide +kernel
theorem dX8_isLine_19 : decode cX8_isLine 19 = .ok (.goto 4, 3) := by decide +kernel
theorem dX8_isLine_22 : decode cX8_isLine 22 = .ok (.iconst 0, 1) := by decide +kernel
theorem dX8_isLine_23 : decode cX8_isLine 23 = .ok (.ireturn, 1) := by decide +kernel
theorem dX8_isAccount_0 : decode cX8_isAccount 0 = .ok (.iload_n 0, 1) := by decide +kernel
theorem dX8_isAccount_1 : decode cX8_isAccount 1 = .ok (.ifCond .lt 12, 3) := by decide +kernel
theorem dX8_isAccount_4 : decode cX8_isAccount 4 = .ok (.iload_n 0, 1) := by decide +kernel
theorem dX8_isAccount_5 : decode cX8_isAccount 5 = .ok (.iconst 5, 1) := by decide +kernel
theorem dX8_isAccount_6 : decode cX8_isAccount 6 = .ok (.if_icmp .ge 7, 3) := by decide +kernel
theorem dX8_isAccount_9 : decode cX8_isAccount 9 = .ok (.iconst 1, 1) := by decide +kernel
theorem dX8_isAccount_10 : decode cX8_isAccount 10 = .ok (.goto 4, 3) := by decide +kernel
theorem dX8_isAccount_13 : decode cX8_isAccount 13 = .ok (.iconst 0, 1) := by decide +kernel
theorem dX8_isAccount_14 : decode cX8_isAccount 14 = .ok (.ireturn, 1) := by decide +kernel
theorem dX8_nearest_0 : decode cX8_nearest 0 = .ok (.iload_n 0, 1) := by decide +kernel
theorem dX8_nearest_1 : decode cX8_nearest 1 = .ok (.ldc 125, 2) := by decide +kernel
theorem dX8_nearest_3 : decode cX8_nearest 3 = .ok (.if_icmp .ne 7, 3) := by decide +kernel
theorem dX8_nearest_6 : decode cX8_nearest 6 = .ok (.iload_n 2, 1) := by decide +kernel
theorem dX8_nearest_7 : decode cX8_nearest 7 = .ok (.goto 12, 3) := by decide +kernel
theorem dX8_nearest_10 : decode cX8_nearest 10 = .ok (.iconst 0, 1) := by decide +kernel
theorem dX8_nearest_11 : decode cX8_nearest 11 = .ok (.iload_n 1, 1) := by decide +kernel
theorem dX8_nearest_12 : decode cX8_nearest 12 = .ok (.iload_n 0, 1) := by decide +kernel
theorem dX8_nearest_13 : decode cX8_nearest 13 = .ok (.invokestatic 304, 3) := by decide +kernel
theorem dX8_nearest_16 : decode cX8_nearest 16 = .ok (.invokestatic 309, 3) := by decide +kernel
theorem dX8_nearest_19 : decode cX8_nearest 19 = .ok (.ireturn, 1) := by decide +kernel
theorem dX8_putThree_0 : decode cX8_putThree 0 = .ok (.aload_n 0, 1) := by decide +kernel
theorem dX8_putThree_1 : decode cX8_putThree 1 = .ok (.iconst 3, 1) := by decide +kernel
theorem dX8_putThree_2 : decode cX8_putThree 2 = .ok (.iload_n 1, 1) := by decide +kernel
theorem dX8_putThree_3 : decode cX8_putThree 3 = .ok (.imul, 1) := by decide +kernel
theorem dX8_putThree_4 : decode cX8_putThree 4 = .ok (.iload_n 2, 1) := by decide +kernel
theorem dX8_putThree_5 : decode cX8_putThree 5 = .ok (.iastore, 1) := by decide +kernel
theorem dX8_putThree_6 : decode cX8_putThree 6 = .ok (.aload_n 0, 1) := by decide +kernel
theorem dX8_putThree_7 : decode cX8_putThree 7 = .ok (.iconst 3, 1) := by decide +kernel
theorem dX8_putThree_8 : decode cX8_putThree 8 = .ok (.iload_n 1, 1) := by decide +kernel
theorem dX8_putThree_9 : decode cX8_putThree 9 = .ok (.imul, 1) := by decide +kernel
theorem dX8_putThree_10 : decode cX8_putThree 10 = .ok (.iconst 1, 1) := by decide +kernel
theorem dX8_putThree_11 : decode cX8_putThree 11 = .ok (.iadd, 1) := by decide +kernel
theorem dX8_putThree_12 : decode cX8_putThree 12 = .ok (.iload_n 3, 1) := by decide +kernel
theorem dX8_putThree_13 : decode cX8_putThree 13 = .ok (.iastore, 1) := by decide +kernel
theorem dX8_putThree_14 : decode cX8_putThree 14 = .ok (.aload_n 0, 1) := by decide +kernel
theorem dX8_putThree_15 : decode cX8_putThree 15 = .ok (.iconst 3, 1) := by decide +kernel
theorem dX8_putThree_16 : decode cX8_putThree 16 = .ok (.iload_n 1, 1) := by decide +kernel
theorem dX8_putThree_17 : decode cX8_putThree 17 = .ok (.imul, 1) := by decide +kernel
theorem dX8_putThree_18 : decode cX8_putThree 18 = .ok (.iconst 2, 1) := by decide +kernel
theorem dX8_putThree_19 : decode cX8_putThree 19 = .ok (.iadd, 1) := by decide +kernel
theorem dX8_putThree_20 : decode cX8_putThree 20 = .ok (.iload 4, 2) := by decide +kernel
theorem dX8_putThree_22 : decode cX8_putThree 22 = .ok (.iastore, 1) := by decide +kernel
theorem dX8_putThree_23 : decode cX8_putThree 23 = .ok (.return_, 1) := by decide +kernel
theorem dX8_refused_0 : decode cX8_refused 0 = .ok (.aload_n 0, 1) := by decide +kernel
theorem dX8_refused_1 : decode cX8_refused 1 = .ok (.getfield 82, 3) := by decide +kernel
theorem dX8_refused_4 : decode cX8_refused 4 = .ok (.iload_n 1, 1) := by decide +kernel
theorem dX8_refused_5 : decode cX8_refused 5 = .ok (.bipush (-4), 2) := by decide +kernel
theorem dX8_refused_7 : decode cX8_refused 7 = .ok (.if_icmp .le 10, 3) := by decide +kernel
theorem dX8_refused_10 : decode cX8_refused 10 = .ok (.iload_n 1, 1) := by decide +kernel
theorem dX8_refused_11 : decode cX8_refused 11 = .ok (.ineg, 1) := by decide +kernel
theorem dX8_refused_12 : decode cX8_refused 12 = .ok (.iconst 1, 1) := by decide +kernel
theorem dX8_refused_13 : decode cX8_refused 13 = .ok (.isub, 1) := by decide +kernel
theorem dX8_refused_14 : decode cX8_refused 14 = .ok (.goto 7, 3) := by decide +kernel
theorem dX8_refused_17 : decode cX8_refused 17 = .ok (.iload_n 1, 1) := by decide +kernel
theorem dX8_refused_18 : decode cX8_refused 18 = .ok (.ineg, 1) := by decide +kernel
theorem dX8_refused_19 : decode cX8_refused 19 = .ok (.iconst 2, 1) := by decide +kernel
theorem dX8_refused_20 : decode cX8_refused 20 = .ok (.isub, 1) := by decide +kernel
theorem dX8_refused_21 : decode cX8_refused 21 = .ok (.dup2, 1) := by decide +kernel
theorem dX8_refused_22 : decode cX8_refused 22 = .ok (.iaload, 1) := by decide +kernel
theorem dX8_refused_23 : decode cX8_refused 23 = .ok (.iconst 1, 1) := by decide +kernel
theorem dX8_refused_24 : decode cX8_refused 24 = .ok (.iadd, 1) := by decide +kernel
theorem dX8_refused_25 : decode cX8_refused 25 = .ok (.iastore, 1) := by decide +kernel
theorem dX8_refused_26 : decode cX8_refused 26 = .ok (.aload_n 0, 1) := by decide +kernel
theorem dX8_refused_27 : decode cX8_refused 27 = .ok (.iload_n 1, 1) := by decide +kernel
theorem dX8_refused_28 : decode cX8_refused 28 = .ok (.putfield 301, 3) := by decide +kernel
theorem dX8_refused_31 : decode cX8_refused 31 = .ok (.iload_n 1, 1) := by decide +kernel
theorem dX8_refused_32 : decode cX8_refused 32 = .ok (.ireturn, 1) := by decide +kernel
theorem dX8_granted_0 : decode cX8_granted 0 = .ok (.aload_n 0, 1) := by decide +kernel
theorem dX8_granted_1 : decode cX8_granted 1 = .ok (.iconst 0, 1) := by decide +kernel
theorem dX8_granted_2 : decode cX8_granted 2 = .ok (.putfield 301, 3) := by decide +kernel
theorem dX8_granted_5 : decode cX8_granted 5 = .ok (.iload_n 1, 1) := by decide +kernel
theorem dX8_granted_6 : decode cX8_granted 6 = .ok (.ireturn, 1) := by decide +kernel
theorem dX8_judged_0 : decode cX8_judged 0 = .ok (.iload_n 1, 1) := by decide +kernel
theorem dX8_judged_1 : decode cX8_judged 1 = .ok (.ifCond .ge 11, 3) := by decide +kernel
theorem dX8_judged_4 : decode cX8_judged 4 = .ok (.aload_n 0, 1) := by decide +kernel
theorem dX8_judged_5 : decode cX8_judged 5 = .ok (.iload_n 1, 1) := by decide +kernel
theorem dX8_judged_6 : decode cX8_judged 6 = .ok (.invokevirtual 97, 3) := by decide +kernel
theorem dX8_judged_9 : decode cX8_judged 9 = .ok (.goto 8, 3) := by decide +kernel
theorem dX8_judged_12 : decode cX8_judged 12 = .ok (.aload_n 0, 1) := by decide +kernel
theorem dX8_judged_13 : decode cX8_judged 13 = .ok (.iload_n 1, 1) := by decide +kernel
theorem dX8_judged_14 : decode cX8_judged 14 = .ok (.invokevirtual 107, 3) := by decide +kernel
theorem dX8_judged_17 : decode cX8_judged 17 = .ok (.ireturn, 1) := by decide +kernel
theorem dX8_putBytes_0 : decode cX8_putBytes 0 = .ok (.bipush 24, 2) := by decide +kernel
theorem dX8_putBytes_2 : decode cX8_putBytes 2 = .ok (.istore_n 2, 1) := by decide +kernel
theorem dX8_putBytes_3 : decode cX8_putBytes 3 = .ok (.iload_n 2, 1) := by decide +kernel
theorem dX8_putBytes_4 : decode cX8_putBytes 4 = .ok (.ifCond .lt 35, 3) := by decide +kernel
theorem dX8_putBytes_7 : decode cX8_putBytes 7 = .ok (.aload_n 0, 1) := by decide +kernel
theorem dX8_putBytes_8 : decode cX8_putBytes 8 = .ok (.getfield 36, 3) := by decide +kernel
theorem dX8_putBytes_11 : decode cX8_putBytes 11 = .ok (.aload_n 0, 1) := by decide +kernel
theorem dX8_putBytes_12 : decode cX8_putBytes 12 = .ok (.getfield 159, 3) := by decide +kernel
theorem dX8_putBytes_15 : decode cX8_putBytes 15 = .ok (.iload_n 1, 1) := by decide +kernel
theorem dX8_putBytes_16 : decode cX8_putBytes 16 = .ok (.iload_n 2, 1) := by decide +kernel
theorem dX8_putBytes_17 : decode cX8_putBytes 17 = .ok (.ishr, 1) := by decide +kernel
theorem dX8_putBytes_18 : decode cX8_putBytes 18 = .ok (.sipush 255, 3) := by decide +kernel
theorem dX8_putBytes_21 : decode cX8_putBytes 21 = .ok (.iand, 1) := by decide +kernel
theorem dX8_putBytes_22 : decode cX8_putBytes 22 = .ok (.iastore, 1) := by decide +kernel
theorem dX8_putBytes_23 : decode cX8_putBytes 23 = .ok (.aload_n 0, 1) := by decide +kernel
theorem dX8_putBytes_24 : decode cX8_putBytes 24 = .ok (.dup, 1) := by decide +kernel
theorem dX8_putBytes_25 : decode cX8_putBytes 25 = .ok (.getfield 159, 3) := by decide +kernel
theorem dX8_putBytes_28 : decode cX8_putBytes 28 = .ok (.iconst 1, 1) := by decide +kernel
theorem dX8_putBytes_29 : decode cX8_putBytes 29 = .ok (.iadd, 1) := by decide +kernel
theorem dX8_putBytes_30 : decode cX8_putBytes 30 = .ok (.putfield 159, 3) := by decide +kernel
theorem dX8_putBytes_33 : decode cX8_putBytes 33 = .ok (.iinc 2 (-8), 3) := by decide +kernel
theorem dX8_putBytes_36 : decode cX8_putBytes 36 = .ok (.goto (-33), 3) := by decide +kernel
theorem dX8_putBytes_39 : decode cX8_putBytes 39 = .ok (.return_, 1) := by decide +kernel
theorem dX8_carryOut_0 : decode cX8_carryOut 0 = .ok (.iload_n 1, 1) := by decide +kernel
theorem dX8_carryOut_1 : decode cX8_carryOut 1 = .ok (.ifCond .ne 14, 3) := by decide +kernel
theorem dX8_carryOut_4 : decode cX8_carryOut 4 = .ok (.aload_n 0, 1) := by decide +kernel
theorem dX8_carryOut_5 : decode cX8_carryOut 5 = .ok (.getfield 12, 3) := by decide +kernel
theorem dX8_carryOut_8 : decode cX8_carryOut 8 = .ok (.iload_n 3, 1) := by decide +kernel
theorem dX8_carryOut_9 : decode cX8_carryOut 9 = .ok (.invokevirtual 150, 3) := by decide +kernel
theorem dX8_carryOut_12 : decode cX8_carryOut 12 = .ok (.goto 4, 3) := by decide +kernel
theorem dX8_carryOut_15 : decode cX8_carryOut 15 = .ok (.iconst (-1), 1) := by decide +kernel
theorem dX8_carryOut_16 : decode cX8_carryOut 16 = .ok (.istore 5, 2) := by decide +kernel
theorem dX8_carryOut_18 : decode cX8_carryOut 18 = .ok (.iload_n 1, 1) := by decide +kernel
theorem dX8_carryOut_19 : decode cX8_carryOut 19 = .ok (.tableswitch 69 0 2 #[25, 40, 56], 25) := by decide +kernel
theorem dX8_carryOut_44 : decode cX8_carryOut 44 = .ok (.aload_n 0, 1) := by decide +kernel
theorem dX8_carryOut_45 : decode cX8_carryOut 45 = .ok (.aload_n 0, 1) := by decide +kernel
theorem dX8_carryOut_46 : decode cX8_carryOut 46 = .ok (.getfield 12, 3) := by decide +kernel
theorem dX8_carryOut_49 : decode cX8_carryOut 49 = .ok (.iload_n 2, 1) := by decide +kernel
theorem dX8_carryOut_50 : decode cX8_carryOut 50 = .ok (.iload_n 3, 1) := by decide +kernel
theorem dX8_carryOut_51 : decode cX8_carryOut 51 = .ok (.invokevirtual 312, 3) := by decide +kernel
theorem dX8_carryOut_54 : decode cX8_carryOut 54 = .ok (.istore 6, 2) := by decide +kernel
theorem dX8_carryOut_56 : decode cX8_carryOut 56 = .ok (.goto 41, 3) := by decide +kernel
theorem dX8_carryOut_59 : decode cX8_carryOut 59 = .ok (.aload_n 0, 1) := by decide +kernel
theorem dX8_carryOut_60 : decode cX8_carryOut 60 = .ok (.getfield 12, 3) := by decide +kernel
theorem dX8_carryOut_63 : decode cX8_carryOut 63 = .ok (.iload_n 2, 1) := by decide +kernel
theorem dX8_carryOut_64 : decode cX8_carryOut 64 = .ok (.iload_n 3, 1) := by decide +kernel
theorem dX8_carryOut_65 : decode cX8_carryOut 65 = .ok (.iload 4, 2) := by decide +kernel
theorem dX8_carryOut_67 : decode cX8_carryOut 67 = .ok (.invokevirtual 316, 3) := by decide +kernel
theorem dX8_carryOut_70 : decode cX8_carryOut 70 = .ok (.istore 6, 2) := by decide +kernel
theorem dX8_carryOut_72 : decode cX8_carryOut 72 = .ok (.goto 25, 3) := by decide +kernel
theorem dX8_carryOut_75 : decode cX8_carryOut 75 = .ok (.aload_n 0, 1) := by decide +kernel
theorem dX8_carryOut_76 : decode cX8_carryOut 76 = .ok (.getfield 12, 3) := by decide +kernel
theorem dX8_carryOut_79 : decode cX8_carryOut 79 = .ok (.iload_n 2, 1) := by decide +kernel
theorem dX8_carryOut_80 : decode cX8_carryOut 80 = .ok (.invokevirtual 319, 3) := by decide +kernel
theorem dX8_carryOut_83 : decode cX8_carryOut 83 = .ok (.istore 6, 2) := by decide +kernel
theorem dX8_carryOut_85 : decode cX8_carryOut 85 = .ok (.goto 12, 3) := by decide +kernel
theorem dX8_carryOut_88 : decode cX8_carryOut 88 = .ok (.aload_n 0, 1) := by decide +kernel
theorem dX8_carryOut_89 : decode cX8_carryOut 89 = .ok (.getfield 12, 3) := by decide +kernel
theorem dX8_carryOut_92 : decode cX8_carryOut 92 = .ok (.invokevirtual 322, 3) := by decide +kernel
theorem dX8_carryOut_95 : decode cX8_carryOut 95 = .ok (.istore 6, 2) := by decide +kernel
theorem dX8_carryOut_97 : decode cX8_carryOut 97 = .ok (.iload 6, 2) := by decide +kernel
theorem dX8_carryOut_99 : decode cX8_carryOut 99 = .ok (.ifCond .lt 26, 3) := by decide +kernel
theorem dX8_carryOut_102 : decode cX8_carryOut 102 = .ok (.aload_n 0, 1) := by decide +kernel
theorem dX8_carryOut_103 : decode cX8_carryOut 103 = .ok (.getfield 29, 3) := by decide +kernel
theorem dX8_carryOut_106 : decode cX8_carryOut 106 = .ok (.iload_n 1, 1) := by decide +kernel
theorem dX8_carryOut_107 : decode cX8_carryOut 107 = .ok (.iload_n 2, 1) := by decide +kernel
theorem dX8_carryOut_108 : decode cX8_carryOut 108 = .ok (.iload_n 3, 1) := by decide +kernel
theorem dX8_carryOut_109 : decode cX8_carryOut 109 = .ok (.iload_n 1, 1) := by decide +kernel
theorem dX8_carryOut_110 : decode cX8_carryOut 110 = .ok (.ifCond .ne 8, 3) := by decide +kernel
theorem dX8_carryOut_113 : decode cX8_carryOut 113 = .ok (.iload 6, 2) := by decide +kernel
theorem dX8_carryOut_115 : decode cX8_carryOut 115 = .ok (.goto 5, 3) := by decide +kernel
theorem dX8_carryOut_118 : decode cX8_carryOut 118 = .ok (.iload 4, 2) := by decide +kernel
theorem dX8_carryOut_120 : decode cX8_carryOut 120 = .ok (.iload 5, 2) := by decide +kernel
theorem dX8_carryOut_122 : decode cX8_carryOut 122 = .ok (.invokevirtual 325, 3) := by decide +kernel
theorem dX8_carryOut_125 : decode cX8_carryOut 125 = .ok (.iload 6, 2) := by decide +kernel
theorem dX8_carryOut_127 : decode cX8_carryOut 127 = .ok (.ireturn, 1) := by decide +kernel
theorem dX8_takeAway_0 : decode cX8_takeAway 0 = .ok (.iload_n 2, 1) := by decide +kernel
theorem dX8_takeAway_1 : decode cX8_takeAway 1 = .ok (.invokestatic 89, 3) := by decide +kernel
theorem dX8_takeAway_4 : decode cX8_takeAway 4 = .ok (.ifCond .ne 5, 3) := by decide +kernel
theorem dX8_takeAway_7 : decode cX8_takeAway 7 = .ok (.iconst (-1), 1) := by decide +kernel
theorem dX8_takeAway_8 : decode cX8_takeAway 8 = .ok (.ireturn, 1) := by decide +kernel
theorem dX8_takeAway_9 : decode cX8_takeAway 9 = .ok (.aload_n 1, 1) := by decide +kernel
theorem dX8_takeAway_10 : decode cX8_takeAway 10 = .ok (.iload_n 3, 1) := by decide +kernel
theorem dX8_takeAway_11 : decode cX8_takeAway 11 = .ok (.invokevirtual 147, 3) := by decide +kernel
theorem dX8_takeAway_14 : decode cX8_takeAway 14 = .ok (.ifCond .ne 6, 3) := by decide +kernel
theorem dX8_takeAway_17 : decode cX8_takeAway 17 = .ok (.bipush (-2), 2) := by decide +kernel
theorem dX8_takeAway_19 : decode cX8_takeAway 19 = .ok (.ireturn, 1) := by decide +kernel
theorem dX8_takeAway_20 : decode cX8_takeAway 20 = .ok (.aload_n 1, 1) := by decide +kernel
theorem dX8_takeAway_21 : decode cX8_takeAway 21 = .ok (.invokevirtual 113, 3) := by decide +kernel
theorem dX8_takeAway_24 : decode cX8_takeAway 24 = .ok (.astore 4, 2) := by decide +kernel
theorem dX8_takeAway_26 : decode cX8_takeAway 26 = .ok (.aload_n 0, 1) := by decide +kernel
theorem dX8_takeAway_27 : decode cX8_takeAway 27 = .ok (.getfield 57, 3) := by decide +kernel
theorem dX8_takeAway_30 : decode cX8_takeAway 30 = .ok (.aload_n 1, 1) := by decide +kernel
theorem dX8_takeAway_31 : decode cX8_takeAway 31 = .ok (.aload 4, 2) := by decide +kernel
theorem dX8_takeAway_33 : decode cX8_takeAway 33 = .ok (.iconst 3, 1) := by decide +kernel
theorem dX8_takeAway_34 : decode cX8_takeAway 34 = .ok (.iload_n 2, 1) := by decide +kernel
theorem dX8_takeAway_35 : decode cX8_takeAway 35 = .ok (.iload_n 3, 1) := by decide +kernel
theorem dX8_takeAway_36 : decode cX8_takeAway 36 = .ok (.invokevirtual 117, 3) := by decide +kernel
theorem dX8_takeAway_39 : decode cX8_takeAway 39 = .ok (.ldc 125, 2) := by decide +kernel
theorem dX8_takeAway_41 : decode cX8_takeAway 41 = .ok (.if_icmp .eq 6, 3) := by decide +kernel
theorem dX8_takeAway_44 : decode cX8_takeAway 44 = .ok (.bipush (-3), 2) := by decide +kernel
theorem dX8_takeAway_46 : decode cX8_takeAway 46 = .ok (.ireturn, 1) := by decide +kernel
theorem dX8_takeAway_47 : decode cX8_takeAway 47 = .ok (.aload_n 0, 1) := by decide +kernel
theorem dX8_takeAway_48 : decode cX8_takeAway 48 = .ok (.getfield 57, 3) := by decide +kernel
theorem dX8_takeAway_51 : decode cX8_takeAway 51 = .ok (.aload_n 1, 1) := by decide +kernel
theorem dX8_takeAway_52 : decode cX8_takeAway 52 = .ok (.aload 4, 2) := by decide +kernel
theorem dX8_takeAway_54 : decode cX8_takeAway 54 = .ok (.iconst 1, 1) := by decide +kernel
theorem dX8_takeAway_55 : decode cX8_takeAway 55 = .ok (.iload_n 2, 1) := by decide +kernel
theorem dX8_takeAway_56 : decode cX8_takeAway 56 = .ok (.iload_n 3, 1) := by decide +kernel
theorem dX8_takeAway_57 : decode cX8_takeAway 57 = .ok (.invokevirtual 117, 3) := by decide +kernel
theorem dX8_takeAway_60 : decode cX8_takeAway 60 = .ok (.bipush 99, 2) := by decide +kernel
theorem dX8_takeAway_62 : decode cX8_takeAway 62 = .ok (.bipush 10, 2) := by decide +kernel
theorem dX8_takeAway_64 : decode cX8_takeAway 64 = .ok (.invokestatic 121, 3) := by decide +kernel
theorem dX8_takeAway_67 : decode cX8_takeAway 67 = .ok (.istore 5, 2) := by decide +kernel
theorem dX8_takeAway_69 : decode cX8_takeAway 69 = .ok (.iload 5, 2) := by decide +kernel
theorem dX8_takeAway_71 : decode cX8_takeAway 71 = .ok (.aload_n 1, 1) := by decide +kernel
theorem dX8_takeAway_72 : decode cX8_takeAway 72 = .ok (.getfield 101, 3) := by decide +kernel
theorem dX8_takeAway_75 : decode cX8_takeAway 75 = .ok (.iload_n 2, 1) := by decide +kernel
theorem dX8_takeAway_76 : decode cX8_takeAway 76 = .ok (.iaload, 1) := by decide +kernel
theorem dX8_takeAway_77 : decode cX8_takeAway 77 = .ok (.invokestatic 304, 3) := by decide +kernel
theorem dX8_takeAway_80 : decode cX8_takeAway 80 = .ok (.istore 6, 2) := by decide +kernel
theorem dX8_takeAway_82 : decode cX8_takeAway 82 = .ok (.iload 6, 2) := by decide +kernel
theorem dX8_takeAway_84 : decode cX8_takeAway 84 = .ok (.iconst 1, 1) := by decide +kernel
theorem dX8_takeAway_85 : decode cX8_takeAway 85 = .ok (.if_icmp .ge 6, 3) := by decide +kernel
theorem dX8_takeAway_88 : decode cX8_takeAway 88 = .ok (.bipush (-3), 2) := by decide +kernel
theorem dX8_takeAway_90 : decode cX8_takeAway 90 = .ok (.ireturn, 1) := by decide +kernel
theorem dX8_takeAway_91 : decode cX8_takeAway 91 = .ok (.aload_n 1, 1) := by decide +kernel
theorem dX8_takeAway_92 : decode cX8_takeAway 92 = .ok (.getfield 101, 3) := by decide +kernel
theorem dX8_takeAway_95 : decode cX8_takeAway 95 = .ok (.iload_n 2, 1) := by decide +kernel
theorem dX8_takeAway_96 : decode cX8_takeAway 96 = .ok (.dup2, 1) := by decide +kernel
theorem dX8_takeAway_97 : decode cX8_takeAway 97 = .ok (.iaload, 1) := by decide +kernel
theorem dX8_takeAway_98 : decode cX8_takeAway 98 = .ok (.iload 6, 2) := by decide +kernel
theorem dX8_takeAway_100 : decode cX8_takeAway 100 = .ok (.isub, 1) := by decide +kernel
theorem dX8_takeAway_101 : decode cX8_takeAway 101 = .ok (.iastore, 1) := by decide +kernel
theorem dX8_takeAway_102 : decode cX8_takeAway 102 = .ok (.aload_n 1, 1) := by decide +kernel
theorem dX8_takeAway_103 : decode cX8_takeAway 103 = .ok (.getfield 144, 3) := by decide +kernel
theorem dX8_takeAway_106 : decode cX8_takeAway 106 = .ok (.iload_n 3, 1) := by decide +kernel
theorem dX8_takeAway_107 : decode cX8_takeAway 107 = .ok (.sipush 9999, 3) := by decide +kernel
theorem dX8_takeAway_110 : decode cX8_takeAway 110 = .ok (.aload_n 1, 1) := by decide +kernel
theorem dX8_takeAway_111 : decode cX8_takeAway 111 = .ok (.getfield 144, 3) := by decide +kernel
theorem dX8_takeAway_114 : decode cX8_takeAway 114 = .ok (.iload_n 3, 1) := by decide +kernel
theorem dX8_takeAway_115 : decode cX8_takeAway 115 = .ok (.iaload, 1) := by decide +kernel
theorem dX8_takeAway_116 : decode cX8_takeAway 116 = .ok (.iload 6, 2) := by decide +kernel
theorem dX8_takeAway_118 : decode cX8_takeAway 118 = .ok (.iadd, 1) := by decide +kernel
theorem dX8_takeAway_119 : decode cX8_takeAway 119 = .ok (.invokestatic 304, 3) := by decide +kernel
theorem dX8_takeAway_122 : decode cX8_takeAway 122 = .ok (.iastore, 1) := by decide +kernel
theorem dX8_takeAway_123 : decode cX8_takeAway 123 = .ok (.iload 6, 2) := by decide +kernel
theorem dX8_takeAway_125 : decode cX8_takeAway 125 = .ok (.ireturn, 1) := by decide +kernel
theorem dX8_runOrders_0 : decode cX8_runOrders 0 = .ok (.iconst 0, 1) := by decide +kernel
theorem dX8_runOrders_1 : decode cX8_runOrders 1 = .ok (.istore_n 2, 1) := by decide +kernel
theorem dX8_runOrders_2 : decode cX8_runOrders 2 = .ok (.iconst (-1), 1) := by decide +kernel
theorem dX8_runOrders_3 : decode cX8_runOrders 3 = .ok (.istore_n 3, 1) := by decide +kernel
theorem dX8_runOrders_4 : decode cX8_runOrders 4 = .ok (.iconst 0, 1) := by decide +kernel
theorem dX8_runOrders_5 : decode cX8_runOrders 5 = .ok (.istore 4, 2) := by decide +kernel
theorem dX8_runOrders_7 : decode cX8_runOrders 7 = .ok (.iload 4, 2) := by decide +kernel
theorem dX8_runOrders_9 : decode cX8_runOrders 9 = .ok (.aload_n 1, 1) := by decide +kernel
theorem dX8_runOrders_10 : decode cX8_runOrders 10 = .ok (.getfield 329, 3) := by decide +kernel
theorem dX8_runOrders_13 : decode cX8_runOrders 13 = .ok (.if_icmp .ge 194, 3) := by decide +kernel
theorem dX8_runOrders_16 : decode cX8_runOrders 16 = .ok (.aload_n 1, 1) := by decide +kernel
theorem dX8_runOrders_17 : decode cX8_runOrders 17 = .ok (.iload 4, 2) := by decide +kernel
theorem dX8_runOrders_19 : decode cX8_runOrders 19 = .ok (.invokevirtual 334, 3) := by decide +kernel
theorem dX8_runOrders_22 : decode cX8_runOrders 22 = .ok (.istore 5, 2) := by decide +kernel
theorem dX8_runOrders_24 : decode cX8_runOrders 24 = .ok (.aload_n 1, 1) := by decide +kernel
theorem dX8_runOrders_25 : decode cX8_runOrders 25 = .ok (.iload 4, 2) := by decide +kernel
theorem dX8_runOrders_27 : decode cX8_runOrders 27 = .ok (.invokevirtual 337, 3) := by decide +kernel
theorem dX8_runOrders_30 : decode cX8_runOrders 30 = .ok (.istore 6, 2) := by decide +kernel
theorem dX8_runOrders_32 : decode cX8_runOrders 32 = .ok (.iconst 0, 1) := by decide +kernel
theorem dX8_runOrders_33 : decode cX8_runOrders 33 = .ok (.istore 7, 2) := by decide +kernel
theorem dX8_runOrders_35 : decode cX8_runOrders 35 = .ok (.iload 7, 2) := by decide +kernel
theorem dX8_runOrders_37 : decode cX8_runOrders 37 = .ok (.iload 6, 2) := by decide +kernel
theorem dX8_runOrders_39 : decode cX8_runOrders 39 = .ok (.if_icmp .ge 162, 3) := by decide +kernel
theorem dX8_runOrders_42 : decode cX8_runOrders 42 = .ok (.aload_n 0, 1) := by decide +kernel
theorem dX8_runOrders_43 : decode cX8_runOrders 43 = .ok (.iload_n 2, 1) := by decide +kernel
theorem dX8_runOrders_44 : decode cX8_runOrders 44 = .ok (.iload_n 3, 1) := by decide +kernel
theorem dX8_runOrders_45 : decode cX8_runOrders 45 = .ok (.invokevirtual 340, 3) := by decide +kernel
theorem dX8_runOrders_48 : decode cX8_runOrders 48 = .ok (.aload_n 0, 1) := by decide +kernel
theorem dX8_runOrders_49 : decode cX8_runOrders 49 = .ok (.getfield 50, 3) := by decide +kernel
theorem dX8_runOrders_52 : decode cX8_runOrders 52 = .ok (.aload_n 1, 1) := by decide +kernel
theorem dX8_runOrders_53 : decode cX8_runOrders 53 = .ok (.getfield 343, 3) := by decide +kernel
theorem dX8_runOrders_56 : decode cX8_runOrders 56 = .ok (.aload_n 1, 1) := by decide +kernel
theorem dX8_runOrders_57 : decode cX8_runOrders 57 = .ok (.iload 4, 2) := by decide +kernel
theorem dX8_runOrders_59 : decode cX8_runOrders 59 = .ok (.invokevirtual 346, 3) := by decide +kernel
theorem dX8_runOrders_62 : decode cX8_runOrders 62 = .ok (.aload_n 0, 1) := by decide +kernel
theorem dX8_runOrders_63 : decode cX8_runOrders 63 = .ok (.getfield 75, 3) := by decide +kernel
theorem dX8_runOrders_66 : decode cX8_runOrders 66 = .ok (.iconst 1, 1) := by decide +kernel
theorem dX8_runOrders_67 : decode cX8_runOrders 67 = .ok (.invokevirtual 349, 3) := by decide +kernel
theorem dX8_runOrders_70 : decode cX8_runOrders 70 = .ok (.iconst 1, 1) := by decide +kernel
theorem dX8_runOrders_71 : decode cX8_runOrders 71 = .ok (.if_icmp .eq 6, 3) := by decide +kernel
theorem dX8_runOrders_74 : decode cX8_runOrders 74 = .ok (.goto 121, 3) := by decide +kernel
theorem dX8_runOrders_77 : decode cX8_runOrders 77 = .ok (.aload_n 0, 1) := by decide +kernel
theorem dX8_runOrders_78 : decode cX8_runOrders 78 = .ok (.getfield 50, 3) := by decide +kernel
theorem dX8_runOrders_81 : decode cX8_runOrders 81 = .ok (.aload_n 1, 1) := by decide +kernel
theorem dX8_runOrders_82 : decode cX8_runOrders 82 = .ok (.getfield 343, 3) := by decide +kernel
theorem dX8_runOrders_85 : decode cX8_runOrders 85 = .ok (.aload_n 1, 1) := by decide +kernel
theorem dX8_runOrders_86 : decode cX8_runOrders 86 = .ok (.iload 4, 2) := by decide +kernel
theorem dX8_runOrders_88 : decode cX8_runOrders 88 = .ok (.iconst 0, 1) := by decide +kernel
theorem dX8_runOrders_89 : decode cX8_runOrders 89 = .ok (.invokevirtual 353, 3) := by decide +kernel
theorem dX8_runOrders_92 : decode cX8_runOrders 92 = .ok (.aload_n 0, 1) := by decide +kernel
theorem dX8_runOrders_93 : decode cX8_runOrders 93 = .ok (.getfield 75, 3) := by decide +kernel
theorem dX8_runOrders_96 : decode cX8_runOrders 96 = .ok (.iconst 0, 1) := by decide +kernel
theorem dX8_runOrders_97 : decode cX8_runOrders 97 = .ok (.invokevirtual 349, 3) := by decide +kernel
theorem dX8_runOrders_100 : decode cX8_runOrders 100 = .ok (.istore 8, 2) := by decide +kernel
theorem dX8_runOrders_102 : decode cX8_runOrders 102 = .ok (.aload_n 0, 1) := by decide +kernel
theorem dX8_runOrders_103 : decode cX8_runOrders 103 = .ok (.getfield 50, 3) := by decide +kernel
theorem dX8_runOrders_106 : decode cX8_runOrders 106 = .ok (.aload_n 1, 1) := by decide +kernel
theorem dX8_runOrders_107 : decode cX8_runOrders 107 = .ok (.getfield 343, 3) := by decide +kernel
theorem dX8_runOrders_110 : decode cX8_runOrders 110 = .ok (.aload_n 1, 1) := by decide +kernel
theorem dX8_runOrders_111 : decode cX8_runOrders 111 = .ok (.iload 4, 2) := by decide +kernel
theorem dX8_runOrders_113 : decode cX8_runOrders 113 = .ok (.iconst 1, 1) := by decide +kernel
theorem dX8_runOrders_114 : decode cX8_runOrders 114 = .ok (.invokevirtual 353, 3) := by decide +kernel
theorem dX8_runOrders_117 : decode cX8_runOrders 117 = .ok (.aload_n 0, 1) := by decide +kernel
theorem dX8_runOrders_118 : decode cX8_runOrders 118 = .ok (.getfield 75, 3) := by decide +kernel
theorem dX8_runOrders_121 : decode cX8_runOrders 121 = .ok (.iconst 0, 1) := by decide +kernel
theorem dX8_runOrders_122 : decode cX8_runOrders 122 = .ok (.invokevirtual 349, 3) := by decide +kernel
theorem dX8_runOrders_125 : decode cX8_runOrders 125 = .ok (.istore 9, 2) := by decide +kernel
theorem dX8_runOrders_127 : decode cX8_runOrders 127 = .ok (.aload_n 0, 1) := by decide +kernel
theorem dX8_runOrders_128 : decode cX8_runOrders 128 = .ok (.getfield 50, 3) := by decide +kernel
theorem dX8_runOrders_131 : decode cX8_runOrders 131 = .ok (.aload_n 1, 1) := by decide +kernel
theorem dX8_runOrders_132 : decode cX8_runOrders 132 = .ok (.getfield 343, 3) := by decide +kernel
theorem dX8_runOrders_135 : decode cX8_runOrders 135 = .ok (.aload_n 1, 1) := by decide +kernel
theorem dX8_runOrders_136 : decode cX8_runOrders 136 = .ok (.iload 4, 2) := by decide +kernel
theorem dX8_runOrders_138 : decode cX8_runOrders 138 = .ok (.iconst 2, 1) := by decide +kernel
theorem dX8_runOrders_139 : decode cX8_runOrders 139 = .ok (.invokevirtual 353, 3) := by decide +kernel
theorem dX8_runOrders_142 : decode cX8_runOrders 142 = .ok (.aload_n 0, 1) := by decide +kernel
