theorem dX0_init_0 : decode cX0_init 0 = .ok (.aload_n 0, 1) := by decide +kernel
theorem dX0_init_1 : decode cX0_init 1 = .ok (.invokespecial 3, 3) := by decide +kernel
theorem dX0_init_4 : decode cX0_init 4 = .ok (.aload_n 0, 1) := by decide +kernel
theorem dX0_init_5 : decode cX0_init 5 = .ok (.bipush 25, 2) := by decide +kernel
theorem dX0_init_7 : decode cX0_init 7 = .ok (.newarray .int, 2) := by decide +kernel
theorem dX0_init_9 : decode cX0_init 9 = .ok (.putfield 9, 3) := by decide +kernel
theorem dX0_init_12 : decode cX0_init 12 = .ok (.aload_n 0, 1) := by decide +kernel
theorem dX0_init_13 : decode cX0_init 13 = .ok (.bipush 25, 2) := by decide +kernel
theorem dX0_init_15 : decode cX0_init 15 = .ok (.newarray .int, 2) := by decide +kernel
theorem dX0_init_17 : decode cX0_init 17 = .ok (.putfield 15, 3) := by decide +kernel
theorem dX0_init_20 : decode cX0_init 20 = .ok (.aload_n 0, 1) := by decide +kernel
theorem dX0_init_21 : decode cX0_init 21 = .ok (.bipush 10, 2) := by decide +kernel
theorem dX0_init_23 : decode cX0_init 23 = .ok (.newarray .int, 2) := by decide +kernel
theorem dX0_init_25 : decode cX0_init 25 = .ok (.putfield 18, 3) := by decide +kernel
theorem dX0_init_28 : decode cX0_init 28 = .ok (.aload_n 0, 1) := by decide +kernel
theorem dX0_init_29 : decode cX0_init 29 = .ok (.iconst 5, 1) := by decide +kernel
theorem dX0_init_30 : decode cX0_init 30 = .ok (.newarray .int, 2) := by decide +kernel
theorem dX0_init_32 : decode cX0_init 32 = .ok (.putfield 21, 3) := by decide +kernel
theorem dX0_init_35 : decode cX0_init 35 = .ok (.aload_n 0, 1) := by decide +kernel
theorem dX0_init_36 : decode cX0_init 36 = .ok (.iconst 5, 1) := by decide +kernel
theorem dX0_init_37 : decode cX0_init 37 = .ok (.newarray .int, 2) := by decide +kernel
theorem dX0_init_39 : decode cX0_init 39 = .ok (.putfield 24, 3) := by decide +kernel
theorem dX0_init_42 : decode cX0_init 42 = .ok (.aload_n 0, 1) := by decide +kernel
theorem dX0_init_43 : decode cX0_init 43 = .ok (.iconst 3, 1) := by decide +kernel
theorem dX0_init_44 : decode cX0_init 44 = .ok (.newarray .int, 2) := by decide +kernel
theorem dX0_init_46 : decode cX0_init 46 = .ok (.dup, 1) := by decide +kernel
theorem dX0_init_47 : decode cX0_init 47 = .ok (.iconst 0, 1) := by decide +kernel
theorem dX0_init_48 : decode cX0_init 48 = .ok (.iconst 0, 1) := by decide +kernel
theorem dX0_init_49 : decode cX0_init 49 = .ok (.iastore, 1) := by decide +kernel
theorem dX0_init_50 : decode cX0_init 50 = .ok (.dup, 1) := by decide +kernel
theorem dX0_init_51 : decode cX0_init 51 = .ok (.iconst 1, 1) := by decide +kernel
theorem dX0_init_52 : decode cX0_init 52 = .ok (.iconst 1, 1) := by decide +kernel
theorem dX0_init_53 : decode cX0_init 53 = .ok (.iastore, 1) := by decide +kernel
theorem dX0_init_54 : decode cX0_init 54 = .ok (.dup, 1) := by decide +kernel
theorem dX0_init_55 : decode cX0_init 55 = .ok (.iconst 2, 1) := by decide +kernel
theorem dX0_init_56 : decode cX0_init 56 = .ok (.iconst 0, 1) := by decide +kernel
theorem dX0_init_57 : decode cX0_init 57 = .ok (.iastore, 1) := by decide +kernel
theorem dX0_init_58 : decode cX0_init 58 = .ok (.putfield 27, 3) := by decide +kernel
theorem dX0_init_61 : decode cX0_init 61 = .ok (.aload_n 0, 1) := by decide +kernel
theorem dX0_init_62 : decode cX0_init 62 = .ok (.bipush 6, 2) := by decide +kernel
theorem dX0_init_64 : decode cX0_init 64 = .ok (.anewarray 30, 3) := by decide +kernel
theorem dX0_init_67 : decode cX0_init 67 = .ok (.putfield 32, 3) := by decide +kernel
theorem dX0_init_70 : decode cX0_init 70 = .ok (.aload_n 0, 1) := by decide +kernel
theorem dX0_init_71 : decode cX0_init 71 = .ok (.bipush 24, 2) := by decide +kernel
theorem dX0_init_73 : decode cX0_init 73 = .ok (.newarray .int, 2) := by decide +kernel
theorem dX0_init_75 : decode cX0_init 75 = .ok (.putfield 36, 3) := by decide +kernel
theorem dX0_init_78 : decode cX0_init 78 = .ok (.aload_n 0, 1) := by decide +kernel
theorem dX0_init_79 : decode cX0_init 79 = .ok (.bipush 30, 2) := by decide +kernel
theorem dX0_init_81 : decode cX0_init 81 = .ok (.newarray .int, 2) := by decide +kernel
theorem dX0_init_83 : decode cX0_init 83 = .ok (.putfield 39, 3) := by decide +kernel
theorem dX0_init_86 : decode cX0_init 86 = .ok (.aload_n 0, 1) := by decide +kernel
theorem dX0_init_87 : decode cX0_init 87 = .ok (.iconst (-1), 1) := by decide +kernel
theorem dX0_init_88 : decode cX0_init 88 = .ok (.putfield 42, 3) := by decide +kernel
theorem dX0_init_91 : decode cX0_init 91 = .ok (.return_, 1) := by decide +kernel
theorem dX0_copyFrom_0 : decode cX0_copyFrom 0 = .ok (.aload_n 1, 1) := by decide +kernel
theorem dX0_copyFrom_1 : decode cX0_copyFrom 1 = .ok (.getfield 9, 3) := by decide +kernel
theorem dX0_copyFrom_4 : decode cX0_copyFrom 4 = .ok (.iconst 0, 1) := by decide +kernel
theorem dX0_copyFrom_5 : decode cX0_copyFrom 5 = .ok (.aload_n 0, 1) := by decide +kernel
theorem dX0_copyFrom_6 : decode cX0_copyFrom 6 = .ok (.getfield 9, 3) := by decide +kernel
theorem dX0_copyFrom_9 : decode cX0_copyFrom 9 = .ok (.iconst 0, 1) := by decide +kernel
theorem dX0_copyFrom_10 : decode cX0_copyFrom 10 = .ok (.bipush 25, 2) := by decide +kernel
theorem dX0_copyFrom_12 : decode cX0_copyFrom 12 = .ok (.invokestatic 46, 3) := by decide +kernel
theorem dX0_copyFrom_15 : decode cX0_copyFrom 15 = .ok (.aload_n 1, 1) := by decide +kernel
theorem dX0_copyFrom_16 : decode cX0_copyFrom 16 = .ok (.getfield 15, 3) := by decide +kernel
theorem dX0_copyFrom_19 : decode cX0_copyFrom 19 = .ok (.iconst 0, 1) := by decide +kernel
theorem dX0_copyFrom_20 : decode cX0_copyFrom 20 = .ok (.aload_n 0, 1) := by decide +kernel
theorem dX0_copyFrom_21 : decode cX0_copyFrom 21 = .ok (.getfield 15, 3) := by decide +kernel
theorem dX0_copyFrom_24 : decode cX0_copyFrom 24 = .ok (.iconst 0, 1) := by decide +kernel
theorem dX0_copyFrom_25 : decode cX0_copyFrom 25 = .ok (.bipush 25, 2) := by decide +kernel
theorem dX0_copyFrom_27 : decode cX0_copyFrom 27 = .ok (.invokestatic 46, 3) := by decide +kernel
theorem dX0_copyFrom_30 : decode cX0_copyFrom 30 = .ok (.aload_n 1, 1) := by decide +kernel
theorem dX0_copyFrom_31 : decode cX0_copyFrom 31 = .ok (.getfield 18, 3) := by decide +kernel
theorem dX0_copyFrom_34 : decode cX0_copyFrom 34 = .ok (.iconst 0, 1) := by decide +kernel
theorem dX0_copyFrom_35 : decode cX0_copyFrom 35 = .ok (.aload_n 0, 1) := by decide +kernel
theorem dX0_copyFrom_36 : decode cX0_copyFrom 36 = .ok (.getfield 18, 3) := by decide +kernel
theorem dX0_copyFrom_39 : decode cX0_copyFrom 39 = .ok (.iconst 0, 1) := by decide +kernel
theorem dX0_copyFrom_40 : decode cX0_copyFrom 40 = .ok (.bipush 10, 2) := by decide +kernel
theorem dX0_copyFrom_42 : decode cX0_copyFrom 42 = .ok (.invokestatic 46, 3) := by decide +kernel
theorem dX0_copyFrom_45 : decode cX0_copyFrom 45 = .ok (.aload_n 1, 1) := by decide +kernel
theorem dX0_copyFrom_46 : decode cX0_copyFrom 46 = .ok (.getfield 21, 3) := by decide +kernel
theorem dX0_copyFrom_49 : decode cX0_copyFrom 49 = .ok (.iconst 0, 1) := by decide +kernel
theorem dX0_copyFrom_50 : decode cX0_copyFrom 50 = .ok (.aload_n 0, 1) := by decide +kernel
theorem dX0_copyFrom_51 : decode cX0_copyFrom 51 = .ok (.getfield 21, 3) := by decide +kernel
theorem dX0_copyFrom_54 : decode cX0_copyFrom 54 = .ok (.iconst 0, 1) := by decide +kernel
theorem dX0_copyFrom_55 : decode cX0_copyFrom 55 = .ok (.iconst 5, 1) := by decide +kernel
theorem dX0_copyFrom_56 : decode cX0_copyFrom 56 = .ok (.invokestatic 46, 3) := by decide +kernel
theorem dX0_copyFrom_59 : decode cX0_copyFrom 59 = .ok (.aload_n 1, 1) := by decide +kernel
theorem dX0_copyFrom_60 : decode cX0_copyFrom 60 = .ok (.getfield 24, 3) := by decide +kernel
theorem dX0_copyFrom_63 : decode cX0_copyFrom 63 = .ok (.iconst 0, 1) := by decide +kernel
theorem dX0_copyFrom_64 : decode cX0_copyFrom 64 = .ok (.aload_n 0, 1) := by decide +kernel
theorem dX0_copyFrom_65 : decode cX0_copyFrom 65 = .ok (.getfield 24, 3) := by decide +kernel
theorem dX0_copyFrom_68 : decode cX0_copyFrom 68 = .ok (.iconst 0, 1) := by decide +kernel
theorem dX0_copyFrom_69 : decode cX0_copyFrom 69 = .ok (.iconst 5, 1) := by decide +kernel
theorem dX0_copyFrom_70 : decode cX0_copyFrom 70 = .ok (.invokestatic 46, 3) := by decide +kernel
theorem dX0_copyFrom_73 : decode cX0_copyFrom 73 = .ok (.aload_n 1, 1) := by decide +kernel
theorem dX0_copyFrom_74 : decode cX0_copyFrom 74 = .ok (.getfield 27, 3) := by decide +kernel
theorem dX0_copyFrom_77 : decode cX0_copyFrom 77 = .ok (.iconst 0, 1) := by decide +kernel
theorem dX0_copyFrom_78 : decode cX0_copyFrom 78 = .ok (.aload_n 0, 1) := by decide +kernel
theorem dX0_copyFrom_79 : decode cX0_copyFrom 79 = .ok (.getfield 27, 3) := by decide +kernel
theorem dX0_copyFrom_82 : decode cX0_copyFrom 82 = .ok (.iconst 0, 1) := by decide +kernel
theorem dX0_copyFrom_83 : decode cX0_copyFrom 83 = .ok (.iconst 3, 1) := by decide +kernel
theorem dX0_copyFrom_84 : decode cX0_copyFrom 84 = .ok (.invokestatic 46, 3) := by decide +kernel
theorem dX0_copyFrom_87 : decode cX0_copyFrom 87 = .ok (.aload_n 1, 1) := by decide +kernel
theorem dX0_copyFrom_88 : decode cX0_copyFrom 88 = .ok (.getfield 36, 3) := by decide +kernel
theorem dX0_copyFrom_91 : decode cX0_copyFrom 91 = .ok (.iconst 0, 1) := by decide +kernel
theorem dX0_copyFrom_92 : decode cX0_copyFrom 92 = .ok (.aload_n 0, 1) := by decide +kernel
theorem dX0_copyFrom_93 : decode cX0_copyFrom 93 = .ok (.getfield 36, 3) := by decide +kernel
theorem dX0_copyFrom_96 : decode cX0_copyFrom 96 = .ok (.iconst 0, 1) := by decide +kernel
theorem dX0_copyFrom_97 : decode cX0_copyFrom 97 = .ok (.bipush 24, 2) := by decide +kernel
theorem dX0_copyFrom_99 : decode cX0_copyFrom 99 = .ok (.invokestatic 46, 3) := by decide +kernel
theorem dX0_copyFrom_102 : decode cX0_copyFrom 102 = .ok (.aload_n 1, 1) := by decide +kernel
theorem dX0_copyFrom_103 : decode cX0_copyFrom 103 = .ok (.getfield 39, 3) := by decide +kernel
theorem dX0_copyFrom_106 : decode cX0_copyFrom 106 = .ok (.iconst 0, 1) := by decide +kernel
theorem dX0_copyFrom_107 : decode cX0_copyFrom 107 = .ok (.aload_n 0, 1) := by decide +kernel
theorem dX0_copyFrom_108 : decode cX0_copyFrom 108 = .ok (.getfield 39, 3) := by decide +kernel
theorem dX0_copyFrom_111 : decode cX0_copyFrom 111 = .ok (.iconst 0, 1) := by decide +kernel
theorem dX0_copyFrom_112 : decode cX0_copyFrom 112 = .ok (.bipush 30, 2) := by decide +kernel
theorem dX0_copyFrom_114 : decode cX0_copyFrom 114 = .ok (.invokestatic 46, 3) := by decide +kernel
theorem dX0_copyFrom_117 : decode cX0_copyFrom 117 = .ok (.iconst 0, 1) := by decide +kernel
theorem dX0_copyFrom_118 : decode cX0_copyFrom 118 = .ok (.istore_n 2, 1) := by decide +kernel
theorem dX0_copyFrom_119 : decode cX0_copyFrom 119 = .ok (.iload_n 2, 1) := by decide +kernel
theorem dX0_copyFrom_120 : decode cX0_copyFrom 120 = .ok (.bipush 6, 2) := by decide +kernel
theorem dX0_copyFrom_122 : decode cX0_copyFrom 122 = .ok (.if_icmp .ge 21, 3) := by decide +kernel
theorem dX0_copyFrom_125 : decode cX0_copyFrom 125 = .ok (.aload_n 0, 1) := by decide +kernel
theorem dX0_copyFrom_126 : decode cX0_copyFrom 126 = .ok (.getfield 32, 3) := by decide +kernel
theorem dX0_copyFrom_129 : decode cX0_copyFrom 129 = .ok (.iload_n 2, 1) := by decide +kernel
theorem dX0_copyFrom_130 : decode cX0_copyFrom 130 = .ok (.aload_n 1, 1) := by decide +kernel
theorem dX0_copyFrom_131 : decode cX0_copyFrom 131 = .ok (.getfield 32, 3) := by decide +kernel
theorem dX0_copyFrom_134 : decode cX0_copyFrom 134 = .ok (.iload_n 2, 1) := by decide +kernel
theorem dX0_copyFrom_135 : decode cX0_copyFrom 135 = .ok (.aaload, 1) := by decide +kernel
theorem dX0_copyFrom_136 : decode cX0_copyFrom 136 = .ok (.aastore, 1) := by decide +kernel
theorem dX0_copyFrom_137 : decode cX0_copyFrom 137 = .ok (.iinc 2 1, 3) := by decide +kernel
theorem dX0_copyFrom_140 : decode cX0_copyFrom 140 = .ok (.goto (-21), 3) := by decide +kernel
theorem dX0_copyFrom_143 : decode cX0_copyFrom 143 = .ok (.aload_n 0, 1) := by decide +kernel
theorem dX0_copyFrom_144 : decode cX0_copyFrom 144 = .ok (.aload_n 1, 1) := by decide +kernel
theorem dX0_copyFrom_145 : decode cX0_copyFrom 145 = .ok (.getfield 52, 3) := by decide +kernel
theorem dX0_copyFrom_148 : decode cX0_copyFrom 148 = .ok (.putfield 52, 3) := by decide +kernel
theorem dX0_copyFrom_151 : decode cX0_copyFrom 151 = .ok (.aload_n 0, 1) := by decide +kernel
theorem dX0_copyFrom_152 : decode cX0_copyFrom 152 = .ok (.aload_n 1, 1) := by decide +kernel
theorem dX0_copyFrom_153 : decode cX0_copyFrom 153 = .ok (.getfield 55, 3) := by decide +kernel
theorem dX0_copyFrom_156 : decode cX0_copyFrom 156 = .ok (.putfield 55, 3) := by decide +kernel
theorem dX0_copyFrom_159 : decode cX0_copyFrom 159 = .ok (.aload_n 0, 1) := by decide +kernel
theorem dX0_copyFrom_160 : decode cX0_copyFrom 160 = .ok (.aload_n 1, 1) := by decide +kernel
theorem dX0_copyFrom_161 : decode cX0_copyFrom 161 = .ok (.getfield 42, 3) := by decide +kernel
theorem dX0_copyFrom_164 : decode cX0_copyFrom 164 = .ok (.putfield 42, 3) := by decide +kernel
theorem dX0_copyFrom_167 : decode cX0_copyFrom 167 = .ok (.aload_n 0, 1) := by decide +kernel
theorem dX0_copyFrom_168 : decode cX0_copyFrom 168 = .ok (.aload_n 1, 1) := by decide +kernel
theorem dX0_copyFrom_169 : decode cX0_copyFrom 169 = .ok (.getfield 58, 3) := by decide +kernel
theorem dX0_copyFrom_172 : decode cX0_copyFrom 172 = .ok (.putfield 58, 3) := by decide +kernel
theorem dX0_copyFrom_175 : decode cX0_copyFrom 175 = .ok (.aload_n 0, 1) := by decide +kernel
theorem dX0_copyFrom_176 : decode cX0_copyFrom 176 = .ok (.aload_n 1, 1) := by decide +kernel
theorem dX0_copyFrom_177 : decode cX0_copyFrom 177 = .ok (.getfield 61, 3) := by decide +kernel
theorem dX0_copyFrom_180 : decode cX0_copyFrom 180 = .ok (.putfield 61, 3) := by decide +kernel
theorem dX0_copyFrom_183 : decode cX0_copyFrom 183 = .ok (.return_, 1) := by decide +kernel
theorem dX0_hasClerk_0 : decode cX0_hasClerk 0 = .ok (.iload_n 1, 1) := by decide +kernel
theorem dX0_hasClerk_1 : decode cX0_hasClerk 1 = .ok (.ifCond .lt 15, 3) := by decide +kernel
theorem dX0_hasClerk_4 : decode cX0_hasClerk 4 = .ok (.iload_n 1, 1) := by decide +kernel
theorem dX0_hasClerk_5 : decode cX0_hasClerk 5 = .ok (.aload_n 0, 1) := by decide +kernel
theorem dX0_hasClerk_6 : decode cX0_hasClerk 6 = .ok (.getfield 52, 3) := by decide +kernel
theorem dX0_hasClerk_9 : decode cX0_hasClerk 9 = .ok (.if_icmp .ge 7, 3) := by decide +kernel
theorem dX0_hasClerk_12 : decode cX0_hasClerk 12 = .ok (.iconst 1, 1) := by decide +kernel
theorem dX0_hasClerk_13 : decode cX0_hasClerk 13 = .ok (.goto 4, 3) := by decide +kernel
theorem dX0_hasClerk_16 : decode cX0_hasClerk 16 = .ok (.iconst 0, 1) := by decide +kernel
theorem dX0_hasClerk_17 : decode cX0_hasClerk 17 = .ok (.ireturn, 1) := by decide +kernel
theorem dX0_handOf_0 : decode cX0_handOf 0 = .ok (.aload_n 0, 1) := by decide +kernel
theorem dX0_handOf_1 : decode cX0_handOf 1 = .ok (.iload_n 1, 1) := by decide +kernel
theorem dX0_handOf_2 : decode cX0_handOf 2 = .ok (.invokevirtual 64, 3) := by decide +kernel
theorem dX0_handOf_5 : decode cX0_handOf 5 = .ok (.ifCond .eq 12, 3) := by decide +kernel
theorem dX0_handOf_8 : decode cX0_handOf 8 = .ok (.aload_n 0, 1) := by decide +kernel
theorem dX0_handOf_9 : decode cX0_handOf 9 = .ok (.getfield 24, 3) := by decide +kernel
theorem dX0_handOf_12 : decode cX0_handOf 12 = .ok (.iload_n 1, 1) := by decide +kernel
theorem dX0_handOf_13 : decode cX0_handOf 13 = .ok (.iaload, 1) := by decide +kernel
theorem dX0_handOf_14 : decode cX0_handOf 14 = .ok (.goto 4, 3) := by decide +kernel
theorem dX0_handOf_17 : decode cX0_handOf 17 = .ok (.iconst (-1), 1) := by decide +kernel
theorem dX0_handOf_18 : decode cX0_handOf 18 = .ok (.ireturn, 1) := by decide +kernel
theorem dX0_lawInForce_0 : decode cX0_lawInForce 0 = .ok (.aload_n 0, 1) := by decide +kernel
theorem dX0_lawInForce_1 : decode cX0_lawInForce 1 = .ok (.getfield 42, 3) := by decide +kernel
theorem dX0_lawInForce_4 : decode cX0_lawInForce 4 = .ok (.ifCond .lt 26, 3) := by decide +kernel
theorem dX0_lawInForce_7 : decode cX0_lawInForce 7 = .ok (.aload_n 0, 1) := by decide +kernel
theorem dX0_lawInForce_8 : decode cX0_lawInForce 8 = .ok (.getfield 42, 3) := by decide +kernel
theorem dX0_lawInForce_11 : decode cX0_lawInForce 11 = .ok (.aload_n 0, 1) := by decide +kernel
theorem dX0_lawInForce_12 : decode cX0_lawInForce 12 = .ok (.getfield 55, 3) := by decide +kernel
theorem dX0_lawInForce_15 : decode cX0_lawInForce 15 = .ok (.if_icmp .ge 15, 3) := by decide +kernel
theorem dX0_lawInForce_18 : decode cX0_lawInForce 18 = .ok (.aload_n 0, 1) := by decide +kernel
theorem dX0_lawInForce_19 : decode cX0_lawInForce 19 = .ok (.getfield 32, 3) := by decide +kernel
theorem dX0_lawInForce_22 : decode cX0_lawInForce 22 = .ok (.aload_n 0, 1) := by decide +kernel
theorem dX0_lawInForce_23 : decode cX0_lawInForce 23 = .ok (.getfield 42, 3) := by decide +kernel
theorem dX0_lawInForce_26 : decode cX0_lawInForce 26 = .ok (.aaload, 1) := by decide +kernel
theorem dX0_lawInForce_27 : decode cX0_lawInForce 27 = .ok (.goto 4, 3) := by decide +kernel
theorem dX0_lawInForce_30 : decode cX0_lawInForce 30 = .ok (.aconst_null, 1) := by decide +kernel
theorem dX0_lawInForce_31 : decode cX0_lawInForce 31 = .ok (.areturn, 1) := by decide +kernel
theorem dX0_gap_0 : decode cX0_gap 0 = .ok (.iload_n 1, 1) := by decide +kernel
theorem dX0_gap_1 : decode cX0_gap 1 = .ok (.ifCond .ne 9, 3) := by decide +kernel
theorem dX0_gap_4 : decode cX0_gap 4 = .ok (.iload_n 2, 1) := by decide +kernel
theorem dX0_gap_5 : decode cX0_gap 5 = .ok (.iconst 5, 1) := by decide +kernel
theorem dX0_gap_6 : decode cX0_gap 6 = .ok (.imul, 1) := by decide +kernel
theorem dX0_gap_7 : decode cX0_gap 7 = .ok (.goto 4, 3) := by decide +kernel
theorem dX0_gap_10 : decode cX0_gap 10 = .ok (.iload_n 2, 1) := by decide +kernel
theorem dX0_gap_11 : decode cX0_gap 11 = .ok (.istore_n 3, 1) := by decide +kernel
theorem dX0_gap_12 : decode cX0_gap 12 = .ok (.iload_n 1, 1) := by decide +kernel
theorem dX0_gap_13 : decode cX0_gap 13 = .ok (.ifCond .ne 7, 3) := by decide +kernel
theorem dX0_gap_16 : decode cX0_gap 16 = .ok (.iconst 1, 1) := by decide +kernel
theorem dX0_gap_17 : decode cX0_gap 17 = .ok (.goto 4, 3) := by decide +kernel
theorem dX0_gap_20 : decode cX0_gap 20 = .ok (.iconst 5, 1) := by decide +kernel
theorem dX0_gap_21 : decode cX0_gap 21 = .ok (.istore 4, 2) := by decide +kernel
theorem dX0_gap_23 : decode cX0_gap 23 = .ok (.iconst 0, 1) := by decide +kernel
theorem dX0_gap_24 : decode cX0_gap 24 = .ok (.istore 5, 2) := by decide +kernel
theorem dX0_gap_26 : decode cX0_gap 26 = .ok (.iconst 0, 1) := by decide +kernel
theorem dX0_gap_27 : decode cX0_gap 27 = .ok (.istore 6, 2) := by decide +kernel
theorem dX0_gap_29 : decode cX0_gap 29 = .ok (.iload 6, 2) := by decide +kernel
theorem dX0_gap_31 : decode cX0_gap 31 = .ok (.iconst 5, 1) := by decide +kernel
theorem dX0_gap_32 : decode cX0_gap 32 = .ok (.if_icmp .ge 26, 3) := by decide +kernel
theorem dX0_gap_35 : decode cX0_gap 35 = .ok (.iload 5, 2) := by decide +kernel
theorem dX0_gap_37 : decode cX0_gap 37 = .ok (.aload_n 0, 1) := by decide +kernel
theorem dX0_gap_38 : decode cX0_gap 38 = .ok (.getfield 9, 3) := by decide +kernel
theorem dX0_gap_41 : decode cX0_gap 41 = .ok (.iload_n 3, 1) := by decide +kernel
theorem dX0_gap_42 : decode cX0_gap 42 = .ok (.iload 6, 2) := by decide +kernel
theorem dX0_gap_44 : decode cX0_gap 44 = .ok (.iload 4, 2) := by decide +kernel
theorem dX0_gap_46 : decode cX0_gap 46 = .ok (.imul, 1) := by decide +kernel
theorem dX0_gap_47 : decode cX0_gap 47 = .ok (.iadd, 1) := by decide +kernel
theorem dX0_gap_48 : decode cX0_gap 48 = .ok (.iaload, 1) := by decide +kernel
theorem dX0_gap_49 : decode cX0_gap 49 = .ok (.iadd, 1) := by decide +kernel
theorem dX0_gap_50 : decode cX0_gap 50 = .ok (.istore 5, 2) := by decide +kernel
theorem dX0_gap_52 : decode cX0_gap 52 = .ok (.iinc 6 1, 3) := by decide +kernel
theorem dX0_gap_55 : decode cX0_gap 55 = .ok (.goto (-26), 3) := by decide +kernel
theorem dX0_gap_58 : decode cX0_gap 58 = .ok (.aload_n 0, 1) := by decide +kernel
theorem dX0_gap_59 : decode cX0_gap 59 = .ok (.getfield 18, 3) := by decide +kernel
theorem dX0_gap_62 : decode cX0_gap 62 = .ok (.iload_n 1, 1) := by decide +kernel
theorem dX0_gap_63 : decode cX0_gap 63 = .ok (.iconst 5, 1) := by decide +kernel
theorem dX0_gap_64 : decode cX0_gap 64 = .ok (.imul, 1) := by decide +kernel
theorem dX0_gap_65 : decode cX0_gap 65 = .ok (.iload_n 2, 1) := by decide +kernel
theorem dX0_gap_66 : decode cX0_gap 66 = .ok (.iadd, 1) := by decide +kernel
theorem dX0_gap_67 : decode cX0_gap 67 = .ok (.iaload, 1) := by decide +kernel
theorem dX0_gap_68 : decode cX0_gap 68 = .ok (.iload 5, 2) := by decide +kernel
theorem dX0_gap_70 : decode cX0_gap 70 = .ok (.isub, 1) := by decide +kernel
theorem dX0_gap_71 : decode cX0_gap 71 = .ok (.ireturn, 1) := by decide +kernel
theorem dX0_isEvenTurned_0 : decode cX0_isEvenTurned 0 = .ok (.aload_n 0, 1) := by decide +kernel
theorem dX0_isEvenTurned_1 : decode cX0_isEvenTurned 1 = .ok (.iload_n 1, 1) := by decide +kernel
theorem dX0_isEvenTurned_2 : decode cX0_isEvenTurned 2 = .ok (.iload_n 2, 1) := by decide +kernel
theorem dX0_isEvenTurned_3 : decode cX0_isEvenTurned 3 = .ok (.invokevirtual 68, 3) := by decide +kernel
theorem dX0_isEvenTurned_6 : decode cX0_isEvenTurned 6 = .ok (.iconst 1, 1) := by decide +kernel
theorem dX0_isEvenTurned_7 : decode cX0_isEvenTurned 7 = .ok (.istore_n 3, 1) := by decide +kernel
theorem dX0_isEvenTurned_8 : decode cX0_isEvenTurned 8 = .ok (.iconst 0, 1) := by decide +kernel
theorem dX0_isEvenTurned_9 : decode cX0_isEvenTurned 9 = .ok (.istore 4, 2) := by decide +kernel
theorem dX0_isEvenTurned_11 : decode cX0_isEvenTurned 11 = .ok (.iload 4, 2) := by decide +kernel
theorem dX0_isEvenTurned_13 : decode cX0_isEvenTurned 13 = .ok (.iconst 5, 1) := by decide +kernel
theorem dX0_isEvenTurned_14 : decode cX0_isEvenTurned 14 = .ok (.if_icmp .ge 39, 3) := by decide +kernel
theorem dX0_isEvenTurned_17 : decode cX0_isEvenTurned 17 = .ok (.iload_n 3, 1) := by decide +kernel
theorem dX0_isEvenTurned_18 : decode cX0_isEvenTurned 18 = .ok (.ifCond .eq 35, 3) := by decide +kernel
theorem dX0_isEvenTurned_21 : decode cX0_isEvenTurned 21 = .ok (.aload_n 0, 1) := by decide +kernel
theorem dX0_isEvenTurned_22 : decode cX0_isEvenTurned 22 = .ok (.iconst 0, 1) := by decide +kernel
theorem dX0_isEvenTurned_23 : decode cX0_isEvenTurned 23 = .ok (.iload 4, 2) := by decide +kernel
theorem dX0_isEvenTurned_25 : decode cX0_isEvenTurned 25 = .ok (.invokevirtual 72, 3) := by decide +kernel
theorem dX0_isEvenTurned_28 : decode cX0_isEvenTurned 28 = .ok (.ifCond .ne 17, 3) := by decide +kernel
theorem dX0_isEvenTurned_31 : decode cX0_isEvenTurned 31 = .ok (.aload_n 0, 1) := by decide +kernel
theorem dX0_isEvenTurned_32 : decode cX0_isEvenTurned 32 = .ok (.iconst 1, 1) := by decide +kernel
theorem dX0_isEvenTurned_33 : decode cX0_isEvenTurned 33 = .ok (.iload 4, 2) := by decide +kernel
theorem dX0_isEvenTurned_35 : decode cX0_isEvenTurned 35 = .ok (.invokevirtual 72, 3) := by decide +kernel
theorem dX0_isEvenTurned_38 : decode cX0_isEvenTurned 38 = .ok (.ifCond .ne 7, 3) := by decide +kernel
theorem dX0_isEvenTurned_41 : decode cX0_isEvenTurned 41 = .ok (.iconst 1, 1) := by decide +kernel
theorem dX0_isEvenTurned_42 : decode cX0_isEvenTurned 42 = .ok (.goto 4, 3) := by decide +kernel
theorem dX0_isEvenTurned_45 : decode cX0_isEvenTurned 45 = .ok (.iconst 0, 1) := by decide +kernel
theorem dX0_isEvenTurned_46 : decode cX0_isEvenTurned 46 = .ok (.istore_n 3, 1) := by decide +kernel
theorem dX0_isEvenTurned_47 : decode cX0_isEvenTurned 47 = .ok (.iinc 4 1, 3) := by decide +kernel
theorem dX0_isEvenTurned_50 : decode cX0_isEvenTurned 50 = .ok (.goto (-39), 3) := by decide +kernel
theorem dX0_isEvenTurned_53 : decode cX0_isEvenTurned 53 = .ok (.aload_n 0, 1) := by decide +kernel
theorem dX0_isEvenTurned_54 : decode cX0_isEvenTurned 54 = .ok (.iload_n 1, 1) := by decide +kernel
theorem dX0_isEvenTurned_55 : decode cX0_isEvenTurned 55 = .ok (.iload_n 2, 1) := by decide +kernel
theorem dX0_isEvenTurned_56 : decode cX0_isEvenTurned 56 = .ok (.invokevirtual 68, 3) := by decide +kernel
theorem dX0_isEvenTurned_59 : decode cX0_isEvenTurned 59 = .ok (.iload_n 3, 1) := by decide +kernel
theorem dX0_isEvenTurned_60 : decode cX0_isEvenTurned 60 = .ok (.ireturn, 1) := by decide +kernel
theorem dX0_turn_0 : decode cX0_turn 0 = .ok (.aload_n 0, 1) := by decide +kernel
theorem dX0_turn_1 : decode cX0_turn 1 = .ok (.getfield 9, 3) := by decide +kernel
theorem dX0_turn_4 : decode cX0_turn 4 = .ok (.iload_n 1, 1) := by decide +kernel
theorem dX0_turn_5 : decode cX0_turn 5 = .ok (.iaload, 1) := by decide +kernel
theorem dX0_turn_6 : decode cX0_turn 6 = .ok (.istore_n 3, 1) := by decide +kernel
theorem dX0_turn_7 : decode cX0_turn 7 = .ok (.aload_n 0, 1) := by decide +kernel
theorem dX0_turn_8 : decode cX0_turn 8 = .ok (.getfield 9, 3) := by decide +kernel
theorem dX0_turn_11 : decode cX0_turn 11 = .ok (.iload_n 1, 1) := by decide +kernel
theorem dX0_turn_12 : decode cX0_turn 12 = .ok (.aload_n 0, 1) := by decide +kernel
theorem dX0_turn_13 : decode cX0_turn 13 = .ok (.getfield 9, 3) := by decide +kernel
theorem dX0_turn_16 : decode cX0_turn 16 = .ok (.iload_n 2, 1) := by decide +kernel
theorem dX0_turn_17 : decode cX0_turn 17 = .ok (.iaload, 1) := by decide +kernel
theorem dX0_turn_18 : decode cX0_turn 18 = .ok (.iastore, 1) := by decide +kernel
theorem dX0_turn_19 : decode cX0_turn 19 = .ok (.aload_n 0, 1) := by decide +kernel
theorem dX0_turn_20 : decode cX0_turn 20 = .ok (.getfield 9, 3) := by decide +kernel
theorem dX0_turn_23 : decode cX0_turn 23 = .ok (.iload_n 2, 1) := by decide +kernel
theorem dX0_turn_24 : decode cX0_turn 24 = .ok (.iload_n 3, 1) := by decide +kernel
theorem dX0_turn_25 : decode cX0_turn 25 = .ok (.iastore, 1) := by decide +kernel
theorem dX0_turn_26 : decode cX0_turn 26 = .ok (.return_, 1) := by decide +kernel
theorem dX0_moveEntry_0 : decode cX0_moveEntry 0 = .ok (.iload_n 1, 1) := by decide +kernel
theorem dX0_moveEntry_1 : decode cX0_moveEntry 1 = .ok (.invokestatic 76, 3) := by decide +kernel
theorem dX0_moveEntry_4 : decode cX0_moveEntry 4 = .ok (.ifCond .eq 26, 3) := by decide +kernel
theorem dX0_moveEntry_7 : decode cX0_moveEntry 7 = .ok (.iload_n 2, 1) := by decide +kernel
theorem dX0_moveEntry_8 : decode cX0_moveEntry 8 = .ok (.invokestatic 76, 3) := by decide +kernel
theorem dX0_moveEntry_11 : decode cX0_moveEntry 11 = .ok (.ifCond .eq 19, 3) := by decide +kernel
theorem dX0_moveEntry_14 : decode cX0_moveEntry 14 = .ok (.iload_n 1, 1) := by decide +kernel
theorem dX0_moveEntry_15 : decode cX0_moveEntry 15 = .ok (.iload_n 2, 1) := by decide +kernel
theorem dX0_moveEntry_16 : decode cX0_moveEntry 16 = .ok (.if_icmp .eq 14, 3) := by decide +kernel
theorem dX0_moveEntry_19 : decode cX0_moveEntry 19 = .ok (.iload_n 3, 1) := by decide +kernel
theorem dX0_moveEntry_20 : decode cX0_moveEntry 20 = .ok (.iconst 1, 1) := by decide +kernel
theorem dX0_moveEntry_21 : decode cX0_moveEntry 21 = .ok (.sipush 999, 3) := by decide +kernel
theorem dX0_moveEntry_24 : decode cX0_moveEntry 24 = .ok (.invokestatic 79, 3) := by decide +kernel
theorem dX0_moveEntry_27 : decode cX0_moveEntry 27 = .ok (.ifCond .ne 5, 3) := by decide +kernel
theorem dX0_moveEntry_30 : decode cX0_moveEntry 30 = .ok (.iconst (-1), 1) := by decide +kernel
theorem dX0_moveEntry_31 : decode cX0_moveEntry 31 = .ok (.ireturn, 1) := by decide +kernel
theorem dX0_moveEntry_32 : decode cX0_moveEntry 32 = .ok (.aload_n 0, 1) := by decide +kernel
theorem dX0_moveEntry_33 : decode cX0_moveEntry 33 = .ok (.getfield 9, 3) := by decide +kernel
theorem dX0_moveEntry_36 : decode cX0_moveEntry 36 = .ok (.iload_n 1, 1) := by decide +kernel
theorem dX0_moveEntry_37 : decode cX0_moveEntry 37 = .ok (.iaload, 1) := by decide +kernel
theorem dX0_moveEntry_38 : decode cX0_moveEntry 38 = .ok (.iload_n 3, 1) := by decide +kernel
theorem dX0_moveEntry_39 : decode cX0_moveEntry 39 = .ok (.if_icmp .lt 17, 3) := by decide +kernel
theorem dX0_moveEntry_42 : decode cX0_moveEntry 42 = .ok (.aload_n 0, 1) := by decide +kernel
theorem dX0_moveEntry_43 : decode cX0_moveEntry 43 = .ok (.getfield 9, 3) := by decide +kernel
theorem dX0_moveEntry_46 : decode cX0_moveEntry 46 = .ok (.iload_n 2, 1) := by decide +kernel
theorem dX0_moveEntry_47 : decode cX0_moveEntry 47 = .ok (.iaload, 1) := by decide +kernel
theorem dX0_moveEntry_48 : decode cX0_moveEntry 48 = .ok (.iload_n 3, 1) := by decide +kernel
theorem dX0_moveEntry_49 : decode cX0_moveEntry 49 = .ok (.iadd, 1) := by decide +kernel
theorem dX0_moveEntry_50 : decode cX0_moveEntry 50 = .ok (.sipush 999, 3) := by decide +kernel
theorem dX0_moveEntry_53 : decode cX0_moveEntry 53 = .ok (.if_icmp .le 6, 3) := by decide +kernel
theorem dX0_moveEntry_56 : decode cX0_moveEntry 56 = .ok (.bipush (-3), 2) := by decide +kernel
theorem dX0_moveEntry_58 : decode cX0_moveEntry 58 = .ok (.ireturn, 1) := by decide +kernel
theorem dX0_moveEntry_59 : decode cX0_moveEntry 59 = .ok (.aload_n 0, 1) := by decide +kernel
theorem dX0_moveEntry_60 : decode cX0_moveEntry 60 = .ok (.getfield 9, 3) := by decide +kernel
theorem dX0_moveEntry_63 : decode cX0_moveEntry 63 = .ok (.iload_n 1, 1) := by decide +kernel
theorem dX0_moveEntry_64 : decode cX0_moveEntry 64 = .ok (.dup2, 1) := by decide +kernel
theorem dX0_moveEntry_65 : decode cX0_moveEntry 65 = .ok (.iaload, 1) := by decide +kernel
theorem dX0_moveEntry_66 : decode cX0_moveEntry 66 = .ok (.iload_n 3, 1) := by decide +kernel
theorem dX0_moveEntry_67 : decode cX0_moveEntry 67 = .ok (.isub, 1) := by decide +kernel
theorem dX0_moveEntry_68 : decode cX0_moveEntry 68 = .ok (.iastore, 1) := by decide +kernel
theorem dX0_moveEntry_69 : decode cX0_moveEntry 69 = .ok (.aload_n 0, 1) := by decide +kernel
theorem dX0_moveEntry_70 : decode cX0_moveEntry 70 = .ok (.getfield 9, 3) := by decide +kernel
theorem dX0_moveEntry_73 : decode cX0_moveEntry 73 = .ok (.iload_n 2, 1) := by decide +kernel
theorem dX0_moveEntry_74 : decode cX0_moveEntry 74 = .ok (.dup2, 1) := by decide +kernel
theorem dX0_moveEntry_75 : decode cX0_moveEntry 75 = .ok (.iaload, 1) := by decide +kernel
theorem dX0_moveEntry_76 : decode cX0_moveEntry 76 = .ok (.iload_n 3, 1) := by decide +kernel
theorem dX0_moveEntry_77 : decode cX0_moveEntry 77 = .ok (.iadd, 1) := by decide +kernel
theorem dX0_moveEntry_78 : decode cX0_moveEntry 78 = .ok (.iastore, 1) := by decide +kernel
theorem dX0_moveEntry_79 : decode cX0_moveEntry 79 = .ok (.aload_n 0, 1) := by decide +kernel
theorem dX0_moveEntry_80 : decode cX0_moveEntry 80 = .ok (.getfield 9, 3) := by decide +kernel
theorem dX0_moveEntry_83 : decode cX0_moveEntry 83 = .ok (.iload_n 1, 1) := by decide +kernel
theorem dX0_moveEntry_84 : decode cX0_moveEntry 84 = .ok (.iaload, 1) := by decide +kernel
theorem dX0_moveEntry_85 : decode cX0_moveEntry 85 = .ok (.ireturn, 1) := by decide +kernel
theorem dX0_turnFence_0 : decode cX0_turnFence 0 = .ok (.iload_n 1, 1) := by decide +kernel
theorem dX0_turnFence_1 : decode cX0_turnFence 1 = .ok (.invokestatic 76, 3) := by decide +kernel
theorem dX0_turnFence_4 : decode cX0_turnFence 4 = .ok (.ifCond .ne 5, 3) := by decide +kernel
theorem dX0_turnFence_7 : decode cX0_turnFence 7 = .ok (.iconst (-1), 1) := by decide +kernel
theorem dX0_turnFence_8 : decode cX0_turnFence 8 = .ok (.ireturn, 1) := by decide +kernel
theorem dX0_turnFence_9 : decode cX0_turnFence 9 = .ok (.aload_n 0, 1) := by decide +kernel
theorem dX0_turnFence_10 : decode cX0_turnFence 10 = .ok (.getfield 15, 3) := by decide +kernel
theorem dX0_turnFence_13 : decode cX0_turnFence 13 = .ok (.iload_n 1, 1) := by decide +kernel
theorem dX0_turnFence_14 : decode cX0_turnFence 14 = .ok (.iconst 1, 1) := by decide +kernel
theorem dX0_turnFence_15 : decode cX0_turnFence 15 = .ok (.aload_n 0, 1) := by decide +kernel
theorem dX0_turnFence_16 : decode cX0_turnFence 16 = .ok (.getfield 15, 3) := by decide +kernel
theorem dX0_turnFence_19 : decode cX0_turnFence 19 = .ok (.iload_n 1, 1) := by decide +kernel
theorem dX0_turnFence_20 : decode cX0_turnFence 20 = .ok (.iaload, 1) := by decide +kernel
theorem dX0_turnFence_21 : decode cX0_turnFence 21 = .ok (.isub, 1) := by decide +kernel
theorem dX0_turnFence_22 : decode cX0_turnFence 22 = .ok (.iastore, 1) := by decide +kernel
theorem dX0_turnFence_23 : decode cX0_turnFence 23 = .ok (.aload_n 0, 1) := by decide +kernel
theorem dX0_turnFence_24 : decode cX0_turnFence 24 = .ok (.getfield 15, 3) := by decide +kernel
theorem dX0_turnFence_27 : decode cX0_turnFence 27 = .ok (.iload_n 1, 1) := by decide +kernel
theorem dX0_turnFence_28 : decode cX0_turnFence 28 = .ok (.iaload, 1) := by decide +kernel
theorem dX0_turnFence_29 : decode cX0_turnFence 29 = .ok (.ireturn, 1) := by decide +kernel
theorem dX0_nextDay_0 : decode cX0_nextDay 0 = .ok (.aload_n 0, 1) := by decide +kernel
theorem dX0_nextDay_1 : decode cX0_nextDay 1 = .ok (.getfield 27, 3) := by decide +kernel
theorem dX0_nextDay_4 : decode cX0_nextDay 4 = .ok (.iconst 0, 1) := by decide +kernel
theorem dX0_nextDay_5 : decode cX0_nextDay 5 = .ok (.iaload, 1) := by decide +kernel
theorem dX0_nextDay_6 : decode cX0_nextDay 6 = .ok (.sipush 999, 3) := by decide +kernel
theorem dX0_nextDay_9 : decode cX0_nextDay 9 = .ok (.if_icmp .lt 6, 3) := by decide +kernel
theorem dX0_nextDay_12 : decode cX0_nextDay 12 = .ok (.bipush (-3), 2) := by decide +kernel
theorem dX0_nextDay_14 : decode cX0_nextDay 14 = .ok (.ireturn, 1) := by decide +kernel
theorem dX0_nextDay_15 : decode cX0_nextDay 15 = .ok (.aload_n 0, 1) := by decide +kernel
theorem dX0_nextDay_16 : decode cX0_nextDay 16 = .ok (.getfield 27, 3) := by decide +kernel
theorem dX0_nextDay_19 : decode cX0_nextDay 19 = .ok (.iconst 0, 1) := by decide +kernel
theorem dX0_nextDay_20 : decode cX0_nextDay 20 = .ok (.dup2, 1) := by decide +kernel
theorem dX0_nextDay_21 : decode cX0_nextDay 21 = .ok (.iaload, 1) := by decide +kernel
theorem dX0_nextDay_22 : decode cX0_nextDay 22 = .ok (.iconst 1, 1) := by decide +kernel
theorem dX0_nextDay_23 : decode cX0_nextDay 23 = .ok (.iadd, 1) := by decide +kernel
theorem dX0_nextDay_24 : decode cX0_nextDay 24 = .ok (.iastore, 1) := by decide +kernel
theorem dX0_nextDay_25 : decode cX0_nextDay 25 = .ok (.aload_n 0, 1) := by decide +kernel
theorem dX0_nextDay_26 : decode cX0_nextDay 26 = .ok (.getfield 27, 3) := by decide +kernel
theorem dX0_nextDay_29 : decode cX0_nextDay 29 = .ok (.iconst 0, 1) := by decide +kernel
theorem dX0_nextDay_30 : decode cX0_nextDay 30 = .ok (.iaload, 1) := by decide +kernel
theorem dX0_nextDay_31 : decode cX0_nextDay 31 = .ok (.ireturn, 1) := by decide +kernel
theorem dX0_fenceCount_0 : decode cX0_fenceCount 0 = .ok (.iconst 0, 1) := by decide +kernel
theorem dX0_fenceCount_1 : decode cX0_fenceCount 1 = .ok (.istore_n 1, 1) := by decide +kernel
theorem dX0_fenceCount_2 : decode cX0_fenceCount 2 = .ok (.iconst 0, 1) := by decide +kernel
theorem dX0_fenceCount_3 : decode cX0_fenceCount 3 = .ok (.istore_n 2, 1) := by decide +kernel
theorem dX0_fenceCount_4 : decode cX0_fenceCount 4 = .ok (.iload_n 2, 1) := by decide +kernel
theorem dX0_fenceCount_5 : decode cX0_fenceCount 5 = .ok (.bipush 25, 2) := by decide +kernel
theorem dX0_fenceCount_7 : decode cX0_fenceCount 7 = .ok (.if_icmp .ge 18, 3) := by decide +kernel
theorem dX0_fenceCount_10 : decode cX0_fenceCount 10 = .ok (.iload_n 1, 1) := by decide +kernel
theorem dX0_fenceCount_11 : decode cX0_fenceCount 11 = .ok (.aload_n 0, 1) := by decide +kernel
theorem dX0_fenceCount_12 : decode cX0_fenceCount 12 = .ok (.getfield 15, 3) := by decide +kernel
theorem dX0_fenceCount_15 : decode cX0_fenceCount 15 = .ok (.iload_n 2, 1) := by decide +kernel
theorem dX0_fenceCount_16 : decode cX0_fenceCount 16 = .ok (.iaload, 1) := by decide +kernel
theorem dX0_fenceCount_17 : decode cX0_fenceCount 17 = .ok (.iadd, 1) := by decide +kernel
theorem dX0_fenceCount_18 : decode cX0_fenceCount 18 = .ok (.istore_n 1, 1) := by decide +kernel
theorem dX0_fenceCount_19 : decode cX0_fenceCount 19 = .ok (.iinc 2 1, 3) := by decide +kernel
theorem dX0_fenceCount_22 : decode cX0_fenceCount 22 = .ok (.goto (-18), 3) := by decide +kernel
theorem dX0_fenceCount_25 : decode cX0_fenceCount 25 = .ok (.iload_n 1, 1) := by decide +kernel
theorem dX0_fenceCount_26 : decode cX0_fenceCount 26 = .ok (.ireturn, 1) := by decide +kernel
theorem dX0_bookedOutOf_0 : decode cX0_bookedOutOf 0 = .ok (.iconst 0, 1) := by decide +kernel
theorem dX0_bookedOutOf_1 : decode cX0_bookedOutOf 1 = .ok (.istore_n 2, 1) := by decide +kernel
theorem dX0_bookedOutOf_2 : decode cX0_bookedOutOf 2 = .ok (.iconst 0, 1) := by decide +kernel
theorem dX0_bookedOutOf_3 : decode cX0_bookedOutOf 3 = .ok (.istore_n 3, 1) := by decide +kernel
theorem dX0_bookedOutOf_4 : decode cX0_bookedOutOf 4 = .ok (.iload_n 3, 1) := by decide +kernel
theorem dX0_bookedOutOf_5 : decode cX0_bookedOutOf 5 = .ok (.aload_n 0, 1) := by decide +kernel
theorem dX0_bookedOutOf_6 : decode cX0_bookedOutOf 6 = .ok (.getfield 61, 3) := by decide +kernel
theorem dX0_bookedOutOf_9 : decode cX0_bookedOutOf 9 = .ok (.if_icmp .ge 55, 3) := by decide +kernel
theorem dX0_bookedOutOf_12 : decode cX0_bookedOutOf 12 = .ok (.iload_n 1, 1) := by decide +kernel
theorem dX0_bookedOutOf_13 : decode cX0_bookedOutOf 13 = .ok (.aload_n 0, 1) := by decide +kernel
theorem dX0_bookedOutOf_14 : decode cX0_bookedOutOf 14 = .ok (.getfield 39, 3) := by decide +kernel
theorem dX0_bookedOutOf_17 : decode cX0_bookedOutOf 17 = .ok (.iconst 3, 1) := by decide +kernel
theorem dX0_bookedOutOf_18 : decode cX0_bookedOutOf 18 = .ok (.iload_n 3, 1) := by decide +kernel
theorem dX0_bookedOutOf_19 : decode cX0_bookedOutOf 19 = .ok (.imul, 1) := by decide +kernel
theorem dX0_bookedOutOf_20 : decode cX0_bookedOutOf 20 = .ok (.iaload, 1) := by decide +kernel
theorem dX0_bookedOutOf_21 : decode cX0_bookedOutOf 21 = .ok (.ishr, 1) := by decide +kernel
theorem dX0_bookedOutOf_22 : decode cX0_bookedOutOf 22 = .ok (.iconst 1, 1) := by decide +kernel
theorem dX0_bookedOutOf_23 : decode cX0_bookedOutOf 23 = .ok (.iand, 1) := by decide +kernel
theorem dX0_bookedOutOf_24 : decode cX0_bookedOutOf 24 = .ok (.iconst 1, 1) := by decide +kernel
theorem dX0_bookedOutOf_25 : decode cX0_bookedOutOf 25 = .ok (.if_icmp .ne 33, 3) := by decide +kernel
theorem dX0_bookedOutOf_28 : decode cX0_bookedOutOf 28 = .ok (.iload_n 1, 1) := by decide +kernel
theorem dX0_bookedOutOf_29 : decode cX0_bookedOutOf 29 = .ok (.aload_n 0, 1) := by decide +kernel
theorem dX0_bookedOutOf_30 : decode cX0_bookedOutOf 30 = .ok (.getfield 39, 3) := by decide +kernel
theorem dX0_bookedOutOf_33 : decode cX0_bookedOutOf 33 = .ok (.iconst 3, 1) := by decide +kernel
theorem dX0_bookedOutOf_34 : decode cX0_bookedOutOf 34 = .ok (.iload_n 3, 1) := by decide +kernel
theorem dX0_bookedOutOf_35 : decode cX0_bookedOutOf 35 = .ok (.imul, 1) := by decide +kernel
theorem dX0_bookedOutOf_36 : decode cX0_bookedOutOf 36 = .ok (.iconst 1, 1) := by decide +kernel
theorem dX0_bookedOutOf_37 : decode cX0_bookedOutOf 37 = .ok (.iadd, 1) := by decide +kernel
theorem dX0_bookedOutOf_38 : decode cX0_bookedOutOf 38 = .ok (.iaload, 1) := by decide +kernel
theorem dX0_bookedOutOf_39 : decode cX0_bookedOutOf 39 = .ok (.ishr, 1) := by decide +kernel
theorem dX0_bookedOutOf_40 : decode cX0_bookedOutOf 40 = .ok (.iconst 1, 1) := by decide +kernel
theorem dX0_bookedOutOf_41 : decode cX0_bookedOutOf 41 = .ok (.iand, 1) := by decide +kernel
theorem dX0_bookedOutOf_42 : decode cX0_bookedOutOf 42 = .ok (.ifCond .ne 16, 3) := by decide +kernel
theorem dX0_bookedOutOf_45 : decode cX0_bookedOutOf 45 = .ok (.iload_n 2, 1) := by decide +kernel
theorem dX0_bookedOutOf_46 : decode cX0_bookedOutOf 46 = .ok (.aload_n 0, 1) := by decide +kernel
theorem dX0_bookedOutOf_47 : decode cX0_bookedOutOf 47 = .ok (.getfield 39, 3) := by decide +kernel
theorem dX0_bookedOutOf_50 : decode cX0_bookedOutOf 50 = .ok (.iconst 3, 1) := by decide +kernel
theorem dX0_bookedOutOf_51 : decode cX0_bookedOutOf 51 = .ok (.iload_n 3, 1) := by decide +kernel
theorem dX0_bookedOutOf_52 : decode cX0_bookedOutOf 52 = .ok (.imul, 1) := by decide +kernel
theorem dX0_bookedOutOf_53 : decode cX0_bookedOutOf 53 = .ok (.iconst 2, 1) := by decide +kernel
theorem dX0_bookedOutOf_54 : decode cX0_bookedOutOf 54 = .ok (.iadd, 1) := by decide +kernel
theorem dX0_bookedOutOf_55 : decode cX0_bookedOutOf 55 = .ok (.iaload, 1) := by decide +kernel
theorem dX0_bookedOutOf_56 : decode cX0_bookedOutOf 56 = .ok (.iadd, 1) := by decide +kernel
theorem dX0_bookedOutOf_57 : decode cX0_bookedOutOf 57 = .ok (.istore_n 2, 1) := by decide +kernel
theorem dX0_bookedOutOf_58 : decode cX0_bookedOutOf 58 = .ok (.iinc 3 1, 3) := by decide +kernel
theorem dX0_bookedOutOf_61 : decode cX0_bookedOutOf 61 = .ok (.goto (-57), 3) := by decide +kernel
theorem dX0_bookedOutOf_64 : decode cX0_bookedOutOf 64 = .ok (.iload_n 2, 1) := by decide +kernel
theorem dX0_bookedOutOf_65 : decode cX0_bookedOutOf 65 = .ok (.ireturn, 1) := by decide +kernel
theorem dX0_balanceOf_0 : decode cX0_balanceOf 0 = .ok (.iconst 0, 1) := by decide +kernel
theorem dX0_balanceOf_1 : decode cX0_balanceOf 1 = .ok (.istore_n 2, 1) := by decide +kernel
theorem dX0_balanceOf_2 : decode cX0_balanceOf 2 = .ok (.iconst 0, 1) := by decide +kernel
theorem dX0_balanceOf_3 : decode cX0_balanceOf 3 = .ok (.istore_n 3, 1) := by decide +kernel
theorem dX0_balanceOf_4 : decode cX0_balanceOf 4 = .ok (.iload_n 3, 1) := by decide +kernel
theorem dX0_balanceOf_5 : decode cX0_balanceOf 5 = .ok (.aload_n 0, 1) := by decide +kernel
theorem dX0_balanceOf_6 : decode cX0_balanceOf 6 = .ok (.getfield 61, 3) := by decide +kernel
theorem dX0_balanceOf_9 : decode cX0_balanceOf 9 = .ok (.if_icmp .ge 64, 3) := by decide +kernel
theorem dX0_balanceOf_12 : decode cX0_balanceOf 12 = .ok (.aload_n 0, 1) := by decide +kernel
theorem dX0_balanceOf_13 : decode cX0_balanceOf 13 = .ok (.getfield 39, 3) := by decide +kernel
theorem dX0_balanceOf_16 : decode cX0_balanceOf 16 = .ok (.iconst 3, 1) := by decide +kernel
theorem dX0_balanceOf_17 : decode cX0_balanceOf 17 = .ok (.iload_n 3, 1) := by decide +kernel
theorem dX0_balanceOf_18 : decode cX0_balanceOf 18 = .ok (.imul, 1) := by decide +kernel
theorem dX0_balanceOf_19 : decode cX0_balanceOf 19 = .ok (.iaload, 1) := by decide +kernel
theorem dX0_balanceOf_20 : decode cX0_balanceOf 20 = .ok (.iload_n 1, 1) := by decide +kernel
theorem dX0_balanceOf_21 : decode cX0_balanceOf 21 = .ok (.if_icmp .ne 19, 3) := by decide +kernel
theorem dX0_balanceOf_24 : decode cX0_balanceOf 24 = .ok (.iload_n 2, 1) := by decide +kernel
theorem dX0_balanceOf_25 : decode cX0_balanceOf 25 = .ok (.aload_n 0, 1) := by decide +kernel
theorem dX0_balanceOf_26 : decode cX0_balanceOf 26 = .ok (.getfield 39, 3) := by decide +kernel
theorem dX0_balanceOf_29 : decode cX0_balanceOf 29 = .ok (.iconst 3, 1) := by decide +kernel
theorem dX0_balanceOf_30 : decode cX0_balanceOf 30 = .ok (.iload_n 3, 1) := by decide +kernel
theorem dX0_balanceOf_31 : decode cX0_balanceOf 31 = .ok (.imul, 1) := by decide +kernel
theorem dX0_balanceOf_32 : decode cX0_balanceOf 32 = .ok (.iconst 2, 1) := by decide +kernel
theorem dX0_balanceOf_33 : decode cX0_balanceOf 33 = .ok (.iadd, 1) := by decide +kernel
theorem dX0_balanceOf_34 : decode cX0_balanceOf 34 = .ok (.iaload, 1) := by decide +kernel
theorem dX0_balanceOf_35 : decode cX0_balanceOf 35 = .ok (.iadd, 1) := by decide +kernel
theorem dX0_balanceOf_36 : decode cX0_balanceOf 36 = .ok (.istore_n 2, 1) := by decide +kernel
theorem dX0_balanceOf_37 : decode cX0_balanceOf 37 = .ok (.goto 30, 3) := by decide +kernel
theorem dX0_balanceOf_40 : decode cX0_balanceOf 40 = .ok (.aload_n 0, 1) := by decide +kernel
theorem dX0_balanceOf_41 : decode cX0_balanceOf 41 = .ok (.getfield 39, 3) := by decide +kernel
theorem dX0_balanceOf_44 : decode cX0_balanceOf 44 = .ok (.iconst 3, 1) := by decide +kernel
theorem dX0_balanceOf_45 : decode cX0_balanceOf 45 = .ok (.iload_n 3, 1) := by decide +kernel
theorem dX0_balanceOf_46 : decode cX0_balanceOf 46 = .ok (.imul, 1) := by decide +kernel
theorem dX0_balanceOf_47 : decode cX0_balanceOf 47 = .ok (.iconst 1, 1) := by decide +kernel
theorem dX0_balanceOf_48 : decode cX0_balanceOf 48 = .ok (.iadd, 1) := by decide +kernel
theorem dX0_balanceOf_49 : decode cX0_balanceOf 49 = .ok (.iaload, 1) := by decide +kernel
theorem dX0_balanceOf_50 : decode cX0_balanceOf 50 = .ok (.iload_n 1, 1) := by decide +kernel
theorem dX0_balanceOf_51 : decode cX0_balanceOf 51 = .ok (.if_icmp .ne 16, 3) := by decide +kernel
theorem dX0_balanceOf_54 : decode cX0_balanceOf 54 = .ok (.iload_n 2, 1) := by decide +kernel
theorem dX0_balanceOf_55 : decode cX0_balanceOf 55 = .ok (.aload_n 0, 1) := by decide +kernel
theorem dX0_balanceOf_56 : decode cX0_balanceOf 56 = .ok (.getfield 39, 3) := by decide +kernel
theorem dX0_balanceOf_59 : decode cX0_balanceOf 59 = .ok (.iconst 3, 1) := by decide +kernel
theorem dX0_balanceOf_60 : decode cX0_balanceOf 60 = .ok (.iload_n 3, 1) := by decide +kernel
theorem dX0_balanceOf_61 : decode cX0_balanceOf 61 = .ok (.imul, 1) := by decide +kernel
theorem dX0_balanceOf_62 : decode cX0_balanceOf 62 = .ok (.iconst 2, 1) := by decide +kernel
theorem dX0_balanceOf_63 : decode cX0_balanceOf 63 = .ok (.iadd, 1) := by decide +kernel
theorem dX0_balanceOf_64 : decode cX0_balanceOf 64 = .ok (.iaload, 1) := by decide +kernel
theorem dX0_balanceOf_65 : decode cX0_balanceOf 65 = .ok (.isub, 1) := by decide +kernel
theorem dX0_balanceOf_66 : decode cX0_balanceOf 66 = .ok (.istore_n 2, 1) := by decide +kernel
theorem dX0_balanceOf_67 : decode cX0_balanceOf 67 = .ok (.iinc 3 1, 3) := by decide +kernel
theorem dX0_balanceOf_70 : decode cX0_balanceOf 70 = .ok (.goto (-66), 3) := by decide +kernel
theorem dX0_balanceOf_73 : decode cX0_balanceOf 73 = .ok (.iload_n 2, 1) := by decide +kernel
theorem dX0_balanceOf_74 : decode cX0_balanceOf 74 = .ok (.ireturn, 1) := by decide +kernel
theorem dX1_init_0 : decode cX1_init 0 = .ok (.aload_n 0, 1) := by decide +kernel
theorem dX1_init_1 : decode cX1_init 1 = .ok (.invokespecial 3, 3) := by decide +kernel
theorem dX1_init_4 : decode cX1_init 4 = .ok (.aload_n 0, 1) := by decide +kernel
theorem dX1_init_5 : decode cX1_init 5 = .ok (.bipush 80, 2) := by decide +kernel
theorem dX1_init_7 : decode cX1_init 7 = .ok (.newarray .int, 2) := by decide +kernel
theorem dX1_init_9 : decode cX1_init 9 = .ok (.putfield 11, 3) := by decide +kernel
theorem dX1_init_12 : decode cX1_init 12 = .ok (.return_, 1) := by decide +kernel
theorem dX1_clear_0 : decode cX1_clear 0 = .ok (.aload_n 0, 1) := by decide +kernel
theorem dX1_clear_1 : decode cX1_clear 1 = .ok (.iconst 0, 1) := by decide +kernel
theorem dX1_clear_2 : decode cX1_clear 2 = .ok (.putfield 15, 3) := by decide +kernel
theorem dX1_clear_5 : decode cX1_clear 5 = .ok (.return_, 1) := by decide +kernel
theorem dX1_copyFrom_0 : decode cX1_copyFrom 0 = .ok (.aload_n 1, 1) := by decide +kernel
theorem dX1_copyFrom_1 : decode cX1_copyFrom 1 = .ok (.getfield 11, 3) := by decide +kernel
theorem dX1_copyFrom_4 : decode cX1_copyFrom 4 = .ok (.iconst 0, 1) := by decide +kernel
theorem dX1_copyFrom_5 : decode cX1_copyFrom 5 = .ok (.aload_n 0, 1) := by decide +kernel
theorem dX1_copyFrom_6 : decode cX1_copyFrom 6 = .ok (.getfield 11, 3) := by decide +kernel
theorem dX1_copyFrom_9 : decode cX1_copyFrom 9 = .ok (.iconst 0, 1) := by decide +kernel
theorem dX1_copyFrom_10 : decode cX1_copyFrom 10 = .ok (.bipush 80, 2) := by decide +kernel
theorem dX1_copyFrom_12 : decode cX1_copyFrom 12 = .ok (.invokestatic 19, 3) := by decide +kernel
theorem dX1_copyFrom_15 : decode cX1_copyFrom 15 = .ok (.aload_n 0, 1) := by decide +kernel
theorem dX1_copyFrom_16 : decode cX1_copyFrom 16 = .ok (.aload_n 1, 1) := by decide +kernel
theorem dX1_copyFrom_17 : decode cX1_copyFrom 17 = .ok (.getfield 15, 3) := by decide +kernel
theorem dX1_copyFrom_20 : decode cX1_copyFrom 20 = .ok (.putfield 15, 3) := by decide +kernel
theorem dX1_copyFrom_23 : decode cX1_copyFrom 23 = .ok (.return_, 1) := by decide +kernel
theorem dX1_keep_0 : decode cX1_keep 0 = .ok (.aload_n 0, 1) := by decide +kernel
theorem dX1_keep_1 : decode cX1_keep 1 = .ok (.getfield 15, 3) := by decide +kernel
theorem dX1_keep_4 : decode cX1_keep 4 = .ok (.bipush 16, 2) := by decide +kernel
theorem dX1_keep_6 : decode cX1_keep 6 = .ok (.if_icmp .ne 28, 3) := by decide +kernel
theorem dX1_keep_9 : decode cX1_keep 9 = .ok (.aload_n 0, 1) := by decide +kernel
theorem dX1_keep_10 : decode cX1_keep 10 = .ok (.getfield 11, 3) := by decide +kernel
theorem dX1_keep_13 : decode cX1_keep 13 = .ok (.iconst 5, 1) := by decide +kernel
theorem dX1_keep_14 : decode cX1_keep 14 = .ok (.aload_n 0, 1) := by decide +kernel
theorem dX1_keep_15 : decode cX1_keep 15 = .ok (.getfield 11, 3) := by decide +kernel
theorem dX1_keep_18 : decode cX1_keep 18 = .ok (.iconst 0, 1) := by decide +kernel
theorem dX1_keep_19 : decode cX1_keep 19 = .ok (.bipush 75, 2) := by decide +kernel
theorem dX1_keep_21 : decode cX1_keep 21 = .ok (.invokestatic 19, 3) := by decide +kernel
theorem dX1_keep_24 : decode cX1_keep 24 = .ok (.aload_n 0, 1) := by decide +kernel
theorem dX1_keep_25 : decode cX1_keep 25 = .ok (.dup, 1) := by decide +kernel
theorem dX1_keep_26 : decode cX1_keep 26 = .ok (.getfield 15, 3) := by decide +kernel
theorem dX1_keep_29 : decode cX1_keep 29 = .ok (.iconst 1, 1) := by decide +kernel
theorem dX1_keep_30 : decode cX1_keep 30 = .ok (.isub, 1) := by decide +kernel
theorem dX1_keep_31 : decode cX1_keep 31 = .ok (.putfield 15, 3) := by decide +kernel
theorem dX1_keep_34 : decode cX1_keep 34 = .ok (.iconst 5, 1) := by decide +kernel
theorem dX1_keep_35 : decode cX1_keep 35 = .ok (.aload_n 0, 1) := by decide +kernel
theorem dX1_keep_36 : decode cX1_keep 36 = .ok (.getfield 15, 3) := by decide +kernel
theorem dX1_keep_39 : decode cX1_keep 39 = .ok (.imul, 1) := by decide +kernel
theorem dX1_keep_40 : decode cX1_keep 40 = .ok (.istore 6, 2) := by decide +kernel
theorem dX1_keep_42 : decode cX1_keep 42 = .ok (.aload_n 0, 1) := by decide +kernel
theorem dX1_keep_43 : decode cX1_keep 43 = .ok (.getfield 11, 3) := by decide +kernel
theorem dX1_keep_46 : decode cX1_keep 46 = .ok (.iload 6, 2) := by decide +kernel
theorem dX1_keep_48 : decode cX1_keep 48 = .ok (.iload_n 1, 1) := by decide +kernel
theorem dX1_keep_49 : decode cX1_keep 49 = .ok (.iastore, 1) := by decide +kernel
theorem dX1_keep_50 : decode cX1_keep 50 = .ok (.aload_n 0, 1) := by decide +kernel
theorem dX1_keep_51 : decode cX1_keep 51 = .ok (.getfield 11, 3) := by decide +kernel
theorem dX1_keep_54 : decode cX1_keep 54 = .ok (.iload 6, 2) := by decide +kernel
theorem dX1_keep_56 : decode cX1_keep 56 = .ok (.iconst 1, 1) := by decide +kernel
theorem dX1_keep_57 : decode cX1_keep 57 = .ok (.iadd, 1) := by decide +kernel
theorem dX1_keep_58 : decode cX1_keep 58 = .ok (.iload_n 2, 1) := by decide +kernel
theorem dX1_keep_59 : decode cX1_keep 59 = .ok (.iastore, 1) := by decide +kernel
theorem dX1_keep_60 : decode cX1_keep 60 = .ok (.aload_n 0, 1) := by decide +kernel
theorem dX1_keep_61 : decode cX1_keep 61 = .ok (.getfield 11, 3) := by decide +kernel
theorem dX1_keep_64 : decode cX1_keep 64 = .ok (.iload 6, 2) := by decide +kernel
theorem dX1_keep_66 : decode cX1_keep 66 = .ok (.iconst 2, 1) := by decide +kernel
theorem dX1_keep_67 : decode cX1_keep 67 = .ok (.iadd, 1) := by decide +kernel
theorem dX1_keep_68 : decode cX1_keep 68 = .ok (.iload_n 3, 1) := by decide +kernel
theorem dX1_keep_69 : decode cX1_keep 69 = .ok (.iastore, 1) := by decide +kernel
theorem dX1_keep_70 : decode cX1_keep 70 = .ok (.aload_n 0, 1) := by decide +kernel
theorem dX1_keep_71 : decode cX1_keep 71 = .ok (.getfield 11, 3) := by decide +kernel
theorem dX1_keep_74 : decode cX1_keep 74 = .ok (.iload 6, 2) := by decide +kernel
theorem dX1_keep_76 : decode cX1_keep 76 = .ok (.iconst 3, 1) := by decide +kernel
theorem dX1_keep_77 : decode cX1_keep 77 = .ok (.iadd, 1) := by decide +kernel
theorem dX1_keep_78 : decode cX1_keep 78 = .ok (.iload 4, 2) := by decide +kernel
theorem dX1_keep_80 : decode cX1_keep 80 = .ok (.iastore, 1) := by decide +kernel
theorem dX1_keep_81 : decode cX1_keep 81 = .ok (.aload_n 0, 1) := by decide +kernel
theorem dX1_keep_82 : decode cX1_keep 82 = .ok (.getfield 11, 3) := by decide +kernel
theorem dX1_keep_85 : decode cX1_keep 85 = .ok (.iload 6, 2) := by decide +kernel
theorem dX1_keep_87 : decode cX1_keep 87 = .ok (.iconst 4, 1) := by decide +kernel
theorem dX1_keep_88 : decode cX1_keep 88 = .ok (.iadd, 1) := by decide +kernel
theorem dX1_keep_89 : decode cX1_keep 89 = .ok (.iload 5, 2) := by decide +kernel
theorem dX1_keep_91 : decode cX1_keep 91 = .ok (.iastore, 1) := by decide +kernel
theorem dX1_keep_92 : decode cX1_keep 92 = .ok (.aload_n 0, 1) := by decide +kernel
theorem dX1_keep_93 : decode cX1_keep 93 = .ok (.dup, 1) := by decide +kernel
theorem dX1_keep_94 : decode cX1_keep 94 = .ok (.getfield 15, 3) := by decide +kernel
theorem dX1_keep_97 : decode cX1_keep 97 = .ok (.iconst 1, 1) := by decide +kernel
theorem dX1_keep_98 : decode cX1_keep 98 = .ok (.iadd, 1) := by decide +kernel
theorem dX1_keep_99 : decode cX1_keep 99 = .ok (.putfield 15, 3) := by decide +kernel
theorem dX1_keep_102 : decode cX1_keep 102 = .ok (.return_, 1) := by decide +kernel
theorem dX1_takeBack_0 : decode cX1_takeBack 0 = .ok (.aload_n 0, 1) := by decide +kernel
theorem dX1_takeBack_1 : decode cX1_takeBack 1 = .ok (.getfield 15, 3) := by decide +kernel
theorem dX1_takeBack_4 : decode cX1_takeBack 4 = .ok (.ifCond .ne 6, 3) := by decide +kernel
theorem dX1_takeBack_7 : decode cX1_takeBack 7 = .ok (.bipush (-3), 2) := by decide +kernel
theorem dX1_takeBack_9 : decode cX1_takeBack 9 = .ok (.ireturn, 1) := by decide +kernel
theorem dX1_takeBack_10 : decode cX1_takeBack 10 = .ok (.aload_n 0, 1) := by decide +kernel
theorem dX1_takeBack_11 : decode cX1_takeBack 11 = .ok (.dup, 1) := by decide +kernel
theorem dX1_takeBack_12 : decode cX1_takeBack 12 = .ok (.getfield 15, 3) := by decide +kernel
theorem dX1_takeBack_15 : decode cX1_takeBack 15 = .ok (.iconst 1, 1) := by decide +kernel
theorem dX1_takeBack_16 : decode cX1_takeBack 16 = .ok (.isub, 1) := by decide +kernel
theorem dX1_takeBack_17 : decode cX1_takeBack 17 = .ok (.putfield 15, 3) := by decide +kernel
theorem dX1_takeBack_20 : decode cX1_takeBack 20 = .ok (.iconst 5, 1) := by decide +kernel
theorem dX1_takeBack_21 : decode cX1_takeBack 21 = .ok (.aload_n 0, 1) := by decide +kernel
theorem dX1_takeBack_22 : decode cX1_takeBack 22 = .ok (.getfield 15, 3) := by decide +kernel
theorem dX1_takeBack_25 : decode cX1_takeBack 25 = .ok (.imul, 1) := by decide +kernel
theorem dX1_takeBack_26 : decode cX1_takeBack 26 = .ok (.istore_n 2, 1) := by decide +kernel
theorem dX1_takeBack_27 : decode cX1_takeBack 27 = .ok (.aload_n 0, 1) := by decide +kernel
theorem dX1_takeBack_28 : decode cX1_takeBack 28 = .ok (.getfield 11, 3) := by decide +kernel
theorem dX1_takeBack_31 : decode cX1_takeBack 31 = .ok (.iload_n 2, 1) := by decide +kernel
theorem dX1_takeBack_32 : decode cX1_takeBack 32 = .ok (.iconst 1, 1) := by decide +kernel
theorem dX1_takeBack_33 : decode cX1_takeBack 33 = .ok (.iadd, 1) := by decide +kernel
theorem dX1_takeBack_34 : decode cX1_takeBack 34 = .ok (.iaload, 1) := by decide +kernel
theorem dX1_takeBack_35 : decode cX1_takeBack 35 = .ok (.istore_n 3, 1) := by decide +kernel
theorem dX1_takeBack_36 : decode cX1_takeBack 36 = .ok (.aload_n 0, 1) := by decide +kernel
theorem dX1_takeBack_37 : decode cX1_takeBack 37 = .ok (.getfield 11, 3) := by decide +kernel
theorem dX1_takeBack_40 : decode cX1_takeBack 40 = .ok (.iload_n 2, 1) := by decide +kernel
theorem dX1_takeBack_41 : decode cX1_takeBack 41 = .ok (.iconst 2, 1) := by decide +kernel
theorem dX1_takeBack_42 : decode cX1_takeBack 42 = .ok (.iadd, 1) := by decide +kernel
theorem dX1_takeBack_43 : decode cX1_takeBack 43 = .ok (.iaload, 1) := by decide +kernel
theorem dX1_takeBack_44 : decode cX1_takeBack 44 = .ok (.istore 4, 2) := by decide +kernel
theorem dX1_takeBack_46 : decode cX1_takeBack 46 = .ok (.aload_n 0, 1) := by decide +kernel
theorem dX1_takeBack_47 : decode cX1_takeBack 47 = .ok (.getfield 11, 3) := by decide +kernel
theorem dX1_takeBack_50 : decode cX1_takeBack 50 = .ok (.iload_n 2, 1) := by decide +kernel
theorem dX1_takeBack_51 : decode cX1_takeBack 51 = .ok (.iconst 3, 1) := by decide +kernel
theorem dX1_takeBack_52 : decode cX1_takeBack 52 = .ok (.iadd, 1) := by decide +kernel
theorem dX1_takeBack_53 : decode cX1_takeBack 53 = .ok (.iaload, 1) := by decide +kernel
theorem dX1_takeBack_54 : decode cX1_takeBack 54 = .ok (.istore 5, 2) := by decide +kernel
theorem dX1_takeBack_56 : decode cX1_takeBack 56 = .ok (.aload_n 0, 1) := by decide +kernel
theorem dX1_takeBack_57 : decode cX1_takeBack 57 = .ok (.getfield 11, 3) := by decide +kernel
theorem dX1_takeBack_60 : decode cX1_takeBack 60 = .ok (.iload_n 2, 1) := by decide +kernel
theorem dX1_takeBack_61 : decode cX1_takeBack 61 = .ok (.iaload, 1) := by decide +kernel
theorem dX1_takeBack_62 : decode cX1_takeBack 62 = .ok (.tableswitch 98 0 2 #[26, 55, 81], 26) := by decide +kernel
theorem dX1_takeBack_88 : decode cX1_takeBack 88 = .ok (.aload_n 1, 1) := by decide +kernel
theorem dX1_takeBack_89 : decode cX1_takeBack 89 = .ok (.getfield 25, 3) := by decide +kernel
theorem dX1_takeBack_92 : decode cX1_takeBack 92 = .ok (.iload_n 3, 1) := by decide +kernel
theorem dX1_takeBack_93 : decode cX1_takeBack 93 = .ok (.dup2, 1) := by decide +kernel
theorem dX1_takeBack_94 : decode cX1_takeBack 94 = .ok (.iaload, 1) := by decide +kernel
theorem dX1_takeBack_95 : decode cX1_takeBack 95 = .ok (.iload 5, 2) := by decide +kernel
theorem dX1_takeBack_97 : decode cX1_takeBack 97 = .ok (.iadd, 1) := by decide +kernel
theorem dX1_takeBack_98 : decode cX1_takeBack 98 = .ok (.iastore, 1) := by decide +kernel
theorem dX1_takeBack_99 : decode cX1_takeBack 99 = .ok (.aload_n 1, 1) := by decide +kernel
theorem dX1_takeBack_100 : decode cX1_takeBack 100 = .ok (.getfield 30, 3) := by decide +kernel
theorem dX1_takeBack_103 : decode cX1_takeBack 103 = .ok (.iload 4, 2) := by decide +kernel
theorem dX1_takeBack_105 : decode cX1_takeBack 105 = .ok (.aload_n 0, 1) := by decide +kernel
theorem dX1_takeBack_106 : decode cX1_takeBack 106 = .ok (.getfield 11, 3) := by decide +kernel
theorem dX1_takeBack_109 : decode cX1_takeBack 109 = .ok (.iload_n 2, 1) := by decide +kernel
theorem dX1_takeBack_110 : decode cX1_takeBack 110 = .ok (.iconst 4, 1) := by decide +kernel
theorem dX1_takeBack_111 : decode cX1_takeBack 111 = .ok (.iadd, 1) := by decide +kernel
theorem dX1_takeBack_112 : decode cX1_takeBack 112 = .ok (.iaload, 1) := by decide +kernel
theorem dX1_takeBack_113 : decode cX1_takeBack 113 = .ok (.iastore, 1) := by decide +kernel
theorem dX1_takeBack_114 : decode cX1_takeBack 114 = .ok (.goto 56, 3) := by decide +kernel
theorem dX1_takeBack_117 : decode cX1_takeBack 117 = .ok (.aload_n 1, 1) := by decide +kernel
theorem dX1_takeBack_118 : decode cX1_takeBack 118 = .ok (.getfield 25, 3) := by decide +kernel
theorem dX1_takeBack_121 : decode cX1_takeBack 121 = .ok (.iload_n 3, 1) := by decide +kernel
theorem dX1_takeBack_122 : decode cX1_takeBack 122 = .ok (.dup2, 1) := by decide +kernel
theorem dX1_takeBack_123 : decode cX1_takeBack 123 = .ok (.iaload, 1) := by decide +kernel
theorem dX1_takeBack_124 : decode cX1_takeBack 124 = .ok (.iload 5, 2) := by decide +kernel
theorem dX1_takeBack_126 : decode cX1_takeBack 126 = .ok (.iadd, 1) := by decide +kernel
theorem dX1_takeBack_127 : decode cX1_takeBack 127 = .ok (.iastore, 1) := by decide +kernel
theorem dX1_takeBack_128 : decode cX1_takeBack 128 = .ok (.aload_n 1, 1) := by decide +kernel
theorem dX1_takeBack_129 : decode cX1_takeBack 129 = .ok (.getfield 25, 3) := by decide +kernel
theorem dX1_takeBack_132 : decode cX1_takeBack 132 = .ok (.iload 4, 2) := by decide +kernel
theorem dX1_takeBack_134 : decode cX1_takeBack 134 = .ok (.dup2, 1) := by decide +kernel
theorem dX1_takeBack_135 : decode cX1_takeBack 135 = .ok (.iaload, 1) := by decide +kernel
theorem dX1_takeBack_136 : decode cX1_takeBack 136 = .ok (.iload 5, 2) := by decide +kernel
theorem dX1_takeBack_138 : decode cX1_takeBack 138 = .ok (.isub, 1) := by decide +kernel
theorem dX1_takeBack_139 : decode cX1_takeBack 139 = .ok (.iastore, 1) := by decide +kernel
theorem dX1_takeBack_140 : decode cX1_takeBack 140 = .ok (.goto 30, 3) := by decide +kernel
theorem dX1_takeBack_143 : decode cX1_takeBack 143 = .ok (.aload_n 1, 1) := by decide +kernel
theorem dX1_takeBack_144 : decode cX1_takeBack 144 = .ok (.getfield 33, 3) := by decide +kernel
theorem dX1_takeBack_147 : decode cX1_takeBack 147 = .ok (.iload_n 3, 1) := by decide +kernel
theorem dX1_takeBack_148 : decode cX1_takeBack 148 = .ok (.iconst 1, 1) := by decide +kernel
theorem dX1_takeBack_149 : decode cX1_takeBack 149 = .ok (.aload_n 1, 1) := by decide +kernel
theorem dX1_takeBack_150 : decode cX1_takeBack 150 = .ok (.getfield 33, 3) := by decide +kernel
theorem dX1_takeBack_153 : decode cX1_takeBack 153 = .ok (.iload_n 3, 1) := by decide +kernel
theorem dX1_takeBack_154 : decode cX1_takeBack 154 = .ok (.iaload, 1) := by decide +kernel
theorem dX1_takeBack_155 : decode cX1_takeBack 155 = .ok (.isub, 1) := by decide +kernel
theorem dX1_takeBack_156 : decode cX1_takeBack 156 = .ok (.iastore, 1) := by decide +kernel
theorem dX1_takeBack_157 : decode cX1_takeBack 157 = .ok (.goto 13, 3) := by decide +kernel
theorem dX1_takeBack_160 : decode cX1_takeBack 160 = .ok (.aload_n 1, 1) := by decide +kernel
theorem dX1_takeBack_161 : decode cX1_takeBack 161 = .ok (.getfield 36, 3) := by decide +kernel
theorem dX1_takeBack_164 : decode cX1_takeBack 164 = .ok (.iconst 0, 1) := by decide +kernel
theorem dX1_takeBack_165 : decode cX1_takeBack 165 = .ok (.dup2, 1) := by decide +kernel
theorem dX1_takeBack_166 : decode cX1_takeBack 166 = .ok (.iaload, 1) := by decide +kernel
theorem dX1_takeBack_167 : decode cX1_takeBack 167 = .ok (.iconst 1, 1) := by decide +kernel
theorem dX1_takeBack_168 : decode cX1_takeBack 168 = .ok (.isub, 1) := by decide +kernel
theorem dX1_takeBack_169 : decode cX1_takeBack 169 = .ok (.iastore, 1) := by decide +kernel
theorem dX1_takeBack_170 : decode cX1_takeBack 170 = .ok (.aload_n 0, 1) := by decide +kernel
theorem dX1_takeBack_171 : decode cX1_takeBack 171 = .ok (.getfield 11, 3) := by decide +kernel
theorem dX1_takeBack_174 : decode cX1_takeBack 174 = .ok (.iload_n 2, 1) := by decide +kernel
theorem dX1_takeBack_175 : decode cX1_takeBack 175 = .ok (.iaload, 1) := by decide +kernel
theorem dX1_takeBack_176 : decode cX1_takeBack 176 = .ok (.ireturn, 1) := by decide +kernel
theorem dX2_init_0 : decode cX2_init 0 = .ok (.aload_n 0, 1) := by decide +kernel
theorem dX2_init_1 : decode cX2_init 1 = .ok (.invokespecial 3, 3) := by decide +kernel
theorem dX2_init_4 : decode cX2_init 4 = .ok (.aload_n 0, 1) := by decide +kernel
theorem dX2_init_5 : decode cX2_init 5 = .ok (.bipush 10, 2) := by decide +kernel
theorem dX2_init_7 : decode cX2_init 7 = .ok (.newarray .int, 2) := by decide +kernel
theorem dX2_init_9 : decode cX2_init 9 = .ok (.putfield 11, 3) := by decide +kernel
theorem dX2_init_12 : decode cX2_init 12 = .ok (.aload_n 0, 1) := by decide +kernel
theorem dX2_init_13 : decode cX2_init 13 = .ok (.sipush 1024, 3) := by decide +kernel
theorem dX2_init_16 : decode cX2_init 16 = .ok (.newarray .int, 2) := by decide +kernel
theorem dX2_init_18 : decode cX2_init 18 = .ok (.putfield 15, 3) := by decide +kernel
theorem dX2_init_21 : decode cX2_init 21 = .ok (.aload_n 0, 1) := by decide +kernel
theorem dX2_init_22 : decode cX2_init 22 = .ok (.sipush 1024, 3) := by decide +kernel
theorem dX2_init_25 : decode cX2_init 25 = .ok (.newarray .int, 2) := by decide +kernel
theorem dX2_init_27 : decode cX2_init 27 = .ok (.putfield 18, 3) := by decide +kernel
theorem dX2_init_30 : decode cX2_init 30 = .ok (.return_, 1) := by decide +kernel
theorem dX2_put_0 : decode cX2_put 0 = .ok (.aload_n 0, 1) := by decide +kernel
theorem dX2_put_1 : decode cX2_put 1 = .ok (.getfield 11, 3) := by decide +kernel
theorem dX2_put_4 : decode cX2_put 4 = .ok (.iload_n 1, 1) := by decide +kernel
theorem dX2_put_5 : decode cX2_put 5 = .ok (.iload_n 2, 1) := by decide +kernel
theorem dX2_put_6 : decode cX2_put 6 = .ok (.iastore, 1) := by decide +kernel
theorem dX2_put_7 : decode cX2_put 7 = .ok (.return_, 1) := by decide +kernel
theorem dX2_mostEven_0 : decode cX2_mostEven 0 = .ok (.iconst 0, 1) := by decide +kernel
theorem dX2_mostEven_1 : decode cX2_mostEven 1 = .ok (.istore 4, 2) := by decide +kernel
theorem dX2_mostEven_3 : decode cX2_mostEven 3 = .ok (.iload 4, 2) := by decide +kernel
theorem dX2_mostEven_5 : decode cX2_mostEven 5 = .ok (.iload_n 1, 1) := by decide +kernel
theorem dX2_mostEven_6 : decode cX2_mostEven 6 = .ok (.if_icmp .ge 54, 3) := by decide +kernel
theorem dX2_mostEven_9 : decode cX2_mostEven 9 = .ok (.iconst 0, 1) := by decide +kernel
theorem dX2_mostEven_10 : decode cX2_mostEven 10 = .ok (.istore 5, 2) := by decide +kernel
theorem dX2_mostEven_12 : decode cX2_mostEven 12 = .ok (.iload 5, 2) := by decide +kernel
theorem dX2_mostEven_14 : decode cX2_mostEven 14 = .ok (.iconst 1, 1) := by decide +kernel
theorem dX2_mostEven_15 : decode cX2_mostEven 15 = .ok (.iload 4, 2) := by decide +kernel
theorem dX2_mostEven_17 : decode cX2_mostEven 17 = .ok (.ishl, 1) := by decide +kernel
theorem dX2_mostEven_18 : decode cX2_mostEven 18 = .ok (.if_icmp .ge 36, 3) := by decide +kernel
theorem dX2_mostEven_21 : decode cX2_mostEven 21 = .ok (.aload_n 0, 1) := by decide +kernel
theorem dX2_mostEven_22 : decode cX2_mostEven 22 = .ok (.getfield 15, 3) := by decide +kernel
theorem dX2_mostEven_25 : decode cX2_mostEven 25 = .ok (.iload 5, 2) := by decide +kernel
theorem dX2_mostEven_27 : decode cX2_mostEven 27 = .ok (.iconst 1, 1) := by decide +kernel
theorem dX2_mostEven_28 : decode cX2_mostEven 28 = .ok (.iload 4, 2) := by decide +kernel
theorem dX2_mostEven_30 : decode cX2_mostEven 30 = .ok (.ishl, 1) := by decide +kernel
theorem dX2_mostEven_31 : decode cX2_mostEven 31 = .ok (.ior, 1) := by decide +kernel
theorem dX2_mostEven_32 : decode cX2_mostEven 32 = .ok (.aload_n 0, 1) := by decide +kernel
theorem dX2_mostEven_33 : decode cX2_mostEven 33 = .ok (.getfield 15, 3) := by decide +kernel
theorem dX2_mostEven_36 : decode cX2_mostEven 36 = .ok (.iload 5, 2) := by decide +kernel
theorem dX2_mostEven_38 : decode cX2_mostEven 38 = .ok (.iaload, 1) := by decide +kernel
theorem dX2_mostEven_39 : decode cX2_mostEven 39 = .ok (.aload_n 0, 1) := by decide +kernel
theorem dX2_mostEven_40 : decode cX2_mostEven 40 = .ok (.getfield 11, 3) := by decide +kernel
theorem dX2_mostEven_43 : decode cX2_mostEven 43 = .ok (.iload 4, 2) := by decide +kernel
theorem dX2_mostEven_45 : decode cX2_mostEven 45 = .ok (.iaload, 1) := by decide +kernel
theorem dX2_mostEven_46 : decode cX2_mostEven 46 = .ok (.iadd, 1) := by decide +kernel
theorem dX2_mostEven_47 : decode cX2_mostEven 47 = .ok (.iastore, 1) := by decide +kernel
theorem dX2_mostEven_48 : decode cX2_mostEven 48 = .ok (.iinc 5 1, 3) := by decide +kernel
theorem dX2_mostEven_51 : decode cX2_mostEven 51 = .ok (.goto (-39), 3) := by decide +kernel
theorem dX2_mostEven_54 : decode cX2_mostEven 54 = .ok (.iinc 4 1, 3) := by decide +kernel
theorem dX2_mostEven_57 : decode cX2_mostEven 57 = .ok (.goto (-54), 3) := by decide +kernel
theorem dX2_mostEven_60 : decode cX2_mostEven 60 = .ok (.iconst 1, 1) := by decide +kernel
theorem dX2_mostEven_61 : decode cX2_mostEven 61 = .ok (.iload_n 1, 1) := by decide +kernel
theorem dX2_mostEven_62 : decode cX2_mostEven 62 = .ok (.ishl, 1) := by decide +kernel
theorem dX2_mostEven_63 : decode cX2_mostEven 63 = .ok (.iconst 1, 1) := by decide +kernel
theorem dX2_mostEven_64 : decode cX2_mostEven 64 = .ok (.isub, 1) := by decide +kernel
theorem dX2_mostEven_65 : decode cX2_mostEven 65 = .ok (.istore 4, 2) := by decide +kernel
theorem dX2_mostEven_67 : decode cX2_mostEven 67 = .ok (.aload_n 0, 1) := by decide +kernel
theorem dX2_mostEven_68 : decode cX2_mostEven 68 = .ok (.getfield 15, 3) := by decide +kernel
theorem dX2_mostEven_71 : decode cX2_mostEven 71 = .ok (.iload 4, 2) := by decide +kernel
theorem dX2_mostEven_73 : decode cX2_mostEven 73 = .ok (.iaload, 1) := by decide +kernel
theorem dX2_mostEven_74 : decode cX2_mostEven 74 = .ok (.ifCond .eq 5, 3) := by decide +kernel
theorem dX2_mostEven_77 : decode cX2_mostEven 77 = .ok (.iconst (-1), 1) := by decide +kernel
theorem dX2_mostEven_78 : decode cX2_mostEven 78 = .ok (.ireturn, 1) := by decide +kernel
theorem dX2_mostEven_79 : decode cX2_mostEven 79 = .ok (.iconst 1, 1) := by decide +kernel
theorem dX2_mostEven_80 : decode cX2_mostEven 80 = .ok (.istore 5, 2) := by decide +kernel
theorem dX2_mostEven_82 : decode cX2_mostEven 82 = .ok (.iload 5, 2) := by decide +kernel
theorem dX2_mostEven_84 : decode cX2_mostEven 84 = .ok (.iload 4, 2) := by decide +kernel
theorem dX2_mostEven_86 : decode cX2_mostEven 86 = .ok (.if_icmp .gt 34, 3) := by decide +kernel
theorem dX2_mostEven_89 : decode cX2_mostEven 89 = .ok (.aload_n 0, 1) := by decide +kernel
theorem dX2_mostEven_90 : decode cX2_mostEven 90 = .ok (.getfield 15, 3) := by decide +kernel
theorem dX2_mostEven_93 : decode cX2_mostEven 93 = .ok (.iload 5, 2) := by decide +kernel
theorem dX2_mostEven_95 : decode cX2_mostEven 95 = .ok (.iaload, 1) := by decide +kernel
theorem dX2_mostEven_96 : decode cX2_mostEven 96 = .ok (.ifCond .ne 18, 3) := by decide +kernel
theorem dX2_mostEven_99 : decode cX2_mostEven 99 = .ok (.aload_n 0, 1) := by decide +kernel
theorem dX2_mostEven_100 : decode cX2_mostEven 100 = .ok (.getfield 18, 3) := by decide +kernel
theorem dX2_mostEven_103 : decode cX2_mostEven 103 = .ok (.iload 5, 2) := by decide +kernel
theorem dX2_mostEven_105 : decode cX2_mostEven 105 = .ok (.aload_n 0, 1) := by decide +kernel
theorem dX2_mostEven_106 : decode cX2_mostEven 106 = .ok (.iload 5, 2) := by decide +kernel
theorem dX2_mostEven_108 : decode cX2_mostEven 108 = .ok (.iload_n 2, 1) := by decide +kernel
theorem dX2_mostEven_109 : decode cX2_mostEven 109 = .ok (.iload_n 3, 1) := by decide +kernel
theorem dX2_mostEven_110 : decode cX2_mostEven 110 = .ok (.invokevirtual 21, 3) := by decide +kernel
theorem dX2_mostEven_113 : decode cX2_mostEven 113 = .ok (.iastore, 1) := by decide +kernel
theorem dX2_mostEven_114 : decode cX2_mostEven 114 = .ok (.iinc 5 1, 3) := by decide +kernel
theorem dX2_mostEven_117 : decode cX2_mostEven 117 = .ok (.goto (-35), 3) := by decide +kernel
theorem dX2_mostEven_120 : decode cX2_mostEven 120 = .ok (.aload_n 0, 1) := by decide +kernel
theorem dX2_mostEven_121 : decode cX2_mostEven 121 = .ok (.getfield 18, 3) := by decide +kernel
theorem dX2_mostEven_124 : decode cX2_mostEven 124 = .ok (.iload 4, 2) := by decide +kernel
theorem dX2_mostEven_126 : decode cX2_mostEven 126 = .ok (.iaload, 1) := by decide +kernel
theorem dX2_mostEven_127 : decode cX2_mostEven 127 = .ok (.ireturn, 1) := by decide +kernel
theorem dX2_mostIn_0 : decode cX2_mostIn 0 = .ok (.iload_n 1, 1) := by decide +kernel
theorem dX2_mostIn_1 : decode cX2_mostIn 1 = .ok (.iload_n 1, 1) := by decide +kernel
theorem dX2_mostIn_2 : decode cX2_mostIn 2 = .ok (.ineg, 1) := by decide +kernel
theorem dX2_mostIn_3 : decode cX2_mostIn 3 = .ok (.iand, 1) := by decide +kernel
theorem dX2_mostIn_4 : decode cX2_mostIn 4 = .ok (.istore 4, 2) := by decide +kernel
theorem dX2_mostIn_6 : decode cX2_mostIn 6 = .ok (.iload_n 1, 1) := by decide +kernel
theorem dX2_mostIn_7 : decode cX2_mostIn 7 = .ok (.iload 4, 2) := by decide +kernel
theorem dX2_mostIn_9 : decode cX2_mostIn 9 = .ok (.ixor, 1) := by decide +kernel
theorem dX2_mostIn_10 : decode cX2_mostIn 10 = .ok (.istore 5, 2) := by decide +kernel
theorem dX2_mostIn_12 : decode cX2_mostIn 12 = .ok (.iload_n 1, 1) := by decide +kernel
theorem dX2_mostIn_13 : decode cX2_mostIn 13 = .ok (.iload_n 2, 1) := by decide +kernel
theorem dX2_mostIn_14 : decode cX2_mostIn 14 = .ok (.iload_n 3, 1) := by decide +kernel
theorem dX2_mostIn_15 : decode cX2_mostIn 15 = .ok (.invokestatic 25, 3) := by decide +kernel
theorem dX2_mostIn_18 : decode cX2_mostIn 18 = .ok (.istore 6, 2) := by decide +kernel
theorem dX2_mostIn_20 : decode cX2_mostIn 20 = .ok (.iload 5, 2) := by decide +kernel
theorem dX2_mostIn_22 : decode cX2_mostIn 22 = .ok (.istore 7, 2) := by decide +kernel
theorem dX2_mostIn_24 : decode cX2_mostIn 24 = .ok (.iload 7, 2) := by decide +kernel
theorem dX2_mostIn_26 : decode cX2_mostIn 26 = .ok (.ifCond .le 49, 3) := by decide +kernel
theorem dX2_mostIn_29 : decode cX2_mostIn 29 = .ok (.aload_n 0, 1) := by decide +kernel
theorem dX2_mostIn_30 : decode cX2_mostIn 30 = .ok (.getfield 15, 3) := by decide +kernel
theorem dX2_mostIn_33 : decode cX2_mostIn 33 = .ok (.iload 7, 2) := by decide +kernel
theorem dX2_mostIn_35 : decode cX2_mostIn 35 = .ok (.iaload, 1) := by decide +kernel
theorem dX2_mostIn_36 : decode cX2_mostIn 36 = .ok (.ifCond .ne 27, 3) := by decide +kernel
theorem dX2_mostIn_39 : decode cX2_mostIn 39 = .ok (.iload 6, 2) := by decide +kernel
theorem dX2_mostIn_41 : decode cX2_mostIn 41 = .ok (.aload_n 0, 1) := by decide +kernel
theorem dX2_mostIn_42 : decode cX2_mostIn 42 = .ok (.getfield 18, 3) := by decide +kernel
theorem dX2_mostIn_45 : decode cX2_mostIn 45 = .ok (.iload 7, 2) := by decide +kernel
theorem dX2_mostIn_47 : decode cX2_mostIn 47 = .ok (.iaload, 1) := by decide +kernel
theorem dX2_mostIn_48 : decode cX2_mostIn 48 = .ok (.iload_n 1, 1) := by decide +kernel
theorem dX2_mostIn_49 : decode cX2_mostIn 49 = .ok (.iload 7, 2) := by decide +kernel
theorem dX2_mostIn_51 : decode cX2_mostIn 51 = .ok (.ixor, 1) := by decide +kernel
theorem dX2_mostIn_52 : decode cX2_mostIn 52 = .ok (.iload_n 2, 1) := by decide +kernel
theorem dX2_mostIn_53 : decode cX2_mostIn 53 = .ok (.iload_n 3, 1) := by decide +kernel
theorem dX2_mostIn_54 : decode cX2_mostIn 54 = .ok (.invokestatic 25, 3) := by decide +kernel
theorem dX2_mostIn_57 : decode cX2_mostIn 57 = .ok (.iadd, 1) := by decide +kernel
theorem dX2_mostIn_58 : decode cX2_mostIn 58 = .ok (.invokestatic 28, 3) := by decide +kernel
theorem dX2_mostIn_61 : decode cX2_mostIn 61 = .ok (.istore 6, 2) := by decide +kernel
theorem dX2_mostIn_63 : decode cX2_mostIn 63 = .ok (.iload 7, 2) := by decide +kernel
theorem dX2_mostIn_65 : decode cX2_mostIn 65 = .ok (.iconst 1, 1) := by decide +kernel
theorem dX2_mostIn_66 : decode cX2_mostIn 66 = .ok (.isub, 1) := by decide +kernel
theorem dX2_mostIn_67 : decode cX2_mostIn 67 = .ok (.iload 5, 2) := by decide +kernel
theorem dX2_mostIn_69 : decode cX2_mostIn 69 = .ok (.iand, 1) := by decide +kernel
theorem dX2_mostIn_70 : decode cX2_mostIn 70 = .ok (.istore 7, 2) := by decide +kernel
theorem dX2_mostIn_72 : decode cX2_mostIn 72 = .ok (.goto (-48), 3) := by decide +kernel
theorem dX2_mostIn_75 : decode cX2_mostIn 75 = .ok (.iload 6, 2) := by decide +kernel
theorem dX2_mostIn_77 : decode cX2_mostIn 77 = .ok (.ireturn, 1) := by decide +kernel
theorem dX2_hasBoth_0 : decode cX2_hasBoth 0 = .ok (.iload_n 0, 1) := by decide +kernel
theorem dX2_hasBoth_1 : decode cX2_hasBoth 1 = .ok (.iload_n 1, 1) := by decide +kernel
theorem dX2_hasBoth_2 : decode cX2_hasBoth 2 = .ok (.iand, 1) := by decide +kernel
theorem dX2_hasBoth_3 : decode cX2_hasBoth 3 = .ok (.ifCond .eq 13, 3) := by decide +kernel
theorem dX2_hasBoth_6 : decode cX2_hasBoth 6 = .ok (.iload_n 0, 1) := by decide +kernel
theorem dX2_hasBoth_7 : decode cX2_hasBoth 7 = .ok (.iload_n 2, 1) := by decide +kernel
theorem dX2_hasBoth_8 : decode cX2_hasBoth 8 = .ok (.iand, 1) := by decide +kernel
theorem dX2_hasBoth_9 : decode cX2_hasBoth 9 = .ok (.ifCond .eq 7, 3) := by decide +kernel
theorem dX2_hasBoth_12 : decode cX2_hasBoth 12 = .ok (.iconst 1, 1) := by decide +kernel
theorem dX2_hasBoth_13 : decode cX2_hasBoth 13 = .ok (.goto 4, 3) := by decide +kernel
theorem dX2_hasBoth_16 : decode cX2_hasBoth 16 = .ok (.iconst 0, 1) := by decide +kernel
theorem dX2_hasBoth_17 : decode cX2_hasBoth 17 = .ok (.ireturn, 1) := by decide +kernel
theorem dX3_init_0 : decode cX3_init 0 = .ok (.aload_n 0, 1) := by decide +kernel
theorem dX3_init_1 : decode cX3_init 1 = .ok (.invokespecial 3, 3) := by decide +kernel
theorem dX3_init_4 : decode cX3_init 4 = .ok (.aload_n 0, 1) := by decide +kernel
theorem dX3_init_5 : decode cX3_init 5 = .ok (.new 9, 3) := by decide +kernel
theorem dX3_init_8 : decode cX3_init 8 = .ok (.dup, 1) := by decide +kernel
theorem dX3_init_9 : decode cX3_init 9 = .ok (.invokespecial 11, 3) := by decide +kernel
theorem dX3_init_12 : decode cX3_init 12 = .ok (.putfield 12, 3) := by decide +kernel
theorem dX3_init_15 : decode cX3_init 15 = .ok (.aload_n 0, 1) := by decide +kernel
theorem dX3_init_16 : decode cX3_init 16 = .ok (.bipush 26, 2) := by decide +kernel
theorem dX3_init_18 : decode cX3_init 18 = .ok (.newarray .int, 2) := by decide +kernel
theorem dX3_init_20 : decode cX3_init 20 = .ok (.putfield 18, 3) := by decide +kernel
theorem dX3_init_23 : decode cX3_init 23 = .ok (.aload_n 0, 1) := by decide +kernel
theorem dX3_init_24 : decode cX3_init 24 = .ok (.bipush 25, 2) := by decide +kernel
theorem dX3_init_26 : decode cX3_init 26 = .ok (.newarray .int, 2) := by decide +kernel
theorem dX3_init_28 : decode cX3_init 28 = .ok (.putfield 22, 3) := by decide +kernel
theorem dX3_init_31 : decode cX3_init 31 = .ok (.aload_n 0, 1) := by decide +kernel
theorem dX3_init_32 : decode cX3_init 32 = .ok (.bipush 26, 2) := by decide +kernel
theorem dX3_init_34 : decode cX3_init 34 = .ok (.newarray .int, 2) := by decide +kernel
theorem dX3_init_36 : decode cX3_init 36 = .ok (.putfield 25, 3) := by decide +kernel
theorem dX3_init_39 : decode cX3_init 39 = .ok (.aload_n 0, 1) := by decide +kernel
theorem dX3_init_40 : decode cX3_init 40 = .ok (.sipush 150, 3) := by decide +kernel
theorem dX3_init_43 : decode cX3_init 43 = .ok (.newarray .int, 2) := by decide +kernel
theorem dX3_init_45 : decode cX3_init 45 = .ok (.putfield 28, 3) := by decide +kernel
theorem dX3_init_48 : decode cX3_init 48 = .ok (.return_, 1) := by decide +kernel
theorem dX3_learn_0 : decode cX3_learn 0 = .ok (.iconst 0, 1) := by decide +kernel
theorem dX3_learn_1 : decode cX3_learn 1 = .ok (.istore_n 3, 1) := by decide +kernel
theorem dX3_learn_2 : decode cX3_learn 2 = .ok (.iload_n 3, 1) := by decide +kernel
theorem dX3_learn_3 : decode cX3_learn 3 = .ok (.bipush 25, 2) := by decide +kernel
theorem dX3_learn_5 : decode cX3_learn 5 = .ok (.if_icmp .ge 22, 3) := by decide +kernel
theorem dX3_learn_8 : decode cX3_learn 8 = .ok (.aload_n 0, 1) := by decide +kernel
theorem dX3_learn_9 : decode cX3_learn 9 = .ok (.getfield 18, 3) := by decide +kernel
theorem dX3_learn_12 : decode cX3_learn 12 = .ok (.iload_n 3, 1) := by decide +kernel
theorem dX3_learn_13 : decode cX3_learn 13 = .ok (.aload_n 0, 1) := by decide +kernel
theorem dX3_learn_14 : decode cX3_learn 14 = .ok (.aload_n 1, 1) := by decide +kernel
theorem dX3_learn_15 : decode cX3_learn 15 = .ok (.aload_n 2, 1) := by decide +kernel
theorem dX3_learn_16 : decode cX3_learn 16 = .ok (.iload_n 3, 1) := by decide +kernel
theorem dX3_learn_17 : decode cX3_learn 17 = .ok (.invokevirtual 31, 3) := by decide +kernel
theorem dX3_learn_20 : decode cX3_learn 20 = .ok (.iastore, 1) := by decide +kernel
theorem dX3_learn_21 : decode cX3_learn 21 = .ok (.iinc 3 1, 3) := by decide +kernel
theorem dX3_learn_24 : decode cX3_learn 24 = .ok (.goto (-22), 3) := by decide +kernel
theorem dX3_learn_27 : decode cX3_learn 27 = .ok (.aload_n 0, 1) := by decide +kernel
theorem dX3_learn_28 : decode cX3_learn 28 = .ok (.getfield 18, 3) := by decide +kernel
theorem dX3_learn_31 : decode cX3_learn 31 = .ok (.bipush 25, 2) := by decide +kernel
theorem dX3_learn_33 : decode cX3_learn 33 = .ok (.bipush 25, 2) := by decide +kernel
theorem dX3_learn_35 : decode cX3_learn 35 = .ok (.iastore, 1) := by decide +kernel
theorem dX3_learn_36 : decode cX3_learn 36 = .ok (.return_, 1) := by decide +kernel
theorem dX3_stepFrom_0 : decode cX3_stepFrom 0 = .ok (.aload_n 0, 1) := by decide +kernel
theorem dX3_stepFrom_1 : decode cX3_stepFrom 1 = .ok (.getfield 12, 3) := by decide +kernel
theorem dX3_stepFrom_4 : decode cX3_stepFrom 4 = .ok (.aload_n 1, 1) := by decide +kernel
theorem dX3_stepFrom_5 : decode cX3_stepFrom 5 = .ok (.aload_n 2, 1) := by decide +kernel
theorem dX3_stepFrom_6 : decode cX3_stepFrom 6 = .ok (.iconst 2, 1) := by decide +kernel
theorem dX3_stepFrom_7 : decode cX3_stepFrom 7 = .ok (.iload_n 3, 1) := by decide +kernel
theorem dX3_stepFrom_8 : decode cX3_stepFrom 8 = .ok (.iconst (-1), 1) := by decide +kernel
theorem dX3_stepFrom_9 : decode cX3_stepFrom 9 = .ok (.invokevirtual 35, 3) := by decide +kernel
theorem dX3_stepFrom_12 : decode cX3_stepFrom 12 = .ok (.ldc 39, 2) := by decide +kernel
theorem dX3_stepFrom_14 : decode cX3_stepFrom 14 = .ok (.if_icmp .eq 5, 3) := by decide +kernel
theorem dX3_stepFrom_17 : decode cX3_stepFrom 17 = .ok (.iload_n 3, 1) := by decide +kernel
theorem dX3_stepFrom_18 : decode cX3_stepFrom 18 = .ok (.ireturn, 1) := by decide +kernel
theorem dX3_stepFrom_19 : decode cX3_stepFrom 19 = .ok (.iload_n 3, 1) := by decide +kernel
theorem dX3_stepFrom_20 : decode cX3_stepFrom 20 = .ok (.iconst 5, 1) := by decide +kernel
theorem dX3_stepFrom_21 : decode cX3_stepFrom 21 = .ok (.idiv, 1) := by decide +kernel
theorem dX3_stepFrom_22 : decode cX3_stepFrom 22 = .ok (.istore 4, 2) := by decide +kernel
theorem dX3_stepFrom_24 : decode cX3_stepFrom 24 = .ok (.iload_n 3, 1) := by decide +kernel
theorem dX3_stepFrom_25 : decode cX3_stepFrom 25 = .ok (.iconst 5, 1) := by decide +kernel
theorem dX3_stepFrom_26 : decode cX3_stepFrom 26 = .ok (.irem, 1) := by decide +kernel
theorem dX3_stepFrom_27 : decode cX3_stepFrom 27 = .ok (.istore 5, 2) := by decide +kernel
theorem dX3_stepFrom_29 : decode cX3_stepFrom 29 = .ok (.aload_n 0, 1) := by decide +kernel
theorem dX3_stepFrom_30 : decode cX3_stepFrom 30 = .ok (.getfield 12, 3) := by decide +kernel
theorem dX3_stepFrom_33 : decode cX3_stepFrom 33 = .ok (.aload_n 1, 1) := by decide +kernel
theorem dX3_stepFrom_34 : decode cX3_stepFrom 34 = .ok (.aload_n 2, 1) := by decide +kernel
theorem dX3_stepFrom_35 : decode cX3_stepFrom 35 = .ok (.iconst 0, 1) := by decide +kernel
theorem dX3_stepFrom_36 : decode cX3_stepFrom 36 = .ok (.iload_n 3, 1) := by decide +kernel
theorem dX3_stepFrom_37 : decode cX3_stepFrom 37 = .ok (.iconst (-1), 1) := by decide +kernel
theorem dX3_stepFrom_38 : decode cX3_stepFrom 38 = .ok (.invokevirtual 35, 3) := by decide +kernel
theorem dX3_stepFrom_41 : decode cX3_stepFrom 41 = .ok (.iconst 4, 1) := by decide +kernel
theorem dX3_stepFrom_42 : decode cX3_stepFrom 42 = .ok (.iconst 2, 1) := by decide +kernel
theorem dX3_stepFrom_43 : decode cX3_stepFrom 43 = .ok (.invokestatic 40, 3) := by decide +kernel
theorem dX3_stepFrom_46 : decode cX3_stepFrom 46 = .ok (.tableswitch 54 1 4 #[30, 36, 42, 48], 30) := by decide +kernel
theorem dX3_stepFrom_76 : decode cX3_stepFrom 76 = .ok (.iinc 4 1, 3) := by decide +kernel
theorem dX3_stepFrom_79 : decode cX3_stepFrom 79 = .ok (.goto 23, 3) := by decide +kernel
theorem dX3_stepFrom_82 : decode cX3_stepFrom 82 = .ok (.iinc 5 1, 3) := by decide +kernel
theorem dX3_stepFrom_85 : decode cX3_stepFrom 85 = .ok (.goto 17, 3) := by decide +kernel
theorem dX3_stepFrom_88 : decode cX3_stepFrom 88 = .ok (.iinc 4 (-1), 3) := by decide +kernel
theorem dX3_stepFrom_91 : decode cX3_stepFrom 91 = .ok (.goto 11, 3) := by decide +kernel
theorem dX3_stepFrom_94 : decode cX3_stepFrom 94 = .ok (.iinc 5 (-1), 3) := by decide +kernel
theorem dX3_stepFrom_97 : decode cX3_stepFrom 97 = .ok (.goto 5, 3) := by decide +kernel
theorem dX3_stepFrom_100 : decode cX3_stepFrom 100 = .ok (.iload_n 3, 1) := by decide +kernel
theorem dX3_stepFrom_101 : decode cX3_stepFrom 101 = .ok (.ireturn, 1) := by decide +kernel
theorem dX3_stepFrom_102 : decode cX3_stepFrom 102 = .ok (.iload 4, 2) := by decide +kernel
theorem dX3_stepFrom_104 : decode cX3_stepFrom 104 = .ok (.ifCond .lt 20, 3) := by decide +kernel
theorem dX3_stepFrom_107 : decode cX3_stepFrom 107 = .ok (.iload 4, 2) := by decide +kernel
theorem dX3_stepFrom_109 : decode cX3_stepFrom 109 = .ok (.iconst 5, 1) := by decide +kernel
theorem dX3_stepFrom_110 : decode cX3_stepFrom 110 = .ok (.if_icmp .ge 14, 3) := by decide +kernel
theorem dX3_stepFrom_113 : decode cX3_stepFrom 113 = .ok (.iload 5, 2) := by decide +kernel
theorem dX3_stepFrom_115 : decode cX3_stepFrom 115 = .ok (.ifCond .lt 9, 3) := by decide +kernel
theorem dX3_stepFrom_118 : decode cX3_stepFrom 118 = .ok (.iload 5, 2) := by decide +kernel
theorem dX3_stepFrom_120 : decode cX3_stepFrom 120 = .ok (.iconst 5, 1) := by decide +kernel
theorem dX3_stepFrom_121 : decode cX3_stepFrom 121 = .ok (.if_icmp .lt 6, 3) := by decide +kernel
theorem dX3_stepFrom_124 : decode cX3_stepFrom 124 = .ok (.bipush 25, 2) := by decide +kernel
theorem dX3_stepFrom_126 : decode cX3_stepFrom 126 = .ok (.ireturn, 1) := by decide +kernel
theorem dX3_stepFrom_127 : decode cX3_stepFrom 127 = .ok (.iload 4, 2) := by decide +kernel
theorem dX3_stepFrom_129 : decode cX3_stepFrom 129 = .ok (.iconst 5, 1) := by decide +kernel
theorem dX3_stepFrom_130 : decode cX3_stepFrom 130 = .ok (.imul, 1) := by decide +kernel
theorem dX3_stepFrom_131 : decode cX3_stepFrom 131 = .ok (.iload 5, 2) := by decide +kernel
theorem dX3_stepFrom_133 : decode cX3_stepFrom 133 = .ok (.iadd, 1) := by decide +kernel
theorem dX3_stepFrom_134 : decode cX3_stepFrom 134 = .ok (.istore 6, 2) := by decide +kernel
theorem dX3_stepFrom_136 : decode cX3_stepFrom 136 = .ok (.aload_n 1, 1) := by decide +kernel
theorem dX3_stepFrom_137 : decode cX3_stepFrom 137 = .ok (.getfield 44, 3) := by decide +kernel
theorem dX3_stepFrom_140 : decode cX3_stepFrom 140 = .ok (.iload 6, 2) := by decide +kernel
theorem dX3_stepFrom_142 : decode cX3_stepFrom 142 = .ok (.iaload, 1) := by decide +kernel
theorem dX3_stepFrom_143 : decode cX3_stepFrom 143 = .ok (.iconst 1, 1) := by decide +kernel
theorem dX3_stepFrom_144 : decode cX3_stepFrom 144 = .ok (.if_icmp .ne 7, 3) := by decide +kernel
theorem dX3_stepFrom_147 : decode cX3_stepFrom 147 = .ok (.iload_n 3, 1) := by decide +kernel
theorem dX3_stepFrom_148 : decode cX3_stepFrom 148 = .ok (.goto 5, 3) := by decide +kernel
theorem dX3_stepFrom_151 : decode cX3_stepFrom 151 = .ok (.iload 6, 2) := by decide +kernel
theorem dX3_stepFrom_153 : decode cX3_stepFrom 153 = .ok (.ireturn, 1) := by decide +kernel
theorem dX3_placeAfter_0 : decode cX3_placeAfter 0 = .ok (.iload_n 1, 1) := by decide +kernel
theorem dX3_placeAfter_1 : decode cX3_placeAfter 1 = .ok (.istore_n 3, 1) := by decide +kernel
theorem dX3_placeAfter_2 : decode cX3_placeAfter 2 = .ok (.iconst 0, 1) := by decide +kernel
theorem dX3_placeAfter_3 : decode cX3_placeAfter 3 = .ok (.istore 4, 2) := by decide +kernel
theorem dX3_placeAfter_5 : decode cX3_placeAfter 5 = .ok (.iload 4, 2) := by decide +kernel
theorem dX3_placeAfter_7 : decode cX3_placeAfter 7 = .ok (.iload_n 2, 1) := by decide +kernel
theorem dX3_placeAfter_8 : decode cX3_placeAfter 8 = .ok (.if_icmp .ge 16, 3) := by decide +kernel
theorem dX3_placeAfter_11 : decode cX3_placeAfter 11 = .ok (.aload_n 0, 1) := by decide +kernel
theorem dX3_placeAfter_12 : decode cX3_placeAfter 12 = .ok (.getfield 18, 3) := by decide +kernel
theorem dX3_placeAfter_15 : decode cX3_placeAfter 15 = .ok (.iload_n 3, 1) := by decide +kernel
theorem dX3_placeAfter_16 : decode cX3_placeAfter 16 = .ok (.iaload, 1) := by decide +kernel
theorem dX3_placeAfter_17 : decode cX3_placeAfter 17 = .ok (.istore_n 3, 1) := by decide +kernel
theorem dX3_placeAfter_18 : decode cX3_placeAfter 18 = .ok (.iinc 4 1, 3) := by decide +kernel
theorem dX3_placeAfter_21 : decode cX3_placeAfter 21 = .ok (.goto (-16), 3) := by decide +kernel
theorem dX3_placeAfter_24 : decode cX3_placeAfter 24 = .ok (.iload_n 3, 1) := by decide +kernel
theorem dX3_placeAfter_25 : decode cX3_placeAfter 25 = .ok (.ireturn, 1) := by decide +kernel
theorem dX3_ringOf_0 : decode cX3_ringOf 0 = .ok (.aload_n 0, 1) := by decide +kernel
theorem dX3_ringOf_1 : decode cX3_ringOf 1 = .ok (.getfield 25, 3) := by decide +kernel
theorem dX3_ringOf_4 : decode cX3_ringOf 4 = .ok (.iconst (-1), 1) := by decide +kernel
theorem dX3_ringOf_5 : decode cX3_ringOf 5 = .ok (.invokestatic 49, 3) := by decide +kernel
theorem dX3_ringOf_8 : decode cX3_ringOf 8 = .ok (.iload_n 1, 1) := by decide +kernel
theorem dX3_ringOf_9 : decode cX3_ringOf 9 = .ok (.istore_n 3, 1) := by decide +kernel
theorem dX3_ringOf_10 : decode cX3_ringOf 10 = .ok (.iconst 0, 1) := by decide +kernel
theorem dX3_ringOf_11 : decode cX3_ringOf 11 = .ok (.istore 4, 2) := by decide +kernel
theorem dX3_ringOf_13 : decode cX3_ringOf 13 = .ok (.iload 4, 2) := by decide +kernel
theorem dX3_ringOf_15 : decode cX3_ringOf 15 = .ok (.bipush 26, 2) := by decide +kernel
theorem dX3_ringOf_17 : decode cX3_ringOf 17 = .ok (.if_icmp .gt 34, 3) := by decide +kernel
theorem dX3_ringOf_20 : decode cX3_ringOf 20 = .ok (.aload_n 0, 1) := by decide +kernel
theorem dX3_ringOf_21 : decode cX3_ringOf 21 = .ok (.getfield 25, 3) := by decide +kernel
theorem dX3_ringOf_24 : decode cX3_ringOf 24 = .ok (.iload_n 3, 1) := by decide +kernel
theorem dX3_ringOf_25 : decode cX3_ringOf 25 = .ok (.iaload, 1) := by decide +kernel
theorem dX3_ringOf_26 : decode cX3_ringOf 26 = .ok (.iconst (-1), 1) := by decide +kernel
theorem dX3_ringOf_27 : decode cX3_ringOf 27 = .ok (.if_icmp .ne 24, 3) := by decide +kernel
theorem dX3_ringOf_30 : decode cX3_ringOf 30 = .ok (.aload_n 0, 1) := by decide +kernel
theorem dX3_ringOf_31 : decode cX3_ringOf 31 = .ok (.getfield 25, 3) := by decide +kernel
theorem dX3_ringOf_34 : decode cX3_ringOf 34 = .ok (.iload_n 3, 1) := by decide +kernel
theorem dX3_ringOf_35 : decode cX3_ringOf 35 = .ok (.iload 4, 2) := by decide +kernel
theorem dX3_ringOf_37 : decode cX3_ringOf 37 = .ok (.iastore, 1) := by decide +kernel
theorem dX3_ringOf_38 : decode cX3_ringOf 38 = .ok (.aload_n 0, 1) := by decide +kernel
theorem dX3_ringOf_39 : decode cX3_ringOf 39 = .ok (.getfield 18, 3) := by decide +kernel
theorem dX3_ringOf_42 : decode cX3_ringOf 42 = .ok (.iload_n 3, 1) := by decide +kernel
theorem dX3_ringOf_43 : decode cX3_ringOf 43 = .ok (.iaload, 1) := by decide +kernel
theorem dX3_ringOf_44 : decode cX3_ringOf 44 = .ok (.istore_n 3, 1) := by decide +kernel
theorem dX3_ringOf_45 : decode cX3_ringOf 45 = .ok (.iinc 4 1, 3) := by decide +kernel
theorem dX3_ringOf_48 : decode cX3_ringOf 48 = .ok (.goto (-35), 3) := by decide +kernel
theorem dX3_ringOf_51 : decode cX3_ringOf 51 = .ok (.iload_n 2, 1) := by decide +kernel
theorem dX3_ringOf_52 : decode cX3_ringOf 52 = .ok (.ifCond .ne 10, 3) := by decide +kernel
theorem dX3_ringOf_55 : decode cX3_ringOf 55 = .ok (.aload_n 0, 1) := by decide +kernel
theorem dX3_ringOf_56 : decode cX3_ringOf 56 = .ok (.getfield 25, 3) := by decide +kernel
theorem dX3_ringOf_59 : decode cX3_ringOf 59 = .ok (.iload_n 3, 1) := by decide +kernel
theorem dX3_ringOf_60 : decode cX3_ringOf 60 = .ok (.iaload, 1) := by decide +kernel
theorem dX3_ringOf_61 : decode cX3_ringOf 61 = .ok (.ireturn, 1) := by decide +kernel
theorem dX3_ringOf_62 : decode cX3_ringOf 62 = .ok (.iload_n 3, 1) := by decide +kernel
theorem dX3_ringOf_63 : decode cX3_ringOf 63 = .ok (.bipush 25, 2) := by decide +kernel
theorem dX3_ringOf_65 : decode cX3_ringOf 65 = .ok (.if_icmp .ne 7, 3) := by decide +kernel
theorem dX3_ringOf_68 : decode cX3_ringOf 68 = .ok (.iconst 0, 1) := by decide +kernel
theorem dX3_ringOf_69 : decode cX3_ringOf 69 = .ok (.goto 12, 3) := by decide +kernel
theorem dX3_ringOf_72 : decode cX3_ringOf 72 = .ok (.iload 4, 2) := by decide +kernel
theorem dX3_ringOf_74 : decode cX3_ringOf 74 = .ok (.aload_n 0, 1) := by decide +kernel
theorem dX3_ringOf_75 : decode cX3_ringOf 75 = .ok (.getfield 25, 3) := by decide +kernel
theorem dX3_ringOf_78 : decode cX3_ringOf 78 = .ok (.iload_n 3, 1) := by decide +kernel
theorem dX3_ringOf_79 : decode cX3_ringOf 79 = .ok (.iaload, 1) := by decide +kernel
theorem dX3_ringOf_80 : decode cX3_ringOf 80 = .ok (.isub, 1) := by decide +kernel
theorem dX3_ringOf_81 : decode cX3_ringOf 81 = .ok (.ireturn, 1) := by decide +kernel
theorem dX3_learnReach_0 : decode cX3_learnReach 0 = .ok (.iconst 0, 1) := by decide +kernel
theorem dX3_learnReach_1 : decode cX3_learnReach 1 = .ok (.istore_n 1, 1) := by decide +kernel
theorem dX3_learnReach_2 : decode cX3_learnReach 2 = .ok (.iload_n 1, 1) := by decide +kernel
theorem dX3_learnReach_3 : decode cX3_learnReach 3 = .ok (.bipush 25, 2) := by decide +kernel
theorem dX3_learnReach_5 : decode cX3_learnReach 5 = .ok (.if_icmp .ge 55, 3) := by decide +kernel
theorem dX3_learnReach_8 : decode cX3_learnReach 8 = .ok (.iload_n 1, 1) := by decide +kernel
theorem dX3_learnReach_9 : decode cX3_learnReach 9 = .ok (.istore_n 2, 1) := by decide +kernel
theorem dX3_learnReach_10 : decode cX3_learnReach 10 = .ok (.iconst 0, 1) := by decide +kernel
theorem dX3_learnReach_11 : decode cX3_learnReach 11 = .ok (.istore_n 3, 1) := by decide +kernel
theorem dX3_learnReach_12 : decode cX3_learnReach 12 = .ok (.iconst 0, 1) := by decide +kernel
theorem dX3_learnReach_13 : decode cX3_learnReach 13 = .ok (.istore 4, 2) := by decide +kernel
theorem dX3_learnReach_15 : decode cX3_learnReach 15 = .ok (.iload 4, 2) := by decide +kernel
theorem dX3_learnReach_17 : decode cX3_learnReach 17 = .ok (.bipush 25, 2) := by decide +kernel
theorem dX3_learnReach_19 : decode cX3_learnReach 19 = .ok (.if_icmp .ge 28, 3) := by decide +kernel
theorem dX3_learnReach_22 : decode cX3_learnReach 22 = .ok (.iload_n 2, 1) := by decide +kernel
theorem dX3_learnReach_23 : decode cX3_learnReach 23 = .ok (.bipush 25, 2) := by decide +kernel
theorem dX3_learnReach_25 : decode cX3_learnReach 25 = .ok (.if_icmp .eq 22, 3) := by decide +kernel
theorem dX3_learnReach_28 : decode cX3_learnReach 28 = .ok (.iload_n 3, 1) := by decide +kernel
theorem dX3_learnReach_29 : decode cX3_learnReach 29 = .ok (.iconst 1, 1) := by decide +kernel
theorem dX3_learnReach_30 : decode cX3_learnReach 30 = .ok (.iload_n 2, 1) := by decide +kernel
theorem dX3_learnReach_31 : decode cX3_learnReach 31 = .ok (.ishl, 1) := by decide +kernel
theorem dX3_learnReach_32 : decode cX3_learnReach 32 = .ok (.ior, 1) := by decide +kernel
theorem dX3_learnReach_33 : decode cX3_learnReach 33 = .ok (.istore_n 3, 1) := by decide +kernel
theorem dX3_learnReach_34 : decode cX3_learnReach 34 = .ok (.aload_n 0, 1) := by decide +kernel
theorem dX3_learnReach_35 : decode cX3_learnReach 35 = .ok (.getfield 18, 3) := by decide +kernel
theorem dX3_learnReach_38 : decode cX3_learnReach 38 = .ok (.iload_n 2, 1) := by decide +kernel
theorem dX3_learnReach_39 : decode cX3_learnReach 39 = .ok (.iaload, 1) := by decide +kernel
theorem dX3_learnReach_40 : decode cX3_learnReach 40 = .ok (.istore_n 2, 1) := by decide +kernel
theorem dX3_learnReach_41 : decode cX3_learnReach 41 = .ok (.iinc 4 1, 3) := by decide +kernel
theorem dX3_learnReach_44 : decode cX3_learnReach 44 = .ok (.goto (-29), 3) := by decide +kernel
theorem dX3_learnReach_47 : decode cX3_learnReach 47 = .ok (.aload_n 0, 1) := by decide +kernel
theorem dX3_learnReach_48 : decode cX3_learnReach 48 = .ok (.getfield 22, 3) := by decide +kernel
theorem dX3_learnReach_51 : decode cX3_learnReach 51 = .ok (.iload_n 1, 1) := by decide +kernel
theorem dX3_learnReach_52 : decode cX3_learnReach 52 = .ok (.iload_n 3, 1) := by decide +kernel
theorem dX3_learnReach_53 : decode cX3_learnReach 53 = .ok (.iastore, 1) := by decide +kernel
theorem dX3_learnReach_54 : decode cX3_learnReach 54 = .ok (.iinc 1 1, 3) := by decide +kernel
theorem dX3_learnReach_57 : decode cX3_learnReach 57 = .ok (.goto (-55), 3) := by decide +kernel
theorem dX3_learnReach_60 : decode cX3_learnReach 60 = .ok (.return_, 1) := by decide +kernel
theorem dX3_sourceBits_0 : decode cX3_sourceBits 0 = .ok (.iconst 0, 1) := by decide +kernel
theorem dX3_sourceBits_1 : decode cX3_sourceBits 1 = .ok (.istore_n 2, 1) := by decide +kernel
theorem dX3_sourceBits_2 : decode cX3_sourceBits 2 = .ok (.iconst 0, 1) := by decide +kernel
theorem dX3_sourceBits_3 : decode cX3_sourceBits 3 = .ok (.istore_n 3, 1) := by decide +kernel
theorem dX3_sourceBits_4 : decode cX3_sourceBits 4 = .ok (.iload_n 3, 1) := by decide +kernel
theorem dX3_sourceBits_5 : decode cX3_sourceBits 5 = .ok (.bipush 25, 2) := by decide +kernel
theorem dX3_sourceBits_7 : decode cX3_sourceBits 7 = .ok (.if_icmp .ge 24, 3) := by decide +kernel
theorem dX3_sourceBits_10 : decode cX3_sourceBits 10 = .ok (.iload_n 2, 1) := by decide +kernel
theorem dX3_sourceBits_11 : decode cX3_sourceBits 11 = .ok (.aload_n 0, 1) := by decide +kernel
theorem dX3_sourceBits_12 : decode cX3_sourceBits 12 = .ok (.getfield 22, 3) := by decide +kernel
theorem dX3_sourceBits_15 : decode cX3_sourceBits 15 = .ok (.iload_n 3, 1) := by decide +kernel
theorem dX3_sourceBits_16 : decode cX3_sourceBits 16 = .ok (.iaload, 1) := by decide +kernel
theorem dX3_sourceBits_17 : decode cX3_sourceBits 17 = .ok (.iload_n 1, 1) := by decide +kernel
theorem dX3_sourceBits_18 : decode cX3_sourceBits 18 = .ok (.ishr, 1) := by decide +kernel
theorem dX3_sourceBits_19 : decode cX3_sourceBits 19 = .ok (.iconst 1, 1) := by decide +kernel
theorem dX3_sourceBits_20 : decode cX3_sourceBits 20 = .ok (.iand, 1) := by decide +kernel
theorem dX3_sourceBits_21 : decode cX3_sourceBits 21 = .ok (.iload_n 3, 1) := by decide +kernel
theorem dX3_sourceBits_22 : decode cX3_sourceBits 22 = .ok (.ishl, 1) := by decide +kernel
theorem dX3_sourceBits_23 : decode cX3_sourceBits 23 = .ok (.ior, 1) := by decide +kernel
theorem dX3_sourceBits_24 : decode cX3_sourceBits 24 = .ok (.istore_n 2, 1) := by decide +kernel
theorem dX3_sourceBits_25 : decode cX3_sourceBits 25 = .ok (.iinc 3 1, 3) := by decide +kernel
theorem dX3_sourceBits_28 : decode cX3_sourceBits 28 = .ok (.goto (-24), 3) := by decide +kernel
theorem dX3_sourceBits_31 : decode cX3_sourceBits 31 = .ok (.iload_n 2, 1) := by decide +kernel
theorem dX3_sourceBits_32 : decode cX3_sourceBits 32 = .ok (.ireturn, 1) := by decide +kernel
theorem dX3_castBits_0 : decode cX3_castBits 0 = .ok (.iconst 0, 1) := by decide +kernel
theorem dX3_castBits_1 : decode cX3_castBits 1 = .ok (.istore_n 1, 1) := by decide +kernel
theorem dX3_castBits_2 : decode cX3_castBits 2 = .ok (.iconst 0, 1) := by decide +kernel
theorem dX3_castBits_3 : decode cX3_castBits 3 = .ok (.istore_n 2, 1) := by decide +kernel
theorem dX3_castBits_4 : decode cX3_castBits 4 = .ok (.iload_n 2, 1) := by decide +kernel
theorem dX3_castBits_5 : decode cX3_castBits 5 = .ok (.bipush 25, 2) := by decide +kernel
theorem dX3_castBits_7 : decode cX3_castBits 7 = .ok (.if_icmp .ge 44, 3) := by decide +kernel
theorem dX3_castBits_10 : decode cX3_castBits 10 = .ok (.aload_n 0, 1) := by decide +kernel
theorem dX3_castBits_11 : decode cX3_castBits 11 = .ok (.iload_n 2, 1) := by decide +kernel
theorem dX3_castBits_12 : decode cX3_castBits 12 = .ok (.invokevirtual 55, 3) := by decide +kernel
theorem dX3_castBits_15 : decode cX3_castBits 15 = .ok (.istore_n 3, 1) := by decide +kernel
theorem dX3_castBits_16 : decode cX3_castBits 16 = .ok (.iload_n 3, 1) := by decide +kernel
theorem dX3_castBits_17 : decode cX3_castBits 17 = .ok (.aload_n 0, 1) := by decide +kernel
theorem dX3_castBits_18 : decode cX3_castBits 18 = .ok (.getfield 22, 3) := by decide +kernel
theorem dX3_castBits_21 : decode cX3_castBits 21 = .ok (.iload_n 2, 1) := by decide +kernel
theorem dX3_castBits_22 : decode cX3_castBits 22 = .ok (.iaload, 1) := by decide +kernel
theorem dX3_castBits_23 : decode cX3_castBits 23 = .ok (.iconst (-1), 1) := by decide +kernel
theorem dX3_castBits_24 : decode cX3_castBits 24 = .ok (.ixor, 1) := by decide +kernel
theorem dX3_castBits_25 : decode cX3_castBits 25 = .ok (.iand, 1) := by decide +kernel
theorem dX3_castBits_26 : decode cX3_castBits 26 = .ok (.ifCond .ne 19, 3) := by decide +kernel
theorem dX3_castBits_29 : decode cX3_castBits 29 = .ok (.iload_n 3, 1) := by decide +kernel
theorem dX3_castBits_30 : decode cX3_castBits 30 = .ok (.iload_n 3, 1) := by decide +kernel
theorem dX3_castBits_31 : decode cX3_castBits 31 = .ok (.ineg, 1) := by decide +kernel
theorem dX3_castBits_32 : decode cX3_castBits 32 = .ok (.iand, 1) := by decide +kernel
theorem dX3_castBits_33 : decode cX3_castBits 33 = .ok (.iconst 1, 1) := by decide +kernel
theorem dX3_castBits_34 : decode cX3_castBits 34 = .ok (.iload_n 2, 1) := by decide +kernel
theorem dX3_castBits_35 : decode cX3_castBits 35 = .ok (.ishl, 1) := by decide +kernel
theorem dX3_castBits_36 : decode cX3_castBits 36 = .ok (.if_icmp .ne 9, 3) := by decide +kernel
theorem dX3_castBits_39 : decode cX3_castBits 39 = .ok (.iload_n 1, 1) := by decide +kernel
theorem dX3_castBits_40 : decode cX3_castBits 40 = .ok (.iconst 1, 1) := by decide +kernel
theorem dX3_castBits_41 : decode cX3_castBits 41 = .ok (.iload_n 2, 1) := by decide +kernel
theorem dX3_castBits_42 : decode cX3_castBits 42 = .ok (.ishl, 1) := by decide +kernel
theorem dX3_castBits_43 : decode cX3_castBits 43 = .ok (.ior, 1) := by decide +kernel
theorem dX3_castBits_44 : decode cX3_castBits 44 = .ok (.istore_n 1, 1) := by decide +kernel
theorem dX3_castBits_45 : decode cX3_castBits 45 = .ok (.iinc 2 1, 3) := by decide +kernel
theorem dX3_castBits_48 : decode cX3_castBits 48 = .ok (.goto (-44), 3) := by decide +kernel
theorem dX3_castBits_51 : decode cX3_castBits 51 = .ok (.iload_n 1, 1) := by decide +kernel
theorem dX3_castBits_52 : decode cX3_castBits 52 = .ok (.ireturn, 1) := by decide +kernel
theorem dX3_fitting_0 : decode cX3_fitting 0 = .ok (.iconst 0, 1) := by decide +kernel
theorem dX3_fitting_1 : decode cX3_fitting 1 = .ok (.istore_n 2, 1) := by decide +kernel
theorem dX3_fitting_2 : decode cX3_fitting 2 = .ok (.iconst 0, 1) := by decide +kernel
theorem dX3_fitting_3 : decode cX3_fitting 3 = .ok (.istore_n 3, 1) := by decide +kernel
theorem dX3_fitting_4 : decode cX3_fitting 4 = .ok (.iload_n 3, 1) := by decide +kernel
theorem dX3_fitting_5 : decode cX3_fitting 5 = .ok (.aload_n 1, 1) := by decide +kernel
theorem dX3_fitting_6 : decode cX3_fitting 6 = .ok (.getfield 59, 3) := by decide +kernel
theorem dX3_fitting_9 : decode cX3_fitting 9 = .ok (.if_icmp .ge 102, 3) := by decide +kernel
theorem dX3_fitting_12 : decode cX3_fitting 12 = .ok (.aload_n 0, 1) := by decide +kernel
theorem dX3_fitting_13 : decode cX3_fitting 13 = .ok (.aload_n 1, 1) := by decide +kernel
theorem dX3_fitting_14 : decode cX3_fitting 14 = .ok (.aload_n 1, 1) := by decide +kernel
theorem dX3_fitting_15 : decode cX3_fitting 15 = .ok (.getfield 63, 3) := by decide +kernel
theorem dX3_fitting_18 : decode cX3_fitting 18 = .ok (.iload_n 3, 1) := by decide +kernel
theorem dX3_fitting_19 : decode cX3_fitting 19 = .ok (.aaload, 1) := by decide +kernel
theorem dX3_fitting_20 : decode cX3_fitting 20 = .ok (.invokevirtual 67, 3) := by decide +kernel
theorem dX3_fitting_23 : decode cX3_fitting 23 = .ok (.iconst 1, 1) := by decide +kernel
theorem dX3_fitting_24 : decode cX3_fitting 24 = .ok (.istore 4, 2) := by decide +kernel
theorem dX3_fitting_26 : decode cX3_fitting 26 = .ok (.iconst 0, 1) := by decide +kernel
theorem dX3_fitting_27 : decode cX3_fitting 27 = .ok (.istore 5, 2) := by decide +kernel
theorem dX3_fitting_29 : decode cX3_fitting 29 = .ok (.iload 5, 2) := by decide +kernel
theorem dX3_fitting_31 : decode cX3_fitting 31 = .ok (.aload_n 1, 1) := by decide +kernel
theorem dX3_fitting_32 : decode cX3_fitting 32 = .ok (.getfield 71, 3) := by decide +kernel
theorem dX3_fitting_35 : decode cX3_fitting 35 = .ok (.if_icmp .ge 59, 3) := by decide +kernel
theorem dX3_fitting_38 : decode cX3_fitting 38 = .ok (.iload 4, 2) := by decide +kernel
theorem dX3_fitting_40 : decode cX3_fitting 40 = .ok (.ifCond .eq 54, 3) := by decide +kernel
theorem dX3_fitting_43 : decode cX3_fitting 43 = .ok (.aload_n 0, 1) := by decide +kernel
theorem dX3_fitting_44 : decode cX3_fitting 44 = .ok (.aload_n 1, 1) := by decide +kernel
theorem dX3_fitting_45 : decode cX3_fitting 45 = .ok (.getfield 74, 3) := by decide +kernel
theorem dX3_fitting_48 : decode cX3_fitting 48 = .ok (.iconst 3, 1) := by decide +kernel
theorem dX3_fitting_49 : decode cX3_fitting 49 = .ok (.iload 5, 2) := by decide +kernel
theorem dX3_fitting_51 : decode cX3_fitting 51 = .ok (.imul, 1) := by decide +kernel
theorem dX3_fitting_52 : decode cX3_fitting 52 = .ok (.iaload, 1) := by decide +kernel
theorem dX3_fitting_53 : decode cX3_fitting 53 = .ok (.aload_n 1, 1) := by decide +kernel
theorem dX3_fitting_54 : decode cX3_fitting 54 = .ok (.getfield 74, 3) := by decide +kernel
theorem dX3_fitting_57 : decode cX3_fitting 57 = .ok (.iconst 3, 1) := by decide +kernel
theorem dX3_fitting_58 : decode cX3_fitting 58 = .ok (.iload 5, 2) := by decide +kernel
theorem dX3_fitting_60 : decode cX3_fitting 60 = .ok (.imul, 1) := by decide +kernel
theorem dX3_fitting_61 : decode cX3_fitting 61 = .ok (.iconst 1, 1) := by decide +kernel
theorem dX3_fitting_62 : decode cX3_fitting 62 = .ok (.iadd, 1) := by decide +kernel
theorem dX3_fitting_63 : decode cX3_fitting 63 = .ok (.iaload, 1) := by decide +kernel
theorem dX3_fitting_64 : decode cX3_fitting 64 = .ok (.invokevirtual 77, 3) := by decide +kernel
theorem dX3_fitting_67 : decode cX3_fitting 67 = .ok (.aload_n 1, 1) := by decide +kernel
theorem dX3_fitting_68 : decode cX3_fitting 68 = .ok (.getfield 74, 3) := by decide +kernel
theorem dX3_fitting_71 : decode cX3_fitting 71 = .ok (.iconst 3, 1) := by decide +kernel
theorem dX3_fitting_72 : decode cX3_fitting 72 = .ok (.iload 5, 2) := by decide +kernel
theorem dX3_fitting_74 : decode cX3_fitting 74 = .ok (.imul, 1) := by decide +kernel
theorem dX3_fitting_75 : decode cX3_fitting 75 = .ok (.iconst 2, 1) := by decide +kernel
theorem dX3_fitting_76 : decode cX3_fitting 76 = .ok (.iadd, 1) := by decide +kernel
theorem dX3_fitting_77 : decode cX3_fitting 77 = .ok (.iaload, 1) := by decide +kernel
theorem dX3_fitting_78 : decode cX3_fitting 78 = .ok (.if_icmp .ne 7, 3) := by decide +kernel
theorem dX3_fitting_81 : decode cX3_fitting 81 = .ok (.iconst 1, 1) := by decide +kernel
theorem dX3_fitting_82 : decode cX3_fitting 82 = .ok (.goto 4, 3) := by decide +kernel
theorem dX3_fitting_85 : decode cX3_fitting 85 = .ok (.iconst 0, 1) := by decide +kernel
theorem dX3_fitting_86 : decode cX3_fitting 86 = .ok (.istore 4, 2) := by decide +kernel
theorem dX3_fitting_88 : decode cX3_fitting 88 = .ok (.iinc 5 1, 3) := by decide +kernel
theorem dX3_fitting_91 : decode cX3_fitting 91 = .ok (.goto (-62), 3) := by decide +kernel
theorem dX3_fitting_94 : decode cX3_fitting 94 = .ok (.iload 4, 2) := by decide +kernel
theorem dX3_fitting_96 : decode cX3_fitting 96 = .ok (.ifCond .eq 9, 3) := by decide +kernel
theorem dX3_fitting_99 : decode cX3_fitting 99 = .ok (.iload_n 2, 1) := by decide +kernel
theorem dX3_fitting_100 : decode cX3_fitting 100 = .ok (.iconst 1, 1) := by decide +kernel
theorem dX3_fitting_101 : decode cX3_fitting 101 = .ok (.iload_n 3, 1) := by decide +kernel
theorem dX3_fitting_102 : decode cX3_fitting 102 = .ok (.ishl, 1) := by decide +kernel
theorem dX3_fitting_103 : decode cX3_fitting 103 = .ok (.ior, 1) := by decide +kernel
theorem dX3_fitting_104 : decode cX3_fitting 104 = .ok (.istore_n 2, 1) := by decide +kernel
theorem dX3_fitting_105 : decode cX3_fitting 105 = .ok (.iinc 3 1, 3) := by decide +kernel
theorem dX3_fitting_108 : decode cX3_fitting 108 = .ok (.goto (-104), 3) := by decide +kernel
theorem dX3_fitting_111 : decode cX3_fitting 111 = .ok (.iload_n 2, 1) := by decide +kernel
theorem dX3_fitting_112 : decode cX3_fitting 112 = .ok (.ireturn, 1) := by decide +kernel
theorem dX3_learnPlaces_0 : decode cX3_learnPlaces 0 = .ok (.iconst 0, 1) := by decide +kernel
theorem dX3_learnPlaces_1 : decode cX3_learnPlaces 1 = .ok (.istore 4, 2) := by decide +kernel
theorem dX3_learnPlaces_3 : decode cX3_learnPlaces 3 = .ok (.iload 4, 2) := by decide +kernel
theorem dX3_learnPlaces_5 : decode cX3_learnPlaces 5 = .ok (.aload_n 1, 1) := by decide +kernel
theorem dX3_learnPlaces_6 : decode cX3_learnPlaces 6 = .ok (.getfield 59, 3) := by decide +kernel
theorem dX3_learnPlaces_9 : decode cX3_learnPlaces 9 = .ok (.if_icmp .ge 67, 3) := by decide +kernel
theorem dX3_learnPlaces_12 : decode cX3_learnPlaces 12 = .ok (.iload_n 2, 1) := by decide +kernel
theorem dX3_learnPlaces_13 : decode cX3_learnPlaces 13 = .ok (.iload 4, 2) := by decide +kernel
theorem dX3_learnPlaces_15 : decode cX3_learnPlaces 15 = .ok (.ishr, 1) := by decide +kernel
theorem dX3_learnPlaces_16 : decode cX3_learnPlaces 16 = .ok (.iconst 1, 1) := by decide +kernel
theorem dX3_learnPlaces_17 : decode cX3_learnPlaces 17 = .ok (.iand, 1) := by decide +kernel
theorem dX3_learnPlaces_18 : decode cX3_learnPlaces 18 = .ok (.iconst 1, 1) := by decide +kernel
theorem dX3_learnPlaces_19 : decode cX3_learnPlaces 19 = .ok (.if_icmp .ne 51, 3) := by decide +kernel
theorem dX3_learnPlaces_22 : decode cX3_learnPlaces 22 = .ok (.aload_n 0, 1) := by decide +kernel
theorem dX3_learnPlaces_23 : decode cX3_learnPlaces 23 = .ok (.aload_n 1, 1) := by decide +kernel
theorem dX3_learnPlaces_24 : decode cX3_learnPlaces 24 = .ok (.aload_n 1, 1) := by decide +kernel
theorem dX3_learnPlaces_25 : decode cX3_learnPlaces 25 = .ok (.getfield 63, 3) := by decide +kernel
theorem dX3_learnPlaces_28 : decode cX3_learnPlaces 28 = .ok (.iload 4, 2) := by decide +kernel
theorem dX3_learnPlaces_30 : decode cX3_learnPlaces 30 = .ok (.aaload, 1) := by decide +kernel
theorem dX3_learnPlaces_31 : decode cX3_learnPlaces 31 = .ok (.invokevirtual 67, 3) := by decide +kernel
theorem dX3_learnPlaces_34 : decode cX3_learnPlaces 34 = .ok (.iconst 0, 1) := by decide +kernel
theorem dX3_learnPlaces_35 : decode cX3_learnPlaces 35 = .ok (.istore 5, 2) := by decide +kernel
theorem dX3_learnPlaces_37 : decode cX3_learnPlaces 37 = .ok (.iload 5, 2) := by decide +kernel
theorem dX3_learnPlaces_39 : decode cX3_learnPlaces 39 = .ok (.bipush 25, 2) := by decide +kernel
theorem dX3_learnPlaces_41 : decode cX3_learnPlaces 41 = .ok (.if_icmp .ge 29, 3) := by decide +kernel
theorem dX3_learnPlaces_44 : decode cX3_learnPlaces 44 = .ok (.aload_n 0, 1) := by decide +kernel
theorem dX3_learnPlaces_45 : decode cX3_learnPlaces 45 = .ok (.getfield 28, 3) := by decide +kernel
theorem dX3_learnPlaces_48 : decode cX3_learnPlaces 48 = .ok (.iload 4, 2) := by decide +kernel
theorem dX3_learnPlaces_50 : decode cX3_learnPlaces 50 = .ok (.bipush 25, 2) := by decide +kernel
theorem dX3_learnPlaces_52 : decode cX3_learnPlaces 52 = .ok (.imul, 1) := by decide +kernel
theorem dX3_learnPlaces_53 : decode cX3_learnPlaces 53 = .ok (.iload 5, 2) := by decide +kernel
theorem dX3_learnPlaces_55 : decode cX3_learnPlaces 55 = .ok (.iadd, 1) := by decide +kernel
theorem dX3_learnPlaces_56 : decode cX3_learnPlaces 56 = .ok (.aload_n 0, 1) := by decide +kernel
theorem dX3_learnPlaces_57 : decode cX3_learnPlaces 57 = .ok (.iload 5, 2) := by decide +kernel
theorem dX3_learnPlaces_59 : decode cX3_learnPlaces 59 = .ok (.iload_n 3, 1) := by decide +kernel
theorem dX3_learnPlaces_60 : decode cX3_learnPlaces 60 = .ok (.invokevirtual 77, 3) := by decide +kernel
theorem dX3_learnPlaces_63 : decode cX3_learnPlaces 63 = .ok (.iastore, 1) := by decide +kernel
theorem dX3_learnPlaces_64 : decode cX3_learnPlaces 64 = .ok (.iinc 5 1, 3) := by decide +kernel
theorem dX3_learnPlaces_67 : decode cX3_learnPlaces 67 = .ok (.goto (-30), 3) := by decide +kernel
theorem dX3_learnPlaces_70 : decode cX3_learnPlaces 70 = .ok (.iinc 4 1, 3) := by decide +kernel
theorem dX3_learnPlaces_73 : decode cX3_learnPlaces 73 = .ok (.goto (-70), 3) := by decide +kernel
theorem dX3_learnPlaces_76 : decode cX3_learnPlaces 76 = .ok (.return_, 1) := by decide +kernel
theorem dX3_mostAlike_0 : decode cX3_mostAlike 0 = .ok (.iconst 0, 1) := by decide +kernel
theorem dX3_mostAlike_1 : decode cX3_mostAlike 1 = .ok (.istore_n 3, 1) := by decide +kernel
theorem dX3_mostAlike_2 : decode cX3_mostAlike 2 = .ok (.iconst 0, 1) := by decide +kernel
theorem dX3_mostAlike_3 : decode cX3_mostAlike 3 = .ok (.istore 4, 2) := by decide +kernel
theorem dX3_mostAlike_5 : decode cX3_mostAlike 5 = .ok (.iload 4, 2) := by decide +kernel
theorem dX3_mostAlike_7 : decode cX3_mostAlike 7 = .ok (.bipush 6, 2) := by decide +kernel
theorem dX3_mostAlike_9 : decode cX3_mostAlike 9 = .ok (.if_icmp .ge 97, 3) := by decide +kernel
theorem dX3_mostAlike_12 : decode cX3_mostAlike 12 = .ok (.iconst 0, 1) := by decide +kernel
theorem dX3_mostAlike_13 : decode cX3_mostAlike 13 = .ok (.istore 5, 2) := by decide +kernel
theorem dX3_mostAlike_15 : decode cX3_mostAlike 15 = .ok (.iconst 0, 1) := by decide +kernel
theorem dX3_mostAlike_16 : decode cX3_mostAlike 16 = .ok (.istore 6, 2) := by decide +kernel
theorem dX3_mostAlike_18 : decode cX3_mostAlike 18 = .ok (.iload 6, 2) := by decide +kernel
theorem dX3_mostAlike_20 : decode cX3_mostAlike 20 = .ok (.bipush 6, 2) := by decide +kernel
theorem dX3_mostAlike_22 : decode cX3_mostAlike 22 = .ok (.if_icmp .ge 71, 3) := by decide +kernel
theorem dX3_mostAlike_25 : decode cX3_mostAlike 25 = .ok (.iload_n 2, 1) := by decide +kernel
theorem dX3_mostAlike_26 : decode cX3_mostAlike 26 = .ok (.iload 4, 2) := by decide +kernel
theorem dX3_mostAlike_28 : decode cX3_mostAlike 28 = .ok (.ishr, 1) := by decide +kernel
theorem dX3_mostAlike_29 : decode cX3_mostAlike 29 = .ok (.iconst 1, 1) := by decide +kernel
theorem dX3_mostAlike_30 : decode cX3_mostAlike 30 = .ok (.iand, 1) := by decide +kernel
theorem dX3_mostAlike_31 : decode cX3_mostAlike 31 = .ok (.iconst 1, 1) := by decide +kernel
theorem dX3_mostAlike_32 : decode cX3_mostAlike 32 = .ok (.if_icmp .ne 17, 3) := by decide +kernel
theorem dX3_mostAlike_35 : decode cX3_mostAlike 35 = .ok (.iload_n 2, 1) := by decide +kernel
theorem dX3_mostAlike_36 : decode cX3_mostAlike 36 = .ok (.iload 6, 2) := by decide +kernel
theorem dX3_mostAlike_38 : decode cX3_mostAlike 38 = .ok (.ishr, 1) := by decide +kernel
theorem dX3_mostAlike_39 : decode cX3_mostAlike 39 = .ok (.iconst 1, 1) := by decide +kernel
theorem dX3_mostAlike_40 : decode cX3_mostAlike 40 = .ok (.iand, 1) := by decide +kernel
theorem dX3_mostAlike_41 : decode cX3_mostAlike 41 = .ok (.iconst 1, 1) := by decide +kernel
theorem dX3_mostAlike_42 : decode cX3_mostAlike 42 = .ok (.if_icmp .ne 7, 3) := by decide +kernel
theorem dX3_mostAlike_45 : decode cX3_mostAlike 45 = .ok (.iconst 1, 1) := by decide +kernel
theorem dX3_mostAlike_46 : decode cX3_mostAlike 46 = .ok (.goto 4, 3) := by decide +kernel
theorem dX3_mostAlike_49 : decode cX3_mostAlike 49 = .ok (.iconst 0, 1) := by decide +kernel
theorem dX3_mostAlike_50 : decode cX3_mostAlike 50 = .ok (.istore 7, 2) := by decide +kernel
theorem dX3_mostAlike_52 : decode cX3_mostAlike 52 = .ok (.iload 7, 2) := by decide +kernel
theorem dX3_mostAlike_54 : decode cX3_mostAlike 54 = .ok (.ifCond .eq 33, 3) := by decide +kernel
theorem dX3_mostAlike_57 : decode cX3_mostAlike 57 = .ok (.aload_n 0, 1) := by decide +kernel
theorem dX3_mostAlike_58 : decode cX3_mostAlike 58 = .ok (.getfield 28, 3) := by decide +kernel
theorem dX3_mostAlike_61 : decode cX3_mostAlike 61 = .ok (.iload 4, 2) := by decide +kernel
theorem dX3_mostAlike_63 : decode cX3_mostAlike 63 = .ok (.bipush 25, 2) := by decide +kernel
theorem dX3_mostAlike_65 : decode cX3_mostAlike 65 = .ok (.imul, 1) := by decide +kernel
theorem dX3_mostAlike_66 : decode cX3_mostAlike 66 = .ok (.iload_n 1, 1) := by decide +kernel
theorem dX3_mostAlike_67 : decode cX3_mostAlike 67 = .ok (.iadd, 1) := by decide +kernel
theorem dX3_mostAlike_68 : decode cX3_mostAlike 68 = .ok (.iaload, 1) := by decide +kernel
theorem dX3_mostAlike_69 : decode cX3_mostAlike 69 = .ok (.aload_n 0, 1) := by decide +kernel
theorem dX3_mostAlike_70 : decode cX3_mostAlike 70 = .ok (.getfield 28, 3) := by decide +kernel
theorem dX3_mostAlike_73 : decode cX3_mostAlike 73 = .ok (.iload 6, 2) := by decide +kernel
theorem dX3_mostAlike_75 : decode cX3_mostAlike 75 = .ok (.bipush 25, 2) := by decide +kernel
theorem dX3_mostAlike_77 : decode cX3_mostAlike 77 = .ok (.imul, 1) := by decide +kernel
theorem dX3_mostAlike_78 : decode cX3_mostAlike 78 = .ok (.iload_n 1, 1) := by decide +kernel
theorem dX3_mostAlike_79 : decode cX3_mostAlike 79 = .ok (.iadd, 1) := by decide +kernel
theorem dX3_mostAlike_80 : decode cX3_mostAlike 80 = .ok (.iaload, 1) := by decide +kernel
theorem dX3_mostAlike_81 : decode cX3_mostAlike 81 = .ok (.if_icmp .ne 6, 3) := by decide +kernel
theorem dX3_mostAlike_84 : decode cX3_mostAlike 84 = .ok (.iinc 5 1, 3) := by decide +kernel
theorem dX3_mostAlike_87 : decode cX3_mostAlike 87 = .ok (.iinc 6 1, 3) := by decide +kernel
theorem dX3_mostAlike_90 : decode cX3_mostAlike 90 = .ok (.goto (-72), 3) := by decide +kernel
theorem dX3_mostAlike_93 : decode cX3_mostAlike 93 = .ok (.iload_n 3, 1) := by decide +kernel
theorem dX3_mostAlike_94 : decode cX3_mostAlike 94 = .ok (.iload 5, 2) := by decide +kernel
theorem dX3_mostAlike_96 : decode cX3_mostAlike 96 = .ok (.invokestatic 81, 3) := by decide +kernel
theorem dX3_mostAlike_99 : decode cX3_mostAlike 99 = .ok (.istore_n 3, 1) := by decide +kernel
theorem dX3_mostAlike_100 : decode cX3_mostAlike 100 = .ok (.iinc 4 1, 3) := by decide +kernel
theorem dX3_mostAlike_103 : decode cX3_mostAlike 103 = .ok (.goto (-98), 3) := by decide +kernel
theorem dX3_mostAlike_106 : decode cX3_mostAlike 106 = .ok (.iload_n 3, 1) := by decide +kernel
theorem dX3_mostAlike_107 : decode cX3_mostAlike 107 = .ok (.ireturn, 1) := by decide +kernel
theorem dX4_init_0 : decode cX4_init 0 = .ok (.aload_n 0, 1) := by decide +kernel
theorem dX4_init_1 : decode cX4_init 1 = .ok (.invokespecial 5, 3) := by decide +kernel
theorem dX4_init_4 : decode cX4_init 4 = .ok (.aload_n 0, 1) := by decide +kernel
theorem dX4_init_5 : decode cX4_init 5 = .ok (.bipush 40, 2) := by decide +kernel
theorem dX4_init_7 : decode cX4_init 7 = .ok (.newarray .int, 2) := by decide +kernel
theorem dX4_init_9 : decode cX4_init 9 = .ok (.putfield 11, 3) := by decide +kernel
theorem dX4_init_12 : decode cX4_init 12 = .ok (.return_, 1) := by decide +kernel
theorem dX4_worthAt_0 : decode cX4_worthAt 0 = .ok (.iload_n 2, 1) := by decide +kernel
theorem dX4_worthAt_1 : decode cX4_worthAt 1 = .ok (.iconst (-1), 1) := by decide +kernel
theorem dX4_worthAt_2 : decode cX4_worthAt 2 = .ok (.if_icmp .ne 6, 3) := by decide +kernel
theorem dX4_worthAt_5 : decode cX4_worthAt 5 = .ok (.iload 4, 2) := by decide +kernel
theorem dX4_worthAt_7 : decode cX4_worthAt 7 = .ok (.ireturn, 1) := by decide +kernel
theorem dX4_worthAt_8 : decode cX4_worthAt 8 = .ok (.aload_n 0, 1) := by decide +kernel
theorem dX4_worthAt_9 : decode cX4_worthAt 9 = .ok (.iconst 0, 1) := by decide +kernel
theorem dX4_worthAt_10 : decode cX4_worthAt 10 = .ok (.putfield 15, 3) := by decide +kernel
theorem dX4_worthAt_13 : decode cX4_worthAt 13 = .ok (.iload_n 2, 1) := by decide +kernel
theorem dX4_worthAt_14 : decode cX4_worthAt 14 = .ok (.istore 5, 2) := by decide +kernel
theorem dX4_worthAt_16 : decode cX4_worthAt 16 = .ok (.iload_n 2, 1) := by decide +kernel
theorem dX4_worthAt_17 : decode cX4_worthAt 17 = .ok (.istore 6, 2) := by decide +kernel
theorem dX4_worthAt_19 : decode cX4_worthAt 19 = .ok (.iload 6, 2) := by decide +kernel
theorem dX4_worthAt_21 : decode cX4_worthAt 21 = .ok (.aload_n 1, 1) := by decide +kernel
theorem dX4_worthAt_22 : decode cX4_worthAt 22 = .ok (.arraylength, 1) := by decide +kernel
theorem dX4_worthAt_23 : decode cX4_worthAt 23 = .ok (.if_icmp .ge 226, 3) := by decide +kernel
theorem dX4_worthAt_26 : decode cX4_worthAt 26 = .ok (.iload 6, 2) := by decide +kernel
theorem dX4_worthAt_28 : decode cX4_worthAt 28 = .ok (.iload 5, 2) := by decide +kernel
theorem dX4_worthAt_30 : decode cX4_worthAt 30 = .ok (.if_icmp .ge 6, 3) := by decide +kernel
theorem dX4_worthAt_33 : decode cX4_worthAt 33 = .ok (.goto 210, 3) := by decide +kernel
theorem dX4_worthAt_36 : decode cX4_worthAt 36 = .ok (.aload_n 1, 1) := by decide +kernel
theorem dX4_worthAt_37 : decode cX4_worthAt 37 = .ok (.iload 6, 2) := by decide +kernel
theorem dX4_worthAt_39 : decode cX4_worthAt 39 = .ok (.iaload, 1) := by decide +kernel
theorem dX4_worthAt_40 : decode cX4_worthAt 40 = .ok (.sipush 255, 3) := by decide +kernel
theorem dX4_worthAt_43 : decode cX4_worthAt 43 = .ok (.iand, 1) := by decide +kernel
theorem dX4_worthAt_44 : decode cX4_worthAt 44 = .ok (.istore 7, 2) := by decide +kernel
theorem dX4_worthAt_46 : decode cX4_worthAt 46 = .ok (.aload_n 1, 1) := by decide +kernel
theorem dX4_worthAt_47 : decode cX4_worthAt 47 = .ok (.iload 6, 2) := by decide +kernel
theorem dX4_worthAt_49 : decode cX4_worthAt 49 = .ok (.iaload, 1) := by decide +kernel
theorem dX4_worthAt_50 : decode cX4_worthAt 50 = .ok (.bipush 8, 2) := by decide +kernel
theorem dX4_worthAt_52 : decode cX4_worthAt 52 = .ok (.ishr, 1) := by decide +kernel
theorem dX4_worthAt_53 : decode cX4_worthAt 53 = .ok (.istore 8, 2) := by decide +kernel
theorem dX4_worthAt_55 : decode cX4_worthAt 55 = .ok (.iload 7, 2) := by decide +kernel
theorem dX4_worthAt_57 : decode cX4_worthAt 57 = .ok (.ifCond .ne 27, 3) := by decide +kernel
theorem dX4_worthAt_60 : decode cX4_worthAt 60 = .ok (.aload_n 0, 1) := by decide +kernel
theorem dX4_worthAt_61 : decode cX4_worthAt 61 = .ok (.getfield 15, 3) := by decide +kernel
theorem dX4_worthAt_64 : decode cX4_worthAt 64 = .ok (.ifCond .le 17, 3) := by decide +kernel
theorem dX4_worthAt_67 : decode cX4_worthAt 67 = .ok (.aload_n 0, 1) := by decide +kernel
theorem dX4_worthAt_68 : decode cX4_worthAt 68 = .ok (.getfield 11, 3) := by decide +kernel
theorem dX4_worthAt_71 : decode cX4_worthAt 71 = .ok (.aload_n 0, 1) := by decide +kernel
theorem dX4_worthAt_72 : decode cX4_worthAt 72 = .ok (.getfield 15, 3) := by decide +kernel
theorem dX4_worthAt_75 : decode cX4_worthAt 75 = .ok (.iconst 1, 1) := by decide +kernel
theorem dX4_worthAt_76 : decode cX4_worthAt 76 = .ok (.isub, 1) := by decide +kernel
theorem dX4_worthAt_77 : decode cX4_worthAt 77 = .ok (.iaload, 1) := by decide +kernel
theorem dX4_worthAt_78 : decode cX4_worthAt 78 = .ok (.goto 5, 3) := by decide +kernel
theorem dX4_worthAt_81 : decode cX4_worthAt 81 = .ok (.ldc 19, 2) := by decide +kernel
theorem dX4_worthAt_83 : decode cX4_worthAt 83 = .ok (.ireturn, 1) := by decide +kernel
theorem dX4_worthAt_84 : decode cX4_worthAt 84 = .ok (.iload 7, 2) := by decide +kernel
theorem dX4_worthAt_86 : decode cX4_worthAt 86 = .ok (.iconst 1, 1) := by decide +kernel
theorem dX4_worthAt_87 : decode cX4_worthAt 87 = .ok (.if_icmp .ne 12, 3) := by decide +kernel
theorem dX4_worthAt_90 : decode cX4_worthAt 90 = .ok (.aload_n 0, 1) := by decide +kernel
theorem dX4_worthAt_91 : decode cX4_worthAt 91 = .ok (.iload 8, 2) := by decide +kernel
theorem dX4_worthAt_93 : decode cX4_worthAt 93 = .ok (.invokevirtual 20, 3) := by decide +kernel
theorem dX4_worthAt_96 : decode cX4_worthAt 96 = .ok (.goto 147, 3) := by decide +kernel
theorem dX4_worthAt_99 : decode cX4_worthAt 99 = .ok (.iload 7, 2) := by decide +kernel
theorem dX4_worthAt_101 : decode cX4_worthAt 101 = .ok (.iconst 2, 1) := by decide +kernel
theorem dX4_worthAt_102 : decode cX4_worthAt 102 = .ok (.if_icmp .ne 25, 3) := by decide +kernel
theorem dX4_worthAt_105 : decode cX4_worthAt 105 = .ok (.aload_n 0, 1) := by decide +kernel
theorem dX4_worthAt_106 : decode cX4_worthAt 106 = .ok (.iload 8, 2) := by decide +kernel
theorem dX4_worthAt_108 : decode cX4_worthAt 108 = .ok (.aload_n 3, 1) := by decide +kernel
theorem dX4_worthAt_109 : decode cX4_worthAt 109 = .ok (.arraylength, 1) := by decide +kernel
theorem dX4_worthAt_110 : decode cX4_worthAt 110 = .ok (.if_icmp .ge 10, 3) := by decide +kernel
theorem dX4_worthAt_113 : decode cX4_worthAt 113 = .ok (.aload_n 3, 1) := by decide +kernel
theorem dX4_worthAt_114 : decode cX4_worthAt 114 = .ok (.iload 8, 2) := by decide +kernel
theorem dX4_worthAt_116 : decode cX4_worthAt 116 = .ok (.iaload, 1) := by decide +kernel
theorem dX4_worthAt_117 : decode cX4_worthAt 117 = .ok (.goto 4, 3) := by decide +kernel
theorem dX4_worthAt_120 : decode cX4_worthAt 120 = .ok (.iconst 0, 1) := by decide +kernel
theorem dX4_worthAt_121 : decode cX4_worthAt 121 = .ok (.invokevirtual 20, 3) := by decide +kernel
theorem dX4_worthAt_124 : decode cX4_worthAt 124 = .ok (.goto 119, 3) := by decide +kernel
theorem dX4_worthAt_127 : decode cX4_worthAt 127 = .ok (.aload_n 0, 1) := by decide +kernel
theorem dX4_worthAt_128 : decode cX4_worthAt 128 = .ok (.getfield 15, 3) := by decide +kernel
theorem dX4_worthAt_131 : decode cX4_worthAt 131 = .ok (.ifCond .ne 6, 3) := by decide +kernel
theorem dX4_worthAt_134 : decode cX4_worthAt 134 = .ok (.ldc 19, 2) := by decide +kernel
theorem dX4_worthAt_136 : decode cX4_worthAt 136 = .ok (.ireturn, 1) := by decide +kernel
theorem dX4_worthAt_137 : decode cX4_worthAt 137 = .ok (.iload 7, 2) := by decide +kernel
theorem dX4_worthAt_139 : decode cX4_worthAt 139 = .ok (.bipush 11, 2) := by decide +kernel
theorem dX4_worthAt_141 : decode cX4_worthAt 141 = .ok (.if_icmp .ne 30, 3) := by decide +kernel
theorem dX4_worthAt_144 : decode cX4_worthAt 144 = .ok (.aload_n 0, 1) := by decide +kernel
theorem dX4_worthAt_145 : decode cX4_worthAt 145 = .ok (.getfield 11, 3) := by decide +kernel
theorem dX4_worthAt_148 : decode cX4_worthAt 148 = .ok (.aload_n 0, 1) := by decide +kernel
theorem dX4_worthAt_149 : decode cX4_worthAt 149 = .ok (.getfield 15, 3) := by decide +kernel
theorem dX4_worthAt_152 : decode cX4_worthAt 152 = .ok (.iconst 1, 1) := by decide +kernel
theorem dX4_worthAt_153 : decode cX4_worthAt 153 = .ok (.isub, 1) := by decide +kernel
theorem dX4_worthAt_154 : decode cX4_worthAt 154 = .ok (.iconst 1, 1) := by decide +kernel
theorem dX4_worthAt_155 : decode cX4_worthAt 155 = .ok (.aload_n 0, 1) := by decide +kernel
theorem dX4_worthAt_156 : decode cX4_worthAt 156 = .ok (.getfield 11, 3) := by decide +kernel
theorem dX4_worthAt_159 : decode cX4_worthAt 159 = .ok (.aload_n 0, 1) := by decide +kernel
theorem dX4_worthAt_160 : decode cX4_worthAt 160 = .ok (.getfield 15, 3) := by decide +kernel
theorem dX4_worthAt_163 : decode cX4_worthAt 163 = .ok (.iconst 1, 1) := by decide +kernel
theorem dX4_worthAt_164 : decode cX4_worthAt 164 = .ok (.isub, 1) := by decide +kernel
theorem dX4_worthAt_165 : decode cX4_worthAt 165 = .ok (.iaload, 1) := by decide +kernel
theorem dX4_worthAt_166 : decode cX4_worthAt 166 = .ok (.isub, 1) := by decide +kernel
theorem dX4_worthAt_167 : decode cX4_worthAt 167 = .ok (.iastore, 1) := by decide +kernel
theorem dX4_worthAt_168 : decode cX4_worthAt 168 = .ok (.goto 75, 3) := by decide +kernel
theorem dX4_worthAt_171 : decode cX4_worthAt 171 = .ok (.iload 7, 2) := by decide +kernel
theorem dX4_worthAt_173 : decode cX4_worthAt 173 = .ok (.bipush 12, 2) := by decide +kernel
theorem dX4_worthAt_175 : decode cX4_worthAt 175 = .ok (.if_icmp .eq 10, 3) := by decide +kernel
theorem dX4_worthAt_178 : decode cX4_worthAt 178 = .ok (.iload 7, 2) := by decide +kernel
theorem dX4_worthAt_180 : decode cX4_worthAt 180 = .ok (.bipush 13, 2) := by decide +kernel
theorem dX4_worthAt_182 : decode cX4_worthAt 182 = .ok (.if_icmp .ne 49, 3) := by decide +kernel
theorem dX4_worthAt_185 : decode cX4_worthAt 185 = .ok (.aload_n 0, 1) := by decide +kernel
theorem dX4_worthAt_186 : decode cX4_worthAt 186 = .ok (.getfield 11, 3) := by decide +kernel
theorem dX4_worthAt_189 : decode cX4_worthAt 189 = .ok (.aload_n 0, 1) := by decide +kernel
theorem dX4_worthAt_190 : decode cX4_worthAt 190 = .ok (.getfield 15, 3) := by decide +kernel
theorem dX4_worthAt_193 : decode cX4_worthAt 193 = .ok (.iconst 1, 1) := by decide +kernel
theorem dX4_worthAt_194 : decode cX4_worthAt 194 = .ok (.isub, 1) := by decide +kernel
theorem dX4_worthAt_195 : decode cX4_worthAt 195 = .ok (.iaload, 1) := by decide +kernel
theorem dX4_worthAt_196 : decode cX4_worthAt 196 = .ok (.iload 7, 2) := by decide +kernel
theorem dX4_worthAt_198 : decode cX4_worthAt 198 = .ok (.bipush 13, 2) := by decide +kernel
theorem dX4_worthAt_200 : decode cX4_worthAt 200 = .ok (.if_icmp .ne 7, 3) := by decide +kernel
theorem dX4_worthAt_203 : decode cX4_worthAt 203 = .ok (.iconst 1, 1) := by decide +kernel
theorem dX4_worthAt_204 : decode cX4_worthAt 204 = .ok (.goto 4, 3) := by decide +kernel
theorem dX4_worthAt_207 : decode cX4_worthAt 207 = .ok (.iconst 0, 1) := by decide +kernel
theorem dX4_worthAt_208 : decode cX4_worthAt 208 = .ok (.if_icmp .ne 10, 3) := by decide +kernel
theorem dX4_worthAt_211 : decode cX4_worthAt 211 = .ok (.iload 8, 2) := by decide +kernel
theorem dX4_worthAt_213 : decode cX4_worthAt 213 = .ok (.istore 5, 2) := by decide +kernel
theorem dX4_worthAt_215 : decode cX4_worthAt 215 = .ok (.goto 28, 3) := by decide +kernel
theorem dX4_worthAt_218 : decode cX4_worthAt 218 = .ok (.aload_n 0, 1) := by decide +kernel
theorem dX4_worthAt_219 : decode cX4_worthAt 219 = .ok (.dup, 1) := by decide +kernel
theorem dX4_worthAt_220 : decode cX4_worthAt 220 = .ok (.getfield 15, 3) := by decide +kernel
theorem dX4_worthAt_223 : decode cX4_worthAt 223 = .ok (.iconst 1, 1) := by decide +kernel
theorem dX4_worthAt_224 : decode cX4_worthAt 224 = .ok (.isub, 1) := by decide +kernel
theorem dX4_worthAt_225 : decode cX4_worthAt 225 = .ok (.putfield 15, 3) := by decide +kernel
theorem dX4_worthAt_228 : decode cX4_worthAt 228 = .ok (.goto 15, 3) := by decide +kernel
theorem dX4_worthAt_231 : decode cX4_worthAt 231 = .ok (.aload_n 0, 1) := by decide +kernel
theorem dX4_worthAt_232 : decode cX4_worthAt 232 = .ok (.iload 7, 2) := by decide +kernel
theorem dX4_worthAt_234 : decode cX4_worthAt 234 = .ok (.invokevirtual 24, 3) := by decide +kernel
theorem dX4_worthAt_237 : decode cX4_worthAt 237 = .ok (.ifCond .ne 6, 3) := by decide +kernel
theorem dX4_worthAt_240 : decode cX4_worthAt 240 = .ok (.ldc 19, 2) := by decide +kernel
theorem dX4_worthAt_242 : decode cX4_worthAt 242 = .ok (.ireturn, 1) := by decide +kernel
theorem dX4_worthAt_243 : decode cX4_worthAt 243 = .ok (.iinc 6 1, 3) := by decide +kernel
theorem dX4_worthAt_246 : decode cX4_worthAt 246 = .ok (.goto (-227), 3) := by decide +kernel
theorem dX4_worthAt_249 : decode cX4_worthAt 249 = .ok (.ldc 19, 2) := by decide +kernel
theorem dX4_worthAt_251 : decode cX4_worthAt 251 = .ok (.ireturn, 1) := by decide +kernel
theorem dX4_push_0 : decode cX4_push 0 = .ok (.aload_n 0, 1) := by decide +kernel
theorem dX4_push_1 : decode cX4_push 1 = .ok (.getfield 15, 3) := by decide +kernel
theorem dX4_push_4 : decode cX4_push 4 = .ok (.bipush 40, 2) := by decide +kernel
theorem dX4_push_6 : decode cX4_push 6 = .ok (.if_icmp .ge 23, 3) := by decide +kernel
theorem dX4_push_9 : decode cX4_push 9 = .ok (.aload_n 0, 1) := by decide +kernel
theorem dX4_push_10 : decode cX4_push 10 = .ok (.getfield 11, 3) := by decide +kernel
theorem dX4_push_13 : decode cX4_push 13 = .ok (.aload_n 0, 1) := by decide +kernel
theorem dX4_push_14 : decode cX4_push 14 = .ok (.getfield 15, 3) := by decide +kernel
theorem dX4_push_17 : decode cX4_push 17 = .ok (.iload_n 1, 1) := by decide +kernel
theorem dX4_push_18 : decode cX4_push 18 = .ok (.iastore, 1) := by decide +kernel
theorem dX4_push_19 : decode cX4_push 19 = .ok (.aload_n 0, 1) := by decide +kernel
theorem dX4_push_20 : decode cX4_push 20 = .ok (.dup, 1) := by decide +kernel
theorem dX4_push_21 : decode cX4_push 21 = .ok (.getfield 15, 3) := by decide +kernel
theorem dX4_push_24 : decode cX4_push 24 = .ok (.iconst 1, 1) := by decide +kernel
theorem dX4_push_25 : decode cX4_push 25 = .ok (.iadd, 1) := by decide +kernel
theorem dX4_push_26 : decode cX4_push 26 = .ok (.putfield 15, 3) := by decide +kernel
theorem dX4_push_29 : decode cX4_push 29 = .ok (.return_, 1) := by decide +kernel
theorem dX4_combine_0 : decode cX4_combine 0 = .ok (.aload_n 0, 1) := by decide +kernel
theorem dX4_combine_1 : decode cX4_combine 1 = .ok (.getfield 15, 3) := by decide +kernel
theorem dX4_combine_4 : decode cX4_combine 4 = .ok (.iconst 2, 1) := by decide +kernel
theorem dX4_combine_5 : decode cX4_combine 5 = .ok (.if_icmp .ge 5, 3) := by decide +kernel
theorem dX4_combine_8 : decode cX4_combine 8 = .ok (.iconst 0, 1) := by decide +kernel
theorem dX4_combine_9 : decode cX4_combine 9 = .ok (.ireturn, 1) := by decide +kernel
theorem dX4_combine_10 : decode cX4_combine 10 = .ok (.aload_n 0, 1) := by decide +kernel
theorem dX4_combine_11 : decode cX4_combine 11 = .ok (.getfield 11, 3) := by decide +kernel
theorem dX4_combine_14 : decode cX4_combine 14 = .ok (.aload_n 0, 1) := by decide +kernel
theorem dX4_combine_15 : decode cX4_combine 15 = .ok (.getfield 15, 3) := by decide +kernel
theorem dX4_combine_18 : decode cX4_combine 18 = .ok (.iconst 2, 1) := by decide +kernel
theorem dX4_combine_19 : decode cX4_combine 19 = .ok (.isub, 1) := by decide +kernel
theorem dX4_combine_20 : decode cX4_combine 20 = .ok (.iaload, 1) := by decide +kernel
theorem dX4_combine_21 : decode cX4_combine 21 = .ok (.i2l, 1) := by decide +kernel
theorem dX4_combine_22 : decode cX4_combine 22 = .ok (.lstore_n 2, 1) := by decide +kernel
theorem dX4_combine_23 : decode cX4_combine 23 = .ok (.aload_n 0, 1) := by decide +kernel
theorem dX4_combine_24 : decode cX4_combine 24 = .ok (.getfield 11, 3) := by decide +kernel
theorem dX4_combine_27 : decode cX4_combine 27 = .ok (.aload_n 0, 1) := by decide +kernel
theorem dX4_combine_28 : decode cX4_combine 28 = .ok (.getfield 15, 3) := by decide +kernel
theorem dX4_combine_31 : decode cX4_combine 31 = .ok (.iconst 1, 1) := by decide +kernel
theorem dX4_combine_32 : decode cX4_combine 32 = .ok (.isub, 1) := by decide +kernel
theorem dX4_combine_33 : decode cX4_combine 33 = .ok (.iaload, 1) := by decide +kernel
theorem dX4_combine_34 : decode cX4_combine 34 = .ok (.i2l, 1) := by decide +kernel
theorem dX4_combine_35 : decode cX4_combine 35 = .ok (.lstore 4, 2) := by decide +kernel
theorem dX4_combine_37 : decode cX4_combine 37 = .ok (.iload_n 1, 1) := by decide +kernel
theorem dX4_combine_38 : decode cX4_combine 38 = .ok (.tableswitch 147 3 9 #[42, 51, 60, 69, 91, 113, 130], 42) := by decide +kernel
theorem dX4_combine_80 : decode cX4_combine 80 = .ok (.lload_n 2, 1) := by decide +kernel
theorem dX4_combine_81 : decode cX4_combine 81 = .ok (.lload 4, 2) := by decide +kernel
theorem dX4_combine_83 : decode cX4_combine 83 = .ok (.ladd, 1) := by decide +kernel
theorem dX4_combine_84 : decode cX4_combine 84 = .ok (.lstore 6, 2) := by decide +kernel
theorem dX4_combine_86 : decode cX4_combine 86 = .ok (.goto 113, 3) := by decide +kernel
theorem dX4_combine_89 : decode cX4_combine 89 = .ok (.lload_n 2, 1) := by decide +kernel
theorem dX4_combine_90 : decode cX4_combine 90 = .ok (.lload 4, 2) := by decide +kernel
theorem dX4_combine_92 : decode cX4_combine 92 = .ok (.lsub, 1) := by decide +kernel
theorem dX4_combine_93 : decode cX4_combine 93 = .ok (.lstore 6, 2) := by decide +kernel
theorem dX4_combine_95 : decode cX4_combine 95 = .ok (.goto 104, 3) := by decide +kernel
theorem dX4_combine_98 : decode cX4_combine 98 = .ok (.lload_n 2, 1) := by decide +kernel
theorem dX4_combine_99 : decode cX4_combine 99 = .ok (.lload 4, 2) := by decide +kernel
theorem dX4_combine_101 : decode cX4_combine 101 = .ok (.lmul, 1) := by decide +kernel
theorem dX4_combine_102 : decode cX4_combine 102 = .ok (.lstore 6, 2) := by decide +kernel
theorem dX4_combine_104 : decode cX4_combine 104 = .ok (.goto 95, 3) := by decide +kernel
theorem dX4_combine_107 : decode cX4_combine 107 = .ok (.lload 4, 2) := by decide +kernel
theorem dX4_combine_109 : decode cX4_combine 109 = .ok (.lconst 0, 1) := by decide +kernel
theorem dX4_combine_110 : decode cX4_combine 110 = .ok (.lcmp, 1) := by decide +kernel
theorem dX4_combine_111 : decode cX4_combine 111 = .ok (.ifCond .ne 9, 3) := by decide +kernel
theorem dX4_combine_114 : decode cX4_combine 114 = .ok (.ldc2_w 28, 3) := by decide +kernel
theorem dX4_combine_117 : decode cX4_combine 117 = .ok (.goto 7, 3) := by decide +kernel
