theorem dX9_next_34 : decode cX9_next 34 = .ok (.invokevirtual 400, 3) := by decide +kernel
theorem dX9_next_37 : decode cX9_next 37 = .ok (.iconst (-1), 1) := by decide +kernel
theorem dX9_next_38 : decode cX9_next 38 = .ok (.istore 4, 2) := by decide +kernel
theorem dX9_next_40 : decode cX9_next 40 = .ok (.ldc 170, 2) := by decide +kernel
theorem dX9_next_42 : decode cX9_next 42 = .ok (.istore 5, 2) := by decide +kernel
theorem dX9_next_44 : decode cX9_next 44 = .ok (.iconst 0, 1) := by decide +kernel
theorem dX9_next_45 : decode cX9_next 45 = .ok (.istore 6, 2) := by decide +kernel
theorem dX9_next_47 : decode cX9_next 47 = .ok (.iload 6, 2) := by decide +kernel
theorem dX9_next_49 : decode cX9_next 49 = .ok (.bipush 25, 2) := by decide +kernel
theorem dX9_next_51 : decode cX9_next 51 = .ok (.if_icmp .ge 36, 3) := by decide +kernel
theorem dX9_next_54 : decode cX9_next 54 = .ok (.aload_n 0, 1) := by decide +kernel
theorem dX9_next_55 : decode cX9_next 55 = .ok (.iload_n 3, 1) := by decide +kernel
theorem dX9_next_56 : decode cX9_next 56 = .ok (.iload 6, 2) := by decide +kernel
theorem dX9_next_58 : decode cX9_next 58 = .ok (.invokevirtual 403, 3) := by decide +kernel
theorem dX9_next_61 : decode cX9_next 61 = .ok (.istore 7, 2) := by decide +kernel
theorem dX9_next_63 : decode cX9_next 63 = .ok (.iload 7, 2) := by decide +kernel
theorem dX9_next_65 : decode cX9_next 65 = .ok (.iload 5, 2) := by decide +kernel
theorem dX9_next_67 : decode cX9_next 67 = .ok (.if_icmp .lt 6, 3) := by decide +kernel
theorem dX9_next_70 : decode cX9_next 70 = .ok (.goto 11, 3) := by decide +kernel
theorem dX9_next_73 : decode cX9_next 73 = .ok (.iload 7, 2) := by decide +kernel
theorem dX9_next_75 : decode cX9_next 75 = .ok (.istore 5, 2) := by decide +kernel
theorem dX9_next_77 : decode cX9_next 77 = .ok (.iload 6, 2) := by decide +kernel
theorem dX9_next_79 : decode cX9_next 79 = .ok (.istore 4, 2) := by decide +kernel
theorem dX9_next_81 : decode cX9_next 81 = .ok (.iinc 6 1, 3) := by decide +kernel
theorem dX9_next_84 : decode cX9_next 84 = .ok (.goto (-37), 3) := by decide +kernel
theorem dX9_next_87 : decode cX9_next 87 = .ok (.iload_n 2, 1) := by decide +kernel
theorem dX9_next_88 : decode cX9_next 88 = .ok (.ifCond .ne 8, 3) := by decide +kernel
theorem dX9_next_91 : decode cX9_next 91 = .ok (.iload 4, 2) := by decide +kernel
theorem dX9_next_93 : decode cX9_next 93 = .ok (.goto 5, 3) := by decide +kernel
theorem dX9_next_96 : decode cX9_next 96 = .ok (.iload 5, 2) := by decide +kernel
theorem dX9_next_98 : decode cX9_next 98 = .ok (.ireturn, 1) := by decide +kernel
theorem dX9_booked_0 : decode cX9_booked 0 = .ok (.iload_n 1, 1) := by decide +kernel
theorem dX9_booked_1 : decode cX9_booked 1 = .ok (.invokestatic 129, 3) := by decide +kernel
theorem dX9_booked_4 : decode cX9_booked 4 = .ok (.ifCond .eq 26, 3) := by decide +kernel
theorem dX9_booked_7 : decode cX9_booked 7 = .ok (.iload_n 2, 1) := by decide +kernel
theorem dX9_booked_8 : decode cX9_booked 8 = .ok (.invokestatic 129, 3) := by decide +kernel
theorem dX9_booked_11 : decode cX9_booked 11 = .ok (.ifCond .eq 19, 3) := by decide +kernel
theorem dX9_booked_14 : decode cX9_booked 14 = .ok (.iload_n 1, 1) := by decide +kernel
theorem dX9_booked_15 : decode cX9_booked 15 = .ok (.iload_n 2, 1) := by decide +kernel
theorem dX9_booked_16 : decode cX9_booked 16 = .ok (.if_icmp .eq 14, 3) := by decide +kernel
theorem dX9_booked_19 : decode cX9_booked 19 = .ok (.iload_n 3, 1) := by decide +kernel
theorem dX9_booked_20 : decode cX9_booked 20 = .ok (.iconst 1, 1) := by decide +kernel
theorem dX9_booked_21 : decode cX9_booked 21 = .ok (.sipush 999, 3) := by decide +kernel
theorem dX9_booked_24 : decode cX9_booked 24 = .ok (.invokestatic 18, 3) := by decide +kernel
theorem dX9_booked_27 : decode cX9_booked 27 = .ok (.ifCond .ne 9, 3) := by decide +kernel
theorem dX9_booked_30 : decode cX9_booked 30 = .ok (.aload_n 0, 1) := by decide +kernel
theorem dX9_booked_31 : decode cX9_booked 31 = .ok (.iconst (-1), 1) := by decide +kernel
theorem dX9_booked_32 : decode cX9_booked 32 = .ok (.invokevirtual 109, 3) := by decide +kernel
theorem dX9_booked_35 : decode cX9_booked 35 = .ok (.ireturn, 1) := by decide +kernel
theorem dX9_booked_36 : decode cX9_booked 36 = .ok (.bipush 71, 2) := by decide +kernel
theorem dX9_booked_38 : decode cX9_booked 38 = .ok (.iconst 3, 1) := by decide +kernel
theorem dX9_booked_39 : decode cX9_booked 39 = .ok (.aload_n 0, 1) := by decide +kernel
theorem dX9_booked_40 : decode cX9_booked 40 = .ok (.getfield 28, 3) := by decide +kernel
theorem dX9_booked_43 : decode cX9_booked 43 = .ok (.bipush 105, 2) := by decide +kernel
theorem dX9_booked_45 : decode cX9_booked 45 = .ok (.iaload, 1) := by decide +kernel
theorem dX9_booked_46 : decode cX9_booked 46 = .ok (.imul, 1) := by decide +kernel
theorem dX9_booked_47 : decode cX9_booked 47 = .ok (.iadd, 1) := by decide +kernel
theorem dX9_booked_48 : decode cX9_booked 48 = .ok (.istore 4, 2) := by decide +kernel
theorem dX9_booked_50 : decode cX9_booked 50 = .ok (.aload_n 0, 1) := by decide +kernel
theorem dX9_booked_51 : decode cX9_booked 51 = .ok (.getfield 28, 3) := by decide +kernel
theorem dX9_booked_54 : decode cX9_booked 54 = .ok (.bipush 105, 2) := by decide +kernel
theorem dX9_booked_56 : decode cX9_booked 56 = .ok (.iaload, 1) := by decide +kernel
theorem dX9_booked_57 : decode cX9_booked 57 = .ok (.bipush 10, 2) := by decide +kernel
theorem dX9_booked_59 : decode cX9_booked 59 = .ok (.if_icmp .ne 10, 3) := by decide +kernel
theorem dX9_booked_62 : decode cX9_booked 62 = .ok (.aload_n 0, 1) := by decide +kernel
theorem dX9_booked_63 : decode cX9_booked 63 = .ok (.bipush (-5), 2) := by decide +kernel
theorem dX9_booked_65 : decode cX9_booked 65 = .ok (.invokevirtual 109, 3) := by decide +kernel
theorem dX9_booked_68 : decode cX9_booked 68 = .ok (.ireturn, 1) := by decide +kernel
theorem dX9_booked_69 : decode cX9_booked 69 = .ok (.aload_n 0, 1) := by decide +kernel
theorem dX9_booked_70 : decode cX9_booked 70 = .ok (.getfield 28, 3) := by decide +kernel
theorem dX9_booked_73 : decode cX9_booked 73 = .ok (.iload 4, 2) := by decide +kernel
theorem dX9_booked_75 : decode cX9_booked 75 = .ok (.iload_n 1, 1) := by decide +kernel
theorem dX9_booked_76 : decode cX9_booked 76 = .ok (.iastore, 1) := by decide +kernel
theorem dX9_booked_77 : decode cX9_booked 77 = .ok (.aload_n 0, 1) := by decide +kernel
theorem dX9_booked_78 : decode cX9_booked 78 = .ok (.getfield 28, 3) := by decide +kernel
theorem dX9_booked_81 : decode cX9_booked 81 = .ok (.iload 4, 2) := by decide +kernel
theorem dX9_booked_83 : decode cX9_booked 83 = .ok (.iconst 1, 1) := by decide +kernel
theorem dX9_booked_84 : decode cX9_booked 84 = .ok (.iadd, 1) := by decide +kernel
theorem dX9_booked_85 : decode cX9_booked 85 = .ok (.iload_n 2, 1) := by decide +kernel
theorem dX9_booked_86 : decode cX9_booked 86 = .ok (.iastore, 1) := by decide +kernel
theorem dX9_booked_87 : decode cX9_booked 87 = .ok (.aload_n 0, 1) := by decide +kernel
theorem dX9_booked_88 : decode cX9_booked 88 = .ok (.getfield 28, 3) := by decide +kernel
theorem dX9_booked_91 : decode cX9_booked 91 = .ok (.iload 4, 2) := by decide +kernel
theorem dX9_booked_93 : decode cX9_booked 93 = .ok (.iconst 2, 1) := by decide +kernel
theorem dX9_booked_94 : decode cX9_booked 94 = .ok (.iadd, 1) := by decide +kernel
theorem dX9_booked_95 : decode cX9_booked 95 = .ok (.iload_n 3, 1) := by decide +kernel
theorem dX9_booked_96 : decode cX9_booked 96 = .ok (.iastore, 1) := by decide +kernel
theorem dX9_booked_97 : decode cX9_booked 97 = .ok (.aload_n 0, 1) := by decide +kernel
theorem dX9_booked_98 : decode cX9_booked 98 = .ok (.getfield 28, 3) := by decide +kernel
theorem dX9_booked_101 : decode cX9_booked 101 = .ok (.bipush 105, 2) := by decide +kernel
theorem dX9_booked_103 : decode cX9_booked 103 = .ok (.dup2, 1) := by decide +kernel
theorem dX9_booked_104 : decode cX9_booked 104 = .ok (.iaload, 1) := by decide +kernel
theorem dX9_booked_105 : decode cX9_booked 105 = .ok (.iconst 1, 1) := by decide +kernel
theorem dX9_booked_106 : decode cX9_booked 106 = .ok (.iadd, 1) := by decide +kernel
theorem dX9_booked_107 : decode cX9_booked 107 = .ok (.iastore, 1) := by decide +kernel
theorem dX9_booked_108 : decode cX9_booked 108 = .ok (.aload_n 0, 1) := by decide +kernel
theorem dX9_booked_109 : decode cX9_booked 109 = .ok (.aload_n 0, 1) := by decide +kernel
theorem dX9_booked_110 : decode cX9_booked 110 = .ok (.getfield 28, 3) := by decide +kernel
theorem dX9_booked_113 : decode cX9_booked 113 = .ok (.bipush 105, 2) := by decide +kernel
theorem dX9_booked_115 : decode cX9_booked 115 = .ok (.iaload, 1) := by decide +kernel
theorem dX9_booked_116 : decode cX9_booked 116 = .ok (.invokevirtual 14, 3) := by decide +kernel
theorem dX9_booked_119 : decode cX9_booked 119 = .ok (.ireturn, 1) := by decide +kernel
theorem dX9_forget_0 : decode cX9_forget 0 = .ok (.aload_n 0, 1) := by decide +kernel
theorem dX9_forget_1 : decode cX9_forget 1 = .ok (.getfield 28, 3) := by decide +kernel
theorem dX9_forget_4 : decode cX9_forget 4 = .ok (.bipush 104, 2) := by decide +kernel
theorem dX9_forget_6 : decode cX9_forget 6 = .ok (.iaload, 1) := by decide +kernel
theorem dX9_forget_7 : decode cX9_forget 7 = .ok (.aload_n 0, 1) := by decide +kernel
theorem dX9_forget_8 : decode cX9_forget 8 = .ok (.getfield 28, 3) := by decide +kernel
theorem dX9_forget_11 : decode cX9_forget 11 = .ok (.bipush 105, 2) := by decide +kernel
theorem dX9_forget_13 : decode cX9_forget 13 = .ok (.iaload, 1) := by decide +kernel
theorem dX9_forget_14 : decode cX9_forget 14 = .ok (.iadd, 1) := by decide +kernel
theorem dX9_forget_15 : decode cX9_forget 15 = .ok (.istore_n 1, 1) := by decide +kernel
theorem dX9_forget_16 : decode cX9_forget 16 = .ok (.aload_n 0, 1) := by decide +kernel
theorem dX9_forget_17 : decode cX9_forget 17 = .ok (.getfield 28, 3) := by decide +kernel
theorem dX9_forget_20 : decode cX9_forget 20 = .ok (.bipush 104, 2) := by decide +kernel
theorem dX9_forget_22 : decode cX9_forget 22 = .ok (.iconst 0, 1) := by decide +kernel
theorem dX9_forget_23 : decode cX9_forget 23 = .ok (.iastore, 1) := by decide +kernel
theorem dX9_forget_24 : decode cX9_forget 24 = .ok (.aload_n 0, 1) := by decide +kernel
theorem dX9_forget_25 : decode cX9_forget 25 = .ok (.getfield 28, 3) := by decide +kernel
theorem dX9_forget_28 : decode cX9_forget 28 = .ok (.bipush 105, 2) := by decide +kernel
theorem dX9_forget_30 : decode cX9_forget 30 = .ok (.iconst 0, 1) := by decide +kernel
theorem dX9_forget_31 : decode cX9_forget 31 = .ok (.iastore, 1) := by decide +kernel
theorem dX9_forget_32 : decode cX9_forget 32 = .ok (.iload_n 1, 1) := by decide +kernel
theorem dX9_forget_33 : decode cX9_forget 33 = .ok (.ireturn, 1) := by decide +kernel
theorem dX9_outOf_0 : decode cX9_outOf 0 = .ok (.iconst 0, 1) := by decide +kernel
theorem dX9_outOf_1 : decode cX9_outOf 1 = .ok (.istore_n 2, 1) := by decide +kernel
theorem dX9_outOf_2 : decode cX9_outOf 2 = .ok (.iconst 0, 1) := by decide +kernel
theorem dX9_outOf_3 : decode cX9_outOf 3 = .ok (.istore_n 3, 1) := by decide +kernel
theorem dX9_outOf_4 : decode cX9_outOf 4 = .ok (.iload_n 3, 1) := by decide +kernel
theorem dX9_outOf_5 : decode cX9_outOf 5 = .ok (.aload_n 0, 1) := by decide +kernel
theorem dX9_outOf_6 : decode cX9_outOf 6 = .ok (.getfield 28, 3) := by decide +kernel
theorem dX9_outOf_9 : decode cX9_outOf 9 = .ok (.bipush 105, 2) := by decide +kernel
theorem dX9_outOf_11 : decode cX9_outOf 11 = .ok (.iaload, 1) := by decide +kernel
theorem dX9_outOf_12 : decode cX9_outOf 12 = .ok (.if_icmp .ge 59, 3) := by decide +kernel
theorem dX9_outOf_15 : decode cX9_outOf 15 = .ok (.bipush 71, 2) := by decide +kernel
theorem dX9_outOf_17 : decode cX9_outOf 17 = .ok (.iconst 3, 1) := by decide +kernel
theorem dX9_outOf_18 : decode cX9_outOf 18 = .ok (.iload_n 3, 1) := by decide +kernel
theorem dX9_outOf_19 : decode cX9_outOf 19 = .ok (.imul, 1) := by decide +kernel
theorem dX9_outOf_20 : decode cX9_outOf 20 = .ok (.iadd, 1) := by decide +kernel
theorem dX9_outOf_21 : decode cX9_outOf 21 = .ok (.istore 4, 2) := by decide +kernel
theorem dX9_outOf_23 : decode cX9_outOf 23 = .ok (.iload_n 1, 1) := by decide +kernel
theorem dX9_outOf_24 : decode cX9_outOf 24 = .ok (.aload_n 0, 1) := by decide +kernel
theorem dX9_outOf_25 : decode cX9_outOf 25 = .ok (.getfield 28, 3) := by decide +kernel
theorem dX9_outOf_28 : decode cX9_outOf 28 = .ok (.iload 4, 2) := by decide +kernel
theorem dX9_outOf_30 : decode cX9_outOf 30 = .ok (.iaload, 1) := by decide +kernel
theorem dX9_outOf_31 : decode cX9_outOf 31 = .ok (.invokestatic 119, 3) := by decide +kernel
theorem dX9_outOf_34 : decode cX9_outOf 34 = .ok (.ifCond .eq 31, 3) := by decide +kernel
theorem dX9_outOf_37 : decode cX9_outOf 37 = .ok (.iload_n 1, 1) := by decide +kernel
theorem dX9_outOf_38 : decode cX9_outOf 38 = .ok (.aload_n 0, 1) := by decide +kernel
theorem dX9_outOf_39 : decode cX9_outOf 39 = .ok (.getfield 28, 3) := by decide +kernel
theorem dX9_outOf_42 : decode cX9_outOf 42 = .ok (.iload 4, 2) := by decide +kernel
theorem dX9_outOf_44 : decode cX9_outOf 44 = .ok (.iconst 1, 1) := by decide +kernel
theorem dX9_outOf_45 : decode cX9_outOf 45 = .ok (.iadd, 1) := by decide +kernel
theorem dX9_outOf_46 : decode cX9_outOf 46 = .ok (.iaload, 1) := by decide +kernel
theorem dX9_outOf_47 : decode cX9_outOf 47 = .ok (.invokestatic 119, 3) := by decide +kernel
theorem dX9_outOf_50 : decode cX9_outOf 50 = .ok (.ifCond .ne 15, 3) := by decide +kernel
theorem dX9_outOf_53 : decode cX9_outOf 53 = .ok (.iload_n 2, 1) := by decide +kernel
theorem dX9_outOf_54 : decode cX9_outOf 54 = .ok (.aload_n 0, 1) := by decide +kernel
theorem dX9_outOf_55 : decode cX9_outOf 55 = .ok (.getfield 28, 3) := by decide +kernel
theorem dX9_outOf_58 : decode cX9_outOf 58 = .ok (.iload 4, 2) := by decide +kernel
theorem dX9_outOf_60 : decode cX9_outOf 60 = .ok (.iconst 2, 1) := by decide +kernel
theorem dX9_outOf_61 : decode cX9_outOf 61 = .ok (.iadd, 1) := by decide +kernel
theorem dX9_outOf_62 : decode cX9_outOf 62 = .ok (.iaload, 1) := by decide +kernel
theorem dX9_outOf_63 : decode cX9_outOf 63 = .ok (.iadd, 1) := by decide +kernel
theorem dX9_outOf_64 : decode cX9_outOf 64 = .ok (.istore_n 2, 1) := by decide +kernel
theorem dX9_outOf_65 : decode cX9_outOf 65 = .ok (.iinc 3 1, 3) := by decide +kernel
theorem dX9_outOf_68 : decode cX9_outOf 68 = .ok (.goto (-64), 3) := by decide +kernel
theorem dX9_outOf_71 : decode cX9_outOf 71 = .ok (.iload_n 2, 1) := by decide +kernel
theorem dX9_outOf_72 : decode cX9_outOf 72 = .ok (.ireturn, 1) := by decide +kernel
theorem dX9_through_0 : decode cX9_through 0 = .ok (.iload_n 1, 1) := by decide +kernel
theorem dX9_through_1 : decode cX9_through 1 = .ok (.invokestatic 129, 3) := by decide +kernel
theorem dX9_through_4 : decode cX9_through 4 = .ok (.ifCond .eq 24, 3) := by decide +kernel
theorem dX9_through_7 : decode cX9_through 7 = .ok (.iload_n 2, 1) := by decide +kernel
theorem dX9_through_8 : decode cX9_through 8 = .ok (.invokestatic 129, 3) := by decide +kernel
theorem dX9_through_11 : decode cX9_through 11 = .ok (.ifCond .eq 17, 3) := by decide +kernel
theorem dX9_through_14 : decode cX9_through 14 = .ok (.iload_n 1, 1) := by decide +kernel
theorem dX9_through_15 : decode cX9_through 15 = .ok (.iload_n 2, 1) := by decide +kernel
theorem dX9_through_16 : decode cX9_through 16 = .ok (.if_icmp .eq 12, 3) := by decide +kernel
theorem dX9_through_19 : decode cX9_through 19 = .ok (.iload_n 3, 1) := by decide +kernel
theorem dX9_through_20 : decode cX9_through 20 = .ok (.iconst 0, 1) := by decide +kernel
theorem dX9_through_21 : decode cX9_through 21 = .ok (.iconst 1, 1) := by decide +kernel
theorem dX9_through_22 : decode cX9_through 22 = .ok (.invokestatic 18, 3) := by decide +kernel
theorem dX9_through_25 : decode cX9_through 25 = .ok (.ifCond .ne 5, 3) := by decide +kernel
theorem dX9_through_28 : decode cX9_through 28 = .ok (.iconst (-1), 1) := by decide +kernel
theorem dX9_through_29 : decode cX9_through 29 = .ok (.ireturn, 1) := by decide +kernel
theorem dX9_through_30 : decode cX9_through 30 = .ok (.ldc 170, 2) := by decide +kernel
theorem dX9_through_32 : decode cX9_through 32 = .ok (.istore 4, 2) := by decide +kernel
theorem dX9_through_34 : decode cX9_through 34 = .ok (.iconst (-1), 1) := by decide +kernel
theorem dX9_through_35 : decode cX9_through 35 = .ok (.istore 5, 2) := by decide +kernel
theorem dX9_through_37 : decode cX9_through 37 = .ok (.iconst 0, 1) := by decide +kernel
theorem dX9_through_38 : decode cX9_through 38 = .ok (.istore 6, 2) := by decide +kernel
theorem dX9_through_40 : decode cX9_through 40 = .ok (.iload 6, 2) := by decide +kernel
theorem dX9_through_42 : decode cX9_through 42 = .ok (.bipush 32, 2) := by decide +kernel
theorem dX9_through_44 : decode cX9_through 44 = .ok (.if_icmp .ge 53, 3) := by decide +kernel
theorem dX9_through_47 : decode cX9_through 47 = .ok (.iload 6, 2) := by decide +kernel
theorem dX9_through_49 : decode cX9_through 49 = .ok (.iload_n 1, 1) := by decide +kernel
theorem dX9_through_50 : decode cX9_through 50 = .ok (.invokestatic 119, 3) := by decide +kernel
theorem dX9_through_53 : decode cX9_through 53 = .ok (.ifCond .eq 38, 3) := by decide +kernel
theorem dX9_through_56 : decode cX9_through 56 = .ok (.iload 6, 2) := by decide +kernel
theorem dX9_through_58 : decode cX9_through 58 = .ok (.iload_n 2, 1) := by decide +kernel
theorem dX9_through_59 : decode cX9_through 59 = .ok (.invokestatic 119, 3) := by decide +kernel
theorem dX9_through_62 : decode cX9_through 62 = .ok (.ifCond .ne 29, 3) := by decide +kernel
theorem dX9_through_65 : decode cX9_through 65 = .ok (.aload_n 0, 1) := by decide +kernel
theorem dX9_through_66 : decode cX9_through 66 = .ok (.iload 6, 2) := by decide +kernel
theorem dX9_through_68 : decode cX9_through 68 = .ok (.invokevirtual 406, 3) := by decide +kernel
theorem dX9_through_71 : decode cX9_through 71 = .ok (.iload 4, 2) := by decide +kernel
theorem dX9_through_73 : decode cX9_through 73 = .ok (.if_icmp .lt 6, 3) := by decide +kernel
theorem dX9_through_76 : decode cX9_through 76 = .ok (.goto 15, 3) := by decide +kernel
theorem dX9_through_79 : decode cX9_through 79 = .ok (.aload_n 0, 1) := by decide +kernel
theorem dX9_through_80 : decode cX9_through 80 = .ok (.iload 6, 2) := by decide +kernel
theorem dX9_through_82 : decode cX9_through 82 = .ok (.invokevirtual 406, 3) := by decide +kernel
theorem dX9_through_85 : decode cX9_through 85 = .ok (.istore 4, 2) := by decide +kernel
theorem dX9_through_87 : decode cX9_through 87 = .ok (.iload 6, 2) := by decide +kernel
theorem dX9_through_89 : decode cX9_through 89 = .ok (.istore 5, 2) := by decide +kernel
theorem dX9_through_91 : decode cX9_through 91 = .ok (.iinc 6 1, 3) := by decide +kernel
theorem dX9_through_94 : decode cX9_through 94 = .ok (.goto (-54), 3) := by decide +kernel
theorem dX9_through_97 : decode cX9_through 97 = .ok (.iload_n 3, 1) := by decide +kernel
theorem dX9_through_98 : decode cX9_through 98 = .ok (.ifCond .ne 8, 3) := by decide +kernel
theorem dX9_through_101 : decode cX9_through 101 = .ok (.iload 4, 2) := by decide +kernel
theorem dX9_through_103 : decode cX9_through 103 = .ok (.goto 5, 3) := by decide +kernel
theorem dX9_through_106 : decode cX9_through 106 = .ok (.iload 5, 2) := by decide +kernel
theorem dX9_through_108 : decode cX9_through 108 = .ok (.ireturn, 1) := by decide +kernel
theorem dX9_moreOut_0 : decode cX9_moreOut 0 = .ok (.aload_n 0, 1) := by decide +kernel
theorem dX9_moreOut_1 : decode cX9_moreOut 1 = .ok (.iload_n 1, 1) := by decide +kernel
theorem dX9_moreOut_2 : decode cX9_moreOut 2 = .ok (.invokevirtual 406, 3) := by decide +kernel
theorem dX9_moreOut_5 : decode cX9_moreOut 5 = .ok (.aload_n 0, 1) := by decide +kernel
theorem dX9_moreOut_6 : decode cX9_moreOut 6 = .ok (.bipush 31, 2) := by decide +kernel
theorem dX9_moreOut_8 : decode cX9_moreOut 8 = .ok (.iload_n 1, 1) := by decide +kernel
theorem dX9_moreOut_9 : decode cX9_moreOut 9 = .ok (.ixor, 1) := by decide +kernel
theorem dX9_moreOut_10 : decode cX9_moreOut 10 = .ok (.invokevirtual 406, 3) := by decide +kernel
theorem dX9_moreOut_13 : decode cX9_moreOut 13 = .ok (.isub, 1) := by decide +kernel
theorem dX9_moreOut_14 : decode cX9_moreOut 14 = .ok (.ireturn, 1) := by decide +kernel
theorem dX9_settled_0 : decode cX9_settled 0 = .ok (.iconst 0, 1) := by decide +kernel
theorem dX9_settled_1 : decode cX9_settled 1 = .ok (.istore_n 1, 1) := by decide +kernel
theorem dX9_settled_2 : decode cX9_settled 2 = .ok (.iconst 0, 1) := by decide +kernel
theorem dX9_settled_3 : decode cX9_settled 3 = .ok (.istore_n 2, 1) := by decide +kernel
theorem dX9_settled_4 : decode cX9_settled 4 = .ok (.iload_n 2, 1) := by decide +kernel
theorem dX9_settled_5 : decode cX9_settled 5 = .ok (.iconst 5, 1) := by decide +kernel
theorem dX9_settled_6 : decode cX9_settled 6 = .ok (.if_icmp .ge 29, 3) := by decide +kernel
theorem dX9_settled_9 : decode cX9_settled 9 = .ok (.iload_n 1, 1) := by decide +kernel
theorem dX9_settled_10 : decode cX9_settled 10 = .ok (.aload_n 0, 1) := by decide +kernel
theorem dX9_settled_11 : decode cX9_settled 11 = .ok (.iconst 1, 1) := by decide +kernel
theorem dX9_settled_12 : decode cX9_settled 12 = .ok (.iload_n 2, 1) := by decide +kernel
theorem dX9_settled_13 : decode cX9_settled 13 = .ok (.ishl, 1) := by decide +kernel
theorem dX9_settled_14 : decode cX9_settled 14 = .ok (.invokevirtual 409, 3) := by decide +kernel
theorem dX9_settled_17 : decode cX9_settled 17 = .ok (.ifCond .ne 7, 3) := by decide +kernel
theorem dX9_settled_20 : decode cX9_settled 20 = .ok (.iconst 0, 1) := by decide +kernel
theorem dX9_settled_21 : decode cX9_settled 21 = .ok (.goto 6, 3) := by decide +kernel
theorem dX9_settled_24 : decode cX9_settled 24 = .ok (.iconst 1, 1) := by decide +kernel
theorem dX9_settled_25 : decode cX9_settled 25 = .ok (.iload_n 2, 1) := by decide +kernel
theorem dX9_settled_26 : decode cX9_settled 26 = .ok (.ishl, 1) := by decide +kernel
theorem dX9_settled_27 : decode cX9_settled 27 = .ok (.ior, 1) := by decide +kernel
theorem dX9_settled_28 : decode cX9_settled 28 = .ok (.istore_n 1, 1) := by decide +kernel
theorem dX9_settled_29 : decode cX9_settled 29 = .ok (.iinc 2 1, 3) := by decide +kernel
theorem dX9_settled_32 : decode cX9_settled 32 = .ok (.goto (-28), 3) := by decide +kernel
theorem dX9_settled_35 : decode cX9_settled 35 = .ok (.iconst 0, 1) := by decide +kernel
theorem dX9_settled_36 : decode cX9_settled 36 = .ok (.istore_n 2, 1) := by decide +kernel
theorem dX9_settled_37 : decode cX9_settled 37 = .ok (.iload_n 2, 1) := by decide +kernel
theorem dX9_settled_38 : decode cX9_settled 38 = .ok (.iload_n 1, 1) := by decide +kernel
theorem dX9_settled_39 : decode cX9_settled 39 = .ok (.if_icmp .gt 95, 3) := by decide +kernel
theorem dX9_settled_42 : decode cX9_settled 42 = .ok (.iload_n 2, 1) := by decide +kernel
theorem dX9_settled_43 : decode cX9_settled 43 = .ok (.iload_n 1, 1) := by decide +kernel
theorem dX9_settled_44 : decode cX9_settled 44 = .ok (.iconst (-1), 1) := by decide +kernel
theorem dX9_settled_45 : decode cX9_settled 45 = .ok (.ixor, 1) := by decide +kernel
theorem dX9_settled_46 : decode cX9_settled 46 = .ok (.iand, 1) := by decide +kernel
theorem dX9_settled_47 : decode cX9_settled 47 = .ok (.ifCond .eq 6, 3) := by decide +kernel
theorem dX9_settled_50 : decode cX9_settled 50 = .ok (.goto 78, 3) := by decide +kernel
theorem dX9_settled_53 : decode cX9_settled 53 = .ok (.aload_n 0, 1) := by decide +kernel
theorem dX9_settled_54 : decode cX9_settled 54 = .ok (.getfield 90, 3) := by decide +kernel
theorem dX9_settled_57 : decode cX9_settled 57 = .ok (.iload_n 2, 1) := by decide +kernel
theorem dX9_settled_58 : decode cX9_settled 58 = .ok (.iload_n 2, 1) := by decide +kernel
theorem dX9_settled_59 : decode cX9_settled 59 = .ok (.ifCond .ne 7, 3) := by decide +kernel
theorem dX9_settled_62 : decode cX9_settled 62 = .ok (.iconst 0, 1) := by decide +kernel
theorem dX9_settled_63 : decode cX9_settled 63 = .ok (.goto 4, 3) := by decide +kernel
theorem dX9_settled_66 : decode cX9_settled 66 = .ok (.iconst (-1), 1) := by decide +kernel
theorem dX9_settled_67 : decode cX9_settled 67 = .ok (.iastore, 1) := by decide +kernel
theorem dX9_settled_68 : decode cX9_settled 68 = .ok (.iload_n 2, 1) := by decide +kernel
theorem dX9_settled_69 : decode cX9_settled 69 = .ok (.istore_n 3, 1) := by decide +kernel
theorem dX9_settled_70 : decode cX9_settled 70 = .ok (.iload_n 3, 1) := by decide +kernel
theorem dX9_settled_71 : decode cX9_settled 71 = .ok (.ifCond .le 57, 3) := by decide +kernel
theorem dX9_settled_74 : decode cX9_settled 74 = .ok (.aload_n 0, 1) := by decide +kernel
theorem dX9_settled_75 : decode cX9_settled 75 = .ok (.iload_n 3, 1) := by decide +kernel
theorem dX9_settled_76 : decode cX9_settled 76 = .ok (.invokevirtual 409, 3) := by decide +kernel
theorem dX9_settled_79 : decode cX9_settled 79 = .ok (.ifCond .ne 40, 3) := by decide +kernel
theorem dX9_settled_82 : decode cX9_settled 82 = .ok (.aload_n 0, 1) := by decide +kernel
theorem dX9_settled_83 : decode cX9_settled 83 = .ok (.getfield 90, 3) := by decide +kernel
theorem dX9_settled_86 : decode cX9_settled 86 = .ok (.iload_n 2, 1) := by decide +kernel
theorem dX9_settled_87 : decode cX9_settled 87 = .ok (.iload_n 3, 1) := by decide +kernel
theorem dX9_settled_88 : decode cX9_settled 88 = .ok (.ixor, 1) := by decide +kernel
theorem dX9_settled_89 : decode cX9_settled 89 = .ok (.iaload, 1) := by decide +kernel
theorem dX9_settled_90 : decode cX9_settled 90 = .ok (.iconst (-1), 1) := by decide +kernel
theorem dX9_settled_91 : decode cX9_settled 91 = .ok (.if_icmp .eq 28, 3) := by decide +kernel
theorem dX9_settled_94 : decode cX9_settled 94 = .ok (.aload_n 0, 1) := by decide +kernel
theorem dX9_settled_95 : decode cX9_settled 95 = .ok (.getfield 90, 3) := by decide +kernel
theorem dX9_settled_98 : decode cX9_settled 98 = .ok (.iload_n 2, 1) := by decide +kernel
theorem dX9_settled_99 : decode cX9_settled 99 = .ok (.aload_n 0, 1) := by decide +kernel
theorem dX9_settled_100 : decode cX9_settled 100 = .ok (.getfield 90, 3) := by decide +kernel
theorem dX9_settled_103 : decode cX9_settled 103 = .ok (.iload_n 2, 1) := by decide +kernel
theorem dX9_settled_104 : decode cX9_settled 104 = .ok (.iaload, 1) := by decide +kernel
theorem dX9_settled_105 : decode cX9_settled 105 = .ok (.aload_n 0, 1) := by decide +kernel
theorem dX9_settled_106 : decode cX9_settled 106 = .ok (.getfield 90, 3) := by decide +kernel
theorem dX9_settled_109 : decode cX9_settled 109 = .ok (.iload_n 2, 1) := by decide +kernel
theorem dX9_settled_110 : decode cX9_settled 110 = .ok (.iload_n 3, 1) := by decide +kernel
theorem dX9_settled_111 : decode cX9_settled 111 = .ok (.ixor, 1) := by decide +kernel
theorem dX9_settled_112 : decode cX9_settled 112 = .ok (.iaload, 1) := by decide +kernel
theorem dX9_settled_113 : decode cX9_settled 113 = .ok (.iconst 1, 1) := by decide +kernel
theorem dX9_settled_114 : decode cX9_settled 114 = .ok (.iadd, 1) := by decide +kernel
theorem dX9_settled_115 : decode cX9_settled 115 = .ok (.invokestatic 394, 3) := by decide +kernel
theorem dX9_settled_118 : decode cX9_settled 118 = .ok (.iastore, 1) := by decide +kernel
theorem dX9_settled_119 : decode cX9_settled 119 = .ok (.iload_n 3, 1) := by decide +kernel
theorem dX9_settled_120 : decode cX9_settled 120 = .ok (.iconst 1, 1) := by decide +kernel
theorem dX9_settled_121 : decode cX9_settled 121 = .ok (.isub, 1) := by decide +kernel
theorem dX9_settled_122 : decode cX9_settled 122 = .ok (.iload_n 2, 1) := by decide +kernel
theorem dX9_settled_123 : decode cX9_settled 123 = .ok (.iand, 1) := by decide +kernel
theorem dX9_settled_124 : decode cX9_settled 124 = .ok (.istore_n 3, 1) := by decide +kernel
theorem dX9_settled_125 : decode cX9_settled 125 = .ok (.goto (-55), 3) := by decide +kernel
theorem dX9_settled_128 : decode cX9_settled 128 = .ok (.iinc 2 1, 3) := by decide +kernel
theorem dX9_settled_131 : decode cX9_settled 131 = .ok (.goto (-94), 3) := by decide +kernel
theorem dX9_settled_134 : decode cX9_settled 134 = .ok (.iload_n 1, 1) := by decide +kernel
theorem dX9_settled_135 : decode cX9_settled 135 = .ok (.invokestatic 349, 3) := by decide +kernel
theorem dX9_settled_138 : decode cX9_settled 138 = .ok (.aload_n 0, 1) := by decide +kernel
theorem dX9_settled_139 : decode cX9_settled 139 = .ok (.getfield 90, 3) := by decide +kernel
theorem dX9_settled_142 : decode cX9_settled 142 = .ok (.iload_n 1, 1) := by decide +kernel
theorem dX9_settled_143 : decode cX9_settled 143 = .ok (.iaload, 1) := by decide +kernel
theorem dX9_settled_144 : decode cX9_settled 144 = .ok (.isub, 1) := by decide +kernel
theorem dX9_settled_145 : decode cX9_settled 145 = .ok (.ireturn, 1) := by decide +kernel
theorem dX9_few_0 : decode cX9_few 0 = .ok (.iload_n 1, 1) := by decide +kernel
theorem dX9_few_1 : decode cX9_few 1 = .ok (.iconst 1, 1) := by decide +kernel
theorem dX9_few_2 : decode cX9_few 2 = .ok (.bipush 20, 2) := by decide +kernel
theorem dX9_few_4 : decode cX9_few 4 = .ok (.invokestatic 18, 3) := by decide +kernel
theorem dX9_few_7 : decode cX9_few 7 = .ok (.ifCond .eq 13, 3) := by decide +kernel
theorem dX9_few_10 : decode cX9_few 10 = .ok (.iload_n 2, 1) := by decide +kernel
theorem dX9_few_11 : decode cX9_few 11 = .ok (.iconst 0, 1) := by decide +kernel
theorem dX9_few_12 : decode cX9_few 12 = .ok (.bipush 99, 2) := by decide +kernel
theorem dX9_few_14 : decode cX9_few 14 = .ok (.invokestatic 18, 3) := by decide +kernel
theorem dX9_few_17 : decode cX9_few 17 = .ok (.ifCond .ne 7, 3) := by decide +kernel
theorem dX9_few_20 : decode cX9_few 20 = .ok (.ldc2_w 412, 3) := by decide +kernel
theorem dX9_few_23 : decode cX9_few 23 = .ok (.lreturn, 1) := by decide +kernel
theorem dX9_few_24 : decode cX9_few 24 = .ok (.iconst 0, 1) := by decide +kernel
theorem dX9_few_25 : decode cX9_few 25 = .ok (.istore_n 3, 1) := by decide +kernel
theorem dX9_few_26 : decode cX9_few 26 = .ok (.iload_n 3, 1) := by decide +kernel
theorem dX9_few_27 : decode cX9_few 27 = .ok (.bipush 20, 2) := by decide +kernel
theorem dX9_few_29 : decode cX9_few 29 = .ok (.if_icmp .gt 26, 3) := by decide +kernel
theorem dX9_few_32 : decode cX9_few 32 = .ok (.aload_n 0, 1) := by decide +kernel
theorem dX9_few_33 : decode cX9_few 33 = .ok (.getfield 93, 3) := by decide +kernel
theorem dX9_few_36 : decode cX9_few 36 = .ok (.iload_n 3, 1) := by decide +kernel
theorem dX9_few_37 : decode cX9_few 37 = .ok (.iload_n 3, 1) := by decide +kernel
theorem dX9_few_38 : decode cX9_few 38 = .ok (.ifCond .ne 9, 3) := by decide +kernel
theorem dX9_few_41 : decode cX9_few 41 = .ok (.ldc2_w 414, 3) := by decide +kernel
theorem dX9_few_44 : decode cX9_few 44 = .ok (.goto 4, 3) := by decide +kernel
theorem dX9_few_47 : decode cX9_few 47 = .ok (.lconst 0, 1) := by decide +kernel
theorem dX9_few_48 : decode cX9_few 48 = .ok (.lastore, 1) := by decide +kernel
theorem dX9_few_49 : decode cX9_few 49 = .ok (.iinc 3 1, 3) := by decide +kernel
theorem dX9_few_52 : decode cX9_few 52 = .ok (.goto (-26), 3) := by decide +kernel
theorem dX9_few_55 : decode cX9_few 55 = .ok (.iconst 0, 1) := by decide +kernel
theorem dX9_few_56 : decode cX9_few 56 = .ok (.istore_n 3, 1) := by decide +kernel
theorem dX9_few_57 : decode cX9_few 57 = .ok (.iload_n 3, 1) := by decide +kernel
theorem dX9_few_58 : decode cX9_few 58 = .ok (.iload_n 2, 1) := by decide +kernel
theorem dX9_few_59 : decode cX9_few 59 = .ok (.if_icmp .ge 87, 3) := by decide +kernel
theorem dX9_few_62 : decode cX9_few 62 = .ok (.iload_n 1, 1) := by decide +kernel
theorem dX9_few_63 : decode cX9_few 63 = .ok (.iconst 1, 1) := by decide +kernel
theorem dX9_few_64 : decode cX9_few 64 = .ok (.isub, 1) := by decide +kernel
theorem dX9_few_65 : decode cX9_few 65 = .ok (.istore 4, 2) := by decide +kernel
theorem dX9_few_67 : decode cX9_few 67 = .ok (.iload 4, 2) := by decide +kernel
theorem dX9_few_69 : decode cX9_few 69 = .ok (.ifCond .lt 71, 3) := by decide +kernel
theorem dX9_few_72 : decode cX9_few 72 = .ok (.aload_n 0, 1) := by decide +kernel
theorem dX9_few_73 : decode cX9_few 73 = .ok (.getfield 93, 3) := by decide +kernel
theorem dX9_few_76 : decode cX9_few 76 = .ok (.iload 4, 2) := by decide +kernel
theorem dX9_few_78 : decode cX9_few 78 = .ok (.iconst 1, 1) := by decide +kernel
theorem dX9_few_79 : decode cX9_few 79 = .ok (.iadd, 1) := by decide +kernel
theorem dX9_few_80 : decode cX9_few 80 = .ok (.dup2, 1) := by decide +kernel
theorem dX9_few_81 : decode cX9_few 81 = .ok (.laload, 1) := by decide +kernel
theorem dX9_few_82 : decode cX9_few 82 = .ok (.aload_n 0, 1) := by decide +kernel
theorem dX9_few_83 : decode cX9_few 83 = .ok (.getfield 93, 3) := by decide +kernel
theorem dX9_few_86 : decode cX9_few 86 = .ok (.iload 4, 2) := by decide +kernel
theorem dX9_few_88 : decode cX9_few 88 = .ok (.laload, 1) := by decide +kernel
theorem dX9_few_89 : decode cX9_few 89 = .ok (.aload_n 0, 1) := by decide +kernel
theorem dX9_few_90 : decode cX9_few 90 = .ok (.getfield 28, 3) := by decide +kernel
theorem dX9_few_93 : decode cX9_few 93 = .ok (.bipush 101, 2) := by decide +kernel
theorem dX9_few_95 : decode cX9_few 95 = .ok (.iaload, 1) := by decide +kernel
theorem dX9_few_96 : decode cX9_few 96 = .ok (.i2l, 1) := by decide +kernel
theorem dX9_few_97 : decode cX9_few 97 = .ok (.lmul, 1) := by decide +kernel
theorem dX9_few_98 : decode cX9_few 98 = .ok (.ldc2_w 416, 3) := by decide +kernel
theorem dX9_few_101 : decode cX9_few 101 = .ok (.ldiv, 1) := by decide +kernel
theorem dX9_few_102 : decode cX9_few 102 = .ok (.ladd, 1) := by decide +kernel
theorem dX9_few_103 : decode cX9_few 103 = .ok (.lastore, 1) := by decide +kernel
theorem dX9_few_104 : decode cX9_few 104 = .ok (.aload_n 0, 1) := by decide +kernel
theorem dX9_few_105 : decode cX9_few 105 = .ok (.getfield 93, 3) := by decide +kernel
theorem dX9_few_108 : decode cX9_few 108 = .ok (.iload 4, 2) := by decide +kernel
theorem dX9_few_110 : decode cX9_few 110 = .ok (.aload_n 0, 1) := by decide +kernel
theorem dX9_few_111 : decode cX9_few 111 = .ok (.getfield 93, 3) := by decide +kernel
theorem dX9_few_114 : decode cX9_few 114 = .ok (.iload 4, 2) := by decide +kernel
theorem dX9_few_116 : decode cX9_few 116 = .ok (.laload, 1) := by decide +kernel
theorem dX9_few_117 : decode cX9_few 117 = .ok (.bipush 10, 2) := by decide +kernel
theorem dX9_few_119 : decode cX9_few 119 = .ok (.aload_n 0, 1) := by decide +kernel
theorem dX9_few_120 : decode cX9_few 120 = .ok (.getfield 28, 3) := by decide +kernel
theorem dX9_few_123 : decode cX9_few 123 = .ok (.bipush 101, 2) := by decide +kernel
theorem dX9_few_125 : decode cX9_few 125 = .ok (.iaload, 1) := by decide +kernel
theorem dX9_few_126 : decode cX9_few 126 = .ok (.isub, 1) := by decide +kernel
theorem dX9_few_127 : decode cX9_few 127 = .ok (.i2l, 1) := by decide +kernel
theorem dX9_few_128 : decode cX9_few 128 = .ok (.lmul, 1) := by decide +kernel
theorem dX9_few_129 : decode cX9_few 129 = .ok (.ldc2_w 416, 3) := by decide +kernel
theorem dX9_few_132 : decode cX9_few 132 = .ok (.ldiv, 1) := by decide +kernel
theorem dX9_few_133 : decode cX9_few 133 = .ok (.lastore, 1) := by decide +kernel
theorem dX9_few_134 : decode cX9_few 134 = .ok (.iinc 4 (-1), 3) := by decide +kernel
theorem dX9_few_137 : decode cX9_few 137 = .ok (.goto (-70), 3) := by decide +kernel
theorem dX9_few_140 : decode cX9_few 140 = .ok (.iinc 3 1, 3) := by decide +kernel
theorem dX9_few_143 : decode cX9_few 143 = .ok (.goto (-86), 3) := by decide +kernel
theorem dX9_few_146 : decode cX9_few 146 = .ok (.lconst 0, 1) := by decide +kernel
theorem dX9_few_147 : decode cX9_few 147 = .ok (.lstore_n 3, 1) := by decide +kernel
theorem dX9_few_148 : decode cX9_few 148 = .ok (.iconst 0, 1) := by decide +kernel
theorem dX9_few_149 : decode cX9_few 149 = .ok (.istore 5, 2) := by decide +kernel
theorem dX9_few_151 : decode cX9_few 151 = .ok (.iload 5, 2) := by decide +kernel
theorem dX9_few_153 : decode cX9_few 153 = .ok (.iload_n 1, 1) := by decide +kernel
theorem dX9_few_154 : decode cX9_few 154 = .ok (.if_icmp .ge 19, 3) := by decide +kernel
theorem dX9_few_157 : decode cX9_few 157 = .ok (.lload_n 3, 1) := by decide +kernel
theorem dX9_few_158 : decode cX9_few 158 = .ok (.aload_n 0, 1) := by decide +kernel
theorem dX9_few_159 : decode cX9_few 159 = .ok (.getfield 93, 3) := by decide +kernel
theorem dX9_few_162 : decode cX9_few 162 = .ok (.iload 5, 2) := by decide +kernel
theorem dX9_few_164 : decode cX9_few 164 = .ok (.laload, 1) := by decide +kernel
theorem dX9_few_165 : decode cX9_few 165 = .ok (.ladd, 1) := by decide +kernel
theorem dX9_few_166 : decode cX9_few 166 = .ok (.lstore_n 3, 1) := by decide +kernel
theorem dX9_few_167 : decode cX9_few 167 = .ok (.iinc 5 1, 3) := by decide +kernel
theorem dX9_few_170 : decode cX9_few 170 = .ok (.goto (-19), 3) := by decide +kernel
theorem dX9_few_173 : decode cX9_few 173 = .ok (.lload_n 3, 1) := by decide +kernel
theorem dX9_few_174 : decode cX9_few 174 = .ok (.lreturn, 1) := by decide +kernel
theorem dX9_stopped_0 : decode cX9_stopped 0 = .ok (.aload_n 0, 1) := by decide +kernel
theorem dX9_stopped_1 : decode cX9_stopped 1 = .ok (.getfield 97, 3) := by decide +kernel
theorem dX9_stopped_4 : decode cX9_stopped 4 = .ok (.ireturn, 1) := by decide +kernel
theorem dX9_orders_0 : decode cX9_orders 0 = .ok (.aload_n 0, 1) := by decide +kernel
theorem dX9_orders_1 : decode cX9_orders 1 = .ok (.iconst (-1), 1) := by decide +kernel
theorem dX9_orders_2 : decode cX9_orders 2 = .ok (.putfield 97, 3) := by decide +kernel
theorem dX9_orders_5 : decode cX9_orders 5 = .ok (.aload_n 0, 1) := by decide +kernel
theorem dX9_orders_6 : decode cX9_orders 6 = .ok (.iconst 1, 1) := by decide +kernel
theorem dX9_orders_7 : decode cX9_orders 7 = .ok (.invokevirtual 248, 3) := by decide +kernel
theorem dX9_orders_10 : decode cX9_orders 10 = .ok (.ifCond .ne 10, 3) := by decide +kernel
theorem dX9_orders_13 : decode cX9_orders 13 = .ok (.aload_n 0, 1) := by decide +kernel
theorem dX9_orders_14 : decode cX9_orders 14 = .ok (.bipush (-6), 2) := by decide +kernel
theorem dX9_orders_16 : decode cX9_orders 16 = .ok (.invokevirtual 109, 3) := by decide +kernel
theorem dX9_orders_19 : decode cX9_orders 19 = .ok (.ireturn, 1) := by decide +kernel
theorem dX9_orders_20 : decode cX9_orders 20 = .ok (.aload_n 0, 1) := by decide +kernel
theorem dX9_orders_21 : decode cX9_orders 21 = .ok (.iconst 1, 1) := by decide +kernel
theorem dX9_orders_22 : decode cX9_orders 22 = .ok (.invokevirtual 418, 3) := by decide +kernel
theorem dX9_orders_25 : decode cX9_orders 25 = .ok (.iconst 0, 1) := by decide +kernel
theorem dX9_orders_26 : decode cX9_orders 26 = .ok (.istore_n 1, 1) := by decide +kernel
theorem dX9_orders_27 : decode cX9_orders 27 = .ok (.iload_n 1, 1) := by decide +kernel
theorem dX9_orders_28 : decode cX9_orders 28 = .ok (.sipush 528, 3) := by decide +kernel
theorem dX9_orders_31 : decode cX9_orders 31 = .ok (.if_icmp .ge 21, 3) := by decide +kernel
theorem dX9_orders_34 : decode cX9_orders 34 = .ok (.aload_n 0, 1) := by decide +kernel
theorem dX9_orders_35 : decode cX9_orders 35 = .ok (.getfield 69, 3) := by decide +kernel
theorem dX9_orders_38 : decode cX9_orders 38 = .ok (.iload_n 1, 1) := by decide +kernel
theorem dX9_orders_39 : decode cX9_orders 39 = .ok (.aload_n 0, 1) := by decide +kernel
theorem dX9_orders_40 : decode cX9_orders 40 = .ok (.getfield 66, 3) := by decide +kernel
theorem dX9_orders_43 : decode cX9_orders 43 = .ok (.iload_n 1, 1) := by decide +kernel
theorem dX9_orders_44 : decode cX9_orders 44 = .ok (.iaload, 1) := by decide +kernel
theorem dX9_orders_45 : decode cX9_orders 45 = .ok (.iastore, 1) := by decide +kernel
theorem dX9_orders_46 : decode cX9_orders 46 = .ok (.iinc 1 1, 3) := by decide +kernel
theorem dX9_orders_49 : decode cX9_orders 49 = .ok (.goto (-22), 3) := by decide +kernel
theorem dX9_orders_52 : decode cX9_orders 52 = .ok (.aload_n 0, 1) := by decide +kernel
theorem dX9_orders_53 : decode cX9_orders 53 = .ok (.getfield 11, 3) := by decide +kernel
theorem dX9_orders_56 : decode cX9_orders 56 = .ok (.istore_n 1, 1) := by decide +kernel
theorem dX9_orders_57 : decode cX9_orders 57 = .ok (.aload_n 0, 1) := by decide +kernel
theorem dX9_orders_58 : decode cX9_orders 58 = .ok (.bipush 6, 2) := by decide +kernel
theorem dX9_orders_60 : decode cX9_orders 60 = .ok (.invokevirtual 252, 3) := by decide +kernel
theorem dX9_orders_63 : decode cX9_orders 63 = .ok (.aload_n 0, 1) := by decide +kernel
theorem dX9_orders_64 : decode cX9_orders 64 = .ok (.iconst 0, 1) := by decide +kernel
theorem dX9_orders_65 : decode cX9_orders 65 = .ok (.putfield 294, 3) := by decide +kernel
theorem dX9_orders_68 : decode cX9_orders 68 = .ok (.aload_n 0, 1) := by decide +kernel
theorem dX9_orders_69 : decode cX9_orders 69 = .ok (.iconst (-1), 1) := by decide +kernel
theorem dX9_orders_70 : decode cX9_orders 70 = .ok (.putfield 297, 3) := by decide +kernel
theorem dX9_orders_73 : decode cX9_orders 73 = .ok (.aload_n 0, 1) := by decide +kernel
theorem dX9_orders_74 : decode cX9_orders 74 = .ok (.sipush 2400, 3) := by decide +kernel
theorem dX9_orders_77 : decode cX9_orders 77 = .ok (.putfield 421, 3) := by decide +kernel
theorem dX9_orders_80 : decode cX9_orders 80 = .ok (.aload_n 0, 1) := by decide +kernel
theorem dX9_orders_81 : decode cX9_orders 81 = .ok (.getfield 421, 3) := by decide +kernel
theorem dX9_orders_84 : decode cX9_orders 84 = .ok (.aload_n 0, 1) := by decide +kernel
theorem dX9_orders_85 : decode cX9_orders 85 = .ok (.getfield 28, 3) := by decide +kernel
theorem dX9_orders_88 : decode cX9_orders 88 = .ok (.bipush 114, 2) := by decide +kernel
theorem dX9_orders_90 : decode cX9_orders 90 = .ok (.iaload, 1) := by decide +kernel
theorem dX9_orders_91 : decode cX9_orders 91 = .ok (.iadd, 1) := by decide +kernel
theorem dX9_orders_92 : decode cX9_orders 92 = .ok (.istore_n 2, 1) := by decide +kernel
theorem dX9_orders_93 : decode cX9_orders 93 = .ok (.iconst 0, 1) := by decide +kernel
theorem dX9_orders_94 : decode cX9_orders 94 = .ok (.istore_n 3, 1) := by decide +kernel
theorem dX9_orders_95 : decode cX9_orders 95 = .ok (.aload_n 0, 1) := by decide +kernel
theorem dX9_orders_96 : decode cX9_orders 96 = .ok (.getfield 421, 3) := by decide +kernel
theorem dX9_orders_99 : decode cX9_orders 99 = .ok (.iload_n 2, 1) := by decide +kernel
theorem dX9_orders_100 : decode cX9_orders 100 = .ok (.if_icmp .ge 73, 3) := by decide +kernel
theorem dX9_orders_103 : decode cX9_orders 103 = .ok (.aload_n 0, 1) := by decide +kernel
theorem dX9_orders_104 : decode cX9_orders 104 = .ok (.iload_n 2, 1) := by decide +kernel
theorem dX9_orders_105 : decode cX9_orders 105 = .ok (.invokevirtual 424, 3) := by decide +kernel
theorem dX9_orders_108 : decode cX9_orders 108 = .ok (.ifCond .eq 6, 3) := by decide +kernel
theorem dX9_orders_111 : decode cX9_orders 111 = .ok (.goto 56, 3) := by decide +kernel
theorem dX9_orders_114 : decode cX9_orders 114 = .ok (.aload_n 0, 1) := by decide +kernel
theorem dX9_orders_115 : decode cX9_orders 115 = .ok (.iconst 1, 1) := by decide +kernel
theorem dX9_orders_116 : decode cX9_orders 116 = .ok (.invokevirtual 427, 3) := by decide +kernel
theorem dX9_orders_119 : decode cX9_orders 119 = .ok (.iconst 0, 1) := by decide +kernel
theorem dX9_orders_120 : decode cX9_orders 120 = .ok (.istore 4, 2) := by decide +kernel
theorem dX9_orders_122 : decode cX9_orders 122 = .ok (.iload 4, 2) := by decide +kernel
theorem dX9_orders_124 : decode cX9_orders 124 = .ok (.sipush 528, 3) := by decide +kernel
theorem dX9_orders_127 : decode cX9_orders 127 = .ok (.if_icmp .ge 23, 3) := by decide +kernel
theorem dX9_orders_130 : decode cX9_orders 130 = .ok (.aload_n 0, 1) := by decide +kernel
theorem dX9_orders_131 : decode cX9_orders 131 = .ok (.getfield 66, 3) := by decide +kernel
theorem dX9_orders_134 : decode cX9_orders 134 = .ok (.iload 4, 2) := by decide +kernel
theorem dX9_orders_136 : decode cX9_orders 136 = .ok (.aload_n 0, 1) := by decide +kernel
theorem dX9_orders_137 : decode cX9_orders 137 = .ok (.getfield 69, 3) := by decide +kernel
theorem dX9_orders_140 : decode cX9_orders 140 = .ok (.iload 4, 2) := by decide +kernel
theorem dX9_orders_142 : decode cX9_orders 142 = .ok (.iaload, 1) := by decide +kernel
theorem dX9_orders_143 : decode cX9_orders 143 = .ok (.iastore, 1) := by decide +kernel
theorem dX9_orders_144 : decode cX9_orders 144 = .ok (.iinc 4 1, 3) := by decide +kernel
theorem dX9_orders_147 : decode cX9_orders 147 = .ok (.goto (-25), 3) := by decide +kernel
theorem dX9_orders_150 : decode cX9_orders 150 = .ok (.aload_n 0, 1) := by decide +kernel
theorem dX9_orders_151 : decode cX9_orders 151 = .ok (.iload_n 1, 1) := by decide +kernel
theorem dX9_orders_152 : decode cX9_orders 152 = .ok (.putfield 11, 3) := by decide +kernel
theorem dX9_orders_155 : decode cX9_orders 155 = .ok (.aload_n 0, 1) := by decide +kernel
theorem dX9_orders_156 : decode cX9_orders 156 = .ok (.iload_n 3, 1) := by decide +kernel
theorem dX9_orders_157 : decode cX9_orders 157 = .ok (.putfield 97, 3) := by decide +kernel
theorem dX9_orders_160 : decode cX9_orders 160 = .ok (.aload_n 0, 1) := by decide +kernel
theorem dX9_orders_161 : decode cX9_orders 161 = .ok (.bipush (-3), 2) := by decide +kernel
theorem dX9_orders_163 : decode cX9_orders 163 = .ok (.invokevirtual 109, 3) := by decide +kernel
theorem dX9_orders_166 : decode cX9_orders 166 = .ok (.ireturn, 1) := by decide +kernel
theorem dX9_orders_167 : decode cX9_orders 167 = .ok (.iinc 3 1, 3) := by decide +kernel
theorem dX9_orders_170 : decode cX9_orders 170 = .ok (.goto (-75), 3) := by decide +kernel
theorem dX9_orders_173 : decode cX9_orders 173 = .ok (.aload_n 0, 1) := by decide +kernel
theorem dX9_orders_174 : decode cX9_orders 174 = .ok (.aload_n 0, 1) := by decide +kernel
theorem dX9_orders_175 : decode cX9_orders 175 = .ok (.getfield 294, 3) := by decide +kernel
theorem dX9_orders_178 : decode cX9_orders 178 = .ok (.invokevirtual 14, 3) := by decide +kernel
theorem dX9_orders_181 : decode cX9_orders 181 = .ok (.ireturn, 1) := by decide +kernel
theorem dX9_goesAlong_0 : decode cX9_goesAlong 0 = .ok (.aload_n 0, 1) := by decide +kernel
theorem dX9_goesAlong_1 : decode cX9_goesAlong 1 = .ok (.iconst 1, 1) := by decide +kernel
theorem dX9_goesAlong_2 : decode cX9_goesAlong 2 = .ok (.putfield 288, 3) := by decide +kernel
theorem dX9_goesAlong_5 : decode cX9_goesAlong 5 = .ok (.aload_n 0, 1) := by decide +kernel
theorem dX9_goesAlong_6 : decode cX9_goesAlong 6 = .ok (.iload_n 1, 1) := by decide +kernel
theorem dX9_goesAlong_7 : decode cX9_goesAlong 7 = .ok (.putfield 255, 3) := by decide +kernel
theorem dX9_goesAlong_10 : decode cX9_goesAlong 10 = .ok (.aload_n 0, 1) := by decide +kernel
theorem dX9_goesAlong_11 : decode cX9_goesAlong 11 = .ok (.aload_n 0, 1) := by decide +kernel
theorem dX9_goesAlong_12 : decode cX9_goesAlong 12 = .ok (.getfield 421, 3) := by decide +kernel
theorem dX9_goesAlong_15 : decode cX9_goesAlong 15 = .ok (.putfield 258, 3) := by decide +kernel
theorem dX9_goesAlong_18 : decode cX9_goesAlong 18 = .ok (.aload_n 0, 1) := by decide +kernel
theorem dX9_goesAlong_19 : decode cX9_goesAlong 19 = .ok (.aload_n 0, 1) := by decide +kernel
theorem dX9_goesAlong_20 : decode cX9_goesAlong 20 = .ok (.aload_n 0, 1) := by decide +kernel
theorem dX9_goesAlong_21 : decode cX9_goesAlong 21 = .ok (.getfield 258, 3) := by decide +kernel
theorem dX9_goesAlong_24 : decode cX9_goesAlong 24 = .ok (.invokevirtual 261, 3) := by decide +kernel
theorem dX9_goesAlong_27 : decode cX9_goesAlong 27 = .ok (.putfield 430, 3) := by decide +kernel
theorem dX9_goesAlong_30 : decode cX9_goesAlong 30 = .ok (.aload_n 0, 1) := by decide +kernel
theorem dX9_goesAlong_31 : decode cX9_goesAlong 31 = .ok (.dup, 1) := by decide +kernel
theorem dX9_goesAlong_32 : decode cX9_goesAlong 32 = .ok (.getfield 258, 3) := by decide +kernel
theorem dX9_goesAlong_35 : decode cX9_goesAlong 35 = .ok (.iconst 1, 1) := by decide +kernel
theorem dX9_goesAlong_36 : decode cX9_goesAlong 36 = .ok (.iadd, 1) := by decide +kernel
theorem dX9_goesAlong_37 : decode cX9_goesAlong 37 = .ok (.putfield 258, 3) := by decide +kernel
theorem dX9_goesAlong_40 : decode cX9_goesAlong 40 = .ok (.aload_n 0, 1) := by decide +kernel
theorem dX9_goesAlong_41 : decode cX9_goesAlong 41 = .ok (.iconst 1, 1) := by decide +kernel
theorem dX9_goesAlong_42 : decode cX9_goesAlong 42 = .ok (.putfield 433, 3) := by decide +kernel
theorem dX9_goesAlong_45 : decode cX9_goesAlong 45 = .ok (.aload_n 0, 1) := by decide +kernel
theorem dX9_goesAlong_46 : decode cX9_goesAlong 46 = .ok (.getfield 430, 3) := by decide +kernel
theorem dX9_goesAlong_49 : decode cX9_goesAlong 49 = .ok (.bipush 28, 2) := by decide +kernel
theorem dX9_goesAlong_51 : decode cX9_goesAlong 51 = .ok (.if_icmp .ne 7, 3) := by decide +kernel
theorem dX9_goesAlong_54 : decode cX9_goesAlong 54 = .ok (.iconst 0, 1) := by decide +kernel
theorem dX9_goesAlong_55 : decode cX9_goesAlong 55 = .ok (.goto 30, 3) := by decide +kernel
theorem dX9_goesAlong_58 : decode cX9_goesAlong 58 = .ok (.aload_n 0, 1) := by decide +kernel
theorem dX9_goesAlong_59 : decode cX9_goesAlong 59 = .ok (.getfield 430, 3) := by decide +kernel
theorem dX9_goesAlong_62 : decode cX9_goesAlong 62 = .ok (.bipush 27, 2) := by decide +kernel
theorem dX9_goesAlong_64 : decode cX9_goesAlong 64 = .ok (.if_icmp .ne 7, 3) := by decide +kernel
theorem dX9_goesAlong_67 : decode cX9_goesAlong 67 = .ok (.iconst 1, 1) := by decide +kernel
theorem dX9_goesAlong_68 : decode cX9_goesAlong 68 = .ok (.goto 17, 3) := by decide +kernel
theorem dX9_goesAlong_71 : decode cX9_goesAlong 71 = .ok (.aload_n 0, 1) := by decide +kernel
theorem dX9_goesAlong_72 : decode cX9_goesAlong 72 = .ok (.getfield 430, 3) := by decide +kernel
theorem dX9_goesAlong_75 : decode cX9_goesAlong 75 = .ok (.bipush 22, 2) := by decide +kernel
theorem dX9_goesAlong_77 : decode cX9_goesAlong 77 = .ok (.if_icmp .ne 7, 3) := by decide +kernel
theorem dX9_goesAlong_80 : decode cX9_goesAlong 80 = .ok (.iconst 2, 1) := by decide +kernel
theorem dX9_goesAlong_81 : decode cX9_goesAlong 81 = .ok (.goto 4, 3) := by decide +kernel
theorem dX9_goesAlong_84 : decode cX9_goesAlong 84 = .ok (.iconst 3, 1) := by decide +kernel
theorem dX9_goesAlong_85 : decode cX9_goesAlong 85 = .ok (.istore_n 3, 1) := by decide +kernel
theorem dX9_goesAlong_86 : decode cX9_goesAlong 86 = .ok (.iconst 0, 1) := by decide +kernel
theorem dX9_goesAlong_87 : decode cX9_goesAlong 87 = .ok (.istore 4, 2) := by decide +kernel
theorem dX9_goesAlong_89 : decode cX9_goesAlong 89 = .ok (.iload 4, 2) := by decide +kernel
theorem dX9_goesAlong_91 : decode cX9_goesAlong 91 = .ok (.iload_n 3, 1) := by decide +kernel
theorem dX9_goesAlong_92 : decode cX9_goesAlong 92 = .ok (.if_icmp .ge 64, 3) := by decide +kernel
theorem dX9_goesAlong_95 : decode cX9_goesAlong 95 = .ok (.iload 4, 2) := by decide +kernel
theorem dX9_goesAlong_97 : decode cX9_goesAlong 97 = .ok (.ifCond .le 13, 3) := by decide +kernel
theorem dX9_goesAlong_100 : decode cX9_goesAlong 100 = .ok (.aload_n 0, 1) := by decide +kernel
theorem dX9_goesAlong_101 : decode cX9_goesAlong 101 = .ok (.dup, 1) := by decide +kernel
theorem dX9_goesAlong_102 : decode cX9_goesAlong 102 = .ok (.getfield 258, 3) := by decide +kernel
theorem dX9_goesAlong_105 : decode cX9_goesAlong 105 = .ok (.iconst 1, 1) := by decide +kernel
theorem dX9_goesAlong_106 : decode cX9_goesAlong 106 = .ok (.iadd, 1) := by decide +kernel
theorem dX9_goesAlong_107 : decode cX9_goesAlong 107 = .ok (.putfield 258, 3) := by decide +kernel
theorem dX9_goesAlong_110 : decode cX9_goesAlong 110 = .ok (.aload_n 0, 1) := by decide +kernel
theorem dX9_goesAlong_111 : decode cX9_goesAlong 111 = .ok (.iconst 0, 1) := by decide +kernel
theorem dX9_goesAlong_112 : decode cX9_goesAlong 112 = .ok (.putfield 268, 3) := by decide +kernel
theorem dX9_goesAlong_115 : decode cX9_goesAlong 115 = .ok (.aload_n 0, 1) := by decide +kernel
theorem dX9_goesAlong_116 : decode cX9_goesAlong 116 = .ok (.getfield 100, 3) := by decide +kernel
theorem dX9_goesAlong_119 : decode cX9_goesAlong 119 = .ok (.iload 4, 2) := by decide +kernel
theorem dX9_goesAlong_121 : decode cX9_goesAlong 121 = .ok (.aload_n 0, 1) := by decide +kernel
theorem dX9_goesAlong_122 : decode cX9_goesAlong 122 = .ok (.iload_n 2, 1) := by decide +kernel
theorem dX9_goesAlong_123 : decode cX9_goesAlong 123 = .ok (.invokevirtual 285, 3) := by decide +kernel
theorem dX9_goesAlong_126 : decode cX9_goesAlong 126 = .ok (.lastore, 1) := by decide +kernel
theorem dX9_goesAlong_127 : decode cX9_goesAlong 127 = .ok (.aload_n 0, 1) := by decide +kernel
theorem dX9_goesAlong_128 : decode cX9_goesAlong 128 = .ok (.aload_n 0, 1) := by decide +kernel
theorem dX9_goesAlong_129 : decode cX9_goesAlong 129 = .ok (.getfield 433, 3) := by decide +kernel
theorem dX9_goesAlong_132 : decode cX9_goesAlong 132 = .ok (.ifCond .eq 14, 3) := by decide +kernel
theorem dX9_goesAlong_135 : decode cX9_goesAlong 135 = .ok (.aload_n 0, 1) := by decide +kernel
theorem dX9_goesAlong_136 : decode cX9_goesAlong 136 = .ok (.getfield 268, 3) := by decide +kernel
theorem dX9_goesAlong_139 : decode cX9_goesAlong 139 = .ok (.ifCond .ne 7, 3) := by decide +kernel
theorem dX9_goesAlong_142 : decode cX9_goesAlong 142 = .ok (.iconst 1, 1) := by decide +kernel
theorem dX9_goesAlong_143 : decode cX9_goesAlong 143 = .ok (.goto 4, 3) := by decide +kernel
theorem dX9_goesAlong_146 : decode cX9_goesAlong 146 = .ok (.iconst 0, 1) := by decide +kernel
theorem dX9_goesAlong_147 : decode cX9_goesAlong 147 = .ok (.putfield 433, 3) := by decide +kernel
theorem dX9_goesAlong_150 : decode cX9_goesAlong 150 = .ok (.iinc 4 1, 3) := by decide +kernel
theorem dX9_goesAlong_153 : decode cX9_goesAlong 153 = .ok (.goto (-64), 3) := by decide +kernel
theorem dX9_goesAlong_156 : decode cX9_goesAlong 156 = .ok (.aload_n 0, 1) := by decide +kernel
theorem dX9_goesAlong_157 : decode cX9_goesAlong 157 = .ok (.iconst 1, 1) := by decide +kernel
theorem dX9_goesAlong_158 : decode cX9_goesAlong 158 = .ok (.putfield 436, 3) := by decide +kernel
theorem dX9_goesAlong_161 : decode cX9_goesAlong 161 = .ok (.aload_n 0, 1) := by decide +kernel
theorem dX9_goesAlong_162 : decode cX9_goesAlong 162 = .ok (.bipush 29, 2) := by decide +kernel
theorem dX9_goesAlong_164 : decode cX9_goesAlong 164 = .ok (.invokevirtual 282, 3) := by decide +kernel
theorem dX9_goesAlong_167 : decode cX9_goesAlong 167 = .ok (.ifCond .eq 30, 3) := by decide +kernel
theorem dX9_goesAlong_170 : decode cX9_goesAlong 170 = .ok (.aload_n 0, 1) := by decide +kernel
theorem dX9_goesAlong_171 : decode cX9_goesAlong 171 = .ok (.aload_n 0, 1) := by decide +kernel
theorem dX9_goesAlong_172 : decode cX9_goesAlong 172 = .ok (.getfield 28, 3) := by decide +kernel
theorem dX9_goesAlong_175 : decode cX9_goesAlong 175 = .ok (.sipush 2915, 3) := by decide +kernel
theorem dX9_goesAlong_178 : decode cX9_goesAlong 178 = .ok (.aload_n 0, 1) := by decide +kernel
theorem dX9_goesAlong_179 : decode cX9_goesAlong 179 = .ok (.getfield 258, 3) := by decide +kernel
theorem dX9_goesAlong_182 : decode cX9_goesAlong 182 = .ok (.iadd, 1) := by decide +kernel
theorem dX9_goesAlong_183 : decode cX9_goesAlong 183 = .ok (.iaload, 1) := by decide +kernel
theorem dX9_goesAlong_184 : decode cX9_goesAlong 184 = .ok (.putfield 436, 3) := by decide +kernel
theorem dX9_goesAlong_187 : decode cX9_goesAlong 187 = .ok (.aload_n 0, 1) := by decide +kernel
theorem dX9_goesAlong_188 : decode cX9_goesAlong 188 = .ok (.dup, 1) := by decide +kernel
theorem dX9_goesAlong_189 : decode cX9_goesAlong 189 = .ok (.getfield 258, 3) := by decide +kernel
theorem dX9_goesAlong_192 : decode cX9_goesAlong 192 = .ok (.iconst 1, 1) := by decide +kernel
theorem dX9_goesAlong_193 : decode cX9_goesAlong 193 = .ok (.iadd, 1) := by decide +kernel
theorem dX9_goesAlong_194 : decode cX9_goesAlong 194 = .ok (.putfield 258, 3) := by decide +kernel
theorem dX9_goesAlong_197 : decode cX9_goesAlong 197 = .ok (.aload_n 0, 1) := by decide +kernel
theorem dX9_goesAlong_198 : decode cX9_goesAlong 198 = .ok (.iconst 0, 1) := by decide +kernel
theorem dX9_goesAlong_199 : decode cX9_goesAlong 199 = .ok (.putfield 268, 3) := by decide +kernel
theorem dX9_goesAlong_202 : decode cX9_goesAlong 202 = .ok (.aload_n 0, 1) := by decide +kernel
theorem dX9_goesAlong_203 : decode cX9_goesAlong 203 = .ok (.aload_n 0, 1) := by decide +kernel
theorem dX9_goesAlong_204 : decode cX9_goesAlong 204 = .ok (.iconst 5, 1) := by decide +kernel
theorem dX9_goesAlong_205 : decode cX9_goesAlong 205 = .ok (.invokevirtual 282, 3) := by decide +kernel
theorem dX9_goesAlong_208 : decode cX9_goesAlong 208 = .ok (.ifCond .eq 11, 3) := by decide +kernel
theorem dX9_goesAlong_211 : decode cX9_goesAlong 211 = .ok (.aload_n 0, 1) := by decide +kernel
theorem dX9_goesAlong_212 : decode cX9_goesAlong 212 = .ok (.iload_n 2, 1) := by decide +kernel
theorem dX9_goesAlong_213 : decode cX9_goesAlong 213 = .ok (.invokevirtual 309, 3) := by decide +kernel
theorem dX9_goesAlong_216 : decode cX9_goesAlong 216 = .ok (.ifCond .eq 7, 3) := by decide +kernel
theorem dX9_goesAlong_219 : decode cX9_goesAlong 219 = .ok (.iconst 1, 1) := by decide +kernel
theorem dX9_goesAlong_220 : decode cX9_goesAlong 220 = .ok (.goto 4, 3) := by decide +kernel
theorem dX9_goesAlong_223 : decode cX9_goesAlong 223 = .ok (.iconst 0, 1) := by decide +kernel
theorem dX9_goesAlong_224 : decode cX9_goesAlong 224 = .ok (.putfield 439, 3) := by decide +kernel
theorem dX9_goesAlong_227 : decode cX9_goesAlong 227 = .ok (.aload_n 0, 1) := by decide +kernel
theorem dX9_goesAlong_228 : decode cX9_goesAlong 228 = .ok (.aload_n 0, 1) := by decide +kernel
theorem dX9_goesAlong_229 : decode cX9_goesAlong 229 = .ok (.getfield 439, 3) := by decide +kernel
theorem dX9_goesAlong_232 : decode cX9_goesAlong 232 = .ok (.ifCond .eq 14, 3) := by decide +kernel
theorem dX9_goesAlong_235 : decode cX9_goesAlong 235 = .ok (.aload_n 0, 1) := by decide +kernel
theorem dX9_goesAlong_236 : decode cX9_goesAlong 236 = .ok (.getfield 268, 3) := by decide +kernel
theorem dX9_goesAlong_239 : decode cX9_goesAlong 239 = .ok (.ifCond .ne 7, 3) := by decide +kernel
theorem dX9_goesAlong_242 : decode cX9_goesAlong 242 = .ok (.iconst 1, 1) := by decide +kernel
theorem dX9_goesAlong_243 : decode cX9_goesAlong 243 = .ok (.goto 4, 3) := by decide +kernel
theorem dX9_goesAlong_246 : decode cX9_goesAlong 246 = .ok (.iconst 0, 1) := by decide +kernel
theorem dX9_goesAlong_247 : decode cX9_goesAlong 247 = .ok (.putfield 439, 3) := by decide +kernel
theorem dX9_goesAlong_250 : decode cX9_goesAlong 250 = .ok (.aload_n 0, 1) := by decide +kernel
theorem dX9_goesAlong_251 : decode cX9_goesAlong 251 = .ok (.dup, 1) := by decide +kernel
theorem dX9_goesAlong_252 : decode cX9_goesAlong 252 = .ok (.getfield 258, 3) := by decide +kernel
theorem dX9_goesAlong_255 : decode cX9_goesAlong 255 = .ok (.iconst 1, 1) := by decide +kernel
theorem dX9_goesAlong_256 : decode cX9_goesAlong 256 = .ok (.iadd, 1) := by decide +kernel
theorem dX9_goesAlong_257 : decode cX9_goesAlong 257 = .ok (.putfield 258, 3) := by decide +kernel
theorem dX9_goesAlong_260 : decode cX9_goesAlong 260 = .ok (.return_, 1) := by decide +kernel
theorem dX9_small_0 : decode cX9_small 0 = .ok (.lload_n 0, 1) := by decide +kernel
theorem dX9_small_1 : decode cX9_small 1 = .ok (.lconst 0, 1) := by decide +kernel
theorem dX9_small_2 : decode cX9_small 2 = .ok (.lcmp, 1) := by decide +kernel
theorem dX9_small_3 : decode cX9_small 3 = .ok (.ifCond .lt 11, 3) := by decide +kernel
theorem dX9_small_6 : decode cX9_small 6 = .ok (.lload_n 0, 1) := by decide +kernel
theorem dX9_small_7 : decode cX9_small 7 = .ok (.ldc2_w 442, 3) := by decide +kernel
theorem dX9_small_10 : decode cX9_small 10 = .ok (.lcmp, 1) := by decide +kernel
theorem dX9_small_11 : decode cX9_small 11 = .ok (.ifCond .le 7, 3) := by decide +kernel
theorem dX9_small_14 : decode cX9_small 14 = .ok (.iconst (-1), 1) := by decide +kernel
theorem dX9_small_15 : decode cX9_small 15 = .ok (.goto 5, 3) := by decide +kernel
theorem dX9_small_18 : decode cX9_small 18 = .ok (.lload_n 0, 1) := by decide +kernel
theorem dX9_small_19 : decode cX9_small 19 = .ok (.l2i, 1) := by decide +kernel
theorem dX9_small_20 : decode cX9_small 20 = .ok (.ireturn, 1) := by decide +kernel
theorem dX9_obeys_0 : decode cX9_obeys 0 = .ok (.aload_n 0, 1) := by decide +kernel
theorem dX9_obeys_1 : decode cX9_obeys 1 = .ok (.getfield 100, 3) := by decide +kernel
theorem dX9_obeys_4 : decode cX9_obeys 4 = .ok (.iconst 0, 1) := by decide +kernel
theorem dX9_obeys_5 : decode cX9_obeys 5 = .ok (.laload, 1) := by decide +kernel
theorem dX9_obeys_6 : decode cX9_obeys 6 = .ok (.invokestatic 444, 3) := by decide +kernel
theorem dX9_obeys_9 : decode cX9_obeys 9 = .ok (.istore_n 1, 1) := by decide +kernel
theorem dX9_obeys_10 : decode cX9_obeys 10 = .ok (.aload_n 0, 1) := by decide +kernel
theorem dX9_obeys_11 : decode cX9_obeys 11 = .ok (.getfield 100, 3) := by decide +kernel
theorem dX9_obeys_14 : decode cX9_obeys 14 = .ok (.iconst 1, 1) := by decide +kernel
theorem dX9_obeys_15 : decode cX9_obeys 15 = .ok (.laload, 1) := by decide +kernel
theorem dX9_obeys_16 : decode cX9_obeys 16 = .ok (.invokestatic 444, 3) := by decide +kernel
theorem dX9_obeys_19 : decode cX9_obeys 19 = .ok (.istore_n 2, 1) := by decide +kernel
theorem dX9_obeys_20 : decode cX9_obeys 20 = .ok (.aload_n 0, 1) := by decide +kernel
theorem dX9_obeys_21 : decode cX9_obeys 21 = .ok (.getfield 430, 3) := by decide +kernel
theorem dX9_obeys_24 : decode cX9_obeys 24 = .ok (.tableswitch 63 24 28 #[36, 63, 63, 52, 58], 36) := by decide +kernel
theorem dX9_obeys_60 : decode cX9_obeys 60 = .ok (.aload_n 0, 1) := by decide +kernel
theorem dX9_obeys_61 : decode cX9_obeys 61 = .ok (.iload_n 1, 1) := by decide +kernel
theorem dX9_obeys_62 : decode cX9_obeys 62 = .ok (.iload_n 2, 1) := by decide +kernel
theorem dX9_obeys_63 : decode cX9_obeys 63 = .ok (.aload_n 0, 1) := by decide +kernel
theorem dX9_obeys_64 : decode cX9_obeys 64 = .ok (.getfield 100, 3) := by decide +kernel
theorem dX9_obeys_67 : decode cX9_obeys 67 = .ok (.iconst 2, 1) := by decide +kernel
theorem dX9_obeys_68 : decode cX9_obeys 68 = .ok (.laload, 1) := by decide +kernel
theorem dX9_obeys_69 : decode cX9_obeys 69 = .ok (.invokestatic 444, 3) := by decide +kernel
theorem dX9_obeys_72 : decode cX9_obeys 72 = .ok (.invokevirtual 338, 3) := by decide +kernel
theorem dX9_obeys_75 : decode cX9_obeys 75 = .ok (.ireturn, 1) := by decide +kernel
theorem dX9_obeys_76 : decode cX9_obeys 76 = .ok (.aload_n 0, 1) := by decide +kernel
theorem dX9_obeys_77 : decode cX9_obeys 77 = .ok (.iload_n 1, 1) := by decide +kernel
theorem dX9_obeys_78 : decode cX9_obeys 78 = .ok (.invokevirtual 342, 3) := by decide +kernel
theorem dX9_obeys_81 : decode cX9_obeys 81 = .ok (.ireturn, 1) := by decide +kernel
theorem dX9_obeys_82 : decode cX9_obeys 82 = .ok (.aload_n 0, 1) := by decide +kernel
theorem dX9_obeys_83 : decode cX9_obeys 83 = .ok (.invokevirtual 345, 3) := by decide +kernel
theorem dX9_obeys_86 : decode cX9_obeys 86 = .ok (.ireturn, 1) := by decide +kernel
theorem dX9_obeys_87 : decode cX9_obeys 87 = .ok (.aload_n 0, 1) := by decide +kernel
theorem dX9_obeys_88 : decode cX9_obeys 88 = .ok (.iload_n 1, 1) := by decide +kernel
theorem dX9_obeys_89 : decode cX9_obeys 89 = .ok (.iload_n 2, 1) := by decide +kernel
theorem dX9_obeys_90 : decode cX9_obeys 90 = .ok (.invokevirtual 332, 3) := by decide +kernel
theorem dX9_obeys_93 : decode cX9_obeys 93 = .ok (.istore_n 3, 1) := by decide +kernel
theorem dX9_obeys_94 : decode cX9_obeys 94 = .ok (.aload_n 0, 1) := by decide +kernel
theorem dX9_obeys_95 : decode cX9_obeys 95 = .ok (.iload_n 3, 1) := by decide +kernel
theorem dX9_obeys_96 : decode cX9_obeys 96 = .ok (.ifCond .ge 10, 3) := by decide +kernel
theorem dX9_obeys_99 : decode cX9_obeys 99 = .ok (.aload_n 0, 1) := by decide +kernel
theorem dX9_obeys_100 : decode cX9_obeys 100 = .ok (.getfield 297, 3) := by decide +kernel
theorem dX9_obeys_103 : decode cX9_obeys 103 = .ok (.goto 4, 3) := by decide +kernel
theorem dX9_obeys_106 : decode cX9_obeys 106 = .ok (.iload_n 3, 1) := by decide +kernel
theorem dX9_obeys_107 : decode cX9_obeys 107 = .ok (.putfield 297, 3) := by decide +kernel
theorem dX9_obeys_110 : decode cX9_obeys 110 = .ok (.iload_n 3, 1) := by decide +kernel
theorem dX9_obeys_111 : decode cX9_obeys 111 = .ok (.ireturn, 1) := by decide +kernel
theorem dX9_runs_0 : decode cX9_runs 0 = .ok (.aload_n 0, 1) := by decide +kernel
theorem dX9_runs_1 : decode cX9_runs 1 = .ok (.iload_n 1, 1) := by decide +kernel
theorem dX9_runs_2 : decode cX9_runs 2 = .ok (.iconst 0, 1) := by decide +kernel
theorem dX9_runs_3 : decode cX9_runs 3 = .ok (.invokevirtual 448, 3) := by decide +kernel
theorem dX9_runs_6 : decode cX9_runs 6 = .ok (.aload_n 0, 1) := by decide +kernel
theorem dX9_runs_7 : decode cX9_runs 7 = .ok (.getfield 436, 3) := by decide +kernel
theorem dX9_runs_10 : decode cX9_runs 10 = .ok (.istore_n 2, 1) := by decide +kernel
theorem dX9_runs_11 : decode cX9_runs 11 = .ok (.aload_n 0, 1) := by decide +kernel
theorem dX9_runs_12 : decode cX9_runs 12 = .ok (.getfield 258, 3) := by decide +kernel
theorem dX9_runs_15 : decode cX9_runs 15 = .ok (.istore_n 3, 1) := by decide +kernel
theorem dX9_runs_16 : decode cX9_runs 16 = .ok (.iconst 0, 1) := by decide +kernel
theorem dX9_runs_17 : decode cX9_runs 17 = .ok (.istore 4, 2) := by decide +kernel
theorem dX9_runs_19 : decode cX9_runs 19 = .ok (.iload 4, 2) := by decide +kernel
theorem dX9_runs_21 : decode cX9_runs 21 = .ok (.iload_n 2, 1) := by decide +kernel
theorem dX9_runs_22 : decode cX9_runs 22 = .ok (.if_icmp .ge 51, 3) := by decide +kernel
theorem dX9_runs_25 : decode cX9_runs 25 = .ok (.aload_n 0, 1) := by decide +kernel
theorem dX9_runs_26 : decode cX9_runs 26 = .ok (.iload_n 1, 1) := by decide +kernel
theorem dX9_runs_27 : decode cX9_runs 27 = .ok (.iconst 1, 1) := by decide +kernel
theorem dX9_runs_28 : decode cX9_runs 28 = .ok (.invokevirtual 448, 3) := by decide +kernel
theorem dX9_runs_31 : decode cX9_runs 31 = .ok (.aload_n 0, 1) := by decide +kernel
theorem dX9_runs_32 : decode cX9_runs 32 = .ok (.getfield 439, 3) := by decide +kernel
theorem dX9_runs_35 : decode cX9_runs 35 = .ok (.ifCond .ne 6, 3) := by decide +kernel
theorem dX9_runs_38 : decode cX9_runs 38 = .ok (.goto 29, 3) := by decide +kernel
theorem dX9_runs_41 : decode cX9_runs 41 = .ok (.aload_n 0, 1) := by decide +kernel
theorem dX9_runs_42 : decode cX9_runs 42 = .ok (.getfield 433, 3) := by decide +kernel
theorem dX9_runs_45 : decode cX9_runs 45 = .ok (.ifCond .eq 10, 3) := by decide +kernel
theorem dX9_runs_48 : decode cX9_runs 48 = .ok (.aload_n 0, 1) := by decide +kernel
theorem dX9_runs_49 : decode cX9_runs 49 = .ok (.invokevirtual 452, 3) := by decide +kernel
theorem dX9_runs_52 : decode cX9_runs 52 = .ok (.ifCond .ge 5, 3) := by decide +kernel
theorem dX9_runs_55 : decode cX9_runs 55 = .ok (.iconst 0, 1) := by decide +kernel
theorem dX9_runs_56 : decode cX9_runs 56 = .ok (.ireturn, 1) := by decide +kernel
theorem dX9_runs_57 : decode cX9_runs 57 = .ok (.aload_n 0, 1) := by decide +kernel
theorem dX9_runs_58 : decode cX9_runs 58 = .ok (.dup, 1) := by decide +kernel
theorem dX9_runs_59 : decode cX9_runs 59 = .ok (.getfield 294, 3) := by decide +kernel
theorem dX9_runs_62 : decode cX9_runs 62 = .ok (.iconst 1, 1) := by decide +kernel
theorem dX9_runs_63 : decode cX9_runs 63 = .ok (.iadd, 1) := by decide +kernel
theorem dX9_runs_64 : decode cX9_runs 64 = .ok (.putfield 294, 3) := by decide +kernel
theorem dX9_runs_67 : decode cX9_runs 67 = .ok (.iinc 4 1, 3) := by decide +kernel
theorem dX9_runs_70 : decode cX9_runs 70 = .ok (.goto (-51), 3) := by decide +kernel
theorem dX9_runs_73 : decode cX9_runs 73 = .ok (.aload_n 0, 1) := by decide +kernel
theorem dX9_runs_74 : decode cX9_runs 74 = .ok (.iload_n 3, 1) := by decide +kernel
theorem dX9_runs_75 : decode cX9_runs 75 = .ok (.putfield 421, 3) := by decide +kernel
theorem dX9_runs_78 : decode cX9_runs 78 = .ok (.iconst 1, 1) := by decide +kernel
theorem dX9_runs_79 : decode cX9_runs 79 = .ok (.ireturn, 1) := by decide +kernel
theorem dX9_draws_0 : decode cX9_draws 0 = .ok (.aload_n 0, 1) := by decide +kernel
theorem dX9_draws_1 : decode cX9_draws 1 = .ok (.ldc2_w 455, 3) := by decide +kernel
theorem dX9_draws_4 : decode cX9_draws 4 = .ok (.aload_n 0, 1) := by decide +kernel
theorem dX9_draws_5 : decode cX9_draws 5 = .ok (.getfield 457, 3) := by decide +kernel
theorem dX9_draws_8 : decode cX9_draws 8 = .ok (.i2l, 1) := by decide +kernel
theorem dX9_draws_9 : decode cX9_draws 9 = .ok (.lmul, 1) := by decide +kernel
theorem dX9_draws_10 : decode cX9_draws 10 = .ok (.ldc2_w 460, 3) := by decide +kernel
theorem dX9_draws_13 : decode cX9_draws 13 = .ok (.ladd, 1) := by decide +kernel
theorem dX9_draws_14 : decode cX9_draws 14 = .ok (.ldc2_w 462, 3) := by decide +kernel
theorem dX9_draws_17 : decode cX9_draws 17 = .ok (.lrem, 1) := by decide +kernel
theorem dX9_draws_18 : decode cX9_draws 18 = .ok (.l2i, 1) := by decide +kernel
theorem dX9_draws_19 : decode cX9_draws 19 = .ok (.putfield 457, 3) := by decide +kernel
theorem dX9_draws_22 : decode cX9_draws 22 = .ok (.aload_n 0, 1) := by decide +kernel
theorem dX9_draws_23 : decode cX9_draws 23 = .ok (.getfield 457, 3) := by decide +kernel
theorem dX9_draws_26 : decode cX9_draws 26 = .ok (.iload_n 1, 1) := by decide +kernel
theorem dX9_draws_27 : decode cX9_draws 27 = .ok (.irem, 1) := by decide +kernel
theorem dX9_draws_28 : decode cX9_draws 28 = .ok (.ireturn, 1) := by decide +kernel
theorem dX9_dayIsDrawn_0 : decode cX9_dayIsDrawn 0 = .ok (.aload_n 0, 1) := by decide +kernel
theorem dX9_dayIsDrawn_1 : decode cX9_dayIsDrawn 1 = .ok (.aload_n 0, 1) := by decide +kernel
theorem dX9_dayIsDrawn_2 : decode cX9_dayIsDrawn 2 = .ok (.getfield 106, 3) := by decide +kernel
theorem dX9_dayIsDrawn_5 : decode cX9_dayIsDrawn 5 = .ok (.invokevirtual 464, 3) := by decide +kernel
theorem dX9_dayIsDrawn_8 : decode cX9_dayIsDrawn 8 = .ok (.istore_n 1, 1) := by decide +kernel
theorem dX9_dayIsDrawn_9 : decode cX9_dayIsDrawn 9 = .ok (.aload_n 0, 1) := by decide +kernel
theorem dX9_dayIsDrawn_10 : decode cX9_dayIsDrawn 10 = .ok (.bipush 25, 2) := by decide +kernel
theorem dX9_dayIsDrawn_12 : decode cX9_dayIsDrawn 12 = .ok (.invokevirtual 464, 3) := by decide +kernel
theorem dX9_dayIsDrawn_15 : decode cX9_dayIsDrawn 15 = .ok (.istore_n 2, 1) := by decide +kernel
theorem dX9_dayIsDrawn_16 : decode cX9_dayIsDrawn 16 = .ok (.aload_n 0, 1) := by decide +kernel
theorem dX9_dayIsDrawn_17 : decode cX9_dayIsDrawn 17 = .ok (.iload_n 2, 1) := by decide +kernel
theorem dX9_dayIsDrawn_18 : decode cX9_dayIsDrawn 18 = .ok (.iload_n 1, 1) := by decide +kernel
theorem dX9_dayIsDrawn_19 : decode cX9_dayIsDrawn 19 = .ok (.invokevirtual 322, 3) := by decide +kernel
theorem dX9_dayIsDrawn_22 : decode cX9_dayIsDrawn 22 = .ok (.istore_n 3, 1) := by decide +kernel
theorem dX9_dayIsDrawn_23 : decode cX9_dayIsDrawn 23 = .ok (.aload_n 0, 1) := by decide +kernel
theorem dX9_dayIsDrawn_24 : decode cX9_dayIsDrawn 24 = .ok (.iload_n 2, 1) := by decide +kernel
theorem dX9_dayIsDrawn_25 : decode cX9_dayIsDrawn 25 = .ok (.iload_n 1, 1) := by decide +kernel
theorem dX9_dayIsDrawn_26 : decode cX9_dayIsDrawn 26 = .ok (.iload_n 3, 1) := by decide +kernel
theorem dX9_dayIsDrawn_27 : decode cX9_dayIsDrawn 27 = .ok (.invokevirtual 328, 3) := by decide +kernel
theorem dX9_dayIsDrawn_30 : decode cX9_dayIsDrawn 30 = .ok (.aload_n 0, 1) := by decide +kernel
theorem dX9_dayIsDrawn_31 : decode cX9_dayIsDrawn 31 = .ok (.getfield 28, 3) := by decide +kernel
theorem dX9_dayIsDrawn_34 : decode cX9_dayIsDrawn 34 = .ok (.bipush 31, 2) := by decide +kernel
theorem dX9_dayIsDrawn_36 : decode cX9_dayIsDrawn 36 = .ok (.dup2, 1) := by decide +kernel
theorem dX9_dayIsDrawn_37 : decode cX9_dayIsDrawn 37 = .ok (.iaload, 1) := by decide +kernel
theorem dX9_dayIsDrawn_38 : decode cX9_dayIsDrawn 38 = .ok (.iconst 1, 1) := by decide +kernel
theorem dX9_dayIsDrawn_39 : decode cX9_dayIsDrawn 39 = .ok (.iadd, 1) := by decide +kernel
theorem dX9_dayIsDrawn_40 : decode cX9_dayIsDrawn 40 = .ok (.iastore, 1) := by decide +kernel
theorem dX9_dayIsDrawn_41 : decode cX9_dayIsDrawn 41 = .ok (.iload_n 3, 1) := by decide +kernel
theorem dX9_dayIsDrawn_42 : decode cX9_dayIsDrawn 42 = .ok (.ireturn, 1) := by decide +kernel
theorem dX9_weeks_0 : decode cX9_weeks 0 = .ok (.iload_n 1, 1) := by decide +kernel
theorem dX9_weeks_1 : decode cX9_weeks 1 = .ok (.iconst 0, 1) := by decide +kernel
theorem dX9_weeks_2 : decode cX9_weeks 2 = .ok (.ldc 170, 2) := by decide +kernel
theorem dX9_weeks_4 : decode cX9_weeks 4 = .ok (.invokestatic 18, 3) := by decide +kernel
theorem dX9_weeks_7 : decode cX9_weeks 7 = .ok (.ifCond .eq 13, 3) := by decide +kernel
theorem dX9_weeks_10 : decode cX9_weeks 10 = .ok (.iload_n 2, 1) := by decide +kernel
theorem dX9_weeks_11 : decode cX9_weeks 11 = .ok (.iconst 1, 1) := by decide +kernel
theorem dX9_weeks_12 : decode cX9_weeks 12 = .ok (.bipush 60, 2) := by decide +kernel
theorem dX9_weeks_14 : decode cX9_weeks 14 = .ok (.invokestatic 18, 3) := by decide +kernel
theorem dX9_weeks_17 : decode cX9_weeks 17 = .ok (.ifCond .ne 9, 3) := by decide +kernel
theorem dX9_weeks_20 : decode cX9_weeks 20 = .ok (.aload_n 0, 1) := by decide +kernel
theorem dX9_weeks_21 : decode cX9_weeks 21 = .ok (.iconst (-1), 1) := by decide +kernel
theorem dX9_weeks_22 : decode cX9_weeks 22 = .ok (.invokevirtual 109, 3) := by decide +kernel
theorem dX9_weeks_25 : decode cX9_weeks 25 = .ok (.ireturn, 1) := by decide +kernel
theorem dX9_weeks_26 : decode cX9_weeks 26 = .ok (.aload_n 0, 1) := by decide +kernel
theorem dX9_weeks_27 : decode cX9_weeks 27 = .ok (.getfield 28, 3) := by decide +kernel
theorem dX9_weeks_30 : decode cX9_weeks 30 = .ok (.bipush 103, 2) := by decide +kernel
theorem dX9_weeks_32 : decode cX9_weeks 32 = .ok (.iaload, 1) := by decide +kernel
theorem dX9_weeks_33 : decode cX9_weeks 33 = .ok (.ifCond .ne 10, 3) := by decide +kernel
theorem dX9_weeks_36 : decode cX9_weeks 36 = .ok (.aload_n 0, 1) := by decide +kernel
theorem dX9_weeks_37 : decode cX9_weeks 37 = .ok (.bipush (-3), 2) := by decide +kernel
theorem dX9_weeks_39 : decode cX9_weeks 39 = .ok (.invokevirtual 109, 3) := by decide +kernel
theorem dX9_weeks_42 : decode cX9_weeks 42 = .ok (.ireturn, 1) := by decide +kernel
theorem dX9_weeks_43 : decode cX9_weeks 43 = .ok (.aload_n 0, 1) := by decide +kernel
theorem dX9_weeks_44 : decode cX9_weeks 44 = .ok (.iload_n 1, 1) := by decide +kernel
theorem dX9_weeks_45 : decode cX9_weeks 45 = .ok (.putfield 457, 3) := by decide +kernel
theorem dX9_weeks_48 : decode cX9_weeks 48 = .ok (.aload_n 0, 1) := by decide +kernel
theorem dX9_weeks_49 : decode cX9_weeks 49 = .ok (.aload_n 0, 1) := by decide +kernel
theorem dX9_weeks_50 : decode cX9_weeks 50 = .ok (.getfield 28, 3) := by decide +kernel
theorem dX9_weeks_53 : decode cX9_weeks 53 = .ok (.bipush 103, 2) := by decide +kernel
theorem dX9_weeks_55 : decode cX9_weeks 55 = .ok (.iaload, 1) := by decide +kernel
theorem dX9_weeks_56 : decode cX9_weeks 56 = .ok (.putfield 106, 3) := by decide +kernel
theorem dX9_weeks_59 : decode cX9_weeks 59 = .ok (.aload_n 0, 1) := by decide +kernel
theorem dX9_weeks_60 : decode cX9_weeks 60 = .ok (.iconst 0, 1) := by decide +kernel
theorem dX9_weeks_61 : decode cX9_weeks 61 = .ok (.invokevirtual 418, 3) := by decide +kernel
theorem dX9_weeks_64 : decode cX9_weeks 64 = .ok (.iconst 0, 1) := by decide +kernel
theorem dX9_weeks_65 : decode cX9_weeks 65 = .ok (.istore_n 3, 1) := by decide +kernel
theorem dX9_weeks_66 : decode cX9_weeks 66 = .ok (.iconst 0, 1) := by decide +kernel
theorem dX9_weeks_67 : decode cX9_weeks 67 = .ok (.istore 4, 2) := by decide +kernel
theorem dX9_weeks_69 : decode cX9_weeks 69 = .ok (.iload 4, 2) := by decide +kernel
theorem dX9_weeks_71 : decode cX9_weeks 71 = .ok (.iload_n 2, 1) := by decide +kernel
theorem dX9_weeks_72 : decode cX9_weeks 72 = .ok (.if_icmp .ge 29, 3) := by decide +kernel
theorem dX9_weeks_75 : decode cX9_weeks 75 = .ok (.aload_n 0, 1) := by decide +kernel
theorem dX9_weeks_76 : decode cX9_weeks 76 = .ok (.getfield 28, 3) := by decide +kernel
theorem dX9_weeks_79 : decode cX9_weeks 79 = .ok (.bipush 31, 2) := by decide +kernel
theorem dX9_weeks_81 : decode cX9_weeks 81 = .ok (.iaload, 1) := by decide +kernel
theorem dX9_weeks_82 : decode cX9_weeks 82 = .ok (.sipush 999, 3) := by decide +kernel
theorem dX9_weeks_85 : decode cX9_weeks 85 = .ok (.if_icmp .ge 16, 3) := by decide +kernel
theorem dX9_weeks_88 : decode cX9_weeks 88 = .ok (.iload_n 3, 1) := by decide +kernel
theorem dX9_weeks_89 : decode cX9_weeks 89 = .ok (.aload_n 0, 1) := by decide +kernel
theorem dX9_weeks_90 : decode cX9_weeks 90 = .ok (.invokevirtual 467, 3) := by decide +kernel
theorem dX9_weeks_93 : decode cX9_weeks 93 = .ok (.iadd, 1) := by decide +kernel
theorem dX9_weeks_94 : decode cX9_weeks 94 = .ok (.istore_n 3, 1) := by decide +kernel
theorem dX9_weeks_95 : decode cX9_weeks 95 = .ok (.iinc 4 1, 3) := by decide +kernel
theorem dX9_weeks_98 : decode cX9_weeks 98 = .ok (.goto (-29), 3) := by decide +kernel
theorem dX9_weeks_101 : decode cX9_weeks 101 = .ok (.iconst 0, 1) := by decide +kernel
theorem dX9_weeks_102 : decode cX9_weeks 102 = .ok (.istore 4, 2) := by decide +kernel
theorem dX9_weeks_104 : decode cX9_weeks 104 = .ok (.iload 4, 2) := by decide +kernel
theorem dX9_weeks_106 : decode cX9_weeks 106 = .ok (.bipush 32, 2) := by decide +kernel
theorem dX9_weeks_108 : decode cX9_weeks 108 = .ok (.if_icmp .ge 23, 3) := by decide +kernel
theorem dX9_weeks_111 : decode cX9_weeks 111 = .ok (.aload_n 0, 1) := by decide +kernel
theorem dX9_weeks_112 : decode cX9_weeks 112 = .ok (.getfield 103, 3) := by decide +kernel
theorem dX9_weeks_115 : decode cX9_weeks 115 = .ok (.iload 4, 2) := by decide +kernel
theorem dX9_weeks_117 : decode cX9_weeks 117 = .ok (.aload_n 0, 1) := by decide +kernel
theorem dX9_weeks_118 : decode cX9_weeks 118 = .ok (.getfield 28, 3) := by decide +kernel
theorem dX9_weeks_121 : decode cX9_weeks 121 = .ok (.iload 4, 2) := by decide +kernel
theorem dX9_weeks_123 : decode cX9_weeks 123 = .ok (.iaload, 1) := by decide +kernel
theorem dX9_weeks_124 : decode cX9_weeks 124 = .ok (.iastore, 1) := by decide +kernel
theorem dX9_weeks_125 : decode cX9_weeks 125 = .ok (.iinc 4 1, 3) := by decide +kernel
theorem dX9_weeks_128 : decode cX9_weeks 128 = .ok (.goto (-24), 3) := by decide +kernel
theorem dX9_weeks_131 : decode cX9_weeks 131 = .ok (.aload_n 0, 1) := by decide +kernel
theorem dX9_weeks_132 : decode cX9_weeks 132 = .ok (.iconst 0, 1) := by decide +kernel
theorem dX9_weeks_133 : decode cX9_weeks 133 = .ok (.invokevirtual 427, 3) := by decide +kernel
theorem dX9_weeks_136 : decode cX9_weeks 136 = .ok (.aload_n 0, 1) := by decide +kernel
theorem dX9_weeks_137 : decode cX9_weeks 137 = .ok (.iload_n 3, 1) := by decide +kernel
theorem dX9_weeks_138 : decode cX9_weeks 138 = .ok (.invokevirtual 14, 3) := by decide +kernel
theorem dX9_weeks_141 : decode cX9_weeks 141 = .ok (.ireturn, 1) := by decide +kernel
theorem dX9_drawn_0 : decode cX9_drawn 0 = .ok (.aload_n 0, 1) := by decide +kernel
theorem dX9_drawn_1 : decode cX9_drawn 1 = .ok (.getfield 106, 3) := by decide +kernel
theorem dX9_drawn_4 : decode cX9_drawn 4 = .ok (.iconst (-1), 1) := by decide +kernel
theorem dX9_drawn_5 : decode cX9_drawn 5 = .ok (.if_icmp .eq 12, 3) := by decide +kernel
theorem dX9_drawn_8 : decode cX9_drawn 8 = .ok (.iload_n 2, 1) := by decide +kernel
theorem dX9_drawn_9 : decode cX9_drawn 9 = .ok (.iconst 0, 1) := by decide +kernel
theorem dX9_drawn_10 : decode cX9_drawn 10 = .ok (.iconst 1, 1) := by decide +kernel
theorem dX9_drawn_11 : decode cX9_drawn 11 = .ok (.invokestatic 18, 3) := by decide +kernel
theorem dX9_drawn_14 : decode cX9_drawn 14 = .ok (.ifCond .ne 5, 3) := by decide +kernel
theorem dX9_drawn_17 : decode cX9_drawn 17 = .ok (.iconst (-1), 1) := by decide +kernel
theorem dX9_drawn_18 : decode cX9_drawn 18 = .ok (.ireturn, 1) := by decide +kernel
theorem dX9_drawn_19 : decode cX9_drawn 19 = .ok (.iload_n 2, 1) := by decide +kernel
theorem dX9_drawn_20 : decode cX9_drawn 20 = .ok (.ifCond .ne 23, 3) := by decide +kernel
theorem dX9_drawn_23 : decode cX9_drawn 23 = .ok (.iload_n 1, 1) := by decide +kernel
theorem dX9_drawn_24 : decode cX9_drawn 24 = .ok (.invokestatic 115, 3) := by decide +kernel
theorem dX9_drawn_27 : decode cX9_drawn 27 = .ok (.ifCond .eq 14, 3) := by decide +kernel
theorem dX9_drawn_30 : decode cX9_drawn 30 = .ok (.aload_n 0, 1) := by decide +kernel
theorem dX9_drawn_31 : decode cX9_drawn 31 = .ok (.getfield 103, 3) := by decide +kernel
theorem dX9_drawn_34 : decode cX9_drawn 34 = .ok (.iconst 0, 1) := by decide +kernel
theorem dX9_drawn_35 : decode cX9_drawn 35 = .ok (.iload_n 1, 1) := by decide +kernel
theorem dX9_drawn_36 : decode cX9_drawn 36 = .ok (.iadd, 1) := by decide +kernel
theorem dX9_drawn_37 : decode cX9_drawn 37 = .ok (.iaload, 1) := by decide +kernel
theorem dX9_drawn_38 : decode cX9_drawn 38 = .ok (.goto 4, 3) := by decide +kernel
theorem dX9_drawn_41 : decode cX9_drawn 41 = .ok (.iconst (-1), 1) := by decide +kernel
theorem dX9_drawn_42 : decode cX9_drawn 42 = .ok (.ireturn, 1) := by decide +kernel
theorem dX9_drawn_43 : decode cX9_drawn 43 = .ok (.iload_n 1, 1) := by decide +kernel
theorem dX9_drawn_44 : decode cX9_drawn 44 = .ok (.iconst 0, 1) := by decide +kernel
theorem dX9_drawn_45 : decode cX9_drawn 45 = .ok (.aload_n 0, 1) := by decide +kernel
theorem dX9_drawn_46 : decode cX9_drawn 46 = .ok (.getfield 106, 3) := by decide +kernel
theorem dX9_drawn_49 : decode cX9_drawn 49 = .ok (.iconst 1, 1) := by decide +kernel
theorem dX9_drawn_50 : decode cX9_drawn 50 = .ok (.isub, 1) := by decide +kernel
theorem dX9_drawn_51 : decode cX9_drawn 51 = .ok (.invokestatic 18, 3) := by decide +kernel
theorem dX9_drawn_54 : decode cX9_drawn 54 = .ok (.ifCond .eq 15, 3) := by decide +kernel
theorem dX9_drawn_57 : decode cX9_drawn 57 = .ok (.aload_n 0, 1) := by decide +kernel
theorem dX9_drawn_58 : decode cX9_drawn 58 = .ok (.getfield 103, 3) := by decide +kernel
theorem dX9_drawn_61 : decode cX9_drawn 61 = .ok (.bipush 25, 2) := by decide +kernel
theorem dX9_drawn_63 : decode cX9_drawn 63 = .ok (.iload_n 1, 1) := by decide +kernel
theorem dX9_drawn_64 : decode cX9_drawn 64 = .ok (.iadd, 1) := by decide +kernel
theorem dX9_drawn_65 : decode cX9_drawn 65 = .ok (.iaload, 1) := by decide +kernel
theorem dX9_drawn_66 : decode cX9_drawn 66 = .ok (.goto 4, 3) := by decide +kernel
theorem dX9_drawn_69 : decode cX9_drawn 69 = .ok (.iconst (-1), 1) := by decide +kernel
theorem dX9_drawn_70 : decode cX9_drawn 70 = .ok (.ireturn, 1) := by decide +kernel
theorem dX9_count_0 : decode cX9_count 0 = .ok (.iload_n 1, 1) := by decide +kernel
theorem dX9_count_1 : decode cX9_count 1 = .ok (.tableswitch 178 0 15 #[79, 87, 98, 106, 114, 122, 127, 132, 132, 132, 142, 149, 157, 165, 165, 165], 79) := by decide +kernel
theorem dX9_count_80 : decode cX9_count 80 = .ok (.aload_n 0, 1) := by decide +kernel
theorem dX9_count_81 : decode cX9_count 81 = .ok (.getfield 28, 3) := by decide +kernel
theorem dX9_count_84 : decode cX9_count 84 = .ok (.bipush 103, 2) := by decide +kernel
theorem dX9_count_86 : decode cX9_count 86 = .ok (.iaload, 1) := by decide +kernel
theorem dX9_count_87 : decode cX9_count 87 = .ok (.ireturn, 1) := by decide +kernel
theorem dX9_count_88 : decode cX9_count 88 = .ok (.aload_n 0, 1) := by decide +kernel
theorem dX9_count_89 : decode cX9_count 89 = .ok (.getfield 28, 3) := by decide +kernel
theorem dX9_count_92 : decode cX9_count 92 = .ok (.bipush 30, 2) := by decide +kernel
theorem dX9_count_94 : decode cX9_count 94 = .ok (.iaload, 1) := by decide +kernel
theorem dX9_count_95 : decode cX9_count 95 = .ok (.invokestatic 349, 3) := by decide +kernel
theorem dX9_count_98 : decode cX9_count 98 = .ok (.ireturn, 1) := by decide +kernel
theorem dX9_count_99 : decode cX9_count 99 = .ok (.aload_n 0, 1) := by decide +kernel
theorem dX9_count_100 : decode cX9_count 100 = .ok (.getfield 28, 3) := by decide +kernel
theorem dX9_count_103 : decode cX9_count 103 = .ok (.bipush 104, 2) := by decide +kernel
theorem dX9_count_105 : decode cX9_count 105 = .ok (.iaload, 1) := by decide +kernel
theorem dX9_count_106 : decode cX9_count 106 = .ok (.ireturn, 1) := by decide +kernel
theorem dX9_count_107 : decode cX9_count 107 = .ok (.aload_n 0, 1) := by decide +kernel
theorem dX9_count_108 : decode cX9_count 108 = .ok (.getfield 28, 3) := by decide +kernel
theorem dX9_count_111 : decode cX9_count 111 = .ok (.bipush 105, 2) := by decide +kernel
theorem dX9_count_113 : decode cX9_count 113 = .ok (.iaload, 1) := by decide +kernel
theorem dX9_count_114 : decode cX9_count 114 = .ok (.ireturn, 1) := by decide +kernel
theorem dX9_count_115 : decode cX9_count 115 = .ok (.aload_n 0, 1) := by decide +kernel
theorem dX9_count_116 : decode cX9_count 116 = .ok (.getfield 28, 3) := by decide +kernel
theorem dX9_count_119 : decode cX9_count 119 = .ok (.bipush 106, 2) := by decide +kernel
theorem dX9_count_121 : decode cX9_count 121 = .ok (.iaload, 1) := by decide +kernel
theorem dX9_count_122 : decode cX9_count 122 = .ok (.ireturn, 1) := by decide +kernel
theorem dX9_count_123 : decode cX9_count 123 = .ok (.aload_n 0, 1) := by decide +kernel
theorem dX9_count_124 : decode cX9_count 124 = .ok (.getfield 11, 3) := by decide +kernel
theorem dX9_count_127 : decode cX9_count 127 = .ok (.ireturn, 1) := by decide +kernel
theorem dX9_count_128 : decode cX9_count 128 = .ok (.aload_n 0, 1) := by decide +kernel
theorem dX9_count_129 : decode cX9_count 129 = .ok (.getfield 152, 3) := by decide +kernel
theorem dX9_count_132 : decode cX9_count 132 = .ok (.ireturn, 1) := by decide +kernel
theorem dX9_count_133 : decode cX9_count 133 = .ok (.aload_n 0, 1) := by decide +kernel
theorem dX9_count_134 : decode cX9_count 134 = .ok (.getfield 7, 3) := by decide +kernel
theorem dX9_count_137 : decode cX9_count 137 = .ok (.iload_n 1, 1) := by decide +kernel
theorem dX9_count_138 : decode cX9_count 138 = .ok (.bipush 6, 2) := by decide +kernel
theorem dX9_count_140 : decode cX9_count 140 = .ok (.isub, 1) := by decide +kernel
theorem dX9_count_141 : decode cX9_count 141 = .ok (.iaload, 1) := by decide +kernel
theorem dX9_count_142 : decode cX9_count 142 = .ok (.ireturn, 1) := by decide +kernel
theorem dX9_count_143 : decode cX9_count 143 = .ok (.aload_n 0, 1) := by decide +kernel
theorem dX9_count_144 : decode cX9_count 144 = .ok (.getfield 7, 3) := by decide +kernel
theorem dX9_count_147 : decode cX9_count 147 = .ok (.iconst 5, 1) := by decide +kernel
theorem dX9_count_148 : decode cX9_count 148 = .ok (.iaload, 1) := by decide +kernel
theorem dX9_count_149 : decode cX9_count 149 = .ok (.ireturn, 1) := by decide +kernel
theorem dX9_count_150 : decode cX9_count 150 = .ok (.aload_n 0, 1) := by decide +kernel
theorem dX9_count_151 : decode cX9_count 151 = .ok (.getfield 7, 3) := by decide +kernel
theorem dX9_count_154 : decode cX9_count 154 = .ok (.bipush 6, 2) := by decide +kernel
theorem dX9_count_156 : decode cX9_count 156 = .ok (.iaload, 1) := by decide +kernel
theorem dX9_count_157 : decode cX9_count 157 = .ok (.ireturn, 1) := by decide +kernel
theorem dX9_count_158 : decode cX9_count 158 = .ok (.aload_n 0, 1) := by decide +kernel
theorem dX9_count_159 : decode cX9_count 159 = .ok (.getfield 28, 3) := by decide +kernel
theorem dX9_count_162 : decode cX9_count 162 = .ok (.bipush 107, 2) := by decide +kernel
theorem dX9_count_164 : decode cX9_count 164 = .ok (.iaload, 1) := by decide +kernel
theorem dX9_count_165 : decode cX9_count 165 = .ok (.ireturn, 1) := by decide +kernel
theorem dX9_count_166 : decode cX9_count 166 = .ok (.aload_n 0, 1) := by decide +kernel
theorem dX9_count_167 : decode cX9_count 167 = .ok (.getfield 28, 3) := by decide +kernel
theorem dX9_count_170 : decode cX9_count 170 = .ok (.iload_n 1, 1) := by decide +kernel
theorem dX9_count_171 : decode cX9_count 171 = .ok (.bipush 13, 2) := by decide +kernel
theorem dX9_count_173 : decode cX9_count 173 = .ok (.isub, 1) := by decide +kernel
theorem dX9_count_174 : decode cX9_count 174 = .ok (.invokestatic 149, 3) := by decide +kernel
theorem dX9_count_177 : decode cX9_count 177 = .ok (.iaload, 1) := by decide +kernel
theorem dX9_count_178 : decode cX9_count 178 = .ok (.ireturn, 1) := by decide +kernel
theorem dX9_count_179 : decode cX9_count 179 = .ok (.iconst (-1), 1) := by decide +kernel
theorem dX9_count_180 : decode cX9_count 180 = .ok (.ireturn, 1) := by decide +kernel
theorem dX9_status_0 : decode cX9_status 0 = .ok (.aload_n 0, 1) := by decide +kernel
theorem dX9_status_1 : decode cX9_status 1 = .ok (.getfield 3, 3) := by decide +kernel
theorem dX9_status_4 : decode cX9_status 4 = .ok (.ireturn, 1) := by decide +kernel
theorem dJ6_bitCount_0f7a4_0 : decode cJ6_bitCount_0f7a4 0 = .ok (.iload_n 0, 1) := by decide +kernel
theorem dJ6_bitCount_0f7a4_1 : decode cJ6_bitCount_0f7a4 1 = .ok (.iload_n 0, 1) := by decide +kernel
theorem dJ6_bitCount_0f7a4_2 : decode cJ6_bitCount_0f7a4 2 = .ok (.iconst 1, 1) := by decide +kernel
theorem dJ6_bitCount_0f7a4_3 : decode cJ6_bitCount_0f7a4 3 = .ok (.iushr, 1) := by decide +kernel
theorem dJ6_bitCount_0f7a4_4 : decode cJ6_bitCount_0f7a4 4 = .ok (.ldc_w 265, 3) := by decide +kernel
theorem dJ6_bitCount_0f7a4_7 : decode cJ6_bitCount_0f7a4 7 = .ok (.iand, 1) := by decide +kernel
theorem dJ6_bitCount_0f7a4_8 : decode cJ6_bitCount_0f7a4 8 = .ok (.isub, 1) := by decide +kernel
theorem dJ6_bitCount_0f7a4_9 : decode cJ6_bitCount_0f7a4 9 = .ok (.istore_n 0, 1) := by decide +kernel
theorem dJ6_bitCount_0f7a4_10 : decode cJ6_bitCount_0f7a4 10 = .ok (.iload_n 0, 1) := by decide +kernel
theorem dJ6_bitCount_0f7a4_11 : decode cJ6_bitCount_0f7a4 11 = .ok (.ldc_w 266, 3) := by decide +kernel
theorem dJ6_bitCount_0f7a4_14 : decode cJ6_bitCount_0f7a4 14 = .ok (.iand, 1) := by decide +kernel
theorem dJ6_bitCount_0f7a4_15 : decode cJ6_bitCount_0f7a4 15 = .ok (.iload_n 0, 1) := by decide +kernel
theorem dJ6_bitCount_0f7a4_16 : decode cJ6_bitCount_0f7a4 16 = .ok (.iconst 2, 1) := by decide +kernel
theorem dJ6_bitCount_0f7a4_17 : decode cJ6_bitCount_0f7a4 17 = .ok (.iushr, 1) := by decide +kernel
theorem dJ6_bitCount_0f7a4_18 : decode cJ6_bitCount_0f7a4 18 = .ok (.ldc_w 266, 3) := by decide +kernel
theorem dJ6_bitCount_0f7a4_21 : decode cJ6_bitCount_0f7a4 21 = .ok (.iand, 1) := by decide +kernel
theorem dJ6_bitCount_0f7a4_22 : decode cJ6_bitCount_0f7a4 22 = .ok (.iadd, 1) := by decide +kernel
theorem dJ6_bitCount_0f7a4_23 : decode cJ6_bitCount_0f7a4 23 = .ok (.istore_n 0, 1) := by decide +kernel
theorem dJ6_bitCount_0f7a4_24 : decode cJ6_bitCount_0f7a4 24 = .ok (.iload_n 0, 1) := by decide +kernel
theorem dJ6_bitCount_0f7a4_25 : decode cJ6_bitCount_0f7a4 25 = .ok (.iload_n 0, 1) := by decide +kernel
theorem dJ6_bitCount_0f7a4_26 : decode cJ6_bitCount_0f7a4 26 = .ok (.iconst 4, 1) := by decide +kernel
theorem dJ6_bitCount_0f7a4_27 : decode cJ6_bitCount_0f7a4 27 = .ok (.iushr, 1) := by decide +kernel
theorem dJ6_bitCount_0f7a4_28 : decode cJ6_bitCount_0f7a4 28 = .ok (.iadd, 1) := by decide +kernel
theorem dJ6_bitCount_0f7a4_29 : decode cJ6_bitCount_0f7a4 29 = .ok (.ldc_w 267, 3) := by decide +kernel
theorem dJ6_bitCount_0f7a4_32 : decode cJ6_bitCount_0f7a4 32 = .ok (.iand, 1) := by decide +kernel
theorem dJ6_bitCount_0f7a4_33 : decode cJ6_bitCount_0f7a4 33 = .ok (.istore_n 0, 1) := by decide +kernel
theorem dJ6_bitCount_0f7a4_34 : decode cJ6_bitCount_0f7a4 34 = .ok (.iload_n 0, 1) := by decide +kernel
theorem dJ6_bitCount_0f7a4_35 : decode cJ6_bitCount_0f7a4 35 = .ok (.iload_n 0, 1) := by decide +kernel
theorem dJ6_bitCount_0f7a4_36 : decode cJ6_bitCount_0f7a4 36 = .ok (.bipush 8, 2) := by decide +kernel
theorem dJ6_bitCount_0f7a4_38 : decode cJ6_bitCount_0f7a4 38 = .ok (.iushr, 1) := by decide +kernel
theorem dJ6_bitCount_0f7a4_39 : decode cJ6_bitCount_0f7a4 39 = .ok (.iadd, 1) := by decide +kernel
theorem dJ6_bitCount_0f7a4_40 : decode cJ6_bitCount_0f7a4 40 = .ok (.istore_n 0, 1) := by decide +kernel
theorem dJ6_bitCount_0f7a4_41 : decode cJ6_bitCount_0f7a4 41 = .ok (.iload_n 0, 1) := by decide +kernel
theorem dJ6_bitCount_0f7a4_42 : decode cJ6_bitCount_0f7a4 42 = .ok (.iload_n 0, 1) := by decide +kernel
theorem dJ6_bitCount_0f7a4_43 : decode cJ6_bitCount_0f7a4 43 = .ok (.bipush 16, 2) := by decide +kernel
theorem dJ6_bitCount_0f7a4_45 : decode cJ6_bitCount_0f7a4 45 = .ok (.iushr, 1) := by decide +kernel
theorem dJ6_bitCount_0f7a4_46 : decode cJ6_bitCount_0f7a4 46 = .ok (.iadd, 1) := by decide +kernel
theorem dJ6_bitCount_0f7a4_47 : decode cJ6_bitCount_0f7a4 47 = .ok (.istore_n 0, 1) := by decide +kernel
theorem dJ6_bitCount_0f7a4_48 : decode cJ6_bitCount_0f7a4 48 = .ok (.iload_n 0, 1) := by decide +kernel
theorem dJ6_bitCount_0f7a4_49 : decode cJ6_bitCount_0f7a4 49 = .ok (.bipush 63, 2) := by decide +kernel
theorem dJ6_bitCount_0f7a4_51 : decode cJ6_bitCount_0f7a4 51 = .ok (.iand, 1) := by decide +kernel
theorem dJ6_bitCount_0f7a4_52 : decode cJ6_bitCount_0f7a4 52 = .ok (.ireturn, 1) := by decide +kernel
theorem dJ9_max_7cf53_0 : decode cJ9_max_7cf53 0 = .ok (.iload_n 0, 1) := by decide +kernel
theorem dJ9_max_7cf53_1 : decode cJ9_max_7cf53 1 = .ok (.iload_n 1, 1) := by decide +kernel
theorem dJ9_max_7cf53_2 : decode cJ9_max_7cf53 2 = .ok (.if_icmp .lt 7, 3) := by decide +kernel
theorem dJ9_max_7cf53_5 : decode cJ9_max_7cf53 5 = .ok (.iload_n 0, 1) := by decide +kernel
theorem dJ9_max_7cf53_6 : decode cJ9_max_7cf53 6 = .ok (.goto 4, 3) := by decide +kernel
theorem dJ9_max_7cf53_9 : decode cJ9_max_7cf53 9 = .ok (.iload_n 1, 1) := by decide +kernel
theorem dJ9_max_7cf53_10 : decode cJ9_max_7cf53 10 = .ok (.ireturn, 1) := by decide +kernel
theorem dJ9_min_7cf53_0 : decode cJ9_min_7cf53 0 = .ok (.iload_n 0, 1) := by decide +kernel
theorem dJ9_min_7cf53_1 : decode cJ9_min_7cf53 1 = .ok (.iload_n 1, 1) := by decide +kernel
theorem dJ9_min_7cf53_2 : decode cJ9_min_7cf53 2 = .ok (.if_icmp .gt 7, 3) := by decide +kernel
theorem dJ9_min_7cf53_5 : decode cJ9_min_7cf53 5 = .ok (.iload_n 0, 1) := by decide +kernel
theorem dJ9_min_7cf53_6 : decode cJ9_min_7cf53 6 = .ok (.goto 4, 3) := by decide +kernel
theorem dJ9_min_7cf53_9 : decode cJ9_min_7cf53 9 = .ok (.iload_n 1, 1) := by decide +kernel
theorem dJ9_min_7cf53_10 : decode cJ9_min_7cf53 10 = .ok (.ireturn, 1) := by decide +kernel
theorem dJ0_length_8abf5_0 : decode cJ0_length_8abf5 0 = .ok (.aload_n 0, 1) := by decide +kernel
theorem dJ0_length_8abf5_1 : decode cJ0_length_8abf5 1 = .ok (.getfield 9, 3) := by decide +kernel
theorem dJ0_length_8abf5_4 : decode cJ0_length_8abf5 4 = .ok (.arraylength, 1) := by decide +kernel
theorem dJ0_length_8abf5_5 : decode cJ0_length_8abf5 5 = .ok (.aload_n 0, 1) := by decide +kernel
theorem dJ0_length_8abf5_6 : decode cJ0_length_8abf5 6 = .ok (.invokevirtual 335, 3) := by decide +kernel
theorem dJ0_length_8abf5_9 : decode cJ0_length_8abf5 9 = .ok (.ishr, 1) := by decide +kernel
theorem dJ0_length_8abf5_10 : decode cJ0_length_8abf5 10 = .ok (.ireturn, 1) := by decide +kernel
theorem dJ0_charAt_5068e_0 : decode cJ0_charAt_5068e 0 = .ok (.aload_n 0, 1) := by decide +kernel
theorem dJ0_charAt_5068e_1 : decode cJ0_charAt_5068e 1 = .ok (.invokevirtual 492, 3) := by decide +kernel
theorem dJ0_charAt_5068e_4 : decode cJ0_charAt_5068e 4 = .ok (.ifCond .eq 12, 3) := by decide +kernel
theorem dJ0_charAt_5068e_7 : decode cJ0_charAt_5068e 7 = .ok (.aload_n 0, 1) := by decide +kernel
theorem dJ0_charAt_5068e_8 : decode cJ0_charAt_5068e 8 = .ok (.getfield 9, 3) := by decide +kernel
theorem dJ0_charAt_5068e_11 : decode cJ0_charAt_5068e 11 = .ok (.iload_n 1, 1) := by decide +kernel
theorem dJ0_charAt_5068e_12 : decode cJ0_charAt_5068e 12 = .ok (.invokestatic 495, 3) := by decide +kernel
theorem dJ0_charAt_5068e_15 : decode cJ0_charAt_5068e 15 = .ok (.ireturn, 1) := by decide +kernel
theorem dJ0_charAt_5068e_16 : decode cJ0_charAt_5068e 16 = .ok (.aload_n 0, 1) := by decide +kernel
theorem dJ0_charAt_5068e_17 : decode cJ0_charAt_5068e 17 = .ok (.getfield 9, 3) := by decide +kernel
theorem dJ0_charAt_5068e_20 : decode cJ0_charAt_5068e 20 = .ok (.iload_n 1, 1) := by decide +kernel
theorem dJ0_charAt_5068e_21 : decode cJ0_charAt_5068e 21 = .ok (.invokestatic 498, 3) := by decide +kernel
theorem dJ0_charAt_5068e_24 : decode cJ0_charAt_5068e 24 = .ok (.ireturn, 1) := by decide +kernel
theorem dJ0_coder_7d493_0 : decode cJ0_coder_7d493 0 = .ok (.getstatic 38, 3) := by decide +kernel
theorem dJ0_coder_7d493_3 : decode cJ0_coder_7d493 3 = .ok (.ifCond .eq 10, 3) := by decide +kernel
theorem dJ0_coder_7d493_6 : decode cJ0_coder_7d493 6 = .ok (.aload_n 0, 1) := by decide +kernel
theorem dJ0_coder_7d493_7 : decode cJ0_coder_7d493 7 = .ok (.getfield 15, 3) := by decide +kernel
theorem dJ0_coder_7d493_10 : decode cJ0_coder_7d493 10 = .ok (.goto 4, 3) := by decide +kernel
theorem dJ0_coder_7d493_13 : decode cJ0_coder_7d493 13 = .ok (.iconst 1, 1) := by decide +kernel
theorem dJ0_coder_7d493_14 : decode cJ0_coder_7d493 14 = .ok (.ireturn, 1) := by decide +kernel
theorem dJ0_isLatin1_aae02_0 : decode cJ0_isLatin1_aae02 0 = .ok (.getstatic 38, 3) := by decide +kernel
theorem dJ0_isLatin1_aae02_3 : decode cJ0_isLatin1_aae02 3 = .ok (.ifCond .eq 14, 3) := by decide +kernel
theorem dJ0_isLatin1_aae02_6 : decode cJ0_isLatin1_aae02 6 = .ok (.aload_n 0, 1) := by decide +kernel
theorem dJ0_isLatin1_aae02_7 : decode cJ0_isLatin1_aae02 7 = .ok (.getfield 15, 3) := by decide +kernel
theorem dJ0_isLatin1_aae02_10 : decode cJ0_isLatin1_aae02 10 = .ok (.ifCond .ne 7, 3) := by decide +kernel
theorem dJ0_isLatin1_aae02_13 : decode cJ0_isLatin1_aae02 13 = .ok (.iconst 1, 1) := by decide +kernel
theorem dJ0_isLatin1_aae02_14 : decode cJ0_isLatin1_aae02 14 = .ok (.goto 4, 3) := by decide +kernel
theorem dJ0_isLatin1_aae02_17 : decode cJ0_isLatin1_aae02 17 = .ok (.iconst 0, 1) := by decide +kernel
theorem dJ0_isLatin1_aae02_18 : decode cJ0_isLatin1_aae02 18 = .ok (.ireturn, 1) := by decide +kernel
theorem dJ0_checkIndex_df160_0 : decode cJ0_checkIndex_df160 0 = .ok (.iload_n 0, 1) := by decide +kernel
theorem dJ0_checkIndex_df160_1 : decode cJ0_checkIndex_df160 1 = .ok (.iload_n 1, 1) := by decide +kernel
theorem dJ0_checkIndex_df160_2 : decode cJ0_checkIndex_df160 2 = .ok (.getstatic 1053, 3) := by decide +kernel
theorem dJ0_checkIndex_df160_5 : decode cJ0_checkIndex_df160 5 = .ok (.invokestatic 1059, 3) := by decide +kernel
theorem dJ0_checkIndex_df160_8 : decode cJ0_checkIndex_df160 8 = .ok (.pop, 1) := by decide +kernel
theorem dJ0_checkIndex_df160_9 : decode cJ0_checkIndex_df160 9 = .ok (.return_, 1) := by decide +kernel
theorem dJ1_charAt_3b067_0 : decode cJ1_charAt_3b067 0 = .ok (.iload_n 1, 1) := by decide +kernel
theorem dJ1_charAt_3b067_1 : decode cJ1_charAt_3b067 1 = .ok (.aload_n 0, 1) := by decide +kernel
theorem dJ1_charAt_3b067_2 : decode cJ1_charAt_3b067 2 = .ok (.arraylength, 1) := by decide +kernel
theorem dJ1_charAt_3b067_3 : decode cJ1_charAt_3b067 3 = .ok (.invokestatic 9, 3) := by decide +kernel
theorem dJ1_charAt_3b067_6 : decode cJ1_charAt_3b067 6 = .ok (.aload_n 0, 1) := by decide +kernel
theorem dJ1_charAt_3b067_7 : decode cJ1_charAt_3b067 7 = .ok (.iload_n 1, 1) := by decide +kernel
theorem dJ1_charAt_3b067_8 : decode cJ1_charAt_3b067 8 = .ok (.baload, 1) := by decide +kernel
theorem dJ1_charAt_3b067_9 : decode cJ1_charAt_3b067 9 = .ok (.sipush 255, 3) := by decide +kernel
theorem dJ1_charAt_3b067_12 : decode cJ1_charAt_3b067 12 = .ok (.iand, 1) := by decide +kernel
theorem dJ1_charAt_3b067_13 : decode cJ1_charAt_3b067 13 = .ok (.i2c, 1) := by decide +kernel
theorem dJ1_charAt_3b067_14 : decode cJ1_charAt_3b067 14 = .ok (.ireturn, 1) := by decide +kernel
theorem dJ2_getChar_3b067_0 : decode cJ2_getChar_3b067 0 = .ok (.getstatic 44, 3) := by decide +kernel
theorem dJ2_getChar_3b067_3 : decode cJ2_getChar_3b067 3 = .ok (.ifCond .ne 25, 3) := by decide +kernel
theorem dJ2_getChar_3b067_6 : decode cJ2_getChar_3b067 6 = .ok (.iload_n 1, 1) := by decide +kernel
theorem dJ2_getChar_3b067_7 : decode cJ2_getChar_3b067 7 = .ok (.ifCond .lt 11, 3) := by decide +kernel
theorem dJ2_getChar_3b067_10 : decode cJ2_getChar_3b067 10 = .ok (.iload_n 1, 1) := by decide +kernel
theorem dJ2_getChar_3b067_11 : decode cJ2_getChar_3b067 11 = .ok (.aload_n 0, 1) := by decide +kernel
theorem dJ2_getChar_3b067_12 : decode cJ2_getChar_3b067 12 = .ok (.invokestatic 48, 3) := by decide +kernel
theorem dJ2_getChar_3b067_15 : decode cJ2_getChar_3b067 15 = .ok (.if_icmp .lt 13, 3) := by decide +kernel
theorem dJ2_getChar_3b067_18 : decode cJ2_getChar_3b067 18 = .ok (.new 52, 3) := by decide +kernel
theorem dJ2_getChar_3b067_21 : decode cJ2_getChar_3b067 21 = .ok (.dup, 1) := by decide +kernel
theorem dJ2_getChar_3b067_22 : decode cJ2_getChar_3b067 22 = .ok (.ldc 54, 2) := by decide +kernel
theorem dJ2_getChar_3b067_24 : decode cJ2_getChar_3b067 24 = .ok (.invokespecial 56, 3) := by decide +kernel
theorem dJ2_getChar_3b067_27 : decode cJ2_getChar_3b067 27 = .ok (.athrow, 1) := by decide +kernel
theorem dJ2_getChar_3b067_28 : decode cJ2_getChar_3b067 28 = .ok (.iload_n 1, 1) := by decide +kernel
theorem dJ2_getChar_3b067_29 : decode cJ2_getChar_3b067 29 = .ok (.iconst 1, 1) := by decide +kernel
theorem dJ2_getChar_3b067_30 : decode cJ2_getChar_3b067 30 = .ok (.ishl, 1) := by decide +kernel
theorem dJ2_getChar_3b067_31 : decode cJ2_getChar_3b067 31 = .ok (.istore_n 1, 1) := by decide +kernel
theorem dJ2_getChar_3b067_32 : decode cJ2_getChar_3b067 32 = .ok (.aload_n 0, 1) := by decide +kernel
theorem dJ2_getChar_3b067_33 : decode cJ2_getChar_3b067 33 = .ok (.iload_n 1, 1) := by decide +kernel
theorem dJ2_getChar_3b067_34 : decode cJ2_getChar_3b067 34 = .ok (.iinc 1 1, 3) := by decide +kernel
theorem dJ2_getChar_3b067_37 : decode cJ2_getChar_3b067 37 = .ok (.baload, 1) := by decide +kernel
theorem dJ2_getChar_3b067_38 : decode cJ2_getChar_3b067 38 = .ok (.sipush 255, 3) := by decide +kernel
theorem dJ2_getChar_3b067_41 : decode cJ2_getChar_3b067 41 = .ok (.iand, 1) := by decide +kernel
theorem dJ2_getChar_3b067_42 : decode cJ2_getChar_3b067 42 = .ok (.getstatic 59, 3) := by decide +kernel
theorem dJ2_getChar_3b067_45 : decode cJ2_getChar_3b067 45 = .ok (.ishl, 1) := by decide +kernel
theorem dJ2_getChar_3b067_46 : decode cJ2_getChar_3b067 46 = .ok (.aload_n 0, 1) := by decide +kernel
theorem dJ2_getChar_3b067_47 : decode cJ2_getChar_3b067 47 = .ok (.iload_n 1, 1) := by decide +kernel
theorem dJ2_getChar_3b067_48 : decode cJ2_getChar_3b067 48 = .ok (.baload, 1) := by decide +kernel
theorem dJ2_getChar_3b067_49 : decode cJ2_getChar_3b067 49 = .ok (.sipush 255, 3) := by decide +kernel
theorem dJ2_getChar_3b067_52 : decode cJ2_getChar_3b067 52 = .ok (.iand, 1) := by decide +kernel
theorem dJ2_getChar_3b067_53 : decode cJ2_getChar_3b067 53 = .ok (.getstatic 63, 3) := by decide +kernel
theorem dJ2_getChar_3b067_56 : decode cJ2_getChar_3b067 56 = .ok (.ishl, 1) := by decide +kernel
theorem dJ2_getChar_3b067_57 : decode cJ2_getChar_3b067 57 = .ok (.ior, 1) := by decide +kernel
theorem dJ2_getChar_3b067_58 : decode cJ2_getChar_3b067 58 = .ok (.i2c, 1) := by decide +kernel
theorem dJ2_getChar_3b067_59 : decode cJ2_getChar_3b067 59 = .ok (.ireturn, 1) := by decide +kernel
theorem dJ2_length_9d52b_0 : decode cJ2_length_9d52b 0 = .ok (.aload_n 0, 1) := by decide +kernel
theorem dJ2_length_9d52b_1 : decode cJ2_length_9d52b 1 = .ok (.arraylength, 1) := by decide +kernel
theorem dJ2_length_9d52b_2 : decode cJ2_length_9d52b 2 = .ok (.iconst 1, 1) := by decide +kernel
theorem dJ2_length_9d52b_3 : decode cJ2_length_9d52b 3 = .ok (.ishr, 1) := by decide +kernel
theorem dJ2_length_9d52b_4 : decode cJ2_length_9d52b 4 = .ok (.ireturn, 1) := by decide +kernel
theorem dJ2_charAt_3b067_0 : decode cJ2_charAt_3b067 0 = .ok (.iload_n 1, 1) := by decide +kernel
theorem dJ2_charAt_3b067_1 : decode cJ2_charAt_3b067 1 = .ok (.aload_n 0, 1) := by decide +kernel
theorem dJ2_charAt_3b067_2 : decode cJ2_charAt_3b067 2 = .ok (.invokestatic 67, 3) := by decide +kernel
theorem dJ2_charAt_3b067_5 : decode cJ2_charAt_3b067 5 = .ok (.aload_n 0, 1) := by decide +kernel
theorem dJ2_charAt_3b067_6 : decode cJ2_charAt_3b067 6 = .ok (.iload_n 1, 1) := by decide +kernel
theorem dJ2_charAt_3b067_7 : decode cJ2_charAt_3b067 7 = .ok (.invokestatic 71, 3) := by decide +kernel
theorem dJ2_charAt_3b067_10 : decode cJ2_charAt_3b067 10 = .ok (.ireturn, 1) := by decide +kernel
theorem dJ2_checkIndex_2214a_0 : decode cJ2_checkIndex_2214a 0 = .ok (.iload_n 0, 1) := by decide +kernel
theorem dJ2_checkIndex_2214a_1 : decode cJ2_checkIndex_2214a 1 = .ok (.aload_n 1, 1) := by decide +kernel
theorem dJ2_checkIndex_2214a_2 : decode cJ2_checkIndex_2214a 2 = .ok (.invokestatic 48, 3) := by decide +kernel
theorem dJ2_checkIndex_2214a_5 : decode cJ2_checkIndex_2214a 5 = .ok (.invokestatic 414, 3) := by decide +kernel
theorem dJ2_checkIndex_2214a_8 : decode cJ2_checkIndex_2214a 8 = .ok (.return_, 1) := by decide +kernel
theorem dJ7_fill_d0a16_0 : decode cJ7_fill_d0a16 0 = .ok (.iconst 0, 1) := by decide +kernel
theorem dJ7_fill_d0a16_1 : decode cJ7_fill_d0a16 1 = .ok (.istore_n 3, 1) := by decide +kernel
theorem dJ7_fill_d0a16_2 : decode cJ7_fill_d0a16 2 = .ok (.aload_n 0, 1) := by decide +kernel
theorem dJ7_fill_d0a16_3 : decode cJ7_fill_d0a16 3 = .ok (.arraylength, 1) := by decide +kernel
theorem dJ7_fill_d0a16_4 : decode cJ7_fill_d0a16 4 = .ok (.istore 4, 2) := by decide +kernel
theorem dJ7_fill_d0a16_6 : decode cJ7_fill_d0a16 6 = .ok (.iload_n 3, 1) := by decide +kernel
theorem dJ7_fill_d0a16_7 : decode cJ7_fill_d0a16 7 = .ok (.iload 4, 2) := by decide +kernel
theorem dJ7_fill_d0a16_9 : decode cJ7_fill_d0a16 9 = .ok (.if_icmp .ge 13, 3) := by decide +kernel
theorem dJ7_fill_d0a16_12 : decode cJ7_fill_d0a16 12 = .ok (.aload_n 0, 1) := by decide +kernel
theorem dJ7_fill_d0a16_13 : decode cJ7_fill_d0a16 13 = .ok (.iload_n 3, 1) := by decide +kernel
theorem dJ7_fill_d0a16_14 : decode cJ7_fill_d0a16 14 = .ok (.lload_n 1, 1) := by decide +kernel
theorem dJ7_fill_d0a16_15 : decode cJ7_fill_d0a16 15 = .ok (.lastore, 1) := by decide +kernel
theorem dJ7_fill_d0a16_16 : decode cJ7_fill_d0a16 16 = .ok (.iinc 3 1, 3) := by decide +kernel
theorem dJ7_fill_d0a16_19 : decode cJ7_fill_d0a16 19 = .ok (.goto (-13), 3) := by decide +kernel
theorem dJ7_fill_d0a16_22 : decode cJ7_fill_d0a16 22 = .ok (.return_, 1) := by decide +kernel
theorem dJ7_fill_53178_0 : decode cJ7_fill_53178 0 = .ok (.iconst 0, 1) := by decide +kernel
theorem dJ7_fill_53178_1 : decode cJ7_fill_53178 1 = .ok (.istore_n 2, 1) := by decide +kernel
theorem dJ7_fill_53178_2 : decode cJ7_fill_53178 2 = .ok (.aload_n 0, 1) := by decide +kernel
theorem dJ7_fill_53178_3 : decode cJ7_fill_53178 3 = .ok (.arraylength, 1) := by decide +kernel
theorem dJ7_fill_53178_4 : decode cJ7_fill_53178 4 = .ok (.istore_n 3, 1) := by decide +kernel
theorem dJ7_fill_53178_5 : decode cJ7_fill_53178 5 = .ok (.iload_n 2, 1) := by decide +kernel
theorem dJ7_fill_53178_6 : decode cJ7_fill_53178 6 = .ok (.iload_n 3, 1) := by decide +kernel
theorem dJ7_fill_53178_7 : decode cJ7_fill_53178 7 = .ok (.if_icmp .ge 13, 3) := by decide +kernel
theorem dJ7_fill_53178_10 : decode cJ7_fill_53178 10 = .ok (.aload_n 0, 1) := by decide +kernel
theorem dJ7_fill_53178_11 : decode cJ7_fill_53178 11 = .ok (.iload_n 2, 1) := by decide +kernel
theorem dJ7_fill_53178_12 : decode cJ7_fill_53178 12 = .ok (.iload_n 1, 1) := by decide +kernel
theorem dJ7_fill_53178_13 : decode cJ7_fill_53178 13 = .ok (.iastore, 1) := by decide +kernel
theorem dJ7_fill_53178_14 : decode cJ7_fill_53178 14 = .ok (.iinc 2 1, 3) := by decide +kernel
theorem dJ7_fill_53178_17 : decode cJ7_fill_53178 17 = .ok (.goto (-12), 3) := by decide +kernel
theorem dJ7_fill_53178_20 : decode cJ7_fill_53178 20 = .ok (.return_, 1) := by decide +kernel
theorem dJ7_copyOf_59c91_0 : decode cJ7_copyOf_59c91 0 = .ok (.iload_n 1, 1) := by decide +kernel
theorem dJ7_copyOf_59c91_1 : decode cJ7_copyOf_59c91 1 = .ok (.aload_n 0, 1) := by decide +kernel
theorem dJ7_copyOf_59c91_2 : decode cJ7_copyOf_59c91 2 = .ok (.arraylength, 1) := by decide +kernel
theorem dJ7_copyOf_59c91_3 : decode cJ7_copyOf_59c91 3 = .ok (.if_icmp .ne 11, 3) := by decide +kernel
theorem dJ7_copyOf_59c91_6 : decode cJ7_copyOf_59c91 6 = .ok (.aload_n 0, 1) := by decide +kernel
theorem dJ7_copyOf_59c91_7 : decode cJ7_copyOf_59c91 7 = .ok (.invokevirtual 316, 3) := by decide +kernel
theorem dJ7_copyOf_59c91_10 : decode cJ7_copyOf_59c91 10 = .ok (.checkcast 317, 3) := by decide +kernel
theorem dJ7_copyOf_59c91_13 : decode cJ7_copyOf_59c91 13 = .ok (.areturn, 1) := by decide +kernel
theorem dJ7_copyOf_59c91_14 : decode cJ7_copyOf_59c91 14 = .ok (.iload_n 1, 1) := by decide +kernel
theorem dJ7_copyOf_59c91_15 : decode cJ7_copyOf_59c91 15 = .ok (.newarray .int, 2) := by decide +kernel
theorem dJ7_copyOf_59c91_17 : decode cJ7_copyOf_59c91 17 = .ok (.astore_n 2, 1) := by decide +kernel
theorem dJ7_copyOf_59c91_18 : decode cJ7_copyOf_59c91 18 = .ok (.aload_n 0, 1) := by decide +kernel
theorem dJ7_copyOf_59c91_19 : decode cJ7_copyOf_59c91 19 = .ok (.iconst 0, 1) := by decide +kernel
theorem dJ7_copyOf_59c91_20 : decode cJ7_copyOf_59c91 20 = .ok (.aload_n 2, 1) := by decide +kernel
theorem dJ7_copyOf_59c91_21 : decode cJ7_copyOf_59c91 21 = .ok (.iconst 0, 1) := by decide +kernel
theorem dJ7_copyOf_59c91_22 : decode cJ7_copyOf_59c91 22 = .ok (.aload_n 0, 1) := by decide +kernel
theorem dJ7_copyOf_59c91_23 : decode cJ7_copyOf_59c91 23 = .ok (.arraylength, 1) := by decide +kernel
theorem dJ7_copyOf_59c91_24 : decode cJ7_copyOf_59c91 24 = .ok (.iload_n 1, 1) := by decide +kernel
theorem dJ7_copyOf_59c91_25 : decode cJ7_copyOf_59c91 25 = .ok (.invokestatic 304, 3) := by decide +kernel
theorem dJ7_copyOf_59c91_28 : decode cJ7_copyOf_59c91 28 = .ok (.invokestatic 150, 3) := by decide +kernel
theorem dJ7_copyOf_59c91_31 : decode cJ7_copyOf_59c91 31 = .ok (.aload_n 2, 1) := by decide +kernel
theorem dJ7_copyOf_59c91_32 : decode cJ7_copyOf_59c91 32 = .ok (.areturn, 1) := by decide +kernel
theorem dJ3_checkIndex_8e157_0 : decode cJ3_checkIndex_8e157 0 = .ok (.iload_n 0, 1) := by decide +kernel
theorem dJ3_checkIndex_8e157_1 : decode cJ3_checkIndex_8e157 1 = .ok (.ifCond .lt 8, 3) := by decide +kernel
theorem dJ3_checkIndex_8e157_4 : decode cJ3_checkIndex_8e157 4 = .ok (.iload_n 0, 1) := by decide +kernel
theorem dJ3_checkIndex_8e157_5 : decode cJ3_checkIndex_8e157 5 = .ok (.iload_n 1, 1) := by decide +kernel
theorem dJ3_checkIndex_8e157_6 : decode cJ3_checkIndex_8e157 6 = .ok (.if_icmp .lt 10, 3) := by decide +kernel
theorem dJ3_checkIndex_8e157_9 : decode cJ3_checkIndex_8e157 9 = .ok (.aload_n 2, 1) := by decide +kernel
theorem dJ3_checkIndex_8e157_10 : decode cJ3_checkIndex_8e157 10 = .ok (.iload_n 0, 1) := by decide +kernel
theorem dJ3_checkIndex_8e157_11 : decode cJ3_checkIndex_8e157 11 = .ok (.iload_n 1, 1) := by decide +kernel
theorem dJ3_checkIndex_8e157_12 : decode cJ3_checkIndex_8e157 12 = .ok (.invokestatic 95, 3) := by decide +kernel
theorem dJ3_checkIndex_8e157_15 : decode cJ3_checkIndex_8e157 15 = .ok (.athrow, 1) := by decide +kernel
theorem dJ3_checkIndex_8e157_16 : decode cJ3_checkIndex_8e157 16 = .ok (.iload_n 0, 1) := by decide +kernel
theorem dJ3_checkIndex_8e157_17 : decode cJ3_checkIndex_8e157 17 = .ok (.ireturn, 1) := by decide +kernel
theorem dL_law_0 : decode cL_law 0 = .ok (.new 7, 3) := by decide +kernel
theorem dL_law_3 : decode cL_law 3 = .ok (.dup, 1) := by decide +kernel
theorem dL_law_4 : decode cL_law 4 = .ok (.invokespecial 9, 3) := by decide +kernel
theorem dL_law_7 : decode cL_law 7 = .ok (.astore_n 1, 1) := by decide +kernel
theorem dL_law_8 : decode cL_law 8 = .ok (.new 10, 3) := by decide +kernel
theorem dL_law_11 : decode cL_law 11 = .ok (.dup, 1) := by decide +kernel
theorem dL_law_12 : decode cL_law 12 = .ok (.invokespecial 12, 3) := by decide +kernel
theorem dL_law_15 : decode cL_law 15 = .ok (.astore_n 2, 1) := by decide +kernel
theorem dL_law_16 : decode cL_law 16 = .ok (.iconst 0, 1) := by decide +kernel
theorem dL_law_17 : decode cL_law 17 = .ok (.istore_n 3, 1) := by decide +kernel
theorem dL_law_18 : decode cL_law 18 = .ok (.iload_n 3, 1) := by decide +kernel
theorem dL_law_19 : decode cL_law 19 = .ok (.aload_n 0, 1) := by decide +kernel
theorem dL_law_20 : decode cL_law 20 = .ok (.arraylength, 1) := by decide +kernel
theorem dL_law_21 : decode cL_law 21 = .ok (.bipush 6, 2) := by decide +kernel
theorem dL_law_23 : decode cL_law 23 = .ok (.isub, 1) := by decide +kernel
theorem dL_law_24 : decode cL_law 24 = .ok (.if_icmp .gt 1315, 3) := by decide +kernel
theorem dL_law_27 : decode cL_law 27 = .ok (.aload_n 0, 1) := by decide +kernel
theorem dL_law_28 : decode cL_law 28 = .ok (.iload_n 3, 1) := by decide +kernel
theorem dL_law_29 : decode cL_law 29 = .ok (.iaload, 1) := by decide +kernel
theorem dL_law_30 : decode cL_law 30 = .ok (.bipush 63, 2) := by decide +kernel
theorem dL_law_32 : decode cL_law 32 = .ok (.iand, 1) := by decide +kernel
theorem dL_law_33 : decode cL_law 33 = .ok (.tableswitch 1300 0 41 #[183, 216, 249, 292, 325, 348, 381, 424, 457, 520, 543, 556, 569, 582, 595, 608, 621, 644, 677, 720, 743, 756, 769, 782, 805, 838, 871, 894, 917, 960, 973, 1006, 1049, 1092, 1105, 1118, 1152, 1185, 1218, 1241, 1264, 1287], 183) := by decide +kernel
theorem dL_law_216 : decode cL_law 216 = .ok (.aload_n 1, 1) := by decide +kernel
theorem dL_law_217 : decode cL_law 217 = .ok (.aload_n 0, 1) := by decide +kernel
theorem dL_law_218 : decode cL_law 218 = .ok (.iload_n 3, 1) := by decide +kernel
theorem dL_law_219 : decode cL_law 219 = .ok (.iconst 1, 1) := by decide +kernel
theorem dL_law_220 : decode cL_law 220 = .ok (.iadd, 1) := by decide +kernel
theorem dL_law_221 : decode cL_law 221 = .ok (.iaload, 1) := by decide +kernel
theorem dL_law_222 : decode cL_law 222 = .ok (.aload_n 0, 1) := by decide +kernel
theorem dL_law_223 : decode cL_law 223 = .ok (.iload_n 3, 1) := by decide +kernel
theorem dL_law_224 : decode cL_law 224 = .ok (.iconst 2, 1) := by decide +kernel
theorem dL_law_225 : decode cL_law 225 = .ok (.iadd, 1) := by decide +kernel
theorem dL_law_226 : decode cL_law 226 = .ok (.iaload, 1) := by decide +kernel
theorem dL_law_227 : decode cL_law 227 = .ok (.invokevirtual 13, 3) := by decide +kernel
theorem dL_law_230 : decode cL_law 230 = .ok (.aload_n 2, 1) := by decide +kernel
theorem dL_law_231 : decode cL_law 231 = .ok (.aload_n 0, 1) := by decide +kernel
theorem dL_law_232 : decode cL_law 232 = .ok (.iload_n 3, 1) := by decide +kernel
theorem dL_law_233 : decode cL_law 233 = .ok (.iconst 1, 1) := by decide +kernel
theorem dL_law_234 : decode cL_law 234 = .ok (.iadd, 1) := by decide +kernel
theorem dL_law_235 : decode cL_law 235 = .ok (.iaload, 1) := by decide +kernel
theorem dL_law_236 : decode cL_law 236 = .ok (.aload_n 0, 1) := by decide +kernel
theorem dL_law_237 : decode cL_law 237 = .ok (.iload_n 3, 1) := by decide +kernel
theorem dL_law_238 : decode cL_law 238 = .ok (.iconst 2, 1) := by decide +kernel
theorem dL_law_239 : decode cL_law 239 = .ok (.iadd, 1) := by decide +kernel
theorem dL_law_240 : decode cL_law 240 = .ok (.iaload, 1) := by decide +kernel
theorem dL_law_241 : decode cL_law 241 = .ok (.invokevirtual 17, 3) := by decide +kernel
theorem dL_law_244 : decode cL_law 244 = .ok (.if_icmp .eq 1089, 3) := by decide +kernel
theorem dL_law_247 : decode cL_law 247 = .ok (.iconst 0, 1) := by decide +kernel
theorem dL_law_248 : decode cL_law 248 = .ok (.ireturn, 1) := by decide +kernel
theorem dL_law_249 : decode cL_law 249 = .ok (.aload_n 1, 1) := by decide +kernel
theorem dL_law_250 : decode cL_law 250 = .ok (.aload_n 0, 1) := by decide +kernel
theorem dL_law_251 : decode cL_law 251 = .ok (.iload_n 3, 1) := by decide +kernel
theorem dL_law_252 : decode cL_law 252 = .ok (.iconst 1, 1) := by decide +kernel
theorem dL_law_253 : decode cL_law 253 = .ok (.iadd, 1) := by decide +kernel
theorem dL_law_254 : decode cL_law 254 = .ok (.iaload, 1) := by decide +kernel
theorem dL_law_255 : decode cL_law 255 = .ok (.aload_n 0, 1) := by decide +kernel
theorem dL_law_256 : decode cL_law 256 = .ok (.iload_n 3, 1) := by decide +kernel
theorem dL_law_257 : decode cL_law 257 = .ok (.iconst 2, 1) := by decide +kernel
theorem dL_law_258 : decode cL_law 258 = .ok (.iadd, 1) := by decide +kernel
theorem dL_law_259 : decode cL_law 259 = .ok (.iaload, 1) := by decide +kernel
theorem dL_law_260 : decode cL_law 260 = .ok (.invokevirtual 18, 3) := by decide +kernel
theorem dL_law_263 : decode cL_law 263 = .ok (.aload_n 2, 1) := by decide +kernel
theorem dL_law_264 : decode cL_law 264 = .ok (.aload_n 0, 1) := by decide +kernel
theorem dL_law_265 : decode cL_law 265 = .ok (.iload_n 3, 1) := by decide +kernel
theorem dL_law_266 : decode cL_law 266 = .ok (.iconst 1, 1) := by decide +kernel
theorem dL_law_267 : decode cL_law 267 = .ok (.iadd, 1) := by decide +kernel
theorem dL_law_268 : decode cL_law 268 = .ok (.iaload, 1) := by decide +kernel
theorem dL_law_269 : decode cL_law 269 = .ok (.aload_n 0, 1) := by decide +kernel
theorem dL_law_270 : decode cL_law 270 = .ok (.iload_n 3, 1) := by decide +kernel
theorem dL_law_271 : decode cL_law 271 = .ok (.iconst 2, 1) := by decide +kernel
theorem dL_law_272 : decode cL_law 272 = .ok (.iadd, 1) := by decide +kernel
theorem dL_law_273 : decode cL_law 273 = .ok (.iaload, 1) := by decide +kernel
theorem dL_law_274 : decode cL_law 274 = .ok (.invokevirtual 21, 3) := by decide +kernel
theorem dL_law_277 : decode cL_law 277 = .ok (.if_icmp .eq 1056, 3) := by decide +kernel
theorem dL_law_280 : decode cL_law 280 = .ok (.iconst 0, 1) := by decide +kernel
theorem dL_law_281 : decode cL_law 281 = .ok (.ireturn, 1) := by decide +kernel
theorem dL_law_282 : decode cL_law 282 = .ok (.aload_n 1, 1) := by decide +kernel
theorem dL_law_283 : decode cL_law 283 = .ok (.aload_n 0, 1) := by decide +kernel
theorem dL_law_284 : decode cL_law 284 = .ok (.iload_n 3, 1) := by decide +kernel
theorem dL_law_285 : decode cL_law 285 = .ok (.iconst 1, 1) := by decide +kernel
theorem dL_law_286 : decode cL_law 286 = .ok (.iadd, 1) := by decide +kernel
theorem dL_law_287 : decode cL_law 287 = .ok (.iaload, 1) := by decide +kernel
theorem dL_law_288 : decode cL_law 288 = .ok (.aload_n 0, 1) := by decide +kernel
theorem dL_law_289 : decode cL_law 289 = .ok (.iload_n 3, 1) := by decide +kernel
theorem dL_law_290 : decode cL_law 290 = .ok (.iconst 2, 1) := by decide +kernel
theorem dL_law_291 : decode cL_law 291 = .ok (.iadd, 1) := by decide +kernel
theorem dL_law_292 : decode cL_law 292 = .ok (.iaload, 1) := by decide +kernel
theorem dL_law_293 : decode cL_law 293 = .ok (.aload_n 0, 1) := by decide +kernel
theorem dL_law_294 : decode cL_law 294 = .ok (.iload_n 3, 1) := by decide +kernel
theorem dL_law_295 : decode cL_law 295 = .ok (.iconst 3, 1) := by decide +kernel
theorem dL_law_296 : decode cL_law 296 = .ok (.iadd, 1) := by decide +kernel
theorem dL_law_297 : decode cL_law 297 = .ok (.iaload, 1) := by decide +kernel
theorem dL_law_298 : decode cL_law 298 = .ok (.invokevirtual 22, 3) := by decide +kernel
theorem dL_law_301 : decode cL_law 301 = .ok (.aload_n 2, 1) := by decide +kernel
theorem dL_law_302 : decode cL_law 302 = .ok (.aload_n 0, 1) := by decide +kernel
theorem dL_law_303 : decode cL_law 303 = .ok (.iload_n 3, 1) := by decide +kernel
theorem dL_law_304 : decode cL_law 304 = .ok (.iconst 1, 1) := by decide +kernel
theorem dL_law_305 : decode cL_law 305 = .ok (.iadd, 1) := by decide +kernel
theorem dL_law_306 : decode cL_law 306 = .ok (.iaload, 1) := by decide +kernel
theorem dL_law_307 : decode cL_law 307 = .ok (.aload_n 0, 1) := by decide +kernel
theorem dL_law_308 : decode cL_law 308 = .ok (.iload_n 3, 1) := by decide +kernel
theorem dL_law_309 : decode cL_law 309 = .ok (.iconst 2, 1) := by decide +kernel
theorem dL_law_310 : decode cL_law 310 = .ok (.iadd, 1) := by decide +kernel
theorem dL_law_311 : decode cL_law 311 = .ok (.iaload, 1) := by decide +kernel
theorem dL_law_312 : decode cL_law 312 = .ok (.aload_n 0, 1) := by decide +kernel
theorem dL_law_313 : decode cL_law 313 = .ok (.iload_n 3, 1) := by decide +kernel
theorem dL_law_314 : decode cL_law 314 = .ok (.iconst 3, 1) := by decide +kernel
theorem dL_law_315 : decode cL_law 315 = .ok (.iadd, 1) := by decide +kernel
theorem dL_law_316 : decode cL_law 316 = .ok (.iaload, 1) := by decide +kernel
theorem dL_law_317 : decode cL_law 317 = .ok (.invokevirtual 26, 3) := by decide +kernel
theorem dL_law_320 : decode cL_law 320 = .ok (.if_icmp .eq 1013, 3) := by decide +kernel
theorem dL_law_323 : decode cL_law 323 = .ok (.iconst 0, 1) := by decide +kernel
theorem dL_law_324 : decode cL_law 324 = .ok (.ireturn, 1) := by decide +kernel
theorem dL_law_325 : decode cL_law 325 = .ok (.aload_n 1, 1) := by decide +kernel
theorem dL_law_326 : decode cL_law 326 = .ok (.aload_n 0, 1) := by decide +kernel
theorem dL_law_327 : decode cL_law 327 = .ok (.iload_n 3, 1) := by decide +kernel
theorem dL_law_328 : decode cL_law 328 = .ok (.iconst 1, 1) := by decide +kernel
theorem dL_law_329 : decode cL_law 329 = .ok (.iadd, 1) := by decide +kernel
theorem dL_law_330 : decode cL_law 330 = .ok (.iaload, 1) := by decide +kernel
theorem dL_law_331 : decode cL_law 331 = .ok (.aload_n 0, 1) := by decide +kernel
theorem dL_law_332 : decode cL_law 332 = .ok (.iload_n 3, 1) := by decide +kernel
theorem dL_law_333 : decode cL_law 333 = .ok (.iconst 2, 1) := by decide +kernel
theorem dL_law_334 : decode cL_law 334 = .ok (.iadd, 1) := by decide +kernel
theorem dL_law_335 : decode cL_law 335 = .ok (.iaload, 1) := by decide +kernel
theorem dL_law_336 : decode cL_law 336 = .ok (.invokevirtual 27, 3) := by decide +kernel
theorem dL_law_339 : decode cL_law 339 = .ok (.aload_n 2, 1) := by decide +kernel
theorem dL_law_340 : decode cL_law 340 = .ok (.aload_n 0, 1) := by decide +kernel
theorem dL_law_341 : decode cL_law 341 = .ok (.iload_n 3, 1) := by decide +kernel
theorem dL_law_342 : decode cL_law 342 = .ok (.iconst 1, 1) := by decide +kernel
theorem dL_law_343 : decode cL_law 343 = .ok (.iadd, 1) := by decide +kernel
theorem dL_law_344 : decode cL_law 344 = .ok (.iaload, 1) := by decide +kernel
theorem dL_law_345 : decode cL_law 345 = .ok (.aload_n 0, 1) := by decide +kernel
theorem dL_law_346 : decode cL_law 346 = .ok (.iload_n 3, 1) := by decide +kernel
theorem dL_law_347 : decode cL_law 347 = .ok (.iconst 2, 1) := by decide +kernel
theorem dL_law_348 : decode cL_law 348 = .ok (.iadd, 1) := by decide +kernel
theorem dL_law_349 : decode cL_law 349 = .ok (.iaload, 1) := by decide +kernel
theorem dL_law_350 : decode cL_law 350 = .ok (.invokevirtual 30, 3) := by decide +kernel
theorem dL_law_353 : decode cL_law 353 = .ok (.if_icmp .eq 980, 3) := by decide +kernel
theorem dL_law_356 : decode cL_law 356 = .ok (.iconst 0, 1) := by decide +kernel
theorem dL_law_357 : decode cL_law 357 = .ok (.ireturn, 1) := by decide +kernel
theorem dL_law_358 : decode cL_law 358 = .ok (.aload_n 1, 1) := by decide +kernel
theorem dL_law_359 : decode cL_law 359 = .ok (.aload_n 0, 1) := by decide +kernel
theorem dL_law_360 : decode cL_law 360 = .ok (.iload_n 3, 1) := by decide +kernel
theorem dL_law_361 : decode cL_law 361 = .ok (.iconst 1, 1) := by decide +kernel
theorem dL_law_362 : decode cL_law 362 = .ok (.iadd, 1) := by decide +kernel
theorem dL_law_363 : decode cL_law 363 = .ok (.iaload, 1) := by decide +kernel
theorem dL_law_364 : decode cL_law 364 = .ok (.invokevirtual 31, 3) := by decide +kernel
theorem dL_law_367 : decode cL_law 367 = .ok (.aload_n 2, 1) := by decide +kernel
theorem dL_law_368 : decode cL_law 368 = .ok (.aload_n 0, 1) := by decide +kernel
theorem dL_law_369 : decode cL_law 369 = .ok (.iload_n 3, 1) := by decide +kernel
theorem dL_law_370 : decode cL_law 370 = .ok (.iconst 1, 1) := by decide +kernel
theorem dL_law_371 : decode cL_law 371 = .ok (.iadd, 1) := by decide +kernel
theorem dL_law_372 : decode cL_law 372 = .ok (.iaload, 1) := by decide +kernel
theorem dL_law_373 : decode cL_law 373 = .ok (.invokevirtual 35, 3) := by decide +kernel
theorem dL_law_376 : decode cL_law 376 = .ok (.if_icmp .eq 957, 3) := by decide +kernel
theorem dL_law_379 : decode cL_law 379 = .ok (.iconst 0, 1) := by decide +kernel
theorem dL_law_380 : decode cL_law 380 = .ok (.ireturn, 1) := by decide +kernel
theorem dL_law_381 : decode cL_law 381 = .ok (.aload_n 1, 1) := by decide +kernel
theorem dL_law_382 : decode cL_law 382 = .ok (.aload_n 0, 1) := by decide +kernel
theorem dL_law_383 : decode cL_law 383 = .ok (.iload_n 3, 1) := by decide +kernel
theorem dL_law_384 : decode cL_law 384 = .ok (.iconst 1, 1) := by decide +kernel
theorem dL_law_385 : decode cL_law 385 = .ok (.iadd, 1) := by decide +kernel
theorem dL_law_386 : decode cL_law 386 = .ok (.iaload, 1) := by decide +kernel
theorem dL_law_387 : decode cL_law 387 = .ok (.aload_n 0, 1) := by decide +kernel
theorem dL_law_388 : decode cL_law 388 = .ok (.iload_n 3, 1) := by decide +kernel
theorem dL_law_389 : decode cL_law 389 = .ok (.iconst 2, 1) := by decide +kernel
theorem dL_law_390 : decode cL_law 390 = .ok (.iadd, 1) := by decide +kernel
theorem dL_law_391 : decode cL_law 391 = .ok (.iaload, 1) := by decide +kernel
theorem dL_law_392 : decode cL_law 392 = .ok (.invokevirtual 36, 3) := by decide +kernel
theorem dL_law_395 : decode cL_law 395 = .ok (.aload_n 2, 1) := by decide +kernel
theorem dL_law_396 : decode cL_law 396 = .ok (.aload_n 0, 1) := by decide +kernel
theorem dL_law_397 : decode cL_law 397 = .ok (.iload_n 3, 1) := by decide +kernel
theorem dL_law_398 : decode cL_law 398 = .ok (.iconst 1, 1) := by decide +kernel
theorem dL_law_399 : decode cL_law 399 = .ok (.iadd, 1) := by decide +kernel
theorem dL_law_400 : decode cL_law 400 = .ok (.iaload, 1) := by decide +kernel
theorem dL_law_401 : decode cL_law 401 = .ok (.aload_n 0, 1) := by decide +kernel
theorem dL_law_402 : decode cL_law 402 = .ok (.iload_n 3, 1) := by decide +kernel
theorem dL_law_403 : decode cL_law 403 = .ok (.iconst 2, 1) := by decide +kernel
theorem dL_law_404 : decode cL_law 404 = .ok (.iadd, 1) := by decide +kernel
theorem dL_law_405 : decode cL_law 405 = .ok (.iaload, 1) := by decide +kernel
theorem dL_law_406 : decode cL_law 406 = .ok (.invokevirtual 39, 3) := by decide +kernel
theorem dL_law_409 : decode cL_law 409 = .ok (.if_icmp .eq 924, 3) := by decide +kernel
theorem dL_law_412 : decode cL_law 412 = .ok (.iconst 0, 1) := by decide +kernel
theorem dL_law_413 : decode cL_law 413 = .ok (.ireturn, 1) := by decide +kernel
theorem dL_law_414 : decode cL_law 414 = .ok (.aload_n 1, 1) := by decide +kernel
theorem dL_law_415 : decode cL_law 415 = .ok (.aload_n 0, 1) := by decide +kernel
theorem dL_law_416 : decode cL_law 416 = .ok (.iload_n 3, 1) := by decide +kernel
theorem dL_law_417 : decode cL_law 417 = .ok (.iconst 1, 1) := by decide +kernel
theorem dL_law_418 : decode cL_law 418 = .ok (.iadd, 1) := by decide +kernel
theorem dL_law_419 : decode cL_law 419 = .ok (.iaload, 1) := by decide +kernel
theorem dL_law_420 : decode cL_law 420 = .ok (.aload_n 0, 1) := by decide +kernel
theorem dL_law_421 : decode cL_law 421 = .ok (.iload_n 3, 1) := by decide +kernel
theorem dL_law_422 : decode cL_law 422 = .ok (.iconst 2, 1) := by decide +kernel
theorem dL_law_423 : decode cL_law 423 = .ok (.iadd, 1) := by decide +kernel
theorem dL_law_424 : decode cL_law 424 = .ok (.iaload, 1) := by decide +kernel
theorem dL_law_425 : decode cL_law 425 = .ok (.aload_n 0, 1) := by decide +kernel
theorem dL_law_426 : decode cL_law 426 = .ok (.iload_n 3, 1) := by decide +kernel
theorem dL_law_427 : decode cL_law 427 = .ok (.iconst 3, 1) := by decide +kernel
theorem dL_law_428 : decode cL_law 428 = .ok (.iadd, 1) := by decide +kernel
theorem dL_law_429 : decode cL_law 429 = .ok (.iaload, 1) := by decide +kernel
theorem dL_law_430 : decode cL_law 430 = .ok (.invokevirtual 40, 3) := by decide +kernel
theorem dL_law_433 : decode cL_law 433 = .ok (.aload_n 2, 1) := by decide +kernel
theorem dL_law_434 : decode cL_law 434 = .ok (.aload_n 0, 1) := by decide +kernel
theorem dL_law_435 : decode cL_law 435 = .ok (.iload_n 3, 1) := by decide +kernel
theorem dL_law_436 : decode cL_law 436 = .ok (.iconst 1, 1) := by decide +kernel
theorem dL_law_437 : decode cL_law 437 = .ok (.iadd, 1) := by decide +kernel
theorem dL_law_438 : decode cL_law 438 = .ok (.iaload, 1) := by decide +kernel
theorem dL_law_439 : decode cL_law 439 = .ok (.aload_n 0, 1) := by decide +kernel
theorem dL_law_440 : decode cL_law 440 = .ok (.iload_n 3, 1) := by decide +kernel
theorem dL_law_441 : decode cL_law 441 = .ok (.iconst 2, 1) := by decide +kernel
theorem dL_law_442 : decode cL_law 442 = .ok (.iadd, 1) := by decide +kernel
theorem dL_law_443 : decode cL_law 443 = .ok (.iaload, 1) := by decide +kernel
theorem dL_law_444 : decode cL_law 444 = .ok (.aload_n 0, 1) := by decide +kernel
theorem dL_law_445 : decode cL_law 445 = .ok (.iload_n 3, 1) := by decide +kernel
theorem dL_law_446 : decode cL_law 446 = .ok (.iconst 3, 1) := by decide +kernel
theorem dL_law_447 : decode cL_law 447 = .ok (.iadd, 1) := by decide +kernel
theorem dL_law_448 : decode cL_law 448 = .ok (.iaload, 1) := by decide +kernel
theorem dL_law_449 : decode cL_law 449 = .ok (.invokevirtual 43, 3) := by decide +kernel
theorem dL_law_452 : decode cL_law 452 = .ok (.if_icmp .eq 881, 3) := by decide +kernel
theorem dL_law_455 : decode cL_law 455 = .ok (.iconst 0, 1) := by decide +kernel
theorem dL_law_456 : decode cL_law 456 = .ok (.ireturn, 1) := by decide +kernel
theorem dL_law_457 : decode cL_law 457 = .ok (.aload_n 1, 1) := by decide +kernel
theorem dL_law_458 : decode cL_law 458 = .ok (.aload_n 0, 1) := by decide +kernel
theorem dL_law_459 : decode cL_law 459 = .ok (.iload_n 3, 1) := by decide +kernel
theorem dL_law_460 : decode cL_law 460 = .ok (.iconst 1, 1) := by decide +kernel
theorem dL_law_461 : decode cL_law 461 = .ok (.iadd, 1) := by decide +kernel
theorem dL_law_462 : decode cL_law 462 = .ok (.iaload, 1) := by decide +kernel
theorem dL_law_463 : decode cL_law 463 = .ok (.aload_n 0, 1) := by decide +kernel
theorem dL_law_464 : decode cL_law 464 = .ok (.iload_n 3, 1) := by decide +kernel
theorem dL_law_465 : decode cL_law 465 = .ok (.iconst 2, 1) := by decide +kernel
theorem dL_law_466 : decode cL_law 466 = .ok (.iadd, 1) := by decide +kernel
theorem dL_law_467 : decode cL_law 467 = .ok (.iaload, 1) := by decide +kernel
theorem dL_law_468 : decode cL_law 468 = .ok (.invokevirtual 44, 3) := by decide +kernel
theorem dL_law_471 : decode cL_law 471 = .ok (.aload_n 2, 1) := by decide +kernel
theorem dL_law_472 : decode cL_law 472 = .ok (.aload_n 0, 1) := by decide +kernel
theorem dL_law_473 : decode cL_law 473 = .ok (.iload_n 3, 1) := by decide +kernel
theorem dL_law_474 : decode cL_law 474 = .ok (.iconst 1, 1) := by decide +kernel
theorem dL_law_475 : decode cL_law 475 = .ok (.iadd, 1) := by decide +kernel
theorem dL_law_476 : decode cL_law 476 = .ok (.iaload, 1) := by decide +kernel
theorem dL_law_477 : decode cL_law 477 = .ok (.aload_n 0, 1) := by decide +kernel
theorem dL_law_478 : decode cL_law 478 = .ok (.iload_n 3, 1) := by decide +kernel
theorem dL_law_479 : decode cL_law 479 = .ok (.iconst 2, 1) := by decide +kernel
theorem dL_law_480 : decode cL_law 480 = .ok (.iadd, 1) := by decide +kernel
theorem dL_law_481 : decode cL_law 481 = .ok (.iaload, 1) := by decide +kernel
theorem dL_law_482 : decode cL_law 482 = .ok (.invokevirtual 47, 3) := by decide +kernel
theorem dL_law_485 : decode cL_law 485 = .ok (.if_icmp .eq 848, 3) := by decide +kernel
theorem dL_law_488 : decode cL_law 488 = .ok (.iconst 0, 1) := by decide +kernel
theorem dL_law_489 : decode cL_law 489 = .ok (.ireturn, 1) := by decide +kernel
theorem dL_law_490 : decode cL_law 490 = .ok (.aload_n 1, 1) := by decide +kernel
theorem dL_law_491 : decode cL_law 491 = .ok (.aload_n 0, 1) := by decide +kernel
theorem dL_law_492 : decode cL_law 492 = .ok (.iload_n 3, 1) := by decide +kernel
theorem dL_law_493 : decode cL_law 493 = .ok (.iconst 1, 1) := by decide +kernel
theorem dL_law_494 : decode cL_law 494 = .ok (.iadd, 1) := by decide +kernel
theorem dL_law_495 : decode cL_law 495 = .ok (.iaload, 1) := by decide +kernel
theorem dL_law_496 : decode cL_law 496 = .ok (.aload_n 0, 1) := by decide +kernel
theorem dL_law_497 : decode cL_law 497 = .ok (.iload_n 3, 1) := by decide +kernel
theorem dL_law_498 : decode cL_law 498 = .ok (.iconst 2, 1) := by decide +kernel
theorem dL_law_499 : decode cL_law 499 = .ok (.iadd, 1) := by decide +kernel
theorem dL_law_500 : decode cL_law 500 = .ok (.iaload, 1) := by decide +kernel
theorem dL_law_501 : decode cL_law 501 = .ok (.aload_n 0, 1) := by decide +kernel
theorem dL_law_502 : decode cL_law 502 = .ok (.iload_n 3, 1) := by decide +kernel
theorem dL_law_503 : decode cL_law 503 = .ok (.iconst 3, 1) := by decide +kernel
theorem dL_law_504 : decode cL_law 504 = .ok (.iadd, 1) := by decide +kernel
theorem dL_law_505 : decode cL_law 505 = .ok (.iaload, 1) := by decide +kernel
theorem dL_law_506 : decode cL_law 506 = .ok (.aload_n 0, 1) := by decide +kernel
theorem dL_law_507 : decode cL_law 507 = .ok (.iload_n 3, 1) := by decide +kernel
theorem dL_law_508 : decode cL_law 508 = .ok (.iconst 4, 1) := by decide +kernel
theorem dL_law_509 : decode cL_law 509 = .ok (.iadd, 1) := by decide +kernel
theorem dL_law_510 : decode cL_law 510 = .ok (.iaload, 1) := by decide +kernel
theorem dL_law_511 : decode cL_law 511 = .ok (.aload_n 0, 1) := by decide +kernel
theorem dL_law_512 : decode cL_law 512 = .ok (.iload_n 3, 1) := by decide +kernel
theorem dL_law_513 : decode cL_law 513 = .ok (.iconst 5, 1) := by decide +kernel
theorem dL_law_514 : decode cL_law 514 = .ok (.iadd, 1) := by decide +kernel
