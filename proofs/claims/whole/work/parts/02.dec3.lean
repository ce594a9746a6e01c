theorem dX8_logs_185 : decode cX8_logs 185 = .ok (.iastore, 1) := by decide +kernel
theorem dX8_logs_186 : decode cX8_logs 186 = .ok (.return_, 1) := by decide +kernel
theorem dX8_happens_0 : decode cX8_happens 0 = .ok (.aload_n 0, 1) := by decide +kernel
theorem dX8_happens_1 : decode cX8_happens 1 = .ok (.aload_n 0, 1) := by decide +kernel
theorem dX8_happens_2 : decode cX8_happens 2 = .ok (.getfield 17, 3) := by decide +kernel
theorem dX8_happens_5 : decode cX8_happens 5 = .ok (.bipush 70, 2) := by decide +kernel
theorem dX8_happens_7 : decode cX8_happens 7 = .ok (.iaload, 1) := by decide +kernel
theorem dX8_happens_8 : decode cX8_happens 8 = .ok (.aload_n 0, 1) := by decide +kernel
theorem dX8_happens_9 : decode cX8_happens 9 = .ok (.getfield 17, 3) := by decide +kernel
theorem dX8_happens_12 : decode cX8_happens 12 = .ok (.bipush 71, 2) := by decide +kernel
theorem dX8_happens_14 : decode cX8_happens 14 = .ok (.iaload, 1) := by decide +kernel
theorem dX8_happens_15 : decode cX8_happens 15 = .ok (.iload_n 1, 1) := by decide +kernel
theorem dX8_happens_16 : decode cX8_happens 16 = .ok (.invokevirtual 229, 3) := by decide +kernel
theorem dX8_happens_19 : decode cX8_happens 19 = .ok (.aload_n 0, 1) := by decide +kernel
theorem dX8_happens_20 : decode cX8_happens 20 = .ok (.iload_n 1, 1) := by decide +kernel
theorem dX8_happens_21 : decode cX8_happens 21 = .ok (.invokevirtual 326, 3) := by decide +kernel
theorem dX8_happens_24 : decode cX8_happens 24 = .ok (.aload_n 0, 1) := by decide +kernel
theorem dX8_happens_25 : decode cX8_happens 25 = .ok (.getfield 17, 3) := by decide +kernel
theorem dX8_happens_28 : decode cX8_happens 28 = .ok (.bipush 74, 2) := by decide +kernel
theorem dX8_happens_30 : decode cX8_happens 30 = .ok (.dup2, 1) := by decide +kernel
theorem dX8_happens_31 : decode cX8_happens 31 = .ok (.iaload, 1) := by decide +kernel
theorem dX8_happens_32 : decode cX8_happens 32 = .ok (.aload_n 0, 1) := by decide +kernel
theorem dX8_happens_33 : decode cX8_happens 33 = .ok (.getfield 206, 3) := by decide +kernel
theorem dX8_happens_36 : decode cX8_happens 36 = .ok (.iadd, 1) := by decide +kernel
theorem dX8_happens_37 : decode cX8_happens 37 = .ok (.iastore, 1) := by decide +kernel
theorem dX8_happens_38 : decode cX8_happens 38 = .ok (.aload_n 0, 1) := by decide +kernel
theorem dX8_happens_39 : decode cX8_happens 39 = .ok (.getfield 17, 3) := by decide +kernel
theorem dX8_happens_42 : decode cX8_happens 42 = .ok (.bipush 70, 2) := by decide +kernel
theorem dX8_happens_44 : decode cX8_happens 44 = .ok (.aload_n 0, 1) := by decide +kernel
theorem dX8_happens_45 : decode cX8_happens 45 = .ok (.getfield 209, 3) := by decide +kernel
theorem dX8_happens_48 : decode cX8_happens 48 = .ok (.iastore, 1) := by decide +kernel
theorem dX8_happens_49 : decode cX8_happens 49 = .ok (.aload_n 0, 1) := by decide +kernel
theorem dX8_happens_50 : decode cX8_happens 50 = .ok (.getfield 17, 3) := by decide +kernel
theorem dX8_happens_53 : decode cX8_happens 53 = .ok (.bipush 71, 2) := by decide +kernel
theorem dX8_happens_55 : decode cX8_happens 55 = .ok (.aload_n 0, 1) := by decide +kernel
theorem dX8_happens_56 : decode cX8_happens 56 = .ok (.getfield 216, 3) := by decide +kernel
theorem dX8_happens_59 : decode cX8_happens 59 = .ok (.iconst 3, 1) := by decide +kernel
theorem dX8_happens_60 : decode cX8_happens 60 = .ok (.irem, 1) := by decide +kernel
theorem dX8_happens_61 : decode cX8_happens 61 = .ok (.iastore, 1) := by decide +kernel
theorem dX8_happens_62 : decode cX8_happens 62 = .ok (.aload_n 0, 1) := by decide +kernel
theorem dX8_happens_63 : decode cX8_happens 63 = .ok (.getfield 17, 3) := by decide +kernel
theorem dX8_happens_66 : decode cX8_happens 66 = .ok (.bipush 69, 2) := by decide +kernel
theorem dX8_happens_68 : decode cX8_happens 68 = .ok (.dup2, 1) := by decide +kernel
theorem dX8_happens_69 : decode cX8_happens 69 = .ok (.iaload, 1) := by decide +kernel
theorem dX8_happens_70 : decode cX8_happens 70 = .ok (.aload_n 0, 1) := by decide +kernel
theorem dX8_happens_71 : decode cX8_happens 71 = .ok (.getfield 216, 3) := by decide +kernel
theorem dX8_happens_74 : decode cX8_happens 74 = .ok (.iconst 3, 1) := by decide +kernel
theorem dX8_happens_75 : decode cX8_happens 75 = .ok (.if_icmp .ne 7, 3) := by decide +kernel
theorem dX8_happens_78 : decode cX8_happens 78 = .ok (.iconst 1, 1) := by decide +kernel
theorem dX8_happens_79 : decode cX8_happens 79 = .ok (.goto 4, 3) := by decide +kernel
theorem dX8_happens_82 : decode cX8_happens 82 = .ok (.iconst 0, 1) := by decide +kernel
theorem dX8_happens_83 : decode cX8_happens 83 = .ok (.iadd, 1) := by decide +kernel
theorem dX8_happens_84 : decode cX8_happens 84 = .ok (.iastore, 1) := by decide +kernel
theorem dX8_happens_85 : decode cX8_happens 85 = .ok (.iload_n 1, 1) := by decide +kernel
theorem dX8_happens_86 : decode cX8_happens 86 = .ok (.bipush 6, 2) := by decide +kernel
theorem dX8_happens_88 : decode cX8_happens 88 = .ok (.if_icmp .gt 49, 3) := by decide +kernel
theorem dX8_happens_91 : decode cX8_happens 91 = .ok (.aload_n 0, 1) := by decide +kernel
theorem dX8_happens_92 : decode cX8_happens 92 = .ok (.getfield 17, 3) := by decide +kernel
theorem dX8_happens_95 : decode cX8_happens 95 = .ok (.bipush 72, 2) := by decide +kernel
theorem dX8_happens_97 : decode cX8_happens 97 = .ok (.aload_n 0, 1) := by decide +kernel
theorem dX8_happens_98 : decode cX8_happens 98 = .ok (.getfield 17, 3) := by decide +kernel
theorem dX8_happens_101 : decode cX8_happens 101 = .ok (.bipush 60, 2) := by decide +kernel
theorem dX8_happens_103 : decode cX8_happens 103 = .ok (.aload_n 0, 1) := by decide +kernel
theorem dX8_happens_104 : decode cX8_happens 104 = .ok (.aload_n 0, 1) := by decide +kernel
theorem dX8_happens_105 : decode cX8_happens 105 = .ok (.getfield 17, 3) := by decide +kernel
theorem dX8_happens_108 : decode cX8_happens 108 = .ok (.bipush 72, 2) := by decide +kernel
theorem dX8_happens_110 : decode cX8_happens 110 = .ok (.iaload, 1) := by decide +kernel
theorem dX8_happens_111 : decode cX8_happens 111 = .ok (.invokevirtual 195, 3) := by decide +kernel
theorem dX8_happens_114 : decode cX8_happens 114 = .ok (.iconst 1, 1) := by decide +kernel
theorem dX8_happens_115 : decode cX8_happens 115 = .ok (.iadd, 1) := by decide +kernel
theorem dX8_happens_116 : decode cX8_happens 116 = .ok (.aload_n 0, 1) := by decide +kernel
theorem dX8_happens_117 : decode cX8_happens 117 = .ok (.getfield 17, 3) := by decide +kernel
theorem dX8_happens_120 : decode cX8_happens 120 = .ok (.iconst 0, 1) := by decide +kernel
theorem dX8_happens_121 : decode cX8_happens 121 = .ok (.iaload, 1) := by decide +kernel
theorem dX8_happens_122 : decode cX8_happens 122 = .ok (.irem, 1) := by decide +kernel
theorem dX8_happens_123 : decode cX8_happens 123 = .ok (.iadd, 1) := by decide +kernel
theorem dX8_happens_124 : decode cX8_happens 124 = .ok (.iaload, 1) := by decide +kernel
theorem dX8_happens_125 : decode cX8_happens 125 = .ok (.iastore, 1) := by decide +kernel
theorem dX8_happens_126 : decode cX8_happens 126 = .ok (.aload_n 0, 1) := by decide +kernel
theorem dX8_happens_127 : decode cX8_happens 127 = .ok (.getfield 17, 3) := by decide +kernel
theorem dX8_happens_130 : decode cX8_happens 130 = .ok (.bipush 73, 2) := by decide +kernel
theorem dX8_happens_132 : decode cX8_happens 132 = .ok (.dup2, 1) := by decide +kernel
theorem dX8_happens_133 : decode cX8_happens 133 = .ok (.iaload, 1) := by decide +kernel
theorem dX8_happens_134 : decode cX8_happens 134 = .ok (.iconst 1, 1) := by decide +kernel
theorem dX8_happens_135 : decode cX8_happens 135 = .ok (.iadd, 1) := by decide +kernel
theorem dX8_happens_136 : decode cX8_happens 136 = .ok (.iastore, 1) := by decide +kernel
theorem dX8_happens_137 : decode cX8_happens 137 = .ok (.aload_n 0, 1) := by decide +kernel
theorem dX8_happens_138 : decode cX8_happens 138 = .ok (.getfield 206, 3) := by decide +kernel
theorem dX8_happens_141 : decode cX8_happens 141 = .ok (.ireturn, 1) := by decide +kernel
theorem dX8_draws_0 : decode cX8_draws 0 = .ok (.aload_n 0, 1) := by decide +kernel
theorem dX8_draws_1 : decode cX8_draws 1 = .ok (.aload_n 0, 1) := by decide +kernel
theorem dX8_draws_2 : decode cX8_draws 2 = .ok (.getfield 329, 3) := by decide +kernel
theorem dX8_draws_5 : decode cX8_draws 5 = .ok (.ldc2_w 332, 3) := by decide +kernel
theorem dX8_draws_8 : decode cX8_draws 8 = .ok (.lmul, 1) := by decide +kernel
theorem dX8_draws_9 : decode cX8_draws 9 = .ok (.ldc2_w 334, 3) := by decide +kernel
theorem dX8_draws_12 : decode cX8_draws 12 = .ok (.lrem, 1) := by decide +kernel
theorem dX8_draws_13 : decode cX8_draws 13 = .ok (.putfield 329, 3) := by decide +kernel
theorem dX8_draws_16 : decode cX8_draws 16 = .ok (.aload_n 0, 1) := by decide +kernel
theorem dX8_draws_17 : decode cX8_draws 17 = .ok (.getfield 329, 3) := by decide +kernel
theorem dX8_draws_20 : decode cX8_draws 20 = .ok (.ldc2_w 241, 3) := by decide +kernel
theorem dX8_draws_23 : decode cX8_draws 23 = .ok (.lrem, 1) := by decide +kernel
theorem dX8_draws_24 : decode cX8_draws 24 = .ok (.l2i, 1) := by decide +kernel
theorem dX8_draws_25 : decode cX8_draws 25 = .ok (.ireturn, 1) := by decide +kernel
theorem dX8_chooses_0 : decode cX8_chooses 0 = .ok (.aload_n 0, 1) := by decide +kernel
theorem dX8_chooses_1 : decode cX8_chooses 1 = .ok (.iconst 2, 1) := by decide +kernel
theorem dX8_chooses_2 : decode cX8_chooses 2 = .ok (.iconst 2, 1) := by decide +kernel
theorem dX8_chooses_3 : decode cX8_chooses 3 = .ok (.invokevirtual 292, 3) := by decide +kernel
theorem dX8_chooses_6 : decode cX8_chooses 6 = .ok (.bipush 8, 2) := by decide +kernel
theorem dX8_chooses_8 : decode cX8_chooses 8 = .ok (.aload_n 0, 1) := by decide +kernel
theorem dX8_chooses_9 : decode cX8_chooses 9 = .ok (.getfield 17, 3) := by decide +kernel
theorem dX8_chooses_12 : decode cX8_chooses 12 = .ok (.bipush 71, 2) := by decide +kernel
theorem dX8_chooses_14 : decode cX8_chooses 14 = .ok (.iaload, 1) := by decide +kernel
theorem dX8_chooses_15 : decode cX8_chooses 15 = .ok (.imul, 1) := by decide +kernel
theorem dX8_chooses_16 : decode cX8_chooses 16 = .ok (.aload_n 0, 1) := by decide +kernel
theorem dX8_chooses_17 : decode cX8_chooses 17 = .ok (.getfield 17, 3) := by decide +kernel
theorem dX8_chooses_20 : decode cX8_chooses 20 = .ok (.bipush 70, 2) := by decide +kernel
theorem dX8_chooses_22 : decode cX8_chooses 22 = .ok (.iaload, 1) := by decide +kernel
theorem dX8_chooses_23 : decode cX8_chooses 23 = .ok (.iadd, 1) := by decide +kernel
theorem dX8_chooses_24 : decode cX8_chooses 24 = .ok (.istore_n 2, 1) := by decide +kernel
theorem dX8_chooses_25 : decode cX8_chooses 25 = .ok (.iload_n 1, 1) := by decide +kernel
theorem dX8_chooses_26 : decode cX8_chooses 26 = .ok (.ifCond .eq 10, 3) := by decide +kernel
theorem dX8_chooses_29 : decode cX8_chooses 29 = .ok (.aload_n 0, 1) := by decide +kernel
theorem dX8_chooses_30 : decode cX8_chooses 30 = .ok (.getfield 36, 3) := by decide +kernel
theorem dX8_chooses_33 : decode cX8_chooses 33 = .ok (.iload_n 2, 1) := by decide +kernel
theorem dX8_chooses_34 : decode cX8_chooses 34 = .ok (.iaload, 1) := by decide +kernel
theorem dX8_chooses_35 : decode cX8_chooses 35 = .ok (.ireturn, 1) := by decide +kernel
theorem dX8_chooses_36 : decode cX8_chooses 36 = .ok (.aload_n 0, 1) := by decide +kernel
theorem dX8_chooses_37 : decode cX8_chooses 37 = .ok (.dup, 1) := by decide +kernel
theorem dX8_chooses_38 : decode cX8_chooses 38 = .ok (.getfield 233, 3) := by decide +kernel
theorem dX8_chooses_41 : decode cX8_chooses 41 = .ok (.ldc2_w 266, 3) := by decide +kernel
theorem dX8_chooses_44 : decode cX8_chooses 44 = .ok (.ldiv, 1) := by decide +kernel
theorem dX8_chooses_45 : decode cX8_chooses 45 = .ok (.putfield 233, 3) := by decide +kernel
theorem dX8_chooses_48 : decode cX8_chooses 48 = .ok (.iload_n 2, 1) := by decide +kernel
theorem dX8_chooses_49 : decode cX8_chooses 49 = .ok (.bipush 8, 2) := by decide +kernel
theorem dX8_chooses_51 : decode cX8_chooses 51 = .ok (.irem, 1) := by decide +kernel
theorem dX8_chooses_52 : decode cX8_chooses 52 = .ok (.iload_n 2, 1) := by decide +kernel
theorem dX8_chooses_53 : decode cX8_chooses 53 = .ok (.bipush 8, 2) := by decide +kernel
theorem dX8_chooses_55 : decode cX8_chooses 55 = .ok (.idiv, 1) := by decide +kernel
theorem dX8_chooses_56 : decode cX8_chooses 56 = .ok (.bipush 6, 2) := by decide +kernel
theorem dX8_chooses_58 : decode cX8_chooses 58 = .ok (.invokestatic 226, 3) := by decide +kernel
theorem dX8_chooses_61 : decode cX8_chooses 61 = .ok (.ifCond .eq 36, 3) := by decide +kernel
theorem dX8_chooses_64 : decode cX8_chooses 64 = .ok (.aload_n 0, 1) := by decide +kernel
theorem dX8_chooses_65 : decode cX8_chooses 65 = .ok (.iload_n 2, 1) := by decide +kernel
theorem dX8_chooses_66 : decode cX8_chooses 66 = .ok (.bipush 8, 2) := by decide +kernel
theorem dX8_chooses_68 : decode cX8_chooses 68 = .ok (.irem, 1) := by decide +kernel
theorem dX8_chooses_69 : decode cX8_chooses 69 = .ok (.iload_n 2, 1) := by decide +kernel
theorem dX8_chooses_70 : decode cX8_chooses 70 = .ok (.bipush 8, 2) := by decide +kernel
theorem dX8_chooses_72 : decode cX8_chooses 72 = .ok (.idiv, 1) := by decide +kernel
theorem dX8_chooses_73 : decode cX8_chooses 73 = .ok (.invokevirtual 247, 3) := by decide +kernel
theorem dX8_chooses_76 : decode cX8_chooses 76 = .ok (.aload_n 0, 1) := by decide +kernel
theorem dX8_chooses_77 : decode cX8_chooses 77 = .ok (.iload_n 2, 1) := by decide +kernel
theorem dX8_chooses_78 : decode cX8_chooses 78 = .ok (.bipush 8, 2) := by decide +kernel
theorem dX8_chooses_80 : decode cX8_chooses 80 = .ok (.irem, 1) := by decide +kernel
theorem dX8_chooses_81 : decode cX8_chooses 81 = .ok (.iload_n 2, 1) := by decide +kernel
theorem dX8_chooses_82 : decode cX8_chooses 82 = .ok (.bipush 8, 2) := by decide +kernel
theorem dX8_chooses_84 : decode cX8_chooses 84 = .ok (.idiv, 1) := by decide +kernel
theorem dX8_chooses_85 : decode cX8_chooses 85 = .ok (.iconst 2, 1) := by decide +kernel
theorem dX8_chooses_86 : decode cX8_chooses 86 = .ok (.invokevirtual 243, 3) := by decide +kernel
theorem dX8_chooses_89 : decode cX8_chooses 89 = .ok (.lcmp, 1) := by decide +kernel
theorem dX8_chooses_90 : decode cX8_chooses 90 = .ok (.ifCond .le 7, 3) := by decide +kernel
theorem dX8_chooses_93 : decode cX8_chooses 93 = .ok (.iconst 1, 1) := by decide +kernel
theorem dX8_chooses_94 : decode cX8_chooses 94 = .ok (.goto 4, 3) := by decide +kernel
theorem dX8_chooses_97 : decode cX8_chooses 97 = .ok (.iconst 0, 1) := by decide +kernel
theorem dX8_chooses_98 : decode cX8_chooses 98 = .ok (.ireturn, 1) := by decide +kernel
theorem dX8_turn_0 : decode cX8_turn 0 = .ok (.iload_n 1, 1) := by decide +kernel
theorem dX8_turn_1 : decode cX8_turn 1 = .ok (.ifCond .eq 11, 3) := by decide +kernel
theorem dX8_turn_4 : decode cX8_turn 4 = .ok (.aload_n 0, 1) := by decide +kernel
theorem dX8_turn_5 : decode cX8_turn 5 = .ok (.iconst 1, 1) := by decide +kernel
theorem dX8_turn_6 : decode cX8_turn 6 = .ok (.invokevirtual 336, 3) := by decide +kernel
theorem dX8_turn_9 : decode cX8_turn 9 = .ok (.goto 4, 3) := by decide +kernel
theorem dX8_turn_12 : decode cX8_turn 12 = .ok (.iconst 0, 1) := by decide +kernel
theorem dX8_turn_13 : decode cX8_turn 13 = .ok (.istore_n 2, 1) := by decide +kernel
theorem dX8_turn_14 : decode cX8_turn 14 = .ok (.iconst 0, 1) := by decide +kernel
theorem dX8_turn_15 : decode cX8_turn 15 = .ok (.istore_n 3, 1) := by decide +kernel
theorem dX8_turn_16 : decode cX8_turn 16 = .ok (.iload_n 2, 1) := by decide +kernel
theorem dX8_turn_17 : decode cX8_turn 17 = .ok (.iconst 2, 1) := by decide +kernel
theorem dX8_turn_18 : decode cX8_turn 18 = .ok (.if_icmp .ne 59, 3) := by decide +kernel
theorem dX8_turn_21 : decode cX8_turn 21 = .ok (.aload_n 0, 1) := by decide +kernel
theorem dX8_turn_22 : decode cX8_turn 22 = .ok (.getfield 17, 3) := by decide +kernel
theorem dX8_turn_25 : decode cX8_turn 25 = .ok (.bipush 69, 2) := by decide +kernel
theorem dX8_turn_27 : decode cX8_turn 27 = .ok (.iaload, 1) := by decide +kernel
theorem dX8_turn_28 : decode cX8_turn 28 = .ok (.istore 4, 2) := by decide +kernel
theorem dX8_turn_30 : decode cX8_turn 30 = .ok (.iload_n 3, 1) := by decide +kernel
theorem dX8_turn_31 : decode cX8_turn 31 = .ok (.aload_n 0, 1) := by decide +kernel
theorem dX8_turn_32 : decode cX8_turn 32 = .ok (.aload_n 0, 1) := by decide +kernel
theorem dX8_turn_33 : decode cX8_turn 33 = .ok (.invokevirtual 339, 3) := by decide +kernel
theorem dX8_turn_36 : decode cX8_turn 36 = .ok (.aload_n 0, 1) := by decide +kernel
theorem dX8_turn_37 : decode cX8_turn 37 = .ok (.getfield 17, 3) := by decide +kernel
theorem dX8_turn_40 : decode cX8_turn 40 = .ok (.iconst 4, 1) := by decide +kernel
theorem dX8_turn_41 : decode cX8_turn 41 = .ok (.iaload, 1) := by decide +kernel
theorem dX8_turn_42 : decode cX8_turn 42 = .ok (.if_icmp .ge 8, 3) := by decide +kernel
theorem dX8_turn_45 : decode cX8_turn 45 = .ok (.bipush 7, 2) := by decide +kernel
theorem dX8_turn_47 : decode cX8_turn 47 = .ok (.goto 5, 3) := by decide +kernel
theorem dX8_turn_50 : decode cX8_turn 50 = .ok (.bipush 8, 2) := by decide +kernel
theorem dX8_turn_52 : decode cX8_turn 52 = .ok (.invokevirtual 342, 3) := by decide +kernel
theorem dX8_turn_55 : decode cX8_turn 55 = .ok (.iadd, 1) := by decide +kernel
theorem dX8_turn_56 : decode cX8_turn 56 = .ok (.istore_n 3, 1) := by decide +kernel
theorem dX8_turn_57 : decode cX8_turn 57 = .ok (.aload_n 0, 1) := by decide +kernel
theorem dX8_turn_58 : decode cX8_turn 58 = .ok (.getfield 17, 3) := by decide +kernel
theorem dX8_turn_61 : decode cX8_turn 61 = .ok (.bipush 69, 2) := by decide +kernel
theorem dX8_turn_63 : decode cX8_turn 63 = .ok (.iaload, 1) := by decide +kernel
theorem dX8_turn_64 : decode cX8_turn 64 = .ok (.iload 4, 2) := by decide +kernel
theorem dX8_turn_66 : decode cX8_turn 66 = .ok (.if_icmp .eq 5, 3) := by decide +kernel
theorem dX8_turn_69 : decode cX8_turn 69 = .ok (.iload_n 3, 1) := by decide +kernel
theorem dX8_turn_70 : decode cX8_turn 70 = .ok (.ireturn, 1) := by decide +kernel
theorem dX8_turn_71 : decode cX8_turn 71 = .ok (.aload_n 0, 1) := by decide +kernel
theorem dX8_turn_72 : decode cX8_turn 72 = .ok (.iconst 0, 1) := by decide +kernel
theorem dX8_turn_73 : decode cX8_turn 73 = .ok (.invokevirtual 336, 3) := by decide +kernel
theorem dX8_turn_76 : decode cX8_turn 76 = .ok (.istore_n 2, 1) := by decide +kernel
theorem dX8_turn_77 : decode cX8_turn 77 = .ok (.iload_n 2, 1) := by decide +kernel
theorem dX8_turn_78 : decode cX8_turn 78 = .ok (.iconst 1, 1) := by decide +kernel
theorem dX8_turn_79 : decode cX8_turn 79 = .ok (.if_icmp .ne 12, 3) := by decide +kernel
theorem dX8_turn_82 : decode cX8_turn 82 = .ok (.iload_n 3, 1) := by decide +kernel
theorem dX8_turn_83 : decode cX8_turn 83 = .ok (.aload_n 0, 1) := by decide +kernel
theorem dX8_turn_84 : decode cX8_turn 84 = .ok (.bipush 6, 2) := by decide +kernel
theorem dX8_turn_86 : decode cX8_turn 86 = .ok (.invokevirtual 342, 3) := by decide +kernel
theorem dX8_turn_89 : decode cX8_turn 89 = .ok (.iadd, 1) := by decide +kernel
theorem dX8_turn_90 : decode cX8_turn 90 = .ok (.ireturn, 1) := by decide +kernel
theorem dX8_turn_91 : decode cX8_turn 91 = .ok (.aload_n 0, 1) := by decide +kernel
theorem dX8_turn_92 : decode cX8_turn 92 = .ok (.invokevirtual 339, 3) := by decide +kernel
theorem dX8_turn_95 : decode cX8_turn 95 = .ok (.istore 4, 2) := by decide +kernel
theorem dX8_turn_97 : decode cX8_turn 97 = .ok (.iconst 0, 1) := by decide +kernel
theorem dX8_turn_98 : decode cX8_turn 98 = .ok (.istore 5, 2) := by decide +kernel
theorem dX8_turn_100 : decode cX8_turn 100 = .ok (.aload_n 0, 1) := by decide +kernel
theorem dX8_turn_101 : decode cX8_turn 101 = .ok (.aload_n 0, 1) := by decide +kernel
theorem dX8_turn_102 : decode cX8_turn 102 = .ok (.getfield 17, 3) := by decide +kernel
theorem dX8_turn_105 : decode cX8_turn 105 = .ok (.bipush 72, 2) := by decide +kernel
theorem dX8_turn_107 : decode cX8_turn 107 = .ok (.iaload, 1) := by decide +kernel
theorem dX8_turn_108 : decode cX8_turn 108 = .ok (.iconst 0, 1) := by decide +kernel
theorem dX8_turn_109 : decode cX8_turn 109 = .ok (.aload_n 0, 1) := by decide +kernel
theorem dX8_turn_110 : decode cX8_turn 110 = .ok (.getfield 17, 3) := by decide +kernel
theorem dX8_turn_113 : decode cX8_turn 113 = .ok (.bipush 73, 2) := by decide +kernel
theorem dX8_turn_115 : decode cX8_turn 115 = .ok (.iaload, 1) := by decide +kernel
theorem dX8_turn_116 : decode cX8_turn 116 = .ok (.invokevirtual 202, 3) := by decide +kernel
theorem dX8_turn_119 : decode cX8_turn 119 = .ok (.istore 6, 2) := by decide +kernel
theorem dX8_turn_121 : decode cX8_turn 121 = .ok (.iload 4, 2) := by decide +kernel
theorem dX8_turn_123 : decode cX8_turn 123 = .ok (.iload 6, 2) := by decide +kernel
theorem dX8_turn_125 : decode cX8_turn 125 = .ok (.if_icmp .lt 34, 3) := by decide +kernel
theorem dX8_turn_128 : decode cX8_turn 128 = .ok (.iinc 5 1, 3) := by decide +kernel
theorem dX8_turn_131 : decode cX8_turn 131 = .ok (.iload 6, 2) := by decide +kernel
theorem dX8_turn_133 : decode cX8_turn 133 = .ok (.aload_n 0, 1) := by decide +kernel
theorem dX8_turn_134 : decode cX8_turn 134 = .ok (.aload_n 0, 1) := by decide +kernel
theorem dX8_turn_135 : decode cX8_turn 135 = .ok (.getfield 17, 3) := by decide +kernel
theorem dX8_turn_138 : decode cX8_turn 138 = .ok (.bipush 72, 2) := by decide +kernel
theorem dX8_turn_140 : decode cX8_turn 140 = .ok (.iaload, 1) := by decide +kernel
theorem dX8_turn_141 : decode cX8_turn 141 = .ok (.iload 5, 2) := by decide +kernel
theorem dX8_turn_143 : decode cX8_turn 143 = .ok (.aload_n 0, 1) := by decide +kernel
theorem dX8_turn_144 : decode cX8_turn 144 = .ok (.getfield 17, 3) := by decide +kernel
theorem dX8_turn_147 : decode cX8_turn 147 = .ok (.bipush 73, 2) := by decide +kernel
theorem dX8_turn_149 : decode cX8_turn 149 = .ok (.iaload, 1) := by decide +kernel
theorem dX8_turn_150 : decode cX8_turn 150 = .ok (.invokevirtual 202, 3) := by decide +kernel
theorem dX8_turn_153 : decode cX8_turn 153 = .ok (.iadd, 1) := by decide +kernel
theorem dX8_turn_154 : decode cX8_turn 154 = .ok (.istore 6, 2) := by decide +kernel
theorem dX8_turn_156 : decode cX8_turn 156 = .ok (.goto (-35), 3) := by decide +kernel
theorem dX8_turn_159 : decode cX8_turn 159 = .ok (.iload_n 3, 1) := by decide +kernel
theorem dX8_turn_160 : decode cX8_turn 160 = .ok (.aload_n 0, 1) := by decide +kernel
theorem dX8_turn_161 : decode cX8_turn 161 = .ok (.iload 5, 2) := by decide +kernel
theorem dX8_turn_163 : decode cX8_turn 163 = .ok (.invokevirtual 342, 3) := by decide +kernel
theorem dX8_turn_166 : decode cX8_turn 166 = .ok (.iadd, 1) := by decide +kernel
theorem dX8_turn_167 : decode cX8_turn 167 = .ok (.ireturn, 1) := by decide +kernel
theorem dX8_innings_0 : decode cX8_innings 0 = .ok (.aload_n 0, 1) := by decide +kernel
theorem dX8_innings_1 : decode cX8_innings 1 = .ok (.aload_n 0, 1) := by decide +kernel
theorem dX8_innings_2 : decode cX8_innings 2 = .ok (.getfield 174, 3) := by decide +kernel
theorem dX8_innings_5 : decode cX8_innings 5 = .ok (.ifCond .eq 17, 3) := by decide +kernel
theorem dX8_innings_8 : decode cX8_innings 8 = .ok (.iload 4, 2) := by decide +kernel
theorem dX8_innings_10 : decode cX8_innings 10 = .ok (.iconst 0, 1) := by decide +kernel
theorem dX8_innings_11 : decode cX8_innings 11 = .ok (.iconst 2, 1) := by decide +kernel
theorem dX8_innings_12 : decode cX8_innings 12 = .ok (.invokestatic 83, 3) := by decide +kernel
theorem dX8_innings_15 : decode cX8_innings 15 = .ok (.ifCond .eq 7, 3) := by decide +kernel
theorem dX8_innings_18 : decode cX8_innings 18 = .ok (.iconst 1, 1) := by decide +kernel
theorem dX8_innings_19 : decode cX8_innings 19 = .ok (.goto 4, 3) := by decide +kernel
theorem dX8_innings_22 : decode cX8_innings 22 = .ok (.iconst 0, 1) := by decide +kernel
theorem dX8_innings_23 : decode cX8_innings 23 = .ok (.iload_n 1, 1) := by decide +kernel
theorem dX8_innings_24 : decode cX8_innings 24 = .ok (.iconst 1, 1) := by decide +kernel
theorem dX8_innings_25 : decode cX8_innings 25 = .ok (.ldc_w 345, 3) := by decide +kernel
theorem dX8_innings_28 : decode cX8_innings 28 = .ok (.invokestatic 83, 3) := by decide +kernel
theorem dX8_innings_31 : decode cX8_innings 31 = .ok (.ifCond .eq 17, 3) := by decide +kernel
theorem dX8_innings_34 : decode cX8_innings 34 = .ok (.iload_n 2, 1) := by decide +kernel
theorem dX8_innings_35 : decode cX8_innings 35 = .ok (.iconst 1, 1) := by decide +kernel
theorem dX8_innings_36 : decode cX8_innings 36 = .ok (.bipush 9, 2) := by decide +kernel
theorem dX8_innings_38 : decode cX8_innings 38 = .ok (.invokestatic 83, 3) := by decide +kernel
theorem dX8_innings_41 : decode cX8_innings 41 = .ok (.ifCond .eq 7, 3) := by decide +kernel
theorem dX8_innings_44 : decode cX8_innings 44 = .ok (.iconst 1, 1) := by decide +kernel
theorem dX8_innings_45 : decode cX8_innings 45 = .ok (.goto 4, 3) := by decide +kernel
theorem dX8_innings_48 : decode cX8_innings 48 = .ok (.iconst 0, 1) := by decide +kernel
theorem dX8_innings_49 : decode cX8_innings 49 = .ok (.invokestatic 158, 3) := by decide +kernel
theorem dX8_innings_52 : decode cX8_innings 52 = .ok (.invokevirtual 162, 3) := by decide +kernel
theorem dX8_innings_55 : decode cX8_innings 55 = .ok (.ifCond .eq 5, 3) := by decide +kernel
theorem dX8_innings_58 : decode cX8_innings 58 = .ok (.iconst (-1), 1) := by decide +kernel
theorem dX8_innings_59 : decode cX8_innings 59 = .ok (.ireturn, 1) := by decide +kernel
theorem dX8_innings_60 : decode cX8_innings 60 = .ok (.aload_n 0, 1) := by decide +kernel
theorem dX8_innings_61 : decode cX8_innings 61 = .ok (.getfield 48, 3) := by decide +kernel
theorem dX8_innings_64 : decode cX8_innings 64 = .ok (.iconst 0, 1) := by decide +kernel
theorem dX8_innings_65 : decode cX8_innings 65 = .ok (.aload_n 0, 1) := by decide +kernel
theorem dX8_innings_66 : decode cX8_innings 66 = .ok (.getfield 17, 3) := by decide +kernel
theorem dX8_innings_69 : decode cX8_innings 69 = .ok (.iconst 0, 1) := by decide +kernel
theorem dX8_innings_70 : decode cX8_innings 70 = .ok (.sipush 396, 3) := by decide +kernel
theorem dX8_innings_73 : decode cX8_innings 73 = .ok (.invokestatic 181, 3) := by decide +kernel
theorem dX8_innings_76 : decode cX8_innings 76 = .ok (.aload_n 0, 1) := by decide +kernel
theorem dX8_innings_77 : decode cX8_innings 77 = .ok (.getfield 17, 3) := by decide +kernel
theorem dX8_innings_80 : decode cX8_innings 80 = .ok (.invokestatic 185, 3) := by decide +kernel
theorem dX8_innings_83 : decode cX8_innings 83 = .ok (.aload_n 0, 1) := by decide +kernel
theorem dX8_innings_84 : decode cX8_innings 84 = .ok (.iload_n 1, 1) := by decide +kernel
theorem dX8_innings_85 : decode cX8_innings 85 = .ok (.i2l, 1) := by decide +kernel
theorem dX8_innings_86 : decode cX8_innings 86 = .ok (.putfield 329, 3) := by decide +kernel
theorem dX8_innings_89 : decode cX8_innings 89 = .ok (.iconst 0, 1) := by decide +kernel
theorem dX8_innings_90 : decode cX8_innings 90 = .ok (.istore 5, 2) := by decide +kernel
theorem dX8_innings_92 : decode cX8_innings 92 = .ok (.iconst 0, 1) := by decide +kernel
theorem dX8_innings_93 : decode cX8_innings 93 = .ok (.istore 6, 2) := by decide +kernel
theorem dX8_innings_95 : decode cX8_innings 95 = .ok (.iconst 0, 1) := by decide +kernel
theorem dX8_innings_96 : decode cX8_innings 96 = .ok (.istore 7, 2) := by decide +kernel
theorem dX8_innings_98 : decode cX8_innings 98 = .ok (.aload_n 0, 1) := by decide +kernel
theorem dX8_innings_99 : decode cX8_innings 99 = .ok (.getfield 17, 3) := by decide +kernel
theorem dX8_innings_102 : decode cX8_innings 102 = .ok (.bipush 69, 2) := by decide +kernel
theorem dX8_innings_104 : decode cX8_innings 104 = .ok (.iaload, 1) := by decide +kernel
theorem dX8_innings_105 : decode cX8_innings 105 = .ok (.iload_n 2, 1) := by decide +kernel
theorem dX8_innings_106 : decode cX8_innings 106 = .ok (.if_icmp .gt 71, 3) := by decide +kernel
theorem dX8_innings_109 : decode cX8_innings 109 = .ok (.iload 5, 2) := by decide +kernel
theorem dX8_innings_111 : decode cX8_innings 111 = .ok (.bipush 100, 2) := by decide +kernel
theorem dX8_innings_113 : decode cX8_innings 113 = .ok (.if_icmp .ge 64, 3) := by decide +kernel
theorem dX8_innings_116 : decode cX8_innings 116 = .ok (.aload_n 0, 1) := by decide +kernel
theorem dX8_innings_117 : decode cX8_innings 117 = .ok (.getfield 17, 3) := by decide +kernel
theorem dX8_innings_120 : decode cX8_innings 120 = .ok (.bipush 69, 2) := by decide +kernel
theorem dX8_innings_122 : decode cX8_innings 122 = .ok (.iaload, 1) := by decide +kernel
theorem dX8_innings_123 : decode cX8_innings 123 = .ok (.istore 8, 2) := by decide +kernel
theorem dX8_innings_125 : decode cX8_innings 125 = .ok (.iload 7, 2) := by decide +kernel
theorem dX8_innings_127 : decode cX8_innings 127 = .ok (.aload_n 0, 1) := by decide +kernel
theorem dX8_innings_128 : decode cX8_innings 128 = .ok (.iload_n 3, 1) := by decide +kernel
theorem dX8_innings_129 : decode cX8_innings 129 = .ok (.invokevirtual 346, 3) := by decide +kernel
theorem dX8_innings_132 : decode cX8_innings 132 = .ok (.iadd, 1) := by decide +kernel
theorem dX8_innings_133 : decode cX8_innings 133 = .ok (.istore 7, 2) := by decide +kernel
theorem dX8_innings_135 : decode cX8_innings 135 = .ok (.iinc 5 1, 3) := by decide +kernel
theorem dX8_innings_138 : decode cX8_innings 138 = .ok (.iload 7, 2) := by decide +kernel
theorem dX8_innings_140 : decode cX8_innings 140 = .ok (.iload 6, 2) := by decide +kernel
theorem dX8_innings_142 : decode cX8_innings 142 = .ok (.if_icmp .le 8, 3) := by decide +kernel
theorem dX8_innings_145 : decode cX8_innings 145 = .ok (.iload 7, 2) := by decide +kernel
theorem dX8_innings_147 : decode cX8_innings 147 = .ok (.goto 5, 3) := by decide +kernel
theorem dX8_innings_150 : decode cX8_innings 150 = .ok (.iload 6, 2) := by decide +kernel
theorem dX8_innings_152 : decode cX8_innings 152 = .ok (.istore 6, 2) := by decide +kernel
theorem dX8_innings_154 : decode cX8_innings 154 = .ok (.aload_n 0, 1) := by decide +kernel
theorem dX8_innings_155 : decode cX8_innings 155 = .ok (.getfield 17, 3) := by decide +kernel
theorem dX8_innings_158 : decode cX8_innings 158 = .ok (.bipush 69, 2) := by decide +kernel
theorem dX8_innings_160 : decode cX8_innings 160 = .ok (.iaload, 1) := by decide +kernel
theorem dX8_innings_161 : decode cX8_innings 161 = .ok (.iload 8, 2) := by decide +kernel
theorem dX8_innings_163 : decode cX8_innings 163 = .ok (.if_icmp .ne 8, 3) := by decide +kernel
theorem dX8_innings_166 : decode cX8_innings 166 = .ok (.iload 7, 2) := by decide +kernel
theorem dX8_innings_168 : decode cX8_innings 168 = .ok (.goto 4, 3) := by decide +kernel
theorem dX8_innings_171 : decode cX8_innings 171 = .ok (.iconst 0, 1) := by decide +kernel
theorem dX8_innings_172 : decode cX8_innings 172 = .ok (.istore 7, 2) := by decide +kernel
theorem dX8_innings_174 : decode cX8_innings 174 = .ok (.goto (-76), 3) := by decide +kernel
theorem dX8_innings_177 : decode cX8_innings 177 = .ok (.aload_n 0, 1) := by decide +kernel
theorem dX8_innings_178 : decode cX8_innings 178 = .ok (.getfield 17, 3) := by decide +kernel
theorem dX8_innings_181 : decode cX8_innings 181 = .ok (.bipush 74, 2) := by decide +kernel
theorem dX8_innings_183 : decode cX8_innings 183 = .ok (.iaload, 1) := by decide +kernel
theorem dX8_innings_184 : decode cX8_innings 184 = .ok (.istore 8, 2) := by decide +kernel
theorem dX8_innings_186 : decode cX8_innings 186 = .ok (.aload_n 0, 1) := by decide +kernel
theorem dX8_innings_187 : decode cX8_innings 187 = .ok (.getfield 17, 3) := by decide +kernel
theorem dX8_innings_190 : decode cX8_innings 190 = .ok (.iconst 0, 1) := by decide +kernel
theorem dX8_innings_191 : decode cX8_innings 191 = .ok (.aload_n 0, 1) := by decide +kernel
theorem dX8_innings_192 : decode cX8_innings 192 = .ok (.getfield 48, 3) := by decide +kernel
theorem dX8_innings_195 : decode cX8_innings 195 = .ok (.iconst 0, 1) := by decide +kernel
theorem dX8_innings_196 : decode cX8_innings 196 = .ok (.sipush 396, 3) := by decide +kernel
theorem dX8_innings_199 : decode cX8_innings 199 = .ok (.invokestatic 181, 3) := by decide +kernel
theorem dX8_innings_202 : decode cX8_innings 202 = .ok (.iload 4, 2) := by decide +kernel
theorem dX8_innings_204 : decode cX8_innings 204 = .ok (.ifCond .ne 8, 3) := by decide +kernel
theorem dX8_innings_207 : decode cX8_innings 207 = .ok (.iload 8, 2) := by decide +kernel
theorem dX8_innings_209 : decode cX8_innings 209 = .ok (.goto 16, 3) := by decide +kernel
theorem dX8_innings_212 : decode cX8_innings 212 = .ok (.iload 4, 2) := by decide +kernel
theorem dX8_innings_214 : decode cX8_innings 214 = .ok (.iconst 1, 1) := by decide +kernel
theorem dX8_innings_215 : decode cX8_innings 215 = .ok (.if_icmp .ne 8, 3) := by decide +kernel
theorem dX8_innings_218 : decode cX8_innings 218 = .ok (.iload 5, 2) := by decide +kernel
theorem dX8_innings_220 : decode cX8_innings 220 = .ok (.goto 5, 3) := by decide +kernel
theorem dX8_innings_223 : decode cX8_innings 223 = .ok (.iload 6, 2) := by decide +kernel
theorem dX8_innings_225 : decode cX8_innings 225 = .ok (.ireturn, 1) := by decide +kernel
theorem dX8_remembers_0 : decode cX8_remembers 0 = .ok (.aload_n 0, 1) := by decide +kernel
theorem dX8_remembers_1 : decode cX8_remembers 1 = .ok (.getfield 178, 3) := by decide +kernel
theorem dX8_remembers_4 : decode cX8_remembers 4 = .ok (.bipush 10, 2) := by decide +kernel
theorem dX8_remembers_6 : decode cX8_remembers 6 = .ok (.if_icmp .ne 49, 3) := by decide +kernel
theorem dX8_remembers_9 : decode cX8_remembers 9 = .ok (.aload_n 0, 1) := by decide +kernel
theorem dX8_remembers_10 : decode cX8_remembers 10 = .ok (.dup, 1) := by decide +kernel
theorem dX8_remembers_11 : decode cX8_remembers 11 = .ok (.getfield 178, 3) := by decide +kernel
theorem dX8_remembers_14 : decode cX8_remembers 14 = .ok (.iconst 1, 1) := by decide +kernel
theorem dX8_remembers_15 : decode cX8_remembers 15 = .ok (.isub, 1) := by decide +kernel
theorem dX8_remembers_16 : decode cX8_remembers 16 = .ok (.putfield 178, 3) := by decide +kernel
theorem dX8_remembers_19 : decode cX8_remembers 19 = .ok (.iconst 0, 1) := by decide +kernel
theorem dX8_remembers_20 : decode cX8_remembers 20 = .ok (.istore_n 1, 1) := by decide +kernel
theorem dX8_remembers_21 : decode cX8_remembers 21 = .ok (.iload_n 1, 1) := by decide +kernel
theorem dX8_remembers_22 : decode cX8_remembers 22 = .ok (.aload_n 0, 1) := by decide +kernel
theorem dX8_remembers_23 : decode cX8_remembers 23 = .ok (.getfield 178, 3) := by decide +kernel
theorem dX8_remembers_26 : decode cX8_remembers 26 = .ok (.sipush 396, 3) := by decide +kernel
theorem dX8_remembers_29 : decode cX8_remembers 29 = .ok (.imul, 1) := by decide +kernel
theorem dX8_remembers_30 : decode cX8_remembers 30 = .ok (.if_icmp .ge 25, 3) := by decide +kernel
theorem dX8_remembers_33 : decode cX8_remembers 33 = .ok (.aload_n 0, 1) := by decide +kernel
theorem dX8_remembers_34 : decode cX8_remembers 34 = .ok (.getfield 51, 3) := by decide +kernel
theorem dX8_remembers_37 : decode cX8_remembers 37 = .ok (.iload_n 1, 1) := by decide +kernel
theorem dX8_remembers_38 : decode cX8_remembers 38 = .ok (.aload_n 0, 1) := by decide +kernel
theorem dX8_remembers_39 : decode cX8_remembers 39 = .ok (.getfield 51, 3) := by decide +kernel
theorem dX8_remembers_42 : decode cX8_remembers 42 = .ok (.iload_n 1, 1) := by decide +kernel
theorem dX8_remembers_43 : decode cX8_remembers 43 = .ok (.sipush 396, 3) := by decide +kernel
theorem dX8_remembers_46 : decode cX8_remembers 46 = .ok (.iadd, 1) := by decide +kernel
theorem dX8_remembers_47 : decode cX8_remembers 47 = .ok (.iaload, 1) := by decide +kernel
theorem dX8_remembers_48 : decode cX8_remembers 48 = .ok (.iastore, 1) := by decide +kernel
theorem dX8_remembers_49 : decode cX8_remembers 49 = .ok (.iinc 1 1, 3) := by decide +kernel
theorem dX8_remembers_52 : decode cX8_remembers 52 = .ok (.goto (-31), 3) := by decide +kernel
theorem dX8_remembers_55 : decode cX8_remembers 55 = .ok (.aload_n 0, 1) := by decide +kernel
theorem dX8_remembers_56 : decode cX8_remembers 56 = .ok (.getfield 51, 3) := by decide +kernel
theorem dX8_remembers_59 : decode cX8_remembers 59 = .ok (.sipush 396, 3) := by decide +kernel
theorem dX8_remembers_62 : decode cX8_remembers 62 = .ok (.aload_n 0, 1) := by decide +kernel
theorem dX8_remembers_63 : decode cX8_remembers 63 = .ok (.getfield 178, 3) := by decide +kernel
theorem dX8_remembers_66 : decode cX8_remembers 66 = .ok (.imul, 1) := by decide +kernel
theorem dX8_remembers_67 : decode cX8_remembers 67 = .ok (.aload_n 0, 1) := by decide +kernel
theorem dX8_remembers_68 : decode cX8_remembers 68 = .ok (.getfield 17, 3) := by decide +kernel
theorem dX8_remembers_71 : decode cX8_remembers 71 = .ok (.iconst 0, 1) := by decide +kernel
theorem dX8_remembers_72 : decode cX8_remembers 72 = .ok (.sipush 396, 3) := by decide +kernel
theorem dX8_remembers_75 : decode cX8_remembers 75 = .ok (.invokestatic 181, 3) := by decide +kernel
theorem dX8_remembers_78 : decode cX8_remembers 78 = .ok (.aload_n 0, 1) := by decide +kernel
theorem dX8_remembers_79 : decode cX8_remembers 79 = .ok (.dup, 1) := by decide +kernel
theorem dX8_remembers_80 : decode cX8_remembers 80 = .ok (.getfield 178, 3) := by decide +kernel
theorem dX8_remembers_83 : decode cX8_remembers 83 = .ok (.iconst 1, 1) := by decide +kernel
theorem dX8_remembers_84 : decode cX8_remembers 84 = .ok (.iadd, 1) := by decide +kernel
theorem dX8_remembers_85 : decode cX8_remembers 85 = .ok (.putfield 178, 3) := by decide +kernel
theorem dX8_remembers_88 : decode cX8_remembers 88 = .ok (.return_, 1) := by decide +kernel
theorem dX8_event_0 : decode cX8_event 0 = .ok (.aload_n 0, 1) := by decide +kernel
theorem dX8_event_1 : decode cX8_event 1 = .ok (.getfield 174, 3) := by decide +kernel
theorem dX8_event_4 : decode cX8_event 4 = .ok (.ifCond .eq 17, 3) := by decide +kernel
theorem dX8_event_7 : decode cX8_event 7 = .ok (.iload_n 1, 1) := by decide +kernel
theorem dX8_event_8 : decode cX8_event 8 = .ok (.iconst 0, 1) := by decide +kernel
theorem dX8_event_9 : decode cX8_event 9 = .ok (.bipush 8, 2) := by decide +kernel
theorem dX8_event_11 : decode cX8_event 11 = .ok (.invokestatic 83, 3) := by decide +kernel
theorem dX8_event_14 : decode cX8_event 14 = .ok (.ifCond .eq 7, 3) := by decide +kernel
theorem dX8_event_17 : decode cX8_event 17 = .ok (.iconst 1, 1) := by decide +kernel
theorem dX8_event_18 : decode cX8_event 18 = .ok (.goto 4, 3) := by decide +kernel
theorem dX8_event_21 : decode cX8_event 21 = .ok (.iconst 0, 1) := by decide +kernel
theorem dX8_event_22 : decode cX8_event 22 = .ok (.invokestatic 189, 3) := by decide +kernel
theorem dX8_event_25 : decode cX8_event 25 = .ok (.istore_n 2, 1) := by decide +kernel
theorem dX8_event_26 : decode cX8_event 26 = .ok (.aload_n 0, 1) := by decide +kernel
theorem dX8_event_27 : decode cX8_event 27 = .ok (.iload_n 2, 1) := by decide +kernel
theorem dX8_event_28 : decode cX8_event 28 = .ok (.ifCond .eq 7, 3) := by decide +kernel
theorem dX8_event_31 : decode cX8_event 31 = .ok (.iload_n 2, 1) := by decide +kernel
theorem dX8_event_32 : decode cX8_event 32 = .ok (.goto 29, 3) := by decide +kernel
theorem dX8_event_35 : decode cX8_event 35 = .ok (.aload_n 0, 1) := by decide +kernel
theorem dX8_event_36 : decode cX8_event 36 = .ok (.getfield 17, 3) := by decide +kernel
theorem dX8_event_39 : decode cX8_event 39 = .ok (.bipush 70, 2) := by decide +kernel
theorem dX8_event_41 : decode cX8_event 41 = .ok (.iaload, 1) := by decide +kernel
theorem dX8_event_42 : decode cX8_event 42 = .ok (.aload_n 0, 1) := by decide +kernel
theorem dX8_event_43 : decode cX8_event 43 = .ok (.getfield 17, 3) := by decide +kernel
theorem dX8_event_46 : decode cX8_event 46 = .ok (.bipush 71, 2) := by decide +kernel
theorem dX8_event_48 : decode cX8_event 48 = .ok (.iaload, 1) := by decide +kernel
theorem dX8_event_49 : decode cX8_event 49 = .ok (.iload_n 1, 1) := by decide +kernel
theorem dX8_event_50 : decode cX8_event 50 = .ok (.invokestatic 226, 3) := by decide +kernel
theorem dX8_event_53 : decode cX8_event 53 = .ok (.ifCond .eq 7, 3) := by decide +kernel
theorem dX8_event_56 : decode cX8_event 56 = .ok (.iconst 0, 1) := by decide +kernel
theorem dX8_event_57 : decode cX8_event 57 = .ok (.goto 4, 3) := by decide +kernel
theorem dX8_event_60 : decode cX8_event 60 = .ok (.iconst 5, 1) := by decide +kernel
theorem dX8_event_61 : decode cX8_event 61 = .ok (.invokevirtual 162, 3) := by decide +kernel
theorem dX8_event_64 : decode cX8_event 64 = .ok (.ifCond .eq 5, 3) := by decide +kernel
theorem dX8_event_67 : decode cX8_event 67 = .ok (.iconst (-1), 1) := by decide +kernel
theorem dX8_event_68 : decode cX8_event 68 = .ok (.ireturn, 1) := by decide +kernel
theorem dX8_event_69 : decode cX8_event 69 = .ok (.aload_n 0, 1) := by decide +kernel
theorem dX8_event_70 : decode cX8_event 70 = .ok (.invokevirtual 349, 3) := by decide +kernel
theorem dX8_event_73 : decode cX8_event 73 = .ok (.aload_n 0, 1) := by decide +kernel
theorem dX8_event_74 : decode cX8_event 74 = .ok (.iload_n 1, 1) := by decide +kernel
theorem dX8_event_75 : decode cX8_event 75 = .ok (.invokevirtual 342, 3) := by decide +kernel
theorem dX8_event_78 : decode cX8_event 78 = .ok (.ireturn, 1) := by decide +kernel
theorem dX8_play_0 : decode cX8_play 0 = .ok (.aload_n 0, 1) := by decide +kernel
theorem dX8_play_1 : decode cX8_play 1 = .ok (.aload_n 0, 1) := by decide +kernel
theorem dX8_play_2 : decode cX8_play 2 = .ok (.getfield 174, 3) := by decide +kernel
theorem dX8_play_5 : decode cX8_play 5 = .ok (.iload_n 1, 1) := by decide +kernel
theorem dX8_play_6 : decode cX8_play 6 = .ok (.iconst 1, 1) := by decide +kernel
theorem dX8_play_7 : decode cX8_play 7 = .ok (.ldc_w 345, 3) := by decide +kernel
theorem dX8_play_10 : decode cX8_play 10 = .ok (.invokestatic 83, 3) := by decide +kernel
theorem dX8_play_13 : decode cX8_play 13 = .ok (.ifCond .eq 17, 3) := by decide +kernel
theorem dX8_play_16 : decode cX8_play 16 = .ok (.iload_n 2, 1) := by decide +kernel
theorem dX8_play_17 : decode cX8_play 17 = .ok (.iconst 1, 1) := by decide +kernel
theorem dX8_play_18 : decode cX8_play 18 = .ok (.bipush 20, 2) := by decide +kernel
theorem dX8_play_20 : decode cX8_play 20 = .ok (.invokestatic 83, 3) := by decide +kernel
theorem dX8_play_23 : decode cX8_play 23 = .ok (.ifCond .eq 7, 3) := by decide +kernel
theorem dX8_play_26 : decode cX8_play 26 = .ok (.iconst 1, 1) := by decide +kernel
theorem dX8_play_27 : decode cX8_play 27 = .ok (.goto 4, 3) := by decide +kernel
theorem dX8_play_30 : decode cX8_play 30 = .ok (.iconst 0, 1) := by decide +kernel
theorem dX8_play_31 : decode cX8_play 31 = .ok (.invokestatic 158, 3) := by decide +kernel
theorem dX8_play_34 : decode cX8_play 34 = .ok (.invokevirtual 162, 3) := by decide +kernel
theorem dX8_play_37 : decode cX8_play 37 = .ok (.ifCond .eq 5, 3) := by decide +kernel
theorem dX8_play_40 : decode cX8_play 40 = .ok (.iconst (-1), 1) := by decide +kernel
theorem dX8_play_41 : decode cX8_play 41 = .ok (.ireturn, 1) := by decide +kernel
theorem dX8_play_42 : decode cX8_play 42 = .ok (.aload_n 0, 1) := by decide +kernel
theorem dX8_play_43 : decode cX8_play 43 = .ok (.invokevirtual 349, 3) := by decide +kernel
theorem dX8_play_46 : decode cX8_play 46 = .ok (.aload_n 0, 1) := by decide +kernel
theorem dX8_play_47 : decode cX8_play 47 = .ok (.iload_n 1, 1) := by decide +kernel
theorem dX8_play_48 : decode cX8_play 48 = .ok (.i2l, 1) := by decide +kernel
theorem dX8_play_49 : decode cX8_play 49 = .ok (.putfield 329, 3) := by decide +kernel
theorem dX8_play_52 : decode cX8_play 52 = .ok (.iconst 0, 1) := by decide +kernel
theorem dX8_play_53 : decode cX8_play 53 = .ok (.istore 4, 2) := by decide +kernel
theorem dX8_play_55 : decode cX8_play 55 = .ok (.iconst 0, 1) := by decide +kernel
theorem dX8_play_56 : decode cX8_play 56 = .ok (.istore 5, 2) := by decide +kernel
theorem dX8_play_58 : decode cX8_play 58 = .ok (.iload 5, 2) := by decide +kernel
theorem dX8_play_60 : decode cX8_play 60 = .ok (.iload_n 2, 1) := by decide +kernel
theorem dX8_play_61 : decode cX8_play 61 = .ok (.if_icmp .ge 19, 3) := by decide +kernel
theorem dX8_play_64 : decode cX8_play 64 = .ok (.iload 4, 2) := by decide +kernel
theorem dX8_play_66 : decode cX8_play 66 = .ok (.aload_n 0, 1) := by decide +kernel
theorem dX8_play_67 : decode cX8_play 67 = .ok (.iload_n 3, 1) := by decide +kernel
theorem dX8_play_68 : decode cX8_play 68 = .ok (.invokevirtual 346, 3) := by decide +kernel
theorem dX8_play_71 : decode cX8_play 71 = .ok (.iadd, 1) := by decide +kernel
theorem dX8_play_72 : decode cX8_play 72 = .ok (.istore 4, 2) := by decide +kernel
theorem dX8_play_74 : decode cX8_play 74 = .ok (.iinc 5 1, 3) := by decide +kernel
theorem dX8_play_77 : decode cX8_play 77 = .ok (.goto (-19), 3) := by decide +kernel
theorem dX8_play_80 : decode cX8_play 80 = .ok (.iload 4, 2) := by decide +kernel
theorem dX8_play_82 : decode cX8_play 82 = .ok (.ireturn, 1) := by decide +kernel
theorem dX8_relieve_0 : decode cX8_relieve 0 = .ok (.aload_n 0, 1) := by decide +kernel
theorem dX8_relieve_1 : decode cX8_relieve 1 = .ok (.aload_n 0, 1) := by decide +kernel
theorem dX8_relieve_2 : decode cX8_relieve 2 = .ok (.getfield 174, 3) := by decide +kernel
theorem dX8_relieve_5 : decode cX8_relieve 5 = .ok (.invokestatic 189, 3) := by decide +kernel
theorem dX8_relieve_8 : decode cX8_relieve 8 = .ok (.invokevirtual 162, 3) := by decide +kernel
theorem dX8_relieve_11 : decode cX8_relieve 11 = .ok (.ifCond .eq 5, 3) := by decide +kernel
theorem dX8_relieve_14 : decode cX8_relieve 14 = .ok (.iconst (-1), 1) := by decide +kernel
theorem dX8_relieve_15 : decode cX8_relieve 15 = .ok (.ireturn, 1) := by decide +kernel
theorem dX8_relieve_16 : decode cX8_relieve 16 = .ok (.aload_n 0, 1) := by decide +kernel
theorem dX8_relieve_17 : decode cX8_relieve 17 = .ok (.invokevirtual 349, 3) := by decide +kernel
theorem dX8_relieve_20 : decode cX8_relieve 20 = .ok (.aload_n 0, 1) := by decide +kernel
theorem dX8_relieve_21 : decode cX8_relieve 21 = .ok (.getfield 17, 3) := by decide +kernel
theorem dX8_relieve_24 : decode cX8_relieve 24 = .ok (.bipush 73, 2) := by decide +kernel
theorem dX8_relieve_26 : decode cX8_relieve 26 = .ok (.iaload, 1) := by decide +kernel
theorem dX8_relieve_27 : decode cX8_relieve 27 = .ok (.istore_n 1, 1) := by decide +kernel
theorem dX8_relieve_28 : decode cX8_relieve 28 = .ok (.aload_n 0, 1) := by decide +kernel
theorem dX8_relieve_29 : decode cX8_relieve 29 = .ok (.getfield 17, 3) := by decide +kernel
theorem dX8_relieve_32 : decode cX8_relieve 32 = .ok (.bipush 73, 2) := by decide +kernel
theorem dX8_relieve_34 : decode cX8_relieve 34 = .ok (.iconst 0, 1) := by decide +kernel
theorem dX8_relieve_35 : decode cX8_relieve 35 = .ok (.iastore, 1) := by decide +kernel
theorem dX8_relieve_36 : decode cX8_relieve 36 = .ok (.iload_n 1, 1) := by decide +kernel
theorem dX8_relieve_37 : decode cX8_relieve 37 = .ok (.ireturn, 1) := by decide +kernel
theorem dX8_begin_0 : decode cX8_begin 0 = .ok (.aload_n 0, 1) := by decide +kernel
theorem dX8_begin_1 : decode cX8_begin 1 = .ok (.aload_n 0, 1) := by decide +kernel
theorem dX8_begin_2 : decode cX8_begin 2 = .ok (.getfield 174, 3) := by decide +kernel
theorem dX8_begin_5 : decode cX8_begin 5 = .ok (.invokestatic 189, 3) := by decide +kernel
theorem dX8_begin_8 : decode cX8_begin 8 = .ok (.invokevirtual 162, 3) := by decide +kernel
theorem dX8_begin_11 : decode cX8_begin 11 = .ok (.ifCond .eq 5, 3) := by decide +kernel
theorem dX8_begin_14 : decode cX8_begin 14 = .ok (.iconst (-1), 1) := by decide +kernel
theorem dX8_begin_15 : decode cX8_begin 15 = .ok (.ireturn, 1) := by decide +kernel
theorem dX8_begin_16 : decode cX8_begin 16 = .ok (.aload_n 0, 1) := by decide +kernel
theorem dX8_begin_17 : decode cX8_begin 17 = .ok (.invokevirtual 349, 3) := by decide +kernel
theorem dX8_begin_20 : decode cX8_begin 20 = .ok (.aload_n 0, 1) := by decide +kernel
theorem dX8_begin_21 : decode cX8_begin 21 = .ok (.getfield 17, 3) := by decide +kernel
theorem dX8_begin_24 : decode cX8_begin 24 = .ok (.bipush 74, 2) := by decide +kernel
theorem dX8_begin_26 : decode cX8_begin 26 = .ok (.iaload, 1) := by decide +kernel
theorem dX8_begin_27 : decode cX8_begin 27 = .ok (.istore_n 1, 1) := by decide +kernel
theorem dX8_begin_28 : decode cX8_begin 28 = .ok (.aload_n 0, 1) := by decide +kernel
theorem dX8_begin_29 : decode cX8_begin 29 = .ok (.getfield 17, 3) := by decide +kernel
theorem dX8_begin_32 : decode cX8_begin 32 = .ok (.invokestatic 185, 3) := by decide +kernel
theorem dX8_begin_35 : decode cX8_begin 35 = .ok (.iload_n 1, 1) := by decide +kernel
theorem dX8_begin_36 : decode cX8_begin 36 = .ok (.ireturn, 1) := by decide +kernel
theorem dX8_swap_0 : decode cX8_swap 0 = .ok (.aload_n 0, 1) := by decide +kernel
theorem dX8_swap_1 : decode cX8_swap 1 = .ok (.aload_n 0, 1) := by decide +kernel
theorem dX8_swap_2 : decode cX8_swap 2 = .ok (.iload_n 1, 1) := by decide +kernel
theorem dX8_swap_3 : decode cX8_swap 3 = .ok (.invokevirtual 192, 3) := by decide +kernel
theorem dX8_swap_6 : decode cX8_swap 6 = .ok (.ifCond .eq 11, 3) := by decide +kernel
theorem dX8_swap_9 : decode cX8_swap 9 = .ok (.aload_n 0, 1) := by decide +kernel
theorem dX8_swap_10 : decode cX8_swap 10 = .ok (.iload_n 2, 1) := by decide +kernel
theorem dX8_swap_11 : decode cX8_swap 11 = .ok (.invokevirtual 192, 3) := by decide +kernel
theorem dX8_swap_14 : decode cX8_swap 14 = .ok (.ifCond .ne 7, 3) := by decide +kernel
theorem dX8_swap_17 : decode cX8_swap 17 = .ok (.iconst 1, 1) := by decide +kernel
theorem dX8_swap_18 : decode cX8_swap 18 = .ok (.goto 13, 3) := by decide +kernel
theorem dX8_swap_21 : decode cX8_swap 21 = .ok (.iload_n 1, 1) := by decide +kernel
theorem dX8_swap_22 : decode cX8_swap 22 = .ok (.iload_n 2, 1) := by decide +kernel
theorem dX8_swap_23 : decode cX8_swap 23 = .ok (.if_icmp .ne 7, 3) := by decide +kernel
theorem dX8_swap_26 : decode cX8_swap 26 = .ok (.iconst 5, 1) := by decide +kernel
theorem dX8_swap_27 : decode cX8_swap 27 = .ok (.goto 4, 3) := by decide +kernel
theorem dX8_swap_30 : decode cX8_swap 30 = .ok (.iconst 0, 1) := by decide +kernel
theorem dX8_swap_31 : decode cX8_swap 31 = .ok (.invokevirtual 162, 3) := by decide +kernel
theorem dX8_swap_34 : decode cX8_swap 34 = .ok (.ifCond .eq 5, 3) := by decide +kernel
theorem dX8_swap_37 : decode cX8_swap 37 = .ok (.iconst (-1), 1) := by decide +kernel
theorem dX8_swap_38 : decode cX8_swap 38 = .ok (.ireturn, 1) := by decide +kernel
theorem dX8_swap_39 : decode cX8_swap 39 = .ok (.aload_n 0, 1) := by decide +kernel
theorem dX8_swap_40 : decode cX8_swap 40 = .ok (.invokevirtual 349, 3) := by decide +kernel
theorem dX8_swap_43 : decode cX8_swap 43 = .ok (.aload_n 0, 1) := by decide +kernel
theorem dX8_swap_44 : decode cX8_swap 44 = .ok (.aload_n 0, 1) := by decide +kernel
theorem dX8_swap_45 : decode cX8_swap 45 = .ok (.getfield 17, 3) := by decide +kernel
theorem dX8_swap_48 : decode cX8_swap 48 = .ok (.bipush 60, 2) := by decide +kernel
theorem dX8_swap_50 : decode cX8_swap 50 = .ok (.iload_n 1, 1) := by decide +kernel
theorem dX8_swap_51 : decode cX8_swap 51 = .ok (.iadd, 1) := by decide +kernel
theorem dX8_swap_52 : decode cX8_swap 52 = .ok (.bipush 60, 2) := by decide +kernel
theorem dX8_swap_54 : decode cX8_swap 54 = .ok (.iload_n 2, 1) := by decide +kernel
theorem dX8_swap_55 : decode cX8_swap 55 = .ok (.iadd, 1) := by decide +kernel
theorem dX8_swap_56 : decode cX8_swap 56 = .ok (.invokevirtual 316, 3) := by decide +kernel
theorem dX8_swap_59 : decode cX8_swap 59 = .ok (.aload_n 0, 1) := by decide +kernel
theorem dX8_swap_60 : decode cX8_swap 60 = .ok (.getfield 17, 3) := by decide +kernel
theorem dX8_swap_63 : decode cX8_swap 63 = .ok (.bipush 60, 2) := by decide +kernel
theorem dX8_swap_65 : decode cX8_swap 65 = .ok (.iload_n 1, 1) := by decide +kernel
theorem dX8_swap_66 : decode cX8_swap 66 = .ok (.iadd, 1) := by decide +kernel
theorem dX8_swap_67 : decode cX8_swap 67 = .ok (.iaload, 1) := by decide +kernel
theorem dX8_swap_68 : decode cX8_swap 68 = .ok (.ireturn, 1) := by decide +kernel
theorem dX8_lay_0 : decode cX8_lay 0 = .ok (.aload_n 0, 1) := by decide +kernel
theorem dX8_lay_1 : decode cX8_lay 1 = .ok (.aload_n 0, 1) := by decide +kernel
theorem dX8_lay_2 : decode cX8_lay 2 = .ok (.getfield 174, 3) := by decide +kernel
theorem dX8_lay_5 : decode cX8_lay 5 = .ok (.iload_n 1, 1) := by decide +kernel
theorem dX8_lay_6 : decode cX8_lay 6 = .ok (.iconst 1, 1) := by decide +kernel
theorem dX8_lay_7 : decode cX8_lay 7 = .ok (.iconst 3, 1) := by decide +kernel
theorem dX8_lay_8 : decode cX8_lay 8 = .ok (.invokestatic 83, 3) := by decide +kernel
theorem dX8_lay_11 : decode cX8_lay 11 = .ok (.invokestatic 158, 3) := by decide +kernel
theorem dX8_lay_14 : decode cX8_lay 14 = .ok (.invokevirtual 162, 3) := by decide +kernel
theorem dX8_lay_17 : decode cX8_lay 17 = .ok (.ifCond .eq 5, 3) := by decide +kernel
theorem dX8_lay_20 : decode cX8_lay 20 = .ok (.iconst (-1), 1) := by decide +kernel
theorem dX8_lay_21 : decode cX8_lay 21 = .ok (.ireturn, 1) := by decide +kernel
theorem dX8_lay_22 : decode cX8_lay 22 = .ok (.aload_n 0, 1) := by decide +kernel
theorem dX8_lay_23 : decode cX8_lay 23 = .ok (.iload_n 1, 1) := by decide +kernel
theorem dX8_lay_24 : decode cX8_lay 24 = .ok (.invokevirtual 313, 3) := by decide +kernel
theorem dX8_lay_27 : decode cX8_lay 27 = .ok (.aload_n 0, 1) := by decide +kernel
theorem dX8_lay_28 : decode cX8_lay 28 = .ok (.invokevirtual 349, 3) := by decide +kernel
theorem dX8_lay_31 : decode cX8_lay 31 = .ok (.iconst 0, 1) := by decide +kernel
theorem dX8_lay_32 : decode cX8_lay 32 = .ok (.istore_n 2, 1) := by decide +kernel
theorem dX8_lay_33 : decode cX8_lay 33 = .ok (.iconst 0, 1) := by decide +kernel
theorem dX8_lay_34 : decode cX8_lay 34 = .ok (.istore_n 3, 1) := by decide +kernel
theorem dX8_lay_35 : decode cX8_lay 35 = .ok (.iload_n 3, 1) := by decide +kernel
theorem dX8_lay_36 : decode cX8_lay 36 = .ok (.aload_n 0, 1) := by decide +kernel
theorem dX8_lay_37 : decode cX8_lay 37 = .ok (.getfield 17, 3) := by decide +kernel
theorem dX8_lay_40 : decode cX8_lay 40 = .ok (.iconst 0, 1) := by decide +kernel
theorem dX8_lay_41 : decode cX8_lay 41 = .ok (.iaload, 1) := by decide +kernel
theorem dX8_lay_42 : decode cX8_lay 42 = .ok (.if_icmp .ge 50, 3) := by decide +kernel
theorem dX8_lay_45 : decode cX8_lay 45 = .ok (.iload_n 2, 1) := by decide +kernel
theorem dX8_lay_46 : decode cX8_lay 46 = .ok (.aload_n 0, 1) := by decide +kernel
theorem dX8_lay_47 : decode cX8_lay 47 = .ok (.getfield 17, 3) := by decide +kernel
theorem dX8_lay_50 : decode cX8_lay 50 = .ok (.bipush 60, 2) := by decide +kernel
theorem dX8_lay_52 : decode cX8_lay 52 = .ok (.iload_n 3, 1) := by decide +kernel
theorem dX8_lay_53 : decode cX8_lay 53 = .ok (.iadd, 1) := by decide +kernel
theorem dX8_lay_54 : decode cX8_lay 54 = .ok (.iaload, 1) := by decide +kernel
theorem dX8_lay_55 : decode cX8_lay 55 = .ok (.aload_n 0, 1) := by decide +kernel
theorem dX8_lay_56 : decode cX8_lay 56 = .ok (.getfield 45, 3) := by decide +kernel
theorem dX8_lay_59 : decode cX8_lay 59 = .ok (.iload_n 3, 1) := by decide +kernel
theorem dX8_lay_60 : decode cX8_lay 60 = .ok (.iaload, 1) := by decide +kernel
theorem dX8_lay_61 : decode cX8_lay 61 = .ok (.if_icmp .eq 7, 3) := by decide +kernel
theorem dX8_lay_64 : decode cX8_lay 64 = .ok (.iconst 1, 1) := by decide +kernel
theorem dX8_lay_65 : decode cX8_lay 65 = .ok (.goto 4, 3) := by decide +kernel
theorem dX8_lay_68 : decode cX8_lay 68 = .ok (.iconst 0, 1) := by decide +kernel
theorem dX8_lay_69 : decode cX8_lay 69 = .ok (.iadd, 1) := by decide +kernel
theorem dX8_lay_70 : decode cX8_lay 70 = .ok (.istore_n 2, 1) := by decide +kernel
theorem dX8_lay_71 : decode cX8_lay 71 = .ok (.aload_n 0, 1) := by decide +kernel
theorem dX8_lay_72 : decode cX8_lay 72 = .ok (.getfield 17, 3) := by decide +kernel
theorem dX8_lay_75 : decode cX8_lay 75 = .ok (.bipush 60, 2) := by decide +kernel
theorem dX8_lay_77 : decode cX8_lay 77 = .ok (.iload_n 3, 1) := by decide +kernel
theorem dX8_lay_78 : decode cX8_lay 78 = .ok (.iadd, 1) := by decide +kernel
theorem dX8_lay_79 : decode cX8_lay 79 = .ok (.aload_n 0, 1) := by decide +kernel
theorem dX8_lay_80 : decode cX8_lay 80 = .ok (.getfield 45, 3) := by decide +kernel
theorem dX8_lay_83 : decode cX8_lay 83 = .ok (.iload_n 3, 1) := by decide +kernel
theorem dX8_lay_84 : decode cX8_lay 84 = .ok (.iaload, 1) := by decide +kernel
theorem dX8_lay_85 : decode cX8_lay 85 = .ok (.iastore, 1) := by decide +kernel
theorem dX8_lay_86 : decode cX8_lay 86 = .ok (.iinc 3 1, 3) := by decide +kernel
theorem dX8_lay_89 : decode cX8_lay 89 = .ok (.goto (-54), 3) := by decide +kernel
theorem dX8_lay_92 : decode cX8_lay 92 = .ok (.iload_n 2, 1) := by decide +kernel
theorem dX8_lay_93 : decode cX8_lay 93 = .ok (.ireturn, 1) := by decide +kernel
theorem dX8_betters_0 : decode cX8_betters 0 = .ok (.aload_n 0, 1) := by decide +kernel
theorem dX8_betters_1 : decode cX8_betters 1 = .ok (.aload_n 0, 1) := by decide +kernel
theorem dX8_betters_2 : decode cX8_betters 2 = .ok (.getfield 17, 3) := by decide +kernel
theorem dX8_betters_5 : decode cX8_betters 5 = .ok (.bipush 60, 2) := by decide +kernel
theorem dX8_betters_7 : decode cX8_betters 7 = .ok (.iload_n 1, 1) := by decide +kernel
theorem dX8_betters_8 : decode cX8_betters 8 = .ok (.invokevirtual 303, 3) := by decide +kernel
theorem dX8_betters_11 : decode cX8_betters 11 = .ok (.lstore_n 2, 1) := by decide +kernel
theorem dX8_betters_12 : decode cX8_betters 12 = .ok (.iconst (-1), 1) := by decide +kernel
theorem dX8_betters_13 : decode cX8_betters 13 = .ok (.istore 4, 2) := by decide +kernel
theorem dX8_betters_15 : decode cX8_betters 15 = .ok (.iconst (-1), 1) := by decide +kernel
theorem dX8_betters_16 : decode cX8_betters 16 = .ok (.istore 5, 2) := by decide +kernel
theorem dX8_betters_18 : decode cX8_betters 18 = .ok (.iconst 0, 1) := by decide +kernel
theorem dX8_betters_19 : decode cX8_betters 19 = .ok (.istore 6, 2) := by decide +kernel
theorem dX8_betters_21 : decode cX8_betters 21 = .ok (.iload 6, 2) := by decide +kernel
theorem dX8_betters_23 : decode cX8_betters 23 = .ok (.aload_n 0, 1) := by decide +kernel
theorem dX8_betters_24 : decode cX8_betters 24 = .ok (.getfield 17, 3) := by decide +kernel
theorem dX8_betters_27 : decode cX8_betters 27 = .ok (.iconst 0, 1) := by decide +kernel
theorem dX8_betters_28 : decode cX8_betters 28 = .ok (.iaload, 1) := by decide +kernel
theorem dX8_betters_29 : decode cX8_betters 29 = .ok (.if_icmp .ge 94, 3) := by decide +kernel
theorem dX8_betters_32 : decode cX8_betters 32 = .ok (.iload 6, 2) := by decide +kernel
theorem dX8_betters_34 : decode cX8_betters 34 = .ok (.iconst 1, 1) := by decide +kernel
theorem dX8_betters_35 : decode cX8_betters 35 = .ok (.iadd, 1) := by decide +kernel
theorem dX8_betters_36 : decode cX8_betters 36 = .ok (.istore 7, 2) := by decide +kernel
theorem dX8_betters_38 : decode cX8_betters 38 = .ok (.iload 7, 2) := by decide +kernel
theorem dX8_betters_40 : decode cX8_betters 40 = .ok (.aload_n 0, 1) := by decide +kernel
theorem dX8_betters_41 : decode cX8_betters 41 = .ok (.getfield 17, 3) := by decide +kernel
theorem dX8_betters_44 : decode cX8_betters 44 = .ok (.iconst 0, 1) := by decide +kernel
theorem dX8_betters_45 : decode cX8_betters 45 = .ok (.iaload, 1) := by decide +kernel
theorem dX8_betters_46 : decode cX8_betters 46 = .ok (.if_icmp .ge 71, 3) := by decide +kernel
theorem dX8_betters_49 : decode cX8_betters 49 = .ok (.aload_n 0, 1) := by decide +kernel
theorem dX8_betters_50 : decode cX8_betters 50 = .ok (.getfield 42, 3) := by decide +kernel
theorem dX8_betters_53 : decode cX8_betters 53 = .ok (.iconst 0, 1) := by decide +kernel
theorem dX8_betters_54 : decode cX8_betters 54 = .ok (.aload_n 0, 1) := by decide +kernel
theorem dX8_betters_55 : decode cX8_betters 55 = .ok (.getfield 17, 3) := by decide +kernel
theorem dX8_betters_58 : decode cX8_betters 58 = .ok (.bipush 60, 2) := by decide +kernel
theorem dX8_betters_60 : decode cX8_betters 60 = .ok (.aload_n 0, 1) := by decide +kernel
theorem dX8_betters_61 : decode cX8_betters 61 = .ok (.getfield 17, 3) := by decide +kernel
theorem dX8_betters_64 : decode cX8_betters 64 = .ok (.iconst 0, 1) := by decide +kernel
theorem dX8_betters_65 : decode cX8_betters 65 = .ok (.iaload, 1) := by decide +kernel
theorem dX8_betters_66 : decode cX8_betters 66 = .ok (.invokestatic 181, 3) := by decide +kernel
theorem dX8_betters_69 : decode cX8_betters 69 = .ok (.aload_n 0, 1) := by decide +kernel
theorem dX8_betters_70 : decode cX8_betters 70 = .ok (.aload_n 0, 1) := by decide +kernel
theorem dX8_betters_71 : decode cX8_betters 71 = .ok (.getfield 42, 3) := by decide +kernel
theorem dX8_betters_74 : decode cX8_betters 74 = .ok (.iload 6, 2) := by decide +kernel
theorem dX8_betters_76 : decode cX8_betters 76 = .ok (.iload 7, 2) := by decide +kernel
theorem dX8_betters_78 : decode cX8_betters 78 = .ok (.invokevirtual 316, 3) := by decide +kernel
theorem dX8_betters_81 : decode cX8_betters 81 = .ok (.aload_n 0, 1) := by decide +kernel
theorem dX8_betters_82 : decode cX8_betters 82 = .ok (.aload_n 0, 1) := by decide +kernel
theorem dX8_betters_83 : decode cX8_betters 83 = .ok (.getfield 42, 3) := by decide +kernel
theorem dX8_betters_86 : decode cX8_betters 86 = .ok (.iconst 0, 1) := by decide +kernel
theorem dX8_betters_87 : decode cX8_betters 87 = .ok (.iload_n 1, 1) := by decide +kernel
theorem dX8_betters_88 : decode cX8_betters 88 = .ok (.invokevirtual 303, 3) := by decide +kernel
theorem dX8_betters_91 : decode cX8_betters 91 = .ok (.lstore 8, 2) := by decide +kernel
theorem dX8_betters_93 : decode cX8_betters 93 = .ok (.lload 8, 2) := by decide +kernel
theorem dX8_betters_95 : decode cX8_betters 95 = .ok (.lload_n 2, 1) := by decide +kernel
theorem dX8_betters_96 : decode cX8_betters 96 = .ok (.lcmp, 1) := by decide +kernel
theorem dX8_betters_97 : decode cX8_betters 97 = .ok (.ifCond .le 14, 3) := by decide +kernel
theorem dX8_betters_100 : decode cX8_betters 100 = .ok (.lload 8, 2) := by decide +kernel
theorem dX8_betters_102 : decode cX8_betters 102 = .ok (.lstore_n 2, 1) := by decide +kernel
theorem dX8_betters_103 : decode cX8_betters 103 = .ok (.iload 6, 2) := by decide +kernel
theorem dX8_betters_105 : decode cX8_betters 105 = .ok (.istore 4, 2) := by decide +kernel
theorem dX8_betters_107 : decode cX8_betters 107 = .ok (.iload 7, 2) := by decide +kernel
theorem dX8_betters_109 : decode cX8_betters 109 = .ok (.istore 5, 2) := by decide +kernel
theorem dX8_betters_111 : decode cX8_betters 111 = .ok (.iinc 7 1, 3) := by decide +kernel
theorem dX8_betters_114 : decode cX8_betters 114 = .ok (.goto (-76), 3) := by decide +kernel
theorem dX8_betters_117 : decode cX8_betters 117 = .ok (.iinc 6 1, 3) := by decide +kernel
theorem dX8_betters_120 : decode cX8_betters 120 = .ok (.goto (-99), 3) := by decide +kernel
theorem dX8_betters_123 : decode cX8_betters 123 = .ok (.iload 4, 2) := by decide +kernel
theorem dX8_betters_125 : decode cX8_betters 125 = .ok (.iconst (-1), 1) := by decide +kernel
theorem dX8_betters_126 : decode cX8_betters 126 = .ok (.if_icmp .eq 21, 3) := by decide +kernel
theorem dX8_betters_129 : decode cX8_betters 129 = .ok (.aload_n 0, 1) := by decide +kernel
theorem dX8_betters_130 : decode cX8_betters 130 = .ok (.aload_n 0, 1) := by decide +kernel
theorem dX8_betters_131 : decode cX8_betters 131 = .ok (.getfield 17, 3) := by decide +kernel
theorem dX8_betters_134 : decode cX8_betters 134 = .ok (.bipush 60, 2) := by decide +kernel
theorem dX8_betters_136 : decode cX8_betters 136 = .ok (.iload 4, 2) := by decide +kernel
theorem dX8_betters_138 : decode cX8_betters 138 = .ok (.iadd, 1) := by decide +kernel
theorem dX8_betters_139 : decode cX8_betters 139 = .ok (.bipush 60, 2) := by decide +kernel
theorem dX8_betters_141 : decode cX8_betters 141 = .ok (.iload 5, 2) := by decide +kernel
theorem dX8_betters_143 : decode cX8_betters 143 = .ok (.iadd, 1) := by decide +kernel
theorem dX8_betters_144 : decode cX8_betters 144 = .ok (.invokevirtual 316, 3) := by decide +kernel
theorem dX8_betters_147 : decode cX8_betters 147 = .ok (.iload 4, 2) := by decide +kernel
theorem dX8_betters_149 : decode cX8_betters 149 = .ok (.iconst (-1), 1) := by decide +kernel
theorem dX8_betters_150 : decode cX8_betters 150 = .ok (.if_icmp .eq 7, 3) := by decide +kernel
theorem dX8_betters_153 : decode cX8_betters 153 = .ok (.iconst 1, 1) := by decide +kernel
theorem dX8_betters_154 : decode cX8_betters 154 = .ok (.goto 4, 3) := by decide +kernel
theorem dX8_betters_157 : decode cX8_betters 157 = .ok (.iconst 0, 1) := by decide +kernel
theorem dX8_betters_158 : decode cX8_betters 158 = .ok (.ireturn, 1) := by decide +kernel
theorem dX8_better_0 : decode cX8_better 0 = .ok (.aload_n 0, 1) := by decide +kernel
theorem dX8_better_1 : decode cX8_better 1 = .ok (.aload_n 0, 1) := by decide +kernel
theorem dX8_better_2 : decode cX8_better 2 = .ok (.getfield 174, 3) := by decide +kernel
theorem dX8_better_5 : decode cX8_better 5 = .ok (.iload_n 1, 1) := by decide +kernel
theorem dX8_better_6 : decode cX8_better 6 = .ok (.iconst 1, 1) := by decide +kernel
theorem dX8_better_7 : decode cX8_better 7 = .ok (.iconst 5, 1) := by decide +kernel
theorem dX8_better_8 : decode cX8_better 8 = .ok (.invokestatic 83, 3) := by decide +kernel
theorem dX8_better_11 : decode cX8_better 11 = .ok (.invokestatic 158, 3) := by decide +kernel
theorem dX8_better_14 : decode cX8_better 14 = .ok (.invokevirtual 162, 3) := by decide +kernel
theorem dX8_better_17 : decode cX8_better 17 = .ok (.ifCond .eq 5, 3) := by decide +kernel
theorem dX8_better_20 : decode cX8_better 20 = .ok (.iconst (-1), 1) := by decide +kernel
theorem dX8_better_21 : decode cX8_better 21 = .ok (.ireturn, 1) := by decide +kernel
theorem dX8_better_22 : decode cX8_better 22 = .ok (.aload_n 0, 1) := by decide +kernel
theorem dX8_better_23 : decode cX8_better 23 = .ok (.invokevirtual 349, 3) := by decide +kernel
theorem dX8_better_26 : decode cX8_better 26 = .ok (.iconst 0, 1) := by decide +kernel
theorem dX8_better_27 : decode cX8_better 27 = .ok (.istore_n 2, 1) := by decide +kernel
theorem dX8_better_28 : decode cX8_better 28 = .ok (.iload_n 2, 1) := by decide +kernel
theorem dX8_better_29 : decode cX8_better 29 = .ok (.bipush 60, 2) := by decide +kernel
theorem dX8_better_31 : decode cX8_better 31 = .ok (.if_icmp .ge 17, 3) := by decide +kernel
theorem dX8_better_34 : decode cX8_better 34 = .ok (.aload_n 0, 1) := by decide +kernel
theorem dX8_better_35 : decode cX8_better 35 = .ok (.iload_n 1, 1) := by decide +kernel
theorem dX8_better_36 : decode cX8_better 36 = .ok (.invokevirtual 352, 3) := by decide +kernel
theorem dX8_better_39 : decode cX8_better 39 = .ok (.ifCond .eq 9, 3) := by decide +kernel
theorem dX8_better_42 : decode cX8_better 42 = .ok (.iinc 2 1, 3) := by decide +kernel
theorem dX8_better_45 : decode cX8_better 45 = .ok (.goto (-17), 3) := by decide +kernel
theorem dX8_better_48 : decode cX8_better 48 = .ok (.iload_n 2, 1) := by decide +kernel
theorem dX8_better_49 : decode cX8_better 49 = .ok (.ireturn, 1) := by decide +kernel
theorem dX8_shift_0 : decode cX8_shift 0 = .ok (.aload_n 0, 1) := by decide +kernel
theorem dX8_shift_1 : decode cX8_shift 1 = .ok (.iload_n 1, 1) := by decide +kernel
theorem dX8_shift_2 : decode cX8_shift 2 = .ok (.invokevirtual 192, 3) := by decide +kernel
theorem dX8_shift_5 : decode cX8_shift 5 = .ok (.ifCond .eq 25, 3) := by decide +kernel
theorem dX8_shift_8 : decode cX8_shift 8 = .ok (.iload_n 2, 1) := by decide +kernel
theorem dX8_shift_9 : decode cX8_shift 9 = .ok (.iconst 0, 1) := by decide +kernel
theorem dX8_shift_10 : decode cX8_shift 10 = .ok (.iconst 5, 1) := by decide +kernel
theorem dX8_shift_11 : decode cX8_shift 11 = .ok (.invokestatic 83, 3) := by decide +kernel
theorem dX8_shift_14 : decode cX8_shift 14 = .ok (.ifCond .eq 16, 3) := by decide +kernel
theorem dX8_shift_17 : decode cX8_shift 17 = .ok (.iload_n 3, 1) := by decide +kernel
theorem dX8_shift_18 : decode cX8_shift 18 = .ok (.iconst 0, 1) := by decide +kernel
theorem dX8_shift_19 : decode cX8_shift 19 = .ok (.iconst 5, 1) := by decide +kernel
theorem dX8_shift_20 : decode cX8_shift 20 = .ok (.invokestatic 83, 3) := by decide +kernel
theorem dX8_shift_23 : decode cX8_shift 23 = .ok (.ifCond .eq 7, 3) := by decide +kernel
theorem dX8_shift_26 : decode cX8_shift 26 = .ok (.iconst 1, 1) := by decide +kernel
theorem dX8_shift_27 : decode cX8_shift 27 = .ok (.goto 4, 3) := by decide +kernel
theorem dX8_shift_30 : decode cX8_shift 30 = .ok (.iconst 0, 1) := by decide +kernel
theorem dX8_shift_31 : decode cX8_shift 31 = .ok (.iload 4, 2) := by decide +kernel
theorem dX8_shift_33 : decode cX8_shift 33 = .ok (.iconst 1, 1) := by decide +kernel
theorem dX8_shift_34 : decode cX8_shift 34 = .ok (.bipush 20, 2) := by decide +kernel
theorem dX8_shift_36 : decode cX8_shift 36 = .ok (.invokestatic 83, 3) := by decide +kernel
theorem dX8_shift_39 : decode cX8_shift 39 = .ok (.invokestatic 158, 3) := by decide +kernel
theorem dX8_shift_42 : decode cX8_shift 42 = .ok (.istore 5, 2) := by decide +kernel
theorem dX8_shift_44 : decode cX8_shift 44 = .ok (.aload_n 0, 1) := by decide +kernel
theorem dX8_shift_45 : decode cX8_shift 45 = .ok (.iload 5, 2) := by decide +kernel
theorem dX8_shift_47 : decode cX8_shift 47 = .ok (.ifCond .eq 8, 3) := by decide +kernel
theorem dX8_shift_50 : decode cX8_shift 50 = .ok (.iload 5, 2) := by decide +kernel
theorem dX8_shift_52 : decode cX8_shift 52 = .ok (.goto 32, 3) := by decide +kernel
theorem dX8_shift_55 : decode cX8_shift 55 = .ok (.iload_n 2, 1) := by decide +kernel
theorem dX8_shift_56 : decode cX8_shift 56 = .ok (.iload_n 3, 1) := by decide +kernel
theorem dX8_shift_57 : decode cX8_shift 57 = .ok (.if_icmp .eq 22, 3) := by decide +kernel
theorem dX8_shift_60 : decode cX8_shift 60 = .ok (.aload_n 0, 1) := by decide +kernel
theorem dX8_shift_61 : decode cX8_shift 61 = .ok (.getfield 17, 3) := by decide +kernel
theorem dX8_shift_64 : decode cX8_shift 64 = .ok (.bipush 6, 2) := by decide +kernel
theorem dX8_shift_66 : decode cX8_shift 66 = .ok (.bipush 6, 2) := by decide +kernel
theorem dX8_shift_68 : decode cX8_shift 68 = .ok (.iload_n 1, 1) := by decide +kernel
theorem dX8_shift_69 : decode cX8_shift 69 = .ok (.imul, 1) := by decide +kernel
theorem dX8_shift_70 : decode cX8_shift 70 = .ok (.iadd, 1) := by decide +kernel
theorem dX8_shift_71 : decode cX8_shift 71 = .ok (.iload_n 2, 1) := by decide +kernel
theorem dX8_shift_72 : decode cX8_shift 72 = .ok (.iadd, 1) := by decide +kernel
theorem dX8_shift_73 : decode cX8_shift 73 = .ok (.iaload, 1) := by decide +kernel
theorem dX8_shift_74 : decode cX8_shift 74 = .ok (.iload 4, 2) := by decide +kernel
theorem dX8_shift_76 : decode cX8_shift 76 = .ok (.if_icmp .ge 7, 3) := by decide +kernel
theorem dX8_shift_79 : decode cX8_shift 79 = .ok (.iconst 5, 1) := by decide +kernel
theorem dX8_shift_80 : decode cX8_shift 80 = .ok (.goto 4, 3) := by decide +kernel
theorem dX8_shift_83 : decode cX8_shift 83 = .ok (.iconst 0, 1) := by decide +kernel
theorem dX8_shift_84 : decode cX8_shift 84 = .ok (.invokevirtual 162, 3) := by decide +kernel
theorem dX8_shift_87 : decode cX8_shift 87 = .ok (.ifCond .eq 5, 3) := by decide +kernel
theorem dX8_shift_90 : decode cX8_shift 90 = .ok (.iconst (-1), 1) := by decide +kernel
theorem dX8_shift_91 : decode cX8_shift 91 = .ok (.ireturn, 1) := by decide +kernel
theorem dX8_shift_92 : decode cX8_shift 92 = .ok (.aload_n 0, 1) := by decide +kernel
theorem dX8_shift_93 : decode cX8_shift 93 = .ok (.invokevirtual 349, 3) := by decide +kernel
theorem dX8_shift_96 : decode cX8_shift 96 = .ok (.aload_n 0, 1) := by decide +kernel
theorem dX8_shift_97 : decode cX8_shift 97 = .ok (.getfield 17, 3) := by decide +kernel
theorem dX8_shift_100 : decode cX8_shift 100 = .ok (.bipush 6, 2) := by decide +kernel
theorem dX8_shift_102 : decode cX8_shift 102 = .ok (.bipush 6, 2) := by decide +kernel
theorem dX8_shift_104 : decode cX8_shift 104 = .ok (.iload_n 1, 1) := by decide +kernel
theorem dX8_shift_105 : decode cX8_shift 105 = .ok (.imul, 1) := by decide +kernel
theorem dX8_shift_106 : decode cX8_shift 106 = .ok (.iadd, 1) := by decide +kernel
theorem dX8_shift_107 : decode cX8_shift 107 = .ok (.iload_n 2, 1) := by decide +kernel
theorem dX8_shift_108 : decode cX8_shift 108 = .ok (.iadd, 1) := by decide +kernel
theorem dX8_shift_109 : decode cX8_shift 109 = .ok (.dup2, 1) := by decide +kernel
theorem dX8_shift_110 : decode cX8_shift 110 = .ok (.iaload, 1) := by decide +kernel
theorem dX8_shift_111 : decode cX8_shift 111 = .ok (.iload 4, 2) := by decide +kernel
theorem dX8_shift_113 : decode cX8_shift 113 = .ok (.isub, 1) := by decide +kernel
theorem dX8_shift_114 : decode cX8_shift 114 = .ok (.iastore, 1) := by decide +kernel
theorem dX8_shift_115 : decode cX8_shift 115 = .ok (.aload_n 0, 1) := by decide +kernel
theorem dX8_shift_116 : decode cX8_shift 116 = .ok (.getfield 17, 3) := by decide +kernel
theorem dX8_shift_119 : decode cX8_shift 119 = .ok (.bipush 6, 2) := by decide +kernel
theorem dX8_shift_121 : decode cX8_shift 121 = .ok (.bipush 6, 2) := by decide +kernel
theorem dX8_shift_123 : decode cX8_shift 123 = .ok (.iload_n 1, 1) := by decide +kernel
theorem dX8_shift_124 : decode cX8_shift 124 = .ok (.imul, 1) := by decide +kernel
theorem dX8_shift_125 : decode cX8_shift 125 = .ok (.iadd, 1) := by decide +kernel
theorem dX8_shift_126 : decode cX8_shift 126 = .ok (.iload_n 3, 1) := by decide +kernel
theorem dX8_shift_127 : decode cX8_shift 127 = .ok (.iadd, 1) := by decide +kernel
theorem dX8_shift_128 : decode cX8_shift 128 = .ok (.dup2, 1) := by decide +kernel
theorem dX8_shift_129 : decode cX8_shift 129 = .ok (.iaload, 1) := by decide +kernel
theorem dX8_shift_130 : decode cX8_shift 130 = .ok (.iload 4, 2) := by decide +kernel
theorem dX8_shift_132 : decode cX8_shift 132 = .ok (.iadd, 1) := by decide +kernel
theorem dX8_shift_133 : decode cX8_shift 133 = .ok (.iastore, 1) := by decide +kernel
theorem dX8_shift_134 : decode cX8_shift 134 = .ok (.aload_n 0, 1) := by decide +kernel
theorem dX8_shift_135 : decode cX8_shift 135 = .ok (.getfield 17, 3) := by decide +kernel
theorem dX8_shift_138 : decode cX8_shift 138 = .ok (.bipush 6, 2) := by decide +kernel
theorem dX8_shift_140 : decode cX8_shift 140 = .ok (.bipush 6, 2) := by decide +kernel
theorem dX8_shift_142 : decode cX8_shift 142 = .ok (.iload_n 1, 1) := by decide +kernel
theorem dX8_shift_143 : decode cX8_shift 143 = .ok (.imul, 1) := by decide +kernel
theorem dX8_shift_144 : decode cX8_shift 144 = .ok (.iadd, 1) := by decide +kernel
theorem dX8_shift_145 : decode cX8_shift 145 = .ok (.iload_n 3, 1) := by decide +kernel
theorem dX8_shift_146 : decode cX8_shift 146 = .ok (.iadd, 1) := by decide +kernel
theorem dX8_shift_147 : decode cX8_shift 147 = .ok (.iaload, 1) := by decide +kernel
theorem dX8_shift_148 : decode cX8_shift 148 = .ok (.ireturn, 1) := by decide +kernel
theorem dX8_become_0 : decode cX8_become 0 = .ok (.aload_n 0, 1) := by decide +kernel
theorem dX8_become_1 : decode cX8_become 1 = .ok (.aload_n 0, 1) := by decide +kernel
theorem dX8_become_2 : decode cX8_become 2 = .ok (.getfield 174, 3) := by decide +kernel
theorem dX8_become_5 : decode cX8_become 5 = .ok (.ifCond .eq 16, 3) := by decide +kernel
theorem dX8_become_8 : decode cX8_become 8 = .ok (.iload_n 1, 1) := by decide +kernel
theorem dX8_become_9 : decode cX8_become 9 = .ok (.iconst 0, 1) := by decide +kernel
theorem dX8_become_10 : decode cX8_become 10 = .ok (.iconst 4, 1) := by decide +kernel
theorem dX8_become_11 : decode cX8_become 11 = .ok (.invokestatic 83, 3) := by decide +kernel
theorem dX8_become_14 : decode cX8_become 14 = .ok (.ifCond .eq 7, 3) := by decide +kernel
theorem dX8_become_17 : decode cX8_become 17 = .ok (.iconst 1, 1) := by decide +kernel
theorem dX8_become_18 : decode cX8_become 18 = .ok (.goto 4, 3) := by decide +kernel
theorem dX8_become_21 : decode cX8_become 21 = .ok (.iconst 0, 1) := by decide +kernel
theorem dX8_become_22 : decode cX8_become 22 = .ok (.iload_n 2, 1) := by decide +kernel
theorem dX8_become_23 : decode cX8_become 23 = .ok (.iload_n 1, 1) := by decide +kernel
theorem dX8_become_24 : decode cX8_become 24 = .ok (.invokestatic 143, 3) := by decide +kernel
theorem dX8_become_27 : decode cX8_become 27 = .ok (.iload_n 1, 1) := by decide +kernel
theorem dX8_become_28 : decode cX8_become 28 = .ok (.invokestatic 146, 3) := by decide +kernel
theorem dX8_become_31 : decode cX8_become 31 = .ok (.invokestatic 83, 3) := by decide +kernel
theorem dX8_become_34 : decode cX8_become 34 = .ok (.invokestatic 158, 3) := by decide +kernel
theorem dX8_become_37 : decode cX8_become 37 = .ok (.invokevirtual 162, 3) := by decide +kernel
theorem dX8_become_40 : decode cX8_become 40 = .ok (.ifCond .eq 5, 3) := by decide +kernel
theorem dX8_become_43 : decode cX8_become 43 = .ok (.iconst (-1), 1) := by decide +kernel
theorem dX8_become_44 : decode cX8_become 44 = .ok (.ireturn, 1) := by decide +kernel
theorem dX8_become_45 : decode cX8_become 45 = .ok (.aload_n 0, 1) := by decide +kernel
theorem dX8_become_46 : decode cX8_become 46 = .ok (.invokevirtual 349, 3) := by decide +kernel
theorem dX8_become_49 : decode cX8_become 49 = .ok (.aload_n 0, 1) := by decide +kernel
theorem dX8_become_50 : decode cX8_become 50 = .ok (.getfield 17, 3) := by decide +kernel
theorem dX8_become_53 : decode cX8_become 53 = .ok (.iconst 1, 1) := by decide +kernel
theorem dX8_become_54 : decode cX8_become 54 = .ok (.iload_n 1, 1) := by decide +kernel
theorem dX8_become_55 : decode cX8_become 55 = .ok (.iadd, 1) := by decide +kernel
theorem dX8_become_56 : decode cX8_become 56 = .ok (.iaload, 1) := by decide +kernel
theorem dX8_become_57 : decode cX8_become 57 = .ok (.istore_n 3, 1) := by decide +kernel
theorem dX8_become_58 : decode cX8_become 58 = .ok (.aload_n 0, 1) := by decide +kernel
theorem dX8_become_59 : decode cX8_become 59 = .ok (.getfield 17, 3) := by decide +kernel
theorem dX8_become_62 : decode cX8_become 62 = .ok (.iconst 1, 1) := by decide +kernel
theorem dX8_become_63 : decode cX8_become 63 = .ok (.iload_n 1, 1) := by decide +kernel
theorem dX8_become_64 : decode cX8_become 64 = .ok (.iadd, 1) := by decide +kernel
theorem dX8_become_65 : decode cX8_become 65 = .ok (.iload_n 2, 1) := by decide +kernel
theorem dX8_become_66 : decode cX8_become 66 = .ok (.iastore, 1) := by decide +kernel
theorem dX8_become_67 : decode cX8_become 67 = .ok (.iload_n 3, 1) := by decide +kernel
theorem dX8_become_68 : decode cX8_become 68 = .ok (.ireturn, 1) := by decide +kernel
theorem dX8_undo_0 : decode cX8_undo 0 = .ok (.aload_n 0, 1) := by decide +kernel
theorem dX8_undo_1 : decode cX8_undo 1 = .ok (.aload_n 0, 1) := by decide +kernel
theorem dX8_undo_2 : decode cX8_undo 2 = .ok (.getfield 174, 3) := by decide +kernel
theorem dX8_undo_5 : decode cX8_undo 5 = .ok (.ifCond .ne 7, 3) := by decide +kernel
theorem dX8_undo_8 : decode cX8_undo 8 = .ok (.iconst 1, 1) := by decide +kernel
theorem dX8_undo_9 : decode cX8_undo 9 = .ok (.goto 15, 3) := by decide +kernel
theorem dX8_undo_12 : decode cX8_undo 12 = .ok (.aload_n 0, 1) := by decide +kernel
theorem dX8_undo_13 : decode cX8_undo 13 = .ok (.getfield 178, 3) := by decide +kernel
theorem dX8_undo_16 : decode cX8_undo 16 = .ok (.ifCond .ne 7, 3) := by decide +kernel
theorem dX8_undo_19 : decode cX8_undo 19 = .ok (.iconst 5, 1) := by decide +kernel
theorem dX8_undo_20 : decode cX8_undo 20 = .ok (.goto 4, 3) := by decide +kernel
theorem dX8_undo_23 : decode cX8_undo 23 = .ok (.iconst 0, 1) := by decide +kernel
theorem dX8_undo_24 : decode cX8_undo 24 = .ok (.invokevirtual 162, 3) := by decide +kernel
theorem dX8_undo_27 : decode cX8_undo 27 = .ok (.ifCond .eq 5, 3) := by decide +kernel
theorem dX8_undo_30 : decode cX8_undo 30 = .ok (.iconst (-1), 1) := by decide +kernel
theorem dX8_undo_31 : decode cX8_undo 31 = .ok (.ireturn, 1) := by decide +kernel
theorem dX8_undo_32 : decode cX8_undo 32 = .ok (.aload_n 0, 1) := by decide +kernel
theorem dX8_undo_33 : decode cX8_undo 33 = .ok (.dup, 1) := by decide +kernel
theorem dX8_undo_34 : decode cX8_undo 34 = .ok (.getfield 178, 3) := by decide +kernel
theorem dX8_undo_37 : decode cX8_undo 37 = .ok (.iconst 1, 1) := by decide +kernel
theorem dX8_undo_38 : decode cX8_undo 38 = .ok (.isub, 1) := by decide +kernel
theorem dX8_undo_39 : decode cX8_undo 39 = .ok (.putfield 178, 3) := by decide +kernel
theorem dX8_undo_42 : decode cX8_undo 42 = .ok (.aload_n 0, 1) := by decide +kernel
theorem dX8_undo_43 : decode cX8_undo 43 = .ok (.getfield 17, 3) := by decide +kernel
theorem dX8_undo_46 : decode cX8_undo 46 = .ok (.iconst 0, 1) := by decide +kernel
theorem dX8_undo_47 : decode cX8_undo 47 = .ok (.aload_n 0, 1) := by decide +kernel
theorem dX8_undo_48 : decode cX8_undo 48 = .ok (.getfield 51, 3) := by decide +kernel
theorem dX8_undo_51 : decode cX8_undo 51 = .ok (.sipush 396, 3) := by decide +kernel
theorem dX8_undo_54 : decode cX8_undo 54 = .ok (.aload_n 0, 1) := by decide +kernel
theorem dX8_undo_55 : decode cX8_undo 55 = .ok (.getfield 178, 3) := by decide +kernel
theorem dX8_undo_58 : decode cX8_undo 58 = .ok (.imul, 1) := by decide +kernel
theorem dX8_undo_59 : decode cX8_undo 59 = .ok (.sipush 396, 3) := by decide +kernel
theorem dX8_undo_62 : decode cX8_undo 62 = .ok (.invokestatic 181, 3) := by decide +kernel
theorem dX8_undo_65 : decode cX8_undo 65 = .ok (.aload_n 0, 1) := by decide +kernel
theorem dX8_undo_66 : decode cX8_undo 66 = .ok (.getfield 178, 3) := by decide +kernel
theorem dX8_undo_69 : decode cX8_undo 69 = .ok (.ireturn, 1) := by decide +kernel
theorem dX8_named_0 : decode cX8_named 0 = .ok (.aload_n 0, 1) := by decide +kernel
theorem dX8_named_1 : decode cX8_named 1 = .ok (.iconst 0, 1) := by decide +kernel
theorem dX8_named_2 : decode cX8_named 2 = .ok (.putfield 54, 3) := by decide +kernel
theorem dX8_named_5 : decode cX8_named 5 = .ok (.iconst 0, 1) := by decide +kernel
theorem dX8_named_6 : decode cX8_named 6 = .ok (.istore_n 2, 1) := by decide +kernel
theorem dX8_named_7 : decode cX8_named 7 = .ok (.iload_n 1, 1) := by decide +kernel
theorem dX8_named_8 : decode cX8_named 8 = .ok (.iconst 0, 1) := by decide +kernel
theorem dX8_named_9 : decode cX8_named 9 = .ok (.aload_n 0, 1) := by decide +kernel
theorem dX8_named_10 : decode cX8_named 10 = .ok (.getfield 60, 3) := by decide +kernel
theorem dX8_named_13 : decode cX8_named 13 = .ok (.invokestatic 83, 3) := by decide +kernel
theorem dX8_named_16 : decode cX8_named 16 = .ok (.ifCond .eq 7, 3) := by decide +kernel
theorem dX8_named_19 : decode cX8_named 19 = .ok (.iload_n 1, 1) := by decide +kernel
theorem dX8_named_20 : decode cX8_named 20 = .ok (.goto 4, 3) := by decide +kernel
theorem dX8_named_23 : decode cX8_named 23 = .ok (.iconst 0, 1) := by decide +kernel
theorem dX8_named_24 : decode cX8_named 24 = .ok (.istore_n 3, 1) := by decide +kernel
theorem dX8_named_25 : decode cX8_named 25 = .ok (.iload_n 2, 1) := by decide +kernel
theorem dX8_named_26 : decode cX8_named 26 = .ok (.iload_n 3, 1) := by decide +kernel
theorem dX8_named_27 : decode cX8_named 27 = .ok (.if_icmp .ge 20, 3) := by decide +kernel
theorem dX8_named_30 : decode cX8_named 30 = .ok (.aload_n 0, 1) := by decide +kernel
theorem dX8_named_31 : decode cX8_named 31 = .ok (.getfield 13, 3) := by decide +kernel
theorem dX8_named_34 : decode cX8_named 34 = .ok (.iload_n 2, 1) := by decide +kernel
theorem dX8_named_35 : decode cX8_named 35 = .ok (.iaload, 1) := by decide +kernel
theorem dX8_named_36 : decode cX8_named 36 = .ok (.bipush 32, 2) := by decide +kernel
theorem dX8_named_38 : decode cX8_named 38 = .ok (.if_icmp .ne 9, 3) := by decide +kernel
theorem dX8_named_41 : decode cX8_named 41 = .ok (.iinc 2 1, 3) := by decide +kernel
theorem dX8_named_44 : decode cX8_named 44 = .ok (.goto (-19), 3) := by decide +kernel
theorem dX8_named_47 : decode cX8_named 47 = .ok (.iload_n 3, 1) := by decide +kernel
theorem dX8_named_48 : decode cX8_named 48 = .ok (.iload_n 2, 1) := by decide +kernel
theorem dX8_named_49 : decode cX8_named 49 = .ok (.if_icmp .le 22, 3) := by decide +kernel
theorem dX8_named_52 : decode cX8_named 52 = .ok (.aload_n 0, 1) := by decide +kernel
theorem dX8_named_53 : decode cX8_named 53 = .ok (.getfield 13, 3) := by decide +kernel
theorem dX8_named_56 : decode cX8_named 56 = .ok (.iload_n 3, 1) := by decide +kernel
theorem dX8_named_57 : decode cX8_named 57 = .ok (.iconst 1, 1) := by decide +kernel
theorem dX8_named_58 : decode cX8_named 58 = .ok (.isub, 1) := by decide +kernel
theorem dX8_named_59 : decode cX8_named 59 = .ok (.iaload, 1) := by decide +kernel
theorem dX8_named_60 : decode cX8_named 60 = .ok (.bipush 32, 2) := by decide +kernel
theorem dX8_named_62 : decode cX8_named 62 = .ok (.if_icmp .ne 9, 3) := by decide +kernel
theorem dX8_named_65 : decode cX8_named 65 = .ok (.iinc 3 (-1), 3) := by decide +kernel
theorem dX8_named_68 : decode cX8_named 68 = .ok (.goto (-21), 3) := by decide +kernel
theorem dX8_named_71 : decode cX8_named 71 = .ok (.iconst 0, 1) := by decide +kernel
theorem dX8_named_72 : decode cX8_named 72 = .ok (.istore 4, 2) := by decide +kernel
theorem dX8_named_74 : decode cX8_named 74 = .ok (.iload_n 3, 1) := by decide +kernel
theorem dX8_named_75 : decode cX8_named 75 = .ok (.iload_n 2, 1) := by decide +kernel
theorem dX8_named_76 : decode cX8_named 76 = .ok (.if_icmp .le 41, 3) := by decide +kernel
theorem dX8_named_79 : decode cX8_named 79 = .ok (.iload 4, 2) := by decide +kernel
theorem dX8_named_81 : decode cX8_named 81 = .ok (.aload_n 0, 1) := by decide +kernel
theorem dX8_named_82 : decode cX8_named 82 = .ok (.getfield 17, 3) := by decide +kernel
theorem dX8_named_85 : decode cX8_named 85 = .ok (.iconst 0, 1) := by decide +kernel
theorem dX8_named_86 : decode cX8_named 86 = .ok (.iaload, 1) := by decide +kernel
theorem dX8_named_87 : decode cX8_named 87 = .ok (.if_icmp .ge 30, 3) := by decide +kernel
theorem dX8_named_90 : decode cX8_named 90 = .ok (.aload_n 0, 1) := by decide +kernel
theorem dX8_named_91 : decode cX8_named 91 = .ok (.aload_n 0, 1) := by decide +kernel
theorem dX8_named_92 : decode cX8_named 92 = .ok (.getfield 23, 3) := by decide +kernel
theorem dX8_named_95 : decode cX8_named 95 = .ok (.bipush 6, 2) := by decide +kernel
theorem dX8_named_97 : decode cX8_named 97 = .ok (.iload 4, 2) := by decide +kernel
theorem dX8_named_99 : decode cX8_named 99 = .ok (.imul, 1) := by decide +kernel
theorem dX8_named_100 : decode cX8_named 100 = .ok (.iload_n 2, 1) := by decide +kernel
theorem dX8_named_101 : decode cX8_named 101 = .ok (.iload_n 3, 1) := by decide +kernel
theorem dX8_named_102 : decode cX8_named 102 = .ok (.invokevirtual 133, 3) := by decide +kernel
theorem dX8_named_105 : decode cX8_named 105 = .ok (.ifCond .eq 6, 3) := by decide +kernel
theorem dX8_named_108 : decode cX8_named 108 = .ok (.iload 4, 2) := by decide +kernel
theorem dX8_named_110 : decode cX8_named 110 = .ok (.ireturn, 1) := by decide +kernel
theorem dX8_named_111 : decode cX8_named 111 = .ok (.iinc 4 1, 3) := by decide +kernel
theorem dX8_named_114 : decode cX8_named 114 = .ok (.goto (-40), 3) := by decide +kernel
theorem dX8_named_117 : decode cX8_named 117 = .ok (.aload_n 0, 1) := by decide +kernel
theorem dX8_named_118 : decode cX8_named 118 = .ok (.iconst 1, 1) := by decide +kernel
theorem dX8_named_119 : decode cX8_named 119 = .ok (.putfield 54, 3) := by decide +kernel
theorem dX8_named_122 : decode cX8_named 122 = .ok (.iconst 0, 1) := by decide +kernel
theorem dX8_named_123 : decode cX8_named 123 = .ok (.ireturn, 1) := by decide +kernel
theorem dX8_size_0 : decode cX8_size 0 = .ok (.aload_n 0, 1) := by decide +kernel
theorem dX8_size_1 : decode cX8_size 1 = .ok (.iconst 0, 1) := by decide +kernel
theorem dX8_size_2 : decode cX8_size 2 = .ok (.putfield 54, 3) := by decide +kernel
theorem dX8_size_5 : decode cX8_size 5 = .ok (.aload_n 0, 1) := by decide +kernel
theorem dX8_size_6 : decode cX8_size 6 = .ok (.getfield 60, 3) := by decide +kernel
theorem dX8_size_9 : decode cX8_size 9 = .ok (.ireturn, 1) := by decide +kernel
theorem dX8_trouble_0 : decode cX8_trouble 0 = .ok (.aload_n 0, 1) := by decide +kernel
theorem dX8_trouble_1 : decode cX8_trouble 1 = .ok (.iconst 0, 1) := by decide +kernel
theorem dX8_trouble_2 : decode cX8_trouble 2 = .ok (.putfield 54, 3) := by decide +kernel
theorem dX8_trouble_5 : decode cX8_trouble 5 = .ok (.aload_n 0, 1) := by decide +kernel
theorem dX8_trouble_6 : decode cX8_trouble 6 = .ok (.getfield 57, 3) := by decide +kernel
theorem dX8_trouble_9 : decode cX8_trouble 9 = .ok (.ireturn, 1) := by decide +kernel
theorem dL_named_0 : decode cL_named 0 = .ok (.aload_n 2, 1) := by decide +kernel
theorem dL_named_1 : decode cL_named 1 = .ok (.iconst 0, 1) := by decide +kernel
theorem dL_named_2 : decode cL_named 2 = .ok (.aload_n 0, 1) := by decide +kernel
theorem dL_named_3 : decode cL_named 3 = .ok (.iload_n 1, 1) := by decide +kernel
theorem dL_named_4 : decode cL_named 4 = .ok (.invokevirtual 7, 3) := by decide +kernel
theorem dL_named_7 : decode cL_named 7 = .ok (.i2l, 1) := by decide +kernel
theorem dL_named_8 : decode cL_named 8 = .ok (.lastore, 1) := by decide +kernel
theorem dL_named_9 : decode cL_named 9 = .ok (.goto 6, 3) := by decide +kernel
theorem dL_named_12 : decode cL_named 12 = .ok (.astore_n 3, 1) := by decide +kernel
theorem dL_named_13 : decode cL_named 13 = .ok (.iconst 1, 1) := by decide +kernel
theorem dL_named_14 : decode cL_named 14 = .ok (.ireturn, 1) := by decide +kernel
theorem dL_named_15 : decode cL_named 15 = .ok (.iconst 0, 1) := by decide +kernel
theorem dL_named_16 : decode cL_named 16 = .ok (.ireturn, 1) := by decide +kernel
theorem dL_law_0 : decode cL_law 0 = .ok (.new 8, 3) := by decide +kernel
theorem dL_law_3 : decode cL_law 3 = .ok (.dup, 1) := by decide +kernel
theorem dL_law_4 : decode cL_law 4 = .ok (.invokespecial 15, 3) := by decide +kernel
theorem dL_law_7 : decode cL_law 7 = .ok (.astore_n 1, 1) := by decide +kernel
theorem dL_law_8 : decode cL_law 8 = .ok (.new 16, 3) := by decide +kernel
theorem dL_law_11 : decode cL_law 11 = .ok (.dup, 1) := by decide +kernel
theorem dL_law_12 : decode cL_law 12 = .ok (.invokespecial 18, 3) := by decide +kernel
theorem dL_law_15 : decode cL_law 15 = .ok (.astore_n 2, 1) := by decide +kernel
theorem dL_law_16 : decode cL_law 16 = .ok (.iconst 1, 1) := by decide +kernel
theorem dL_law_17 : decode cL_law 17 = .ok (.newarray .long, 2) := by decide +kernel
theorem dL_law_19 : decode cL_law 19 = .ok (.astore_n 3, 1) := by decide +kernel
theorem dL_law_20 : decode cL_law 20 = .ok (.iconst 0, 1) := by decide +kernel
theorem dL_law_21 : decode cL_law 21 = .ok (.istore 4, 2) := by decide +kernel
theorem dL_law_23 : decode cL_law 23 = .ok (.iload 4, 2) := by decide +kernel
theorem dL_law_25 : decode cL_law 25 = .ok (.aload_n 0, 1) := by decide +kernel
theorem dL_law_26 : decode cL_law 26 = .ok (.arraylength, 1) := by decide +kernel
theorem dL_law_27 : decode cL_law 27 = .ok (.bipush 6, 2) := by decide +kernel
theorem dL_law_29 : decode cL_law 29 = .ok (.isub, 1) := by decide +kernel
theorem dL_law_30 : decode cL_law 30 = .ok (.if_icmp .gt 1793, 3) := by decide +kernel
theorem dL_law_33 : decode cL_law 33 = .ok (.aload_n 0, 1) := by decide +kernel
theorem dL_law_34 : decode cL_law 34 = .ok (.iload 4, 2) := by decide +kernel
theorem dL_law_36 : decode cL_law 36 = .ok (.iaload, 1) := by decide +kernel
theorem dL_law_37 : decode cL_law 37 = .ok (.bipush 63, 2) := by decide +kernel
theorem dL_law_39 : decode cL_law 39 = .ok (.iand, 1) := by decide +kernel
theorem dL_law_40 : decode cL_law 40 = .ok (.tableswitch 1777 0 39 #[176, 249, 274, 287, 300, 325, 350, 387, 412, 437, 486, 547, 609, 671, 733, 782, 856, 905, 967, 1005, 1043, 1080, 1129, 1166, 1216, 1266, 1304, 1381, 1406, 1471, 1484, 1497, 1534, 1559, 1584, 1645, 1682, 1695, 1751, 1764], 176) := by decide +kernel
theorem dL_law_216 : decode cL_law 216 = .ok (.aload_n 1, 1) := by decide +kernel
theorem dL_law_217 : decode cL_law 217 = .ok (.aload_n 0, 1) := by decide +kernel
theorem dL_law_218 : decode cL_law 218 = .ok (.iload 4, 2) := by decide +kernel
theorem dL_law_220 : decode cL_law 220 = .ok (.iconst 1, 1) := by decide +kernel
theorem dL_law_221 : decode cL_law 221 = .ok (.iadd, 1) := by decide +kernel
theorem dL_law_222 : decode cL_law 222 = .ok (.iaload, 1) := by decide +kernel
theorem dL_law_223 : decode cL_law 223 = .ok (.aload_n 0, 1) := by decide +kernel
theorem dL_law_224 : decode cL_law 224 = .ok (.iload 4, 2) := by decide +kernel
theorem dL_law_226 : decode cL_law 226 = .ok (.iconst 2, 1) := by decide +kernel
theorem dL_law_227 : decode cL_law 227 = .ok (.iadd, 1) := by decide +kernel
theorem dL_law_228 : decode cL_law 228 = .ok (.iaload, 1) := by decide +kernel
theorem dL_law_229 : decode cL_law 229 = .ok (.aload_n 0, 1) := by decide +kernel
theorem dL_law_230 : decode cL_law 230 = .ok (.iload 4, 2) := by decide +kernel
theorem dL_law_232 : decode cL_law 232 = .ok (.iconst 3, 1) := by decide +kernel
theorem dL_law_233 : decode cL_law 233 = .ok (.iadd, 1) := by decide +kernel
theorem dL_law_234 : decode cL_law 234 = .ok (.iaload, 1) := by decide +kernel
theorem dL_law_235 : decode cL_law 235 = .ok (.aload_n 0, 1) := by decide +kernel
theorem dL_law_236 : decode cL_law 236 = .ok (.iload 4, 2) := by decide +kernel
theorem dL_law_238 : decode cL_law 238 = .ok (.iconst 4, 1) := by decide +kernel
theorem dL_law_239 : decode cL_law 239 = .ok (.iadd, 1) := by decide +kernel
theorem dL_law_240 : decode cL_law 240 = .ok (.iaload, 1) := by decide +kernel
theorem dL_law_241 : decode cL_law 241 = .ok (.aload_n 0, 1) := by decide +kernel
theorem dL_law_242 : decode cL_law 242 = .ok (.iload 4, 2) := by decide +kernel
theorem dL_law_244 : decode cL_law 244 = .ok (.iconst 5, 1) := by decide +kernel
theorem dL_law_245 : decode cL_law 245 = .ok (.iadd, 1) := by decide +kernel
theorem dL_law_246 : decode cL_law 246 = .ok (.iaload, 1) := by decide +kernel
theorem dL_law_247 : decode cL_law 247 = .ok (.invokevirtual 19, 3) := by decide +kernel
theorem dL_law_250 : decode cL_law 250 = .ok (.aload_n 2, 1) := by decide +kernel
theorem dL_law_251 : decode cL_law 251 = .ok (.aload_n 0, 1) := by decide +kernel
theorem dL_law_252 : decode cL_law 252 = .ok (.iload 4, 2) := by decide +kernel
theorem dL_law_254 : decode cL_law 254 = .ok (.iconst 1, 1) := by decide +kernel
theorem dL_law_255 : decode cL_law 255 = .ok (.iadd, 1) := by decide +kernel
theorem dL_law_256 : decode cL_law 256 = .ok (.iaload, 1) := by decide +kernel
theorem dL_law_257 : decode cL_law 257 = .ok (.aload_n 0, 1) := by decide +kernel
theorem dL_law_258 : decode cL_law 258 = .ok (.iload 4, 2) := by decide +kernel
theorem dL_law_260 : decode cL_law 260 = .ok (.iconst 2, 1) := by decide +kernel
theorem dL_law_261 : decode cL_law 261 = .ok (.iadd, 1) := by decide +kernel
theorem dL_law_262 : decode cL_law 262 = .ok (.iaload, 1) := by decide +kernel
theorem dL_law_263 : decode cL_law 263 = .ok (.aload_n 0, 1) := by decide +kernel
theorem dL_law_264 : decode cL_law 264 = .ok (.iload 4, 2) := by decide +kernel
theorem dL_law_266 : decode cL_law 266 = .ok (.iconst 3, 1) := by decide +kernel
theorem dL_law_267 : decode cL_law 267 = .ok (.iadd, 1) := by decide +kernel
theorem dL_law_268 : decode cL_law 268 = .ok (.iaload, 1) := by decide +kernel
theorem dL_law_269 : decode cL_law 269 = .ok (.aload_n 0, 1) := by decide +kernel
theorem dL_law_270 : decode cL_law 270 = .ok (.iload 4, 2) := by decide +kernel
theorem dL_law_272 : decode cL_law 272 = .ok (.iconst 4, 1) := by decide +kernel
theorem dL_law_273 : decode cL_law 273 = .ok (.iadd, 1) := by decide +kernel
theorem dL_law_274 : decode cL_law 274 = .ok (.iaload, 1) := by decide +kernel
theorem dL_law_275 : decode cL_law 275 = .ok (.aload_n 0, 1) := by decide +kernel
theorem dL_law_276 : decode cL_law 276 = .ok (.iload 4, 2) := by decide +kernel
theorem dL_law_278 : decode cL_law 278 = .ok (.iconst 5, 1) := by decide +kernel
theorem dL_law_279 : decode cL_law 279 = .ok (.iadd, 1) := by decide +kernel
theorem dL_law_280 : decode cL_law 280 = .ok (.iaload, 1) := by decide +kernel
theorem dL_law_281 : decode cL_law 281 = .ok (.invokevirtual 23, 3) := by decide +kernel
theorem dL_law_284 : decode cL_law 284 = .ok (.if_icmp .eq 1533, 3) := by decide +kernel
theorem dL_law_287 : decode cL_law 287 = .ok (.iconst 0, 1) := by decide +kernel
theorem dL_law_288 : decode cL_law 288 = .ok (.ireturn, 1) := by decide +kernel
theorem dL_law_289 : decode cL_law 289 = .ok (.aload_n 1, 1) := by decide +kernel
theorem dL_law_290 : decode cL_law 290 = .ok (.aload_n 0, 1) := by decide +kernel
theorem dL_law_291 : decode cL_law 291 = .ok (.iload 4, 2) := by decide +kernel
theorem dL_law_293 : decode cL_law 293 = .ok (.iconst 1, 1) := by decide +kernel
theorem dL_law_294 : decode cL_law 294 = .ok (.iadd, 1) := by decide +kernel
theorem dL_law_295 : decode cL_law 295 = .ok (.iaload, 1) := by decide +kernel
theorem dL_law_296 : decode cL_law 296 = .ok (.invokevirtual 24, 3) := by decide +kernel
theorem dL_law_299 : decode cL_law 299 = .ok (.aload_n 2, 1) := by decide +kernel
theorem dL_law_300 : decode cL_law 300 = .ok (.aload_n 0, 1) := by decide +kernel
theorem dL_law_301 : decode cL_law 301 = .ok (.iload 4, 2) := by decide +kernel
theorem dL_law_303 : decode cL_law 303 = .ok (.iconst 1, 1) := by decide +kernel
theorem dL_law_304 : decode cL_law 304 = .ok (.iadd, 1) := by decide +kernel
theorem dL_law_305 : decode cL_law 305 = .ok (.iaload, 1) := by decide +kernel
theorem dL_law_306 : decode cL_law 306 = .ok (.invokevirtual 27, 3) := by decide +kernel
theorem dL_law_309 : decode cL_law 309 = .ok (.if_icmp .eq 1508, 3) := by decide +kernel
theorem dL_law_312 : decode cL_law 312 = .ok (.iconst 0, 1) := by decide +kernel
theorem dL_law_313 : decode cL_law 313 = .ok (.ireturn, 1) := by decide +kernel
theorem dL_law_314 : decode cL_law 314 = .ok (.aload_n 1, 1) := by decide +kernel
theorem dL_law_315 : decode cL_law 315 = .ok (.invokevirtual 28, 3) := by decide +kernel
theorem dL_law_318 : decode cL_law 318 = .ok (.aload_n 2, 1) := by decide +kernel
theorem dL_law_319 : decode cL_law 319 = .ok (.invokevirtual 32, 3) := by decide +kernel
theorem dL_law_322 : decode cL_law 322 = .ok (.if_icmp .eq 1495, 3) := by decide +kernel
theorem dL_law_325 : decode cL_law 325 = .ok (.iconst 0, 1) := by decide +kernel
theorem dL_law_326 : decode cL_law 326 = .ok (.ireturn, 1) := by decide +kernel
theorem dL_law_327 : decode cL_law 327 = .ok (.aload_n 1, 1) := by decide +kernel
theorem dL_law_328 : decode cL_law 328 = .ok (.invokevirtual 33, 3) := by decide +kernel
theorem dL_law_331 : decode cL_law 331 = .ok (.aload_n 2, 1) := by decide +kernel
theorem dL_law_332 : decode cL_law 332 = .ok (.invokevirtual 36, 3) := by decide +kernel
theorem dL_law_335 : decode cL_law 335 = .ok (.if_icmp .eq 1482, 3) := by decide +kernel
theorem dL_law_338 : decode cL_law 338 = .ok (.iconst 0, 1) := by decide +kernel
theorem dL_law_339 : decode cL_law 339 = .ok (.ireturn, 1) := by decide +kernel
theorem dL_law_340 : decode cL_law 340 = .ok (.aload_n 1, 1) := by decide +kernel
theorem dL_law_341 : decode cL_law 341 = .ok (.aload_n 0, 1) := by decide +kernel
theorem dL_law_342 : decode cL_law 342 = .ok (.iload 4, 2) := by decide +kernel
theorem dL_law_344 : decode cL_law 344 = .ok (.iconst 1, 1) := by decide +kernel
theorem dL_law_345 : decode cL_law 345 = .ok (.iadd, 1) := by decide +kernel
theorem dL_law_346 : decode cL_law 346 = .ok (.iaload, 1) := by decide +kernel
theorem dL_law_347 : decode cL_law 347 = .ok (.invokevirtual 37, 3) := by decide +kernel
theorem dL_law_350 : decode cL_law 350 = .ok (.aload_n 2, 1) := by decide +kernel
theorem dL_law_351 : decode cL_law 351 = .ok (.aload_n 0, 1) := by decide +kernel
theorem dL_law_352 : decode cL_law 352 = .ok (.iload 4, 2) := by decide +kernel
theorem dL_law_354 : decode cL_law 354 = .ok (.iconst 1, 1) := by decide +kernel
theorem dL_law_355 : decode cL_law 355 = .ok (.iadd, 1) := by decide +kernel
theorem dL_law_356 : decode cL_law 356 = .ok (.iaload, 1) := by decide +kernel
theorem dL_law_357 : decode cL_law 357 = .ok (.invokevirtual 40, 3) := by decide +kernel
theorem dL_law_360 : decode cL_law 360 = .ok (.if_icmp .eq 1457, 3) := by decide +kernel
theorem dL_law_363 : decode cL_law 363 = .ok (.iconst 0, 1) := by decide +kernel
theorem dL_law_364 : decode cL_law 364 = .ok (.ireturn, 1) := by decide +kernel
theorem dL_law_365 : decode cL_law 365 = .ok (.aload_n 1, 1) := by decide +kernel
theorem dL_law_366 : decode cL_law 366 = .ok (.aload_n 0, 1) := by decide +kernel
theorem dL_law_367 : decode cL_law 367 = .ok (.iload 4, 2) := by decide +kernel
theorem dL_law_369 : decode cL_law 369 = .ok (.iconst 1, 1) := by decide +kernel
theorem dL_law_370 : decode cL_law 370 = .ok (.iadd, 1) := by decide +kernel
theorem dL_law_371 : decode cL_law 371 = .ok (.iaload, 1) := by decide +kernel
theorem dL_law_372 : decode cL_law 372 = .ok (.invokevirtual 41, 3) := by decide +kernel
theorem dL_law_375 : decode cL_law 375 = .ok (.aload_n 2, 1) := by decide +kernel
theorem dL_law_376 : decode cL_law 376 = .ok (.aload_n 0, 1) := by decide +kernel
theorem dL_law_377 : decode cL_law 377 = .ok (.iload 4, 2) := by decide +kernel
theorem dL_law_379 : decode cL_law 379 = .ok (.iconst 1, 1) := by decide +kernel
theorem dL_law_380 : decode cL_law 380 = .ok (.iadd, 1) := by decide +kernel
theorem dL_law_381 : decode cL_law 381 = .ok (.iaload, 1) := by decide +kernel
theorem dL_law_382 : decode cL_law 382 = .ok (.invokevirtual 44, 3) := by decide +kernel
theorem dL_law_385 : decode cL_law 385 = .ok (.if_icmp .eq 1432, 3) := by decide +kernel
theorem dL_law_388 : decode cL_law 388 = .ok (.iconst 0, 1) := by decide +kernel
theorem dL_law_389 : decode cL_law 389 = .ok (.ireturn, 1) := by decide +kernel
theorem dL_law_390 : decode cL_law 390 = .ok (.aload_n 1, 1) := by decide +kernel
theorem dL_law_391 : decode cL_law 391 = .ok (.aload_n 0, 1) := by decide +kernel
theorem dL_law_392 : decode cL_law 392 = .ok (.iload 4, 2) := by decide +kernel
theorem dL_law_394 : decode cL_law 394 = .ok (.iconst 1, 1) := by decide +kernel
theorem dL_law_395 : decode cL_law 395 = .ok (.iadd, 1) := by decide +kernel
theorem dL_law_396 : decode cL_law 396 = .ok (.iaload, 1) := by decide +kernel
theorem dL_law_397 : decode cL_law 397 = .ok (.aload_n 0, 1) := by decide +kernel
theorem dL_law_398 : decode cL_law 398 = .ok (.iload 4, 2) := by decide +kernel
theorem dL_law_400 : decode cL_law 400 = .ok (.iconst 2, 1) := by decide +kernel
theorem dL_law_401 : decode cL_law 401 = .ok (.iadd, 1) := by decide +kernel
theorem dL_law_402 : decode cL_law 402 = .ok (.iaload, 1) := by decide +kernel
theorem dL_law_403 : decode cL_law 403 = .ok (.invokevirtual 45, 3) := by decide +kernel
theorem dL_law_406 : decode cL_law 406 = .ok (.aload_n 2, 1) := by decide +kernel
theorem dL_law_407 : decode cL_law 407 = .ok (.aload_n 0, 1) := by decide +kernel
theorem dL_law_408 : decode cL_law 408 = .ok (.iload 4, 2) := by decide +kernel
theorem dL_law_410 : decode cL_law 410 = .ok (.iconst 1, 1) := by decide +kernel
theorem dL_law_411 : decode cL_law 411 = .ok (.iadd, 1) := by decide +kernel
theorem dL_law_412 : decode cL_law 412 = .ok (.iaload, 1) := by decide +kernel
theorem dL_law_413 : decode cL_law 413 = .ok (.aload_n 0, 1) := by decide +kernel
theorem dL_law_414 : decode cL_law 414 = .ok (.iload 4, 2) := by decide +kernel
theorem dL_law_416 : decode cL_law 416 = .ok (.iconst 2, 1) := by decide +kernel
theorem dL_law_417 : decode cL_law 417 = .ok (.iadd, 1) := by decide +kernel
theorem dL_law_418 : decode cL_law 418 = .ok (.iaload, 1) := by decide +kernel
theorem dL_law_419 : decode cL_law 419 = .ok (.invokevirtual 49, 3) := by decide +kernel
theorem dL_law_422 : decode cL_law 422 = .ok (.if_icmp .eq 1395, 3) := by decide +kernel
theorem dL_law_425 : decode cL_law 425 = .ok (.iconst 0, 1) := by decide +kernel
theorem dL_law_426 : decode cL_law 426 = .ok (.ireturn, 1) := by decide +kernel
theorem dL_law_427 : decode cL_law 427 = .ok (.aload_n 1, 1) := by decide +kernel
theorem dL_law_428 : decode cL_law 428 = .ok (.aload_n 0, 1) := by decide +kernel
theorem dL_law_429 : decode cL_law 429 = .ok (.iload 4, 2) := by decide +kernel
theorem dL_law_431 : decode cL_law 431 = .ok (.iconst 1, 1) := by decide +kernel
theorem dL_law_432 : decode cL_law 432 = .ok (.iadd, 1) := by decide +kernel
theorem dL_law_433 : decode cL_law 433 = .ok (.iaload, 1) := by decide +kernel
theorem dL_law_434 : decode cL_law 434 = .ok (.invokevirtual 50, 3) := by decide +kernel
theorem dL_law_437 : decode cL_law 437 = .ok (.aload_n 2, 1) := by decide +kernel
theorem dL_law_438 : decode cL_law 438 = .ok (.aload_n 0, 1) := by decide +kernel
theorem dL_law_439 : decode cL_law 439 = .ok (.iload 4, 2) := by decide +kernel
theorem dL_law_441 : decode cL_law 441 = .ok (.iconst 1, 1) := by decide +kernel
theorem dL_law_442 : decode cL_law 442 = .ok (.iadd, 1) := by decide +kernel
theorem dL_law_443 : decode cL_law 443 = .ok (.iaload, 1) := by decide +kernel
theorem dL_law_444 : decode cL_law 444 = .ok (.invokevirtual 53, 3) := by decide +kernel
theorem dL_law_447 : decode cL_law 447 = .ok (.if_icmp .eq 1370, 3) := by decide +kernel
theorem dL_law_450 : decode cL_law 450 = .ok (.iconst 0, 1) := by decide +kernel
theorem dL_law_451 : decode cL_law 451 = .ok (.ireturn, 1) := by decide +kernel
theorem dL_law_452 : decode cL_law 452 = .ok (.aload_n 1, 1) := by decide +kernel
theorem dL_law_453 : decode cL_law 453 = .ok (.aload_n 0, 1) := by decide +kernel
theorem dL_law_454 : decode cL_law 454 = .ok (.iload 4, 2) := by decide +kernel
theorem dL_law_456 : decode cL_law 456 = .ok (.iconst 1, 1) := by decide +kernel
theorem dL_law_457 : decode cL_law 457 = .ok (.iadd, 1) := by decide +kernel
theorem dL_law_458 : decode cL_law 458 = .ok (.iaload, 1) := by decide +kernel
theorem dL_law_459 : decode cL_law 459 = .ok (.invokevirtual 54, 3) := by decide +kernel
theorem dL_law_462 : decode cL_law 462 = .ok (.aload_n 2, 1) := by decide +kernel
theorem dL_law_463 : decode cL_law 463 = .ok (.aload_n 0, 1) := by decide +kernel
theorem dL_law_464 : decode cL_law 464 = .ok (.iload 4, 2) := by decide +kernel
theorem dL_law_466 : decode cL_law 466 = .ok (.iconst 1, 1) := by decide +kernel
theorem dL_law_467 : decode cL_law 467 = .ok (.iadd, 1) := by decide +kernel
theorem dL_law_468 : decode cL_law 468 = .ok (.iaload, 1) := by decide +kernel
theorem dL_law_469 : decode cL_law 469 = .ok (.invokevirtual 57, 3) := by decide +kernel
theorem dL_law_472 : decode cL_law 472 = .ok (.if_icmp .eq 1345, 3) := by decide +kernel
theorem dL_law_475 : decode cL_law 475 = .ok (.iconst 0, 1) := by decide +kernel
theorem dL_law_476 : decode cL_law 476 = .ok (.ireturn, 1) := by decide +kernel
theorem dL_law_477 : decode cL_law 477 = .ok (.aload_n 1, 1) := by decide +kernel
theorem dL_law_478 : decode cL_law 478 = .ok (.aload_n 0, 1) := by decide +kernel
theorem dL_law_479 : decode cL_law 479 = .ok (.iload 4, 2) := by decide +kernel
theorem dL_law_481 : decode cL_law 481 = .ok (.iconst 1, 1) := by decide +kernel
theorem dL_law_482 : decode cL_law 482 = .ok (.iadd, 1) := by decide +kernel
theorem dL_law_483 : decode cL_law 483 = .ok (.iaload, 1) := by decide +kernel
theorem dL_law_484 : decode cL_law 484 = .ok (.aload_n 0, 1) := by decide +kernel
theorem dL_law_485 : decode cL_law 485 = .ok (.iload 4, 2) := by decide +kernel
theorem dL_law_487 : decode cL_law 487 = .ok (.iconst 2, 1) := by decide +kernel
theorem dL_law_488 : decode cL_law 488 = .ok (.iadd, 1) := by decide +kernel
theorem dL_law_489 : decode cL_law 489 = .ok (.iaload, 1) := by decide +kernel
theorem dL_law_490 : decode cL_law 490 = .ok (.aload_n 0, 1) := by decide +kernel
theorem dL_law_491 : decode cL_law 491 = .ok (.iload 4, 2) := by decide +kernel
theorem dL_law_493 : decode cL_law 493 = .ok (.iconst 3, 1) := by decide +kernel
theorem dL_law_494 : decode cL_law 494 = .ok (.iadd, 1) := by decide +kernel
theorem dL_law_495 : decode cL_law 495 = .ok (.iaload, 1) := by decide +kernel
theorem dL_law_496 : decode cL_law 496 = .ok (.invokevirtual 58, 3) := by decide +kernel
theorem dL_law_499 : decode cL_law 499 = .ok (.aload_n 2, 1) := by decide +kernel
theorem dL_law_500 : decode cL_law 500 = .ok (.aload_n 0, 1) := by decide +kernel
theorem dL_law_501 : decode cL_law 501 = .ok (.iload 4, 2) := by decide +kernel
theorem dL_law_503 : decode cL_law 503 = .ok (.iconst 1, 1) := by decide +kernel
theorem dL_law_504 : decode cL_law 504 = .ok (.iadd, 1) := by decide +kernel
theorem dL_law_505 : decode cL_law 505 = .ok (.iaload, 1) := by decide +kernel
theorem dL_law_506 : decode cL_law 506 = .ok (.aload_n 0, 1) := by decide +kernel
theorem dL_law_507 : decode cL_law 507 = .ok (.iload 4, 2) := by decide +kernel
theorem dL_law_509 : decode cL_law 509 = .ok (.iconst 2, 1) := by decide +kernel
theorem dL_law_510 : decode cL_law 510 = .ok (.iadd, 1) := by decide +kernel
theorem dL_law_511 : decode cL_law 511 = .ok (.iaload, 1) := by decide +kernel
theorem dL_law_512 : decode cL_law 512 = .ok (.aload_n 0, 1) := by decide +kernel
theorem dL_law_513 : decode cL_law 513 = .ok (.iload 4, 2) := by decide +kernel
theorem dL_law_515 : decode cL_law 515 = .ok (.iconst 3, 1) := by decide +kernel
theorem dL_law_516 : decode cL_law 516 = .ok (.iadd, 1) := by decide +kernel
theorem dL_law_517 : decode cL_law 517 = .ok (.iaload, 1) := by decide +kernel
theorem dL_law_518 : decode cL_law 518 = .ok (.invokevirtual 62, 3) := by decide +kernel
theorem dL_law_521 : decode cL_law 521 = .ok (.if_icmp .eq 1296, 3) := by decide +kernel
theorem dL_law_524 : decode cL_law 524 = .ok (.iconst 0, 1) := by decide +kernel
theorem dL_law_525 : decode cL_law 525 = .ok (.ireturn, 1) := by decide +kernel
theorem dL_law_526 : decode cL_law 526 = .ok (.aload_n 1, 1) := by decide +kernel
theorem dL_law_527 : decode cL_law 527 = .ok (.aload_n 0, 1) := by decide +kernel
theorem dL_law_528 : decode cL_law 528 = .ok (.iload 4, 2) := by decide +kernel
theorem dL_law_530 : decode cL_law 530 = .ok (.iconst 1, 1) := by decide +kernel
theorem dL_law_531 : decode cL_law 531 = .ok (.iadd, 1) := by decide +kernel
theorem dL_law_532 : decode cL_law 532 = .ok (.iaload, 1) := by decide +kernel
theorem dL_law_533 : decode cL_law 533 = .ok (.aload_n 0, 1) := by decide +kernel
theorem dL_law_534 : decode cL_law 534 = .ok (.iload 4, 2) := by decide +kernel
theorem dL_law_536 : decode cL_law 536 = .ok (.iconst 2, 1) := by decide +kernel
theorem dL_law_537 : decode cL_law 537 = .ok (.iadd, 1) := by decide +kernel
theorem dL_law_538 : decode cL_law 538 = .ok (.iaload, 1) := by decide +kernel
theorem dL_law_539 : decode cL_law 539 = .ok (.aload_n 0, 1) := by decide +kernel
theorem dL_law_540 : decode cL_law 540 = .ok (.iload 4, 2) := by decide +kernel
theorem dL_law_542 : decode cL_law 542 = .ok (.iconst 3, 1) := by decide +kernel
theorem dL_law_543 : decode cL_law 543 = .ok (.iadd, 1) := by decide +kernel
theorem dL_law_544 : decode cL_law 544 = .ok (.iaload, 1) := by decide +kernel
theorem dL_law_545 : decode cL_law 545 = .ok (.aload_n 0, 1) := by decide +kernel
theorem dL_law_546 : decode cL_law 546 = .ok (.iload 4, 2) := by decide +kernel
theorem dL_law_548 : decode cL_law 548 = .ok (.iconst 4, 1) := by decide +kernel
theorem dL_law_549 : decode cL_law 549 = .ok (.iadd, 1) := by decide +kernel
theorem dL_law_550 : decode cL_law 550 = .ok (.iaload, 1) := by decide +kernel
theorem dL_law_551 : decode cL_law 551 = .ok (.invokevirtual 63, 3) := by decide +kernel
theorem dL_law_554 : decode cL_law 554 = .ok (.aload_n 2, 1) := by decide +kernel
theorem dL_law_555 : decode cL_law 555 = .ok (.aload_n 0, 1) := by decide +kernel
theorem dL_law_556 : decode cL_law 556 = .ok (.iload 4, 2) := by decide +kernel
theorem dL_law_558 : decode cL_law 558 = .ok (.iconst 1, 1) := by decide +kernel
theorem dL_law_559 : decode cL_law 559 = .ok (.iadd, 1) := by decide +kernel
theorem dL_law_560 : decode cL_law 560 = .ok (.iaload, 1) := by decide +kernel
theorem dL_law_561 : decode cL_law 561 = .ok (.aload_n 0, 1) := by decide +kernel
theorem dL_law_562 : decode cL_law 562 = .ok (.iload 4, 2) := by decide +kernel
theorem dL_law_564 : decode cL_law 564 = .ok (.iconst 2, 1) := by decide +kernel
theorem dL_law_565 : decode cL_law 565 = .ok (.iadd, 1) := by decide +kernel
theorem dL_law_566 : decode cL_law 566 = .ok (.iaload, 1) := by decide +kernel
theorem dL_law_567 : decode cL_law 567 = .ok (.aload_n 0, 1) := by decide +kernel
theorem dL_law_568 : decode cL_law 568 = .ok (.iload 4, 2) := by decide +kernel
theorem dL_law_570 : decode cL_law 570 = .ok (.iconst 3, 1) := by decide +kernel
theorem dL_law_571 : decode cL_law 571 = .ok (.iadd, 1) := by decide +kernel
theorem dL_law_572 : decode cL_law 572 = .ok (.iaload, 1) := by decide +kernel
theorem dL_law_573 : decode cL_law 573 = .ok (.aload_n 0, 1) := by decide +kernel
theorem dL_law_574 : decode cL_law 574 = .ok (.iload 4, 2) := by decide +kernel
theorem dL_law_576 : decode cL_law 576 = .ok (.iconst 4, 1) := by decide +kernel
theorem dL_law_577 : decode cL_law 577 = .ok (.iadd, 1) := by decide +kernel
theorem dL_law_578 : decode cL_law 578 = .ok (.iaload, 1) := by decide +kernel
theorem dL_law_579 : decode cL_law 579 = .ok (.invokevirtual 67, 3) := by decide +kernel
theorem dL_law_582 : decode cL_law 582 = .ok (.if_icmp .eq 1235, 3) := by decide +kernel
theorem dL_law_585 : decode cL_law 585 = .ok (.iconst 0, 1) := by decide +kernel
theorem dL_law_586 : decode cL_law 586 = .ok (.ireturn, 1) := by decide +kernel
theorem dL_law_587 : decode cL_law 587 = .ok (.aload_n 1, 1) := by decide +kernel
theorem dL_law_588 : decode cL_law 588 = .ok (.aload_n 0, 1) := by decide +kernel
theorem dL_law_589 : decode cL_law 589 = .ok (.iload 4, 2) := by decide +kernel
theorem dL_law_591 : decode cL_law 591 = .ok (.iconst 1, 1) := by decide +kernel
theorem dL_law_592 : decode cL_law 592 = .ok (.iadd, 1) := by decide +kernel
theorem dL_law_593 : decode cL_law 593 = .ok (.iaload, 1) := by decide +kernel
theorem dL_law_594 : decode cL_law 594 = .ok (.aload_n 0, 1) := by decide +kernel
theorem dL_law_595 : decode cL_law 595 = .ok (.iload 4, 2) := by decide +kernel
theorem dL_law_597 : decode cL_law 597 = .ok (.iconst 2, 1) := by decide +kernel
theorem dL_law_598 : decode cL_law 598 = .ok (.iadd, 1) := by decide +kernel
theorem dL_law_599 : decode cL_law 599 = .ok (.iaload, 1) := by decide +kernel
theorem dL_law_600 : decode cL_law 600 = .ok (.aload_n 0, 1) := by decide +kernel
theorem dL_law_601 : decode cL_law 601 = .ok (.iload 4, 2) := by decide +kernel
theorem dL_law_603 : decode cL_law 603 = .ok (.iconst 3, 1) := by decide +kernel
theorem dL_law_604 : decode cL_law 604 = .ok (.iadd, 1) := by decide +kernel
theorem dL_law_605 : decode cL_law 605 = .ok (.iaload, 1) := by decide +kernel
theorem dL_law_606 : decode cL_law 606 = .ok (.aload_n 0, 1) := by decide +kernel
theorem dL_law_607 : decode cL_law 607 = .ok (.iload 4, 2) := by decide +kernel
theorem dL_law_609 : decode cL_law 609 = .ok (.iconst 4, 1) := by decide +kernel
theorem dL_law_610 : decode cL_law 610 = .ok (.iadd, 1) := by decide +kernel
theorem dL_law_611 : decode cL_law 611 = .ok (.iaload, 1) := by decide +kernel
theorem dL_law_612 : decode cL_law 612 = .ok (.invokevirtual 68, 3) := by decide +kernel
theorem dL_law_615 : decode cL_law 615 = .ok (.aload_n 2, 1) := by decide +kernel
theorem dL_law_616 : decode cL_law 616 = .ok (.aload_n 0, 1) := by decide +kernel
theorem dL_law_617 : decode cL_law 617 = .ok (.iload 4, 2) := by decide +kernel
theorem dL_law_619 : decode cL_law 619 = .ok (.iconst 1, 1) := by decide +kernel
theorem dL_law_620 : decode cL_law 620 = .ok (.iadd, 1) := by decide +kernel
theorem dL_law_621 : decode cL_law 621 = .ok (.iaload, 1) := by decide +kernel
theorem dL_law_622 : decode cL_law 622 = .ok (.aload_n 0, 1) := by decide +kernel
theorem dL_law_623 : decode cL_law 623 = .ok (.iload 4, 2) := by decide +kernel
theorem dL_law_625 : decode cL_law 625 = .ok (.iconst 2, 1) := by decide +kernel
theorem dL_law_626 : decode cL_law 626 = .ok (.iadd, 1) := by decide +kernel
theorem dL_law_627 : decode cL_law 627 = .ok (.iaload, 1) := by decide +kernel
theorem dL_law_628 : decode cL_law 628 = .ok (.aload_n 0, 1) := by decide +kernel
theorem dL_law_629 : decode cL_law 629 = .ok (.iload 4, 2) := by decide +kernel
theorem dL_law_631 : decode cL_law 631 = .ok (.iconst 3, 1) := by decide +kernel
theorem dL_law_632 : decode cL_law 632 = .ok (.iadd, 1) := by decide +kernel
theorem dL_law_633 : decode cL_law 633 = .ok (.iaload, 1) := by decide +kernel
theorem dL_law_634 : decode cL_law 634 = .ok (.aload_n 0, 1) := by decide +kernel
theorem dL_law_635 : decode cL_law 635 = .ok (.iload 4, 2) := by decide +kernel
theorem dL_law_637 : decode cL_law 637 = .ok (.iconst 4, 1) := by decide +kernel
theorem dL_law_638 : decode cL_law 638 = .ok (.iadd, 1) := by decide +kernel
theorem dL_law_639 : decode cL_law 639 = .ok (.iaload, 1) := by decide +kernel
theorem dL_law_640 : decode cL_law 640 = .ok (.invokevirtual 72, 3) := by decide +kernel
theorem dL_law_643 : decode cL_law 643 = .ok (.lcmp, 1) := by decide +kernel
theorem dL_law_644 : decode cL_law 644 = .ok (.ifCond .eq 1173, 3) := by decide +kernel
theorem dL_law_647 : decode cL_law 647 = .ok (.iconst 0, 1) := by decide +kernel
theorem dL_law_648 : decode cL_law 648 = .ok (.ireturn, 1) := by decide +kernel
theorem dL_law_649 : decode cL_law 649 = .ok (.aload_n 1, 1) := by decide +kernel
theorem dL_law_650 : decode cL_law 650 = .ok (.aload_n 0, 1) := by decide +kernel
theorem dL_law_651 : decode cL_law 651 = .ok (.iload 4, 2) := by decide +kernel
theorem dL_law_653 : decode cL_law 653 = .ok (.iconst 1, 1) := by decide +kernel
theorem dL_law_654 : decode cL_law 654 = .ok (.iadd, 1) := by decide +kernel
theorem dL_law_655 : decode cL_law 655 = .ok (.iaload, 1) := by decide +kernel
theorem dL_law_656 : decode cL_law 656 = .ok (.aload_n 0, 1) := by decide +kernel
theorem dL_law_657 : decode cL_law 657 = .ok (.iload 4, 2) := by decide +kernel
theorem dL_law_659 : decode cL_law 659 = .ok (.iconst 2, 1) := by decide +kernel
theorem dL_law_660 : decode cL_law 660 = .ok (.iadd, 1) := by decide +kernel
theorem dL_law_661 : decode cL_law 661 = .ok (.iaload, 1) := by decide +kernel
theorem dL_law_662 : decode cL_law 662 = .ok (.aload_n 0, 1) := by decide +kernel
theorem dL_law_663 : decode cL_law 663 = .ok (.iload 4, 2) := by decide +kernel
theorem dL_law_665 : decode cL_law 665 = .ok (.iconst 3, 1) := by decide +kernel
theorem dL_law_666 : decode cL_law 666 = .ok (.iadd, 1) := by decide +kernel
theorem dL_law_667 : decode cL_law 667 = .ok (.iaload, 1) := by decide +kernel
theorem dL_law_668 : decode cL_law 668 = .ok (.aload_n 0, 1) := by decide +kernel
theorem dL_law_669 : decode cL_law 669 = .ok (.iload 4, 2) := by decide +kernel
theorem dL_law_671 : decode cL_law 671 = .ok (.iconst 4, 1) := by decide +kernel
theorem dL_law_672 : decode cL_law 672 = .ok (.iadd, 1) := by decide +kernel
theorem dL_law_673 : decode cL_law 673 = .ok (.iaload, 1) := by decide +kernel
theorem dL_law_674 : decode cL_law 674 = .ok (.invokevirtual 73, 3) := by decide +kernel
theorem dL_law_677 : decode cL_law 677 = .ok (.aload_n 2, 1) := by decide +kernel
theorem dL_law_678 : decode cL_law 678 = .ok (.aload_n 0, 1) := by decide +kernel
theorem dL_law_679 : decode cL_law 679 = .ok (.iload 4, 2) := by decide +kernel
theorem dL_law_681 : decode cL_law 681 = .ok (.iconst 1, 1) := by decide +kernel
theorem dL_law_682 : decode cL_law 682 = .ok (.iadd, 1) := by decide +kernel
theorem dL_law_683 : decode cL_law 683 = .ok (.iaload, 1) := by decide +kernel
theorem dL_law_684 : decode cL_law 684 = .ok (.aload_n 0, 1) := by decide +kernel
theorem dL_law_685 : decode cL_law 685 = .ok (.iload 4, 2) := by decide +kernel
theorem dL_law_687 : decode cL_law 687 = .ok (.iconst 2, 1) := by decide +kernel
theorem dL_law_688 : decode cL_law 688 = .ok (.iadd, 1) := by decide +kernel
theorem dL_law_689 : decode cL_law 689 = .ok (.iaload, 1) := by decide +kernel
theorem dL_law_690 : decode cL_law 690 = .ok (.aload_n 0, 1) := by decide +kernel
theorem dL_law_691 : decode cL_law 691 = .ok (.iload 4, 2) := by decide +kernel
theorem dL_law_693 : decode cL_law 693 = .ok (.iconst 3, 1) := by decide +kernel
theorem dL_law_694 : decode cL_law 694 = .ok (.iadd, 1) := by decide +kernel
theorem dL_law_695 : decode cL_law 695 = .ok (.iaload, 1) := by decide +kernel
theorem dL_law_696 : decode cL_law 696 = .ok (.aload_n 0, 1) := by decide +kernel
theorem dL_law_697 : decode cL_law 697 = .ok (.iload 4, 2) := by decide +kernel
theorem dL_law_699 : decode cL_law 699 = .ok (.iconst 4, 1) := by decide +kernel
theorem dL_law_700 : decode cL_law 700 = .ok (.iadd, 1) := by decide +kernel
theorem dL_law_701 : decode cL_law 701 = .ok (.iaload, 1) := by decide +kernel
theorem dL_law_702 : decode cL_law 702 = .ok (.invokevirtual 76, 3) := by decide +kernel
theorem dL_law_705 : decode cL_law 705 = .ok (.lcmp, 1) := by decide +kernel
theorem dL_law_706 : decode cL_law 706 = .ok (.ifCond .eq 1111, 3) := by decide +kernel
theorem dL_law_709 : decode cL_law 709 = .ok (.iconst 0, 1) := by decide +kernel
theorem dL_law_710 : decode cL_law 710 = .ok (.ireturn, 1) := by decide +kernel
theorem dL_law_711 : decode cL_law 711 = .ok (.aload_n 1, 1) := by decide +kernel
theorem dL_law_712 : decode cL_law 712 = .ok (.aload_n 0, 1) := by decide +kernel
theorem dL_law_713 : decode cL_law 713 = .ok (.iload 4, 2) := by decide +kernel
theorem dL_law_715 : decode cL_law 715 = .ok (.iconst 1, 1) := by decide +kernel
theorem dL_law_716 : decode cL_law 716 = .ok (.iadd, 1) := by decide +kernel
theorem dL_law_717 : decode cL_law 717 = .ok (.iaload, 1) := by decide +kernel
theorem dL_law_718 : decode cL_law 718 = .ok (.aload_n 0, 1) := by decide +kernel
theorem dL_law_719 : decode cL_law 719 = .ok (.iload 4, 2) := by decide +kernel
theorem dL_law_721 : decode cL_law 721 = .ok (.iconst 2, 1) := by decide +kernel
theorem dL_law_722 : decode cL_law 722 = .ok (.iadd, 1) := by decide +kernel
theorem dL_law_723 : decode cL_law 723 = .ok (.iaload, 1) := by decide +kernel
theorem dL_law_724 : decode cL_law 724 = .ok (.aload_n 0, 1) := by decide +kernel
theorem dL_law_725 : decode cL_law 725 = .ok (.iload 4, 2) := by decide +kernel
theorem dL_law_727 : decode cL_law 727 = .ok (.iconst 3, 1) := by decide +kernel
theorem dL_law_728 : decode cL_law 728 = .ok (.iadd, 1) := by decide +kernel
theorem dL_law_729 : decode cL_law 729 = .ok (.iaload, 1) := by decide +kernel
theorem dL_law_730 : decode cL_law 730 = .ok (.aload_n 0, 1) := by decide +kernel
theorem dL_law_731 : decode cL_law 731 = .ok (.iload 4, 2) := by decide +kernel
theorem dL_law_733 : decode cL_law 733 = .ok (.iconst 4, 1) := by decide +kernel
theorem dL_law_734 : decode cL_law 734 = .ok (.iadd, 1) := by decide +kernel
theorem dL_law_735 : decode cL_law 735 = .ok (.iaload, 1) := by decide +kernel
theorem dL_law_736 : decode cL_law 736 = .ok (.invokevirtual 77, 3) := by decide +kernel
theorem dL_law_739 : decode cL_law 739 = .ok (.aload_n 2, 1) := by decide +kernel
theorem dL_law_740 : decode cL_law 740 = .ok (.aload_n 0, 1) := by decide +kernel
theorem dL_law_741 : decode cL_law 741 = .ok (.iload 4, 2) := by decide +kernel
theorem dL_law_743 : decode cL_law 743 = .ok (.iconst 1, 1) := by decide +kernel
theorem dL_law_744 : decode cL_law 744 = .ok (.iadd, 1) := by decide +kernel
theorem dL_law_745 : decode cL_law 745 = .ok (.iaload, 1) := by decide +kernel
theorem dL_law_746 : decode cL_law 746 = .ok (.aload_n 0, 1) := by decide +kernel
theorem dL_law_747 : decode cL_law 747 = .ok (.iload 4, 2) := by decide +kernel
theorem dL_law_749 : decode cL_law 749 = .ok (.iconst 2, 1) := by decide +kernel
theorem dL_law_750 : decode cL_law 750 = .ok (.iadd, 1) := by decide +kernel
theorem dL_law_751 : decode cL_law 751 = .ok (.iaload, 1) := by decide +kernel
theorem dL_law_752 : decode cL_law 752 = .ok (.aload_n 0, 1) := by decide +kernel
theorem dL_law_753 : decode cL_law 753 = .ok (.iload 4, 2) := by decide +kernel
theorem dL_law_755 : decode cL_law 755 = .ok (.iconst 3, 1) := by decide +kernel
theorem dL_law_756 : decode cL_law 756 = .ok (.iadd, 1) := by decide +kernel
theorem dL_law_757 : decode cL_law 757 = .ok (.iaload, 1) := by decide +kernel
theorem dL_law_758 : decode cL_law 758 = .ok (.aload_n 0, 1) := by decide +kernel
theorem dL_law_759 : decode cL_law 759 = .ok (.iload 4, 2) := by decide +kernel
theorem dL_law_761 : decode cL_law 761 = .ok (.iconst 4, 1) := by decide +kernel
theorem dL_law_762 : decode cL_law 762 = .ok (.iadd, 1) := by decide +kernel
theorem dL_law_763 : decode cL_law 763 = .ok (.iaload, 1) := by decide +kernel
theorem dL_law_764 : decode cL_law 764 = .ok (.invokevirtual 80, 3) := by decide +kernel
theorem dL_law_767 : decode cL_law 767 = .ok (.lcmp, 1) := by decide +kernel
theorem dL_law_768 : decode cL_law 768 = .ok (.ifCond .eq 1049, 3) := by decide +kernel
theorem dL_law_771 : decode cL_law 771 = .ok (.iconst 0, 1) := by decide +kernel
theorem dL_law_772 : decode cL_law 772 = .ok (.ireturn, 1) := by decide +kernel
theorem dL_law_773 : decode cL_law 773 = .ok (.aload_n 1, 1) := by decide +kernel
theorem dL_law_774 : decode cL_law 774 = .ok (.aload_n 0, 1) := by decide +kernel
theorem dL_law_775 : decode cL_law 775 = .ok (.iload 4, 2) := by decide +kernel
theorem dL_law_777 : decode cL_law 777 = .ok (.iconst 1, 1) := by decide +kernel
theorem dL_law_778 : decode cL_law 778 = .ok (.iadd, 1) := by decide +kernel
theorem dL_law_779 : decode cL_law 779 = .ok (.iaload, 1) := by decide +kernel
theorem dL_law_780 : decode cL_law 780 = .ok (.aload_n 0, 1) := by decide +kernel
theorem dL_law_781 : decode cL_law 781 = .ok (.iload 4, 2) := by decide +kernel
theorem dL_law_783 : decode cL_law 783 = .ok (.iconst 2, 1) := by decide +kernel
theorem dL_law_784 : decode cL_law 784 = .ok (.iadd, 1) := by decide +kernel
theorem dL_law_785 : decode cL_law 785 = .ok (.iaload, 1) := by decide +kernel
theorem dL_law_786 : decode cL_law 786 = .ok (.aload_n 0, 1) := by decide +kernel
theorem dL_law_787 : decode cL_law 787 = .ok (.iload 4, 2) := by decide +kernel
theorem dL_law_789 : decode cL_law 789 = .ok (.iconst 3, 1) := by decide +kernel
theorem dL_law_790 : decode cL_law 790 = .ok (.iadd, 1) := by decide +kernel
theorem dL_law_791 : decode cL_law 791 = .ok (.iaload, 1) := by decide +kernel
theorem dL_law_792 : decode cL_law 792 = .ok (.invokevirtual 81, 3) := by decide +kernel
theorem dL_law_795 : decode cL_law 795 = .ok (.aload_n 2, 1) := by decide +kernel
theorem dL_law_796 : decode cL_law 796 = .ok (.aload_n 0, 1) := by decide +kernel
theorem dL_law_797 : decode cL_law 797 = .ok (.iload 4, 2) := by decide +kernel
theorem dL_law_799 : decode cL_law 799 = .ok (.iconst 1, 1) := by decide +kernel
theorem dL_law_800 : decode cL_law 800 = .ok (.iadd, 1) := by decide +kernel
theorem dL_law_801 : decode cL_law 801 = .ok (.iaload, 1) := by decide +kernel
theorem dL_law_802 : decode cL_law 802 = .ok (.aload_n 0, 1) := by decide +kernel
theorem dL_law_803 : decode cL_law 803 = .ok (.iload 4, 2) := by decide +kernel
theorem dL_law_805 : decode cL_law 805 = .ok (.iconst 2, 1) := by decide +kernel
theorem dL_law_806 : decode cL_law 806 = .ok (.iadd, 1) := by decide +kernel
theorem dL_law_807 : decode cL_law 807 = .ok (.iaload, 1) := by decide +kernel
theorem dL_law_808 : decode cL_law 808 = .ok (.aload_n 0, 1) := by decide +kernel
theorem dL_law_809 : decode cL_law 809 = .ok (.iload 4, 2) := by decide +kernel
theorem dL_law_811 : decode cL_law 811 = .ok (.iconst 3, 1) := by decide +kernel
theorem dL_law_812 : decode cL_law 812 = .ok (.iadd, 1) := by decide +kernel
theorem dL_law_813 : decode cL_law 813 = .ok (.iaload, 1) := by decide +kernel
theorem dL_law_814 : decode cL_law 814 = .ok (.invokevirtual 84, 3) := by decide +kernel
theorem dL_law_817 : decode cL_law 817 = .ok (.if_icmp .eq 1000, 3) := by decide +kernel
theorem dL_law_820 : decode cL_law 820 = .ok (.iconst 0, 1) := by decide +kernel
theorem dL_law_821 : decode cL_law 821 = .ok (.ireturn, 1) := by decide +kernel
theorem dL_law_822 : decode cL_law 822 = .ok (.aload_n 1, 1) := by decide +kernel
theorem dL_law_823 : decode cL_law 823 = .ok (.aload_n 0, 1) := by decide +kernel
theorem dL_law_824 : decode cL_law 824 = .ok (.iload 4, 2) := by decide +kernel
theorem dL_law_826 : decode cL_law 826 = .ok (.iconst 1, 1) := by decide +kernel
theorem dL_law_827 : decode cL_law 827 = .ok (.iadd, 1) := by decide +kernel
theorem dL_law_828 : decode cL_law 828 = .ok (.iaload, 1) := by decide +kernel
theorem dL_law_829 : decode cL_law 829 = .ok (.aload_n 0, 1) := by decide +kernel
theorem dL_law_830 : decode cL_law 830 = .ok (.iload 4, 2) := by decide +kernel
theorem dL_law_832 : decode cL_law 832 = .ok (.iconst 2, 1) := by decide +kernel
theorem dL_law_833 : decode cL_law 833 = .ok (.iadd, 1) := by decide +kernel
theorem dL_law_834 : decode cL_law 834 = .ok (.iaload, 1) := by decide +kernel
theorem dL_law_835 : decode cL_law 835 = .ok (.aload_n 0, 1) := by decide +kernel
theorem dL_law_836 : decode cL_law 836 = .ok (.iload 4, 2) := by decide +kernel
theorem dL_law_838 : decode cL_law 838 = .ok (.iconst 3, 1) := by decide +kernel
theorem dL_law_839 : decode cL_law 839 = .ok (.iadd, 1) := by decide +kernel
theorem dL_law_840 : decode cL_law 840 = .ok (.iaload, 1) := by decide +kernel
theorem dL_law_841 : decode cL_law 841 = .ok (.aload_n 0, 1) := by decide +kernel
theorem dL_law_842 : decode cL_law 842 = .ok (.iload 4, 2) := by decide +kernel
theorem dL_law_844 : decode cL_law 844 = .ok (.iconst 4, 1) := by decide +kernel
theorem dL_law_845 : decode cL_law 845 = .ok (.iadd, 1) := by decide +kernel
theorem dL_law_846 : decode cL_law 846 = .ok (.iaload, 1) := by decide +kernel
theorem dL_law_847 : decode cL_law 847 = .ok (.aload_n 0, 1) := by decide +kernel
theorem dL_law_848 : decode cL_law 848 = .ok (.iload 4, 2) := by decide +kernel
theorem dL_law_850 : decode cL_law 850 = .ok (.iconst 5, 1) := by decide +kernel
theorem dL_law_851 : decode cL_law 851 = .ok (.iadd, 1) := by decide +kernel
theorem dL_law_852 : decode cL_law 852 = .ok (.iaload, 1) := by decide +kernel
theorem dL_law_853 : decode cL_law 853 = .ok (.invokevirtual 85, 3) := by decide +kernel
theorem dL_law_856 : decode cL_law 856 = .ok (.aload_n 2, 1) := by decide +kernel
theorem dL_law_857 : decode cL_law 857 = .ok (.aload_n 0, 1) := by decide +kernel
theorem dL_law_858 : decode cL_law 858 = .ok (.iload 4, 2) := by decide +kernel
theorem dL_law_860 : decode cL_law 860 = .ok (.iconst 1, 1) := by decide +kernel
theorem dL_law_861 : decode cL_law 861 = .ok (.iadd, 1) := by decide +kernel
theorem dL_law_862 : decode cL_law 862 = .ok (.iaload, 1) := by decide +kernel
theorem dL_law_863 : decode cL_law 863 = .ok (.aload_n 0, 1) := by decide +kernel
theorem dL_law_864 : decode cL_law 864 = .ok (.iload 4, 2) := by decide +kernel
theorem dL_law_866 : decode cL_law 866 = .ok (.iconst 2, 1) := by decide +kernel
theorem dL_law_867 : decode cL_law 867 = .ok (.iadd, 1) := by decide +kernel
theorem dL_law_868 : decode cL_law 868 = .ok (.iaload, 1) := by decide +kernel
theorem dL_law_869 : decode cL_law 869 = .ok (.aload_n 0, 1) := by decide +kernel
theorem dL_law_870 : decode cL_law 870 = .ok (.iload 4, 2) := by decide +kernel
theorem dL_law_872 : decode cL_law 872 = .ok (.iconst 3, 1) := by decide +kernel
theorem dL_law_873 : decode cL_law 873 = .ok (.iadd, 1) := by decide +kernel
theorem dL_law_874 : decode cL_law 874 = .ok (.iaload, 1) := by decide +kernel
theorem dL_law_875 : decode cL_law 875 = .ok (.aload_n 0, 1) := by decide +kernel
theorem dL_law_876 : decode cL_law 876 = .ok (.iload 4, 2) := by decide +kernel
theorem dL_law_878 : decode cL_law 878 = .ok (.iconst 4, 1) := by decide +kernel
theorem dL_law_879 : decode cL_law 879 = .ok (.iadd, 1) := by decide +kernel
theorem dL_law_880 : decode cL_law 880 = .ok (.iaload, 1) := by decide +kernel
theorem dL_law_881 : decode cL_law 881 = .ok (.aload_n 0, 1) := by decide +kernel
theorem dL_law_882 : decode cL_law 882 = .ok (.iload 4, 2) := by decide +kernel
theorem dL_law_884 : decode cL_law 884 = .ok (.iconst 5, 1) := by decide +kernel
theorem dL_law_885 : decode cL_law 885 = .ok (.iadd, 1) := by decide +kernel
theorem dL_law_886 : decode cL_law 886 = .ok (.iaload, 1) := by decide +kernel
theorem dL_law_887 : decode cL_law 887 = .ok (.invokevirtual 89, 3) := by decide +kernel
theorem dL_law_890 : decode cL_law 890 = .ok (.lcmp, 1) := by decide +kernel
theorem dL_law_891 : decode cL_law 891 = .ok (.ifCond .eq 926, 3) := by decide +kernel
theorem dL_law_894 : decode cL_law 894 = .ok (.iconst 0, 1) := by decide +kernel
theorem dL_law_895 : decode cL_law 895 = .ok (.ireturn, 1) := by decide +kernel
theorem dL_law_896 : decode cL_law 896 = .ok (.aload_n 1, 1) := by decide +kernel
theorem dL_law_897 : decode cL_law 897 = .ok (.aload_n 0, 1) := by decide +kernel
theorem dL_law_898 : decode cL_law 898 = .ok (.iload 4, 2) := by decide +kernel
theorem dL_law_900 : decode cL_law 900 = .ok (.iconst 1, 1) := by decide +kernel
theorem dL_law_901 : decode cL_law 901 = .ok (.iadd, 1) := by decide +kernel
theorem dL_law_902 : decode cL_law 902 = .ok (.iaload, 1) := by decide +kernel
theorem dL_law_903 : decode cL_law 903 = .ok (.aload_n 0, 1) := by decide +kernel
theorem dL_law_904 : decode cL_law 904 = .ok (.iload 4, 2) := by decide +kernel
theorem dL_law_906 : decode cL_law 906 = .ok (.iconst 2, 1) := by decide +kernel
theorem dL_law_907 : decode cL_law 907 = .ok (.iadd, 1) := by decide +kernel
theorem dL_law_908 : decode cL_law 908 = .ok (.iaload, 1) := by decide +kernel
theorem dL_law_909 : decode cL_law 909 = .ok (.aload_n 0, 1) := by decide +kernel
theorem dL_law_910 : decode cL_law 910 = .ok (.iload 4, 2) := by decide +kernel
theorem dL_law_912 : decode cL_law 912 = .ok (.iconst 3, 1) := by decide +kernel
theorem dL_law_913 : decode cL_law 913 = .ok (.iadd, 1) := by decide +kernel
theorem dL_law_914 : decode cL_law 914 = .ok (.iaload, 1) := by decide +kernel
theorem dL_law_915 : decode cL_law 915 = .ok (.invokevirtual 90, 3) := by decide +kernel
theorem dL_law_918 : decode cL_law 918 = .ok (.aload_n 2, 1) := by decide +kernel
theorem dL_law_919 : decode cL_law 919 = .ok (.aload_n 0, 1) := by decide +kernel
theorem dL_law_920 : decode cL_law 920 = .ok (.iload 4, 2) := by decide +kernel
theorem dL_law_922 : decode cL_law 922 = .ok (.iconst 1, 1) := by decide +kernel
theorem dL_law_923 : decode cL_law 923 = .ok (.iadd, 1) := by decide +kernel
theorem dL_law_924 : decode cL_law 924 = .ok (.iaload, 1) := by decide +kernel
theorem dL_law_925 : decode cL_law 925 = .ok (.aload_n 0, 1) := by decide +kernel
theorem dL_law_926 : decode cL_law 926 = .ok (.iload 4, 2) := by decide +kernel
theorem dL_law_928 : decode cL_law 928 = .ok (.iconst 2, 1) := by decide +kernel
theorem dL_law_929 : decode cL_law 929 = .ok (.iadd, 1) := by decide +kernel
theorem dL_law_930 : decode cL_law 930 = .ok (.iaload, 1) := by decide +kernel
theorem dL_law_931 : decode cL_law 931 = .ok (.aload_n 0, 1) := by decide +kernel
theorem dL_law_932 : decode cL_law 932 = .ok (.iload 4, 2) := by decide +kernel
theorem dL_law_934 : decode cL_law 934 = .ok (.iconst 3, 1) := by decide +kernel
theorem dL_law_935 : decode cL_law 935 = .ok (.iadd, 1) := by decide +kernel
theorem dL_law_936 : decode cL_law 936 = .ok (.iaload, 1) := by decide +kernel
theorem dL_law_937 : decode cL_law 937 = .ok (.invokevirtual 93, 3) := by decide +kernel
theorem dL_law_940 : decode cL_law 940 = .ok (.if_icmp .eq 877, 3) := by decide +kernel
theorem dL_law_943 : decode cL_law 943 = .ok (.iconst 0, 1) := by decide +kernel
theorem dL_law_944 : decode cL_law 944 = .ok (.ireturn, 1) := by decide +kernel
theorem dL_law_945 : decode cL_law 945 = .ok (.aload_n 1, 1) := by decide +kernel
theorem dL_law_946 : decode cL_law 946 = .ok (.aload_n 0, 1) := by decide +kernel
theorem dL_law_947 : decode cL_law 947 = .ok (.iload 4, 2) := by decide +kernel
theorem dL_law_949 : decode cL_law 949 = .ok (.iconst 1, 1) := by decide +kernel
theorem dL_law_950 : decode cL_law 950 = .ok (.iadd, 1) := by decide +kernel
theorem dL_law_951 : decode cL_law 951 = .ok (.iaload, 1) := by decide +kernel
theorem dL_law_952 : decode cL_law 952 = .ok (.aload_n 0, 1) := by decide +kernel
theorem dL_law_953 : decode cL_law 953 = .ok (.iload 4, 2) := by decide +kernel
theorem dL_law_955 : decode cL_law 955 = .ok (.iconst 2, 1) := by decide +kernel
theorem dL_law_956 : decode cL_law 956 = .ok (.iadd, 1) := by decide +kernel
theorem dL_law_957 : decode cL_law 957 = .ok (.iaload, 1) := by decide +kernel
theorem dL_law_958 : decode cL_law 958 = .ok (.aload_n 0, 1) := by decide +kernel
theorem dL_law_959 : decode cL_law 959 = .ok (.iload 4, 2) := by decide +kernel
theorem dL_law_961 : decode cL_law 961 = .ok (.iconst 3, 1) := by decide +kernel
theorem dL_law_962 : decode cL_law 962 = .ok (.iadd, 1) := by decide +kernel
theorem dL_law_963 : decode cL_law 963 = .ok (.iaload, 1) := by decide +kernel
theorem dL_law_964 : decode cL_law 964 = .ok (.aload_n 0, 1) := by decide +kernel
theorem dL_law_965 : decode cL_law 965 = .ok (.iload 4, 2) := by decide +kernel
theorem dL_law_967 : decode cL_law 967 = .ok (.iconst 4, 1) := by decide +kernel
theorem dL_law_968 : decode cL_law 968 = .ok (.iadd, 1) := by decide +kernel
theorem dL_law_969 : decode cL_law 969 = .ok (.iaload, 1) := by decide +kernel
theorem dL_law_970 : decode cL_law 970 = .ok (.invokevirtual 94, 3) := by decide +kernel
theorem dL_law_973 : decode cL_law 973 = .ok (.aload_n 2, 1) := by decide +kernel
theorem dL_law_974 : decode cL_law 974 = .ok (.aload_n 0, 1) := by decide +kernel
theorem dL_law_975 : decode cL_law 975 = .ok (.iload 4, 2) := by decide +kernel
theorem dL_law_977 : decode cL_law 977 = .ok (.iconst 1, 1) := by decide +kernel
theorem dL_law_978 : decode cL_law 978 = .ok (.iadd, 1) := by decide +kernel
theorem dL_law_979 : decode cL_law 979 = .ok (.iaload, 1) := by decide +kernel
theorem dL_law_980 : decode cL_law 980 = .ok (.aload_n 0, 1) := by decide +kernel
theorem dL_law_981 : decode cL_law 981 = .ok (.iload 4, 2) := by decide +kernel
theorem dL_law_983 : decode cL_law 983 = .ok (.iconst 2, 1) := by decide +kernel
theorem dL_law_984 : decode cL_law 984 = .ok (.iadd, 1) := by decide +kernel
theorem dL_law_985 : decode cL_law 985 = .ok (.iaload, 1) := by decide +kernel
theorem dL_law_986 : decode cL_law 986 = .ok (.aload_n 0, 1) := by decide +kernel
theorem dL_law_987 : decode cL_law 987 = .ok (.iload 4, 2) := by decide +kernel
theorem dL_law_989 : decode cL_law 989 = .ok (.iconst 3, 1) := by decide +kernel
theorem dL_law_990 : decode cL_law 990 = .ok (.iadd, 1) := by decide +kernel
theorem dL_law_991 : decode cL_law 991 = .ok (.iaload, 1) := by decide +kernel
theorem dL_law_992 : decode cL_law 992 = .ok (.aload_n 0, 1) := by decide +kernel
theorem dL_law_993 : decode cL_law 993 = .ok (.iload 4, 2) := by decide +kernel
theorem dL_law_995 : decode cL_law 995 = .ok (.iconst 4, 1) := by decide +kernel
theorem dL_law_996 : decode cL_law 996 = .ok (.iadd, 1) := by decide +kernel
theorem dL_law_997 : decode cL_law 997 = .ok (.iaload, 1) := by decide +kernel
theorem dL_law_998 : decode cL_law 998 = .ok (.invokevirtual 97, 3) := by decide +kernel
theorem dL_law_1001 : decode cL_law 1001 = .ok (.lcmp, 1) := by decide +kernel
theorem dL_law_1002 : decode cL_law 1002 = .ok (.ifCond .eq 815, 3) := by decide +kernel
theorem dL_law_1005 : decode cL_law 1005 = .ok (.iconst 0, 1) := by decide +kernel
theorem dL_law_1006 : decode cL_law 1006 = .ok (.ireturn, 1) := by decide +kernel
theorem dL_law_1007 : decode cL_law 1007 = .ok (.aload_n 1, 1) := by decide +kernel
theorem dL_law_1008 : decode cL_law 1008 = .ok (.aload_n 0, 1) := by decide +kernel
theorem dL_law_1009 : decode cL_law 1009 = .ok (.iload 4, 2) := by decide +kernel
theorem dL_law_1011 : decode cL_law 1011 = .ok (.iconst 1, 1) := by decide +kernel
theorem dL_law_1012 : decode cL_law 1012 = .ok (.iadd, 1) := by decide +kernel
theorem dL_law_1013 : decode cL_law 1013 = .ok (.iaload, 1) := by decide +kernel
theorem dL_law_1014 : decode cL_law 1014 = .ok (.aload_n 0, 1) := by decide +kernel
theorem dL_law_1015 : decode cL_law 1015 = .ok (.iload 4, 2) := by decide +kernel
theorem dL_law_1017 : decode cL_law 1017 = .ok (.iconst 2, 1) := by decide +kernel
theorem dL_law_1018 : decode cL_law 1018 = .ok (.iadd, 1) := by decide +kernel
theorem dL_law_1019 : decode cL_law 1019 = .ok (.iaload, 1) := by decide +kernel
theorem dL_law_1020 : decode cL_law 1020 = .ok (.invokevirtual 98, 3) := by decide +kernel
theorem dL_law_1023 : decode cL_law 1023 = .ok (.aload_n 2, 1) := by decide +kernel
theorem dL_law_1024 : decode cL_law 1024 = .ok (.aload_n 0, 1) := by decide +kernel
theorem dL_law_1025 : decode cL_law 1025 = .ok (.iload 4, 2) := by decide +kernel
theorem dL_law_1027 : decode cL_law 1027 = .ok (.iconst 1, 1) := by decide +kernel
theorem dL_law_1028 : decode cL_law 1028 = .ok (.iadd, 1) := by decide +kernel
theorem dL_law_1029 : decode cL_law 1029 = .ok (.iaload, 1) := by decide +kernel
theorem dL_law_1030 : decode cL_law 1030 = .ok (.aload_n 0, 1) := by decide +kernel
theorem dL_law_1031 : decode cL_law 1031 = .ok (.iload 4, 2) := by decide +kernel
theorem dL_law_1033 : decode cL_law 1033 = .ok (.iconst 2, 1) := by decide +kernel
theorem dL_law_1034 : decode cL_law 1034 = .ok (.iadd, 1) := by decide +kernel
theorem dL_law_1035 : decode cL_law 1035 = .ok (.iaload, 1) := by decide +kernel
theorem dL_law_1036 : decode cL_law 1036 = .ok (.invokevirtual 102, 3) := by decide +kernel
theorem dL_law_1039 : decode cL_law 1039 = .ok (.lcmp, 1) := by decide +kernel
theorem dL_law_1040 : decode cL_law 1040 = .ok (.ifCond .eq 777, 3) := by decide +kernel
theorem dL_law_1043 : decode cL_law 1043 = .ok (.iconst 0, 1) := by decide +kernel
theorem dL_law_1044 : decode cL_law 1044 = .ok (.ireturn, 1) := by decide +kernel
theorem dL_law_1045 : decode cL_law 1045 = .ok (.aload_n 1, 1) := by decide +kernel
theorem dL_law_1046 : decode cL_law 1046 = .ok (.aload_n 0, 1) := by decide +kernel
theorem dL_law_1047 : decode cL_law 1047 = .ok (.iload 4, 2) := by decide +kernel
theorem dL_law_1049 : decode cL_law 1049 = .ok (.iconst 1, 1) := by decide +kernel
theorem dL_law_1050 : decode cL_law 1050 = .ok (.iadd, 1) := by decide +kernel
theorem dL_law_1051 : decode cL_law 1051 = .ok (.iaload, 1) := by decide +kernel
theorem dL_law_1052 : decode cL_law 1052 = .ok (.aload_n 0, 1) := by decide +kernel
theorem dL_law_1053 : decode cL_law 1053 = .ok (.iload 4, 2) := by decide +kernel
theorem dL_law_1055 : decode cL_law 1055 = .ok (.iconst 2, 1) := by decide +kernel
theorem dL_law_1056 : decode cL_law 1056 = .ok (.iadd, 1) := by decide +kernel
theorem dL_law_1057 : decode cL_law 1057 = .ok (.iaload, 1) := by decide +kernel
theorem dL_law_1058 : decode cL_law 1058 = .ok (.invokevirtual 103, 3) := by decide +kernel
theorem dL_law_1061 : decode cL_law 1061 = .ok (.aload_n 2, 1) := by decide +kernel
theorem dL_law_1062 : decode cL_law 1062 = .ok (.aload_n 0, 1) := by decide +kernel
theorem dL_law_1063 : decode cL_law 1063 = .ok (.iload 4, 2) := by decide +kernel
theorem dL_law_1065 : decode cL_law 1065 = .ok (.iconst 1, 1) := by decide +kernel
theorem dL_law_1066 : decode cL_law 1066 = .ok (.iadd, 1) := by decide +kernel
theorem dL_law_1067 : decode cL_law 1067 = .ok (.iaload, 1) := by decide +kernel
theorem dL_law_1068 : decode cL_law 1068 = .ok (.aload_n 0, 1) := by decide +kernel
theorem dL_law_1069 : decode cL_law 1069 = .ok (.iload 4, 2) := by decide +kernel
theorem dL_law_1071 : decode cL_law 1071 = .ok (.iconst 2, 1) := by decide +kernel
theorem dL_law_1072 : decode cL_law 1072 = .ok (.iadd, 1) := by decide +kernel
theorem dL_law_1073 : decode cL_law 1073 = .ok (.iaload, 1) := by decide +kernel
theorem dL_law_1074 : decode cL_law 1074 = .ok (.invokevirtual 106, 3) := by decide +kernel
theorem dL_law_1077 : decode cL_law 1077 = .ok (.lcmp, 1) := by decide +kernel
theorem dL_law_1078 : decode cL_law 1078 = .ok (.ifCond .eq 739, 3) := by decide +kernel
theorem dL_law_1081 : decode cL_law 1081 = .ok (.iconst 0, 1) := by decide +kernel
theorem dL_law_1082 : decode cL_law 1082 = .ok (.ireturn, 1) := by decide +kernel
theorem dL_law_1083 : decode cL_law 1083 = .ok (.aload_n 1, 1) := by decide +kernel
theorem dL_law_1084 : decode cL_law 1084 = .ok (.aload_n 0, 1) := by decide +kernel
theorem dL_law_1085 : decode cL_law 1085 = .ok (.iload 4, 2) := by decide +kernel
theorem dL_law_1087 : decode cL_law 1087 = .ok (.iconst 1, 1) := by decide +kernel
theorem dL_law_1088 : decode cL_law 1088 = .ok (.iadd, 1) := by decide +kernel
theorem dL_law_1089 : decode cL_law 1089 = .ok (.iaload, 1) := by decide +kernel
theorem dL_law_1090 : decode cL_law 1090 = .ok (.aload_n 0, 1) := by decide +kernel
theorem dL_law_1091 : decode cL_law 1091 = .ok (.iload 4, 2) := by decide +kernel
theorem dL_law_1093 : decode cL_law 1093 = .ok (.iconst 2, 1) := by decide +kernel
theorem dL_law_1094 : decode cL_law 1094 = .ok (.iadd, 1) := by decide +kernel
theorem dL_law_1095 : decode cL_law 1095 = .ok (.iaload, 1) := by decide +kernel
theorem dL_law_1096 : decode cL_law 1096 = .ok (.invokevirtual 107, 3) := by decide +kernel
theorem dL_law_1099 : decode cL_law 1099 = .ok (.aload_n 2, 1) := by decide +kernel
theorem dL_law_1100 : decode cL_law 1100 = .ok (.aload_n 0, 1) := by decide +kernel
theorem dL_law_1101 : decode cL_law 1101 = .ok (.iload 4, 2) := by decide +kernel
theorem dL_law_1103 : decode cL_law 1103 = .ok (.iconst 1, 1) := by decide +kernel
theorem dL_law_1104 : decode cL_law 1104 = .ok (.iadd, 1) := by decide +kernel
theorem dL_law_1105 : decode cL_law 1105 = .ok (.iaload, 1) := by decide +kernel
theorem dL_law_1106 : decode cL_law 1106 = .ok (.aload_n 0, 1) := by decide +kernel
theorem dL_law_1107 : decode cL_law 1107 = .ok (.iload 4, 2) := by decide +kernel
theorem dL_law_1109 : decode cL_law 1109 = .ok (.iconst 2, 1) := by decide +kernel
theorem dL_law_1110 : decode cL_law 1110 = .ok (.iadd, 1) := by decide +kernel
theorem dL_law_1111 : decode cL_law 1111 = .ok (.iaload, 1) := by decide +kernel
theorem dL_law_1112 : decode cL_law 1112 = .ok (.invokevirtual 110, 3) := by decide +kernel
theorem dL_law_1115 : decode cL_law 1115 = .ok (.if_icmp .eq 702, 3) := by decide +kernel
theorem dL_law_1118 : decode cL_law 1118 = .ok (.iconst 0, 1) := by decide +kernel
theorem dL_law_1119 : decode cL_law 1119 = .ok (.ireturn, 1) := by decide +kernel
theorem dL_law_1120 : decode cL_law 1120 = .ok (.aload_n 1, 1) := by decide +kernel
theorem dL_law_1121 : decode cL_law 1121 = .ok (.aload_n 0, 1) := by decide +kernel
theorem dL_law_1122 : decode cL_law 1122 = .ok (.iload 4, 2) := by decide +kernel
theorem dL_law_1124 : decode cL_law 1124 = .ok (.iconst 1, 1) := by decide +kernel
theorem dL_law_1125 : decode cL_law 1125 = .ok (.iadd, 1) := by decide +kernel
theorem dL_law_1126 : decode cL_law 1126 = .ok (.iaload, 1) := by decide +kernel
theorem dL_law_1127 : decode cL_law 1127 = .ok (.aload_n 0, 1) := by decide +kernel
theorem dL_law_1128 : decode cL_law 1128 = .ok (.iload 4, 2) := by decide +kernel
theorem dL_law_1130 : decode cL_law 1130 = .ok (.iconst 2, 1) := by decide +kernel
theorem dL_law_1131 : decode cL_law 1131 = .ok (.iadd, 1) := by decide +kernel
theorem dL_law_1132 : decode cL_law 1132 = .ok (.iaload, 1) := by decide +kernel
theorem dL_law_1133 : decode cL_law 1133 = .ok (.aload_n 0, 1) := by decide +kernel
theorem dL_law_1134 : decode cL_law 1134 = .ok (.iload 4, 2) := by decide +kernel
theorem dL_law_1136 : decode cL_law 1136 = .ok (.iconst 3, 1) := by decide +kernel
theorem dL_law_1137 : decode cL_law 1137 = .ok (.iadd, 1) := by decide +kernel
theorem dL_law_1138 : decode cL_law 1138 = .ok (.iaload, 1) := by decide +kernel
theorem dL_law_1139 : decode cL_law 1139 = .ok (.invokevirtual 111, 3) := by decide +kernel
theorem dL_law_1142 : decode cL_law 1142 = .ok (.aload_n 2, 1) := by decide +kernel
theorem dL_law_1143 : decode cL_law 1143 = .ok (.aload_n 0, 1) := by decide +kernel
theorem dL_law_1144 : decode cL_law 1144 = .ok (.iload 4, 2) := by decide +kernel
theorem dL_law_1146 : decode cL_law 1146 = .ok (.iconst 1, 1) := by decide +kernel
theorem dL_law_1147 : decode cL_law 1147 = .ok (.iadd, 1) := by decide +kernel
theorem dL_law_1148 : decode cL_law 1148 = .ok (.iaload, 1) := by decide +kernel
theorem dL_law_1149 : decode cL_law 1149 = .ok (.aload_n 0, 1) := by decide +kernel
theorem dL_law_1150 : decode cL_law 1150 = .ok (.iload 4, 2) := by decide +kernel
theorem dL_law_1152 : decode cL_law 1152 = .ok (.iconst 2, 1) := by decide +kernel
theorem dL_law_1153 : decode cL_law 1153 = .ok (.iadd, 1) := by decide +kernel
theorem dL_law_1154 : decode cL_law 1154 = .ok (.iaload, 1) := by decide +kernel
theorem dL_law_1155 : decode cL_law 1155 = .ok (.aload_n 0, 1) := by decide +kernel
theorem dL_law_1156 : decode cL_law 1156 = .ok (.iload 4, 2) := by decide +kernel
theorem dL_law_1158 : decode cL_law 1158 = .ok (.iconst 3, 1) := by decide +kernel
theorem dL_law_1159 : decode cL_law 1159 = .ok (.iadd, 1) := by decide +kernel
theorem dL_law_1160 : decode cL_law 1160 = .ok (.iaload, 1) := by decide +kernel
theorem dL_law_1161 : decode cL_law 1161 = .ok (.invokevirtual 114, 3) := by decide +kernel
theorem dL_law_1164 : decode cL_law 1164 = .ok (.if_icmp .eq 653, 3) := by decide +kernel
theorem dL_law_1167 : decode cL_law 1167 = .ok (.iconst 0, 1) := by decide +kernel
theorem dL_law_1168 : decode cL_law 1168 = .ok (.ireturn, 1) := by decide +kernel
theorem dL_law_1169 : decode cL_law 1169 = .ok (.aload_n 1, 1) := by decide +kernel
theorem dL_law_1170 : decode cL_law 1170 = .ok (.aload_n 0, 1) := by decide +kernel
theorem dL_law_1171 : decode cL_law 1171 = .ok (.iload 4, 2) := by decide +kernel
theorem dL_law_1173 : decode cL_law 1173 = .ok (.iconst 1, 1) := by decide +kernel
theorem dL_law_1174 : decode cL_law 1174 = .ok (.iadd, 1) := by decide +kernel
theorem dL_law_1175 : decode cL_law 1175 = .ok (.iaload, 1) := by decide +kernel
theorem dL_law_1176 : decode cL_law 1176 = .ok (.aload_n 0, 1) := by decide +kernel
theorem dL_law_1177 : decode cL_law 1177 = .ok (.iload 4, 2) := by decide +kernel
theorem dL_law_1179 : decode cL_law 1179 = .ok (.iconst 2, 1) := by decide +kernel
theorem dL_law_1180 : decode cL_law 1180 = .ok (.iadd, 1) := by decide +kernel
theorem dL_law_1181 : decode cL_law 1181 = .ok (.iaload, 1) := by decide +kernel
theorem dL_law_1182 : decode cL_law 1182 = .ok (.invokevirtual 115, 3) := by decide +kernel
theorem dL_law_1185 : decode cL_law 1185 = .ok (.aload_n 2, 1) := by decide +kernel
theorem dL_law_1186 : decode cL_law 1186 = .ok (.aload_n 0, 1) := by decide +kernel
theorem dL_law_1187 : decode cL_law 1187 = .ok (.iload 4, 2) := by decide +kernel
theorem dL_law_1189 : decode cL_law 1189 = .ok (.iconst 1, 1) := by decide +kernel
theorem dL_law_1190 : decode cL_law 1190 = .ok (.iadd, 1) := by decide +kernel
theorem dL_law_1191 : decode cL_law 1191 = .ok (.iaload, 1) := by decide +kernel
theorem dL_law_1192 : decode cL_law 1192 = .ok (.aload_n 0, 1) := by decide +kernel
theorem dL_law_1193 : decode cL_law 1193 = .ok (.iload 4, 2) := by decide +kernel
theorem dL_law_1195 : decode cL_law 1195 = .ok (.iconst 2, 1) := by decide +kernel
theorem dL_law_1196 : decode cL_law 1196 = .ok (.iadd, 1) := by decide +kernel
theorem dL_law_1197 : decode cL_law 1197 = .ok (.iaload, 1) := by decide +kernel
theorem dL_law_1198 : decode cL_law 1198 = .ok (.invokevirtual 118, 3) := by decide +kernel
theorem dL_law_1201 : decode cL_law 1201 = .ok (.if_icmp .eq 616, 3) := by decide +kernel
theorem dL_law_1204 : decode cL_law 1204 = .ok (.iconst 0, 1) := by decide +kernel
theorem dL_law_1205 : decode cL_law 1205 = .ok (.ireturn, 1) := by decide +kernel
theorem dL_law_1206 : decode cL_law 1206 = .ok (.aload_n 1, 1) := by decide +kernel
theorem dL_law_1207 : decode cL_law 1207 = .ok (.aload_n 0, 1) := by decide +kernel
theorem dL_law_1208 : decode cL_law 1208 = .ok (.iload 4, 2) := by decide +kernel
theorem dL_law_1210 : decode cL_law 1210 = .ok (.iconst 1, 1) := by decide +kernel
theorem dL_law_1211 : decode cL_law 1211 = .ok (.iadd, 1) := by decide +kernel
theorem dL_law_1212 : decode cL_law 1212 = .ok (.iaload, 1) := by decide +kernel
theorem dL_law_1213 : decode cL_law 1213 = .ok (.aload_n 0, 1) := by decide +kernel
theorem dL_law_1214 : decode cL_law 1214 = .ok (.iload 4, 2) := by decide +kernel
theorem dL_law_1216 : decode cL_law 1216 = .ok (.iconst 2, 1) := by decide +kernel
theorem dL_law_1217 : decode cL_law 1217 = .ok (.iadd, 1) := by decide +kernel
theorem dL_law_1218 : decode cL_law 1218 = .ok (.iaload, 1) := by decide +kernel
theorem dL_law_1219 : decode cL_law 1219 = .ok (.aload_n 0, 1) := by decide +kernel
theorem dL_law_1220 : decode cL_law 1220 = .ok (.iload 4, 2) := by decide +kernel
theorem dL_law_1222 : decode cL_law 1222 = .ok (.iconst 3, 1) := by decide +kernel
theorem dL_law_1223 : decode cL_law 1223 = .ok (.iadd, 1) := by decide +kernel
theorem dL_law_1224 : decode cL_law 1224 = .ok (.iaload, 1) := by decide +kernel
theorem dL_law_1225 : decode cL_law 1225 = .ok (.invokevirtual 119, 3) := by decide +kernel
theorem dL_law_1228 : decode cL_law 1228 = .ok (.aload_n 2, 1) := by decide +kernel
theorem dL_law_1229 : decode cL_law 1229 = .ok (.aload_n 0, 1) := by decide +kernel
theorem dL_law_1230 : decode cL_law 1230 = .ok (.iload 4, 2) := by decide +kernel
theorem dL_law_1232 : decode cL_law 1232 = .ok (.iconst 1, 1) := by decide +kernel
theorem dL_law_1233 : decode cL_law 1233 = .ok (.iadd, 1) := by decide +kernel
theorem dL_law_1234 : decode cL_law 1234 = .ok (.iaload, 1) := by decide +kernel
theorem dL_law_1235 : decode cL_law 1235 = .ok (.aload_n 0, 1) := by decide +kernel
theorem dL_law_1236 : decode cL_law 1236 = .ok (.iload 4, 2) := by decide +kernel
theorem dL_law_1238 : decode cL_law 1238 = .ok (.iconst 2, 1) := by decide +kernel
theorem dL_law_1239 : decode cL_law 1239 = .ok (.iadd, 1) := by decide +kernel
theorem dL_law_1240 : decode cL_law 1240 = .ok (.iaload, 1) := by decide +kernel
theorem dL_law_1241 : decode cL_law 1241 = .ok (.aload_n 0, 1) := by decide +kernel
theorem dL_law_1242 : decode cL_law 1242 = .ok (.iload 4, 2) := by decide +kernel
theorem dL_law_1244 : decode cL_law 1244 = .ok (.iconst 3, 1) := by decide +kernel
theorem dL_law_1245 : decode cL_law 1245 = .ok (.iadd, 1) := by decide +kernel
theorem dL_law_1246 : decode cL_law 1246 = .ok (.iaload, 1) := by decide +kernel
theorem dL_law_1247 : decode cL_law 1247 = .ok (.invokevirtual 123, 3) := by decide +kernel
theorem dL_law_1250 : decode cL_law 1250 = .ok (.lcmp, 1) := by decide +kernel
theorem dL_law_1251 : decode cL_law 1251 = .ok (.ifCond .eq 566, 3) := by decide +kernel
theorem dL_law_1254 : decode cL_law 1254 = .ok (.iconst 0, 1) := by decide +kernel
theorem dL_law_1255 : decode cL_law 1255 = .ok (.ireturn, 1) := by decide +kernel
theorem dL_law_1256 : decode cL_law 1256 = .ok (.aload_n 1, 1) := by decide +kernel
theorem dL_law_1257 : decode cL_law 1257 = .ok (.aload_n 0, 1) := by decide +kernel
theorem dL_law_1258 : decode cL_law 1258 = .ok (.iload 4, 2) := by decide +kernel
theorem dL_law_1260 : decode cL_law 1260 = .ok (.iconst 1, 1) := by decide +kernel
theorem dL_law_1261 : decode cL_law 1261 = .ok (.iadd, 1) := by decide +kernel
theorem dL_law_1262 : decode cL_law 1262 = .ok (.iaload, 1) := by decide +kernel
theorem dL_law_1263 : decode cL_law 1263 = .ok (.aload_n 0, 1) := by decide +kernel
theorem dL_law_1264 : decode cL_law 1264 = .ok (.iload 4, 2) := by decide +kernel
theorem dL_law_1266 : decode cL_law 1266 = .ok (.iconst 2, 1) := by decide +kernel
theorem dL_law_1267 : decode cL_law 1267 = .ok (.iadd, 1) := by decide +kernel
theorem dL_law_1268 : decode cL_law 1268 = .ok (.iaload, 1) := by decide +kernel
theorem dL_law_1269 : decode cL_law 1269 = .ok (.aload_n 0, 1) := by decide +kernel
theorem dL_law_1270 : decode cL_law 1270 = .ok (.iload 4, 2) := by decide +kernel
theorem dL_law_1272 : decode cL_law 1272 = .ok (.iconst 3, 1) := by decide +kernel
theorem dL_law_1273 : decode cL_law 1273 = .ok (.iadd, 1) := by decide +kernel
theorem dL_law_1274 : decode cL_law 1274 = .ok (.iaload, 1) := by decide +kernel
theorem dL_law_1275 : decode cL_law 1275 = .ok (.invokevirtual 124, 3) := by decide +kernel
theorem dL_law_1278 : decode cL_law 1278 = .ok (.aload_n 2, 1) := by decide +kernel
theorem dL_law_1279 : decode cL_law 1279 = .ok (.aload_n 0, 1) := by decide +kernel
theorem dL_law_1280 : decode cL_law 1280 = .ok (.iload 4, 2) := by decide +kernel
theorem dL_law_1282 : decode cL_law 1282 = .ok (.iconst 1, 1) := by decide +kernel
theorem dL_law_1283 : decode cL_law 1283 = .ok (.iadd, 1) := by decide +kernel
theorem dL_law_1284 : decode cL_law 1284 = .ok (.iaload, 1) := by decide +kernel
theorem dL_law_1285 : decode cL_law 1285 = .ok (.aload_n 0, 1) := by decide +kernel
theorem dL_law_1286 : decode cL_law 1286 = .ok (.iload 4, 2) := by decide +kernel
theorem dL_law_1288 : decode cL_law 1288 = .ok (.iconst 2, 1) := by decide +kernel
theorem dL_law_1289 : decode cL_law 1289 = .ok (.iadd, 1) := by decide +kernel
theorem dL_law_1290 : decode cL_law 1290 = .ok (.iaload, 1) := by decide +kernel
theorem dL_law_1291 : decode cL_law 1291 = .ok (.aload_n 0, 1) := by decide +kernel
theorem dL_law_1292 : decode cL_law 1292 = .ok (.iload 4, 2) := by decide +kernel
theorem dL_law_1294 : decode cL_law 1294 = .ok (.iconst 3, 1) := by decide +kernel
theorem dL_law_1295 : decode cL_law 1295 = .ok (.iadd, 1) := by decide +kernel
theorem dL_law_1296 : decode cL_law 1296 = .ok (.iaload, 1) := by decide +kernel
theorem dL_law_1297 : decode cL_law 1297 = .ok (.invokevirtual 127, 3) := by decide +kernel
theorem dL_law_1300 : decode cL_law 1300 = .ok (.lcmp, 1) := by decide +kernel
theorem dL_law_1301 : decode cL_law 1301 = .ok (.ifCond .eq 516, 3) := by decide +kernel
theorem dL_law_1304 : decode cL_law 1304 = .ok (.iconst 0, 1) := by decide +kernel
theorem dL_law_1305 : decode cL_law 1305 = .ok (.ireturn, 1) := by decide +kernel
theorem dL_law_1306 : decode cL_law 1306 = .ok (.aload_n 1, 1) := by decide +kernel
theorem dL_law_1307 : decode cL_law 1307 = .ok (.aload_n 0, 1) := by decide +kernel
theorem dL_law_1308 : decode cL_law 1308 = .ok (.iload 4, 2) := by decide +kernel
theorem dL_law_1310 : decode cL_law 1310 = .ok (.iconst 1, 1) := by decide +kernel
theorem dL_law_1311 : decode cL_law 1311 = .ok (.iadd, 1) := by decide +kernel
theorem dL_law_1312 : decode cL_law 1312 = .ok (.iaload, 1) := by decide +kernel
theorem dL_law_1313 : decode cL_law 1313 = .ok (.aload_n 0, 1) := by decide +kernel
theorem dL_law_1314 : decode cL_law 1314 = .ok (.iload 4, 2) := by decide +kernel
theorem dL_law_1316 : decode cL_law 1316 = .ok (.iconst 2, 1) := by decide +kernel
theorem dL_law_1317 : decode cL_law 1317 = .ok (.iadd, 1) := by decide +kernel
theorem dL_law_1318 : decode cL_law 1318 = .ok (.iaload, 1) := by decide +kernel
theorem dL_law_1319 : decode cL_law 1319 = .ok (.invokevirtual 128, 3) := by decide +kernel
theorem dL_law_1322 : decode cL_law 1322 = .ok (.aload_n 2, 1) := by decide +kernel
theorem dL_law_1323 : decode cL_law 1323 = .ok (.aload_n 0, 1) := by decide +kernel
theorem dL_law_1324 : decode cL_law 1324 = .ok (.iload 4, 2) := by decide +kernel
theorem dL_law_1326 : decode cL_law 1326 = .ok (.iconst 1, 1) := by decide +kernel
theorem dL_law_1327 : decode cL_law 1327 = .ok (.iadd, 1) := by decide +kernel
theorem dL_law_1328 : decode cL_law 1328 = .ok (.iaload, 1) := by decide +kernel
theorem dL_law_1329 : decode cL_law 1329 = .ok (.aload_n 0, 1) := by decide +kernel
theorem dL_law_1330 : decode cL_law 1330 = .ok (.iload 4, 2) := by decide +kernel
theorem dL_law_1332 : decode cL_law 1332 = .ok (.iconst 2, 1) := by decide +kernel
theorem dL_law_1333 : decode cL_law 1333 = .ok (.iadd, 1) := by decide +kernel
theorem dL_law_1334 : decode cL_law 1334 = .ok (.iaload, 1) := by decide +kernel
theorem dL_law_1335 : decode cL_law 1335 = .ok (.invokevirtual 131, 3) := by decide +kernel
theorem dL_law_1338 : decode cL_law 1338 = .ok (.lcmp, 1) := by decide +kernel
theorem dL_law_1339 : decode cL_law 1339 = .ok (.ifCond .eq 478, 3) := by decide +kernel
theorem dL_law_1342 : decode cL_law 1342 = .ok (.iconst 0, 1) := by decide +kernel
theorem dL_law_1343 : decode cL_law 1343 = .ok (.ireturn, 1) := by decide +kernel
theorem dL_law_1344 : decode cL_law 1344 = .ok (.aload_n 1, 1) := by decide +kernel
theorem dL_law_1345 : decode cL_law 1345 = .ok (.aload_n 0, 1) := by decide +kernel
theorem dL_law_1346 : decode cL_law 1346 = .ok (.iload 4, 2) := by decide +kernel
theorem dL_law_1348 : decode cL_law 1348 = .ok (.iconst 1, 1) := by decide +kernel
theorem dL_law_1349 : decode cL_law 1349 = .ok (.iadd, 1) := by decide +kernel
theorem dL_law_1350 : decode cL_law 1350 = .ok (.iaload, 1) := by decide +kernel
theorem dL_law_1351 : decode cL_law 1351 = .ok (.aload_n 0, 1) := by decide +kernel
theorem dL_law_1352 : decode cL_law 1352 = .ok (.iload 4, 2) := by decide +kernel
theorem dL_law_1354 : decode cL_law 1354 = .ok (.iconst 2, 1) := by decide +kernel
theorem dL_law_1355 : decode cL_law 1355 = .ok (.iadd, 1) := by decide +kernel
theorem dL_law_1356 : decode cL_law 1356 = .ok (.iaload, 1) := by decide +kernel
theorem dL_law_1357 : decode cL_law 1357 = .ok (.aload_n 0, 1) := by decide +kernel
theorem dL_law_1358 : decode cL_law 1358 = .ok (.iload 4, 2) := by decide +kernel
theorem dL_law_1360 : decode cL_law 1360 = .ok (.iconst 3, 1) := by decide +kernel
theorem dL_law_1361 : decode cL_law 1361 = .ok (.iadd, 1) := by decide +kernel
theorem dL_law_1362 : decode cL_law 1362 = .ok (.iaload, 1) := by decide +kernel
theorem dL_law_1363 : decode cL_law 1363 = .ok (.ifCond .eq 7, 3) := by decide +kernel
theorem dL_law_1366 : decode cL_law 1366 = .ok (.iconst 1, 1) := by decide +kernel
theorem dL_law_1367 : decode cL_law 1367 = .ok (.goto 4, 3) := by decide +kernel
theorem dL_law_1370 : decode cL_law 1370 = .ok (.iconst 0, 1) := by decide +kernel
theorem dL_law_1371 : decode cL_law 1371 = .ok (.aload_n 0, 1) := by decide +kernel
theorem dL_law_1372 : decode cL_law 1372 = .ok (.iload 4, 2) := by decide +kernel
theorem dL_law_1374 : decode cL_law 1374 = .ok (.iconst 4, 1) := by decide +kernel
theorem dL_law_1375 : decode cL_law 1375 = .ok (.iadd, 1) := by decide +kernel
theorem dL_law_1376 : decode cL_law 1376 = .ok (.iaload, 1) := by decide +kernel
theorem dL_law_1377 : decode cL_law 1377 = .ok (.invokevirtual 132, 3) := by decide +kernel
theorem dL_law_1380 : decode cL_law 1380 = .ok (.aload_n 2, 1) := by decide +kernel
theorem dL_law_1381 : decode cL_law 1381 = .ok (.aload_n 0, 1) := by decide +kernel
theorem dL_law_1382 : decode cL_law 1382 = .ok (.iload 4, 2) := by decide +kernel
theorem dL_law_1384 : decode cL_law 1384 = .ok (.iconst 1, 1) := by decide +kernel
theorem dL_law_1385 : decode cL_law 1385 = .ok (.iadd, 1) := by decide +kernel
theorem dL_law_1386 : decode cL_law 1386 = .ok (.iaload, 1) := by decide +kernel
theorem dL_law_1387 : decode cL_law 1387 = .ok (.aload_n 0, 1) := by decide +kernel
theorem dL_law_1388 : decode cL_law 1388 = .ok (.iload 4, 2) := by decide +kernel
theorem dL_law_1390 : decode cL_law 1390 = .ok (.iconst 2, 1) := by decide +kernel
theorem dL_law_1391 : decode cL_law 1391 = .ok (.iadd, 1) := by decide +kernel
theorem dL_law_1392 : decode cL_law 1392 = .ok (.iaload, 1) := by decide +kernel
theorem dL_law_1393 : decode cL_law 1393 = .ok (.aload_n 0, 1) := by decide +kernel
theorem dL_law_1394 : decode cL_law 1394 = .ok (.iload 4, 2) := by decide +kernel
theorem dL_law_1396 : decode cL_law 1396 = .ok (.iconst 3, 1) := by decide +kernel
theorem dL_law_1397 : decode cL_law 1397 = .ok (.iadd, 1) := by decide +kernel
theorem dL_law_1398 : decode cL_law 1398 = .ok (.iaload, 1) := by decide +kernel
theorem dL_law_1399 : decode cL_law 1399 = .ok (.ifCond .eq 7, 3) := by decide +kernel
theorem dL_law_1402 : decode cL_law 1402 = .ok (.iconst 1, 1) := by decide +kernel
theorem dL_law_1403 : decode cL_law 1403 = .ok (.goto 4, 3) := by decide +kernel
theorem dL_law_1406 : decode cL_law 1406 = .ok (.iconst 0, 1) := by decide +kernel
theorem dL_law_1407 : decode cL_law 1407 = .ok (.aload_n 0, 1) := by decide +kernel
theorem dL_law_1408 : decode cL_law 1408 = .ok (.iload 4, 2) := by decide +kernel
theorem dL_law_1410 : decode cL_law 1410 = .ok (.iconst 4, 1) := by decide +kernel
theorem dL_law_1411 : decode cL_law 1411 = .ok (.iadd, 1) := by decide +kernel
theorem dL_law_1412 : decode cL_law 1412 = .ok (.iaload, 1) := by decide +kernel
theorem dL_law_1413 : decode cL_law 1413 = .ok (.invokevirtual 136, 3) := by decide +kernel
theorem dL_law_1416 : decode cL_law 1416 = .ok (.if_icmp .eq 401, 3) := by decide +kernel
theorem dL_law_1419 : decode cL_law 1419 = .ok (.iconst 0, 1) := by decide +kernel
theorem dL_law_1420 : decode cL_law 1420 = .ok (.ireturn, 1) := by decide +kernel
theorem dL_law_1421 : decode cL_law 1421 = .ok (.aload_n 1, 1) := by decide +kernel
theorem dL_law_1422 : decode cL_law 1422 = .ok (.aload_n 0, 1) := by decide +kernel
theorem dL_law_1423 : decode cL_law 1423 = .ok (.iload 4, 2) := by decide +kernel
theorem dL_law_1425 : decode cL_law 1425 = .ok (.iconst 1, 1) := by decide +kernel
theorem dL_law_1426 : decode cL_law 1426 = .ok (.iadd, 1) := by decide +kernel
theorem dL_law_1427 : decode cL_law 1427 = .ok (.iaload, 1) := by decide +kernel
theorem dL_law_1428 : decode cL_law 1428 = .ok (.invokevirtual 137, 3) := by decide +kernel
theorem dL_law_1431 : decode cL_law 1431 = .ok (.aload_n 2, 1) := by decide +kernel
theorem dL_law_1432 : decode cL_law 1432 = .ok (.aload_n 0, 1) := by decide +kernel
theorem dL_law_1433 : decode cL_law 1433 = .ok (.iload 4, 2) := by decide +kernel
theorem dL_law_1435 : decode cL_law 1435 = .ok (.iconst 1, 1) := by decide +kernel
theorem dL_law_1436 : decode cL_law 1436 = .ok (.iadd, 1) := by decide +kernel
theorem dL_law_1437 : decode cL_law 1437 = .ok (.iaload, 1) := by decide +kernel
theorem dL_law_1438 : decode cL_law 1438 = .ok (.invokevirtual 140, 3) := by decide +kernel
theorem dL_law_1441 : decode cL_law 1441 = .ok (.if_icmp .eq 376, 3) := by decide +kernel
theorem dL_law_1444 : decode cL_law 1444 = .ok (.iconst 0, 1) := by decide +kernel
theorem dL_law_1445 : decode cL_law 1445 = .ok (.ireturn, 1) := by decide +kernel
theorem dL_law_1446 : decode cL_law 1446 = .ok (.aload_n 1, 1) := by decide +kernel
theorem dL_law_1447 : decode cL_law 1447 = .ok (.aload_n 0, 1) := by decide +kernel
theorem dL_law_1448 : decode cL_law 1448 = .ok (.iload 4, 2) := by decide +kernel
theorem dL_law_1450 : decode cL_law 1450 = .ok (.iconst 1, 1) := by decide +kernel
theorem dL_law_1451 : decode cL_law 1451 = .ok (.iadd, 1) := by decide +kernel
theorem dL_law_1452 : decode cL_law 1452 = .ok (.iaload, 1) := by decide +kernel
theorem dL_law_1453 : decode cL_law 1453 = .ok (.aload_n 0, 1) := by decide +kernel
theorem dL_law_1454 : decode cL_law 1454 = .ok (.iload 4, 2) := by decide +kernel
theorem dL_law_1456 : decode cL_law 1456 = .ok (.iconst 2, 1) := by decide +kernel
theorem dL_law_1457 : decode cL_law 1457 = .ok (.iadd, 1) := by decide +kernel
theorem dL_law_1458 : decode cL_law 1458 = .ok (.iaload, 1) := by decide +kernel
theorem dL_law_1459 : decode cL_law 1459 = .ok (.aload_n 0, 1) := by decide +kernel
theorem dL_law_1460 : decode cL_law 1460 = .ok (.iload 4, 2) := by decide +kernel
theorem dL_law_1462 : decode cL_law 1462 = .ok (.iconst 3, 1) := by decide +kernel
theorem dL_law_1463 : decode cL_law 1463 = .ok (.iadd, 1) := by decide +kernel
theorem dL_law_1464 : decode cL_law 1464 = .ok (.iaload, 1) := by decide +kernel
theorem dL_law_1465 : decode cL_law 1465 = .ok (.ifCond .eq 7, 3) := by decide +kernel
theorem dL_law_1468 : decode cL_law 1468 = .ok (.iconst 1, 1) := by decide +kernel
theorem dL_law_1469 : decode cL_law 1469 = .ok (.goto 4, 3) := by decide +kernel
theorem dL_law_1472 : decode cL_law 1472 = .ok (.iconst 0, 1) := by decide +kernel
theorem dL_law_1473 : decode cL_law 1473 = .ok (.invokevirtual 141, 3) := by decide +kernel
theorem dL_law_1476 : decode cL_law 1476 = .ok (.aload_n 2, 1) := by decide +kernel
theorem dL_law_1477 : decode cL_law 1477 = .ok (.aload_n 0, 1) := by decide +kernel
theorem dL_law_1478 : decode cL_law 1478 = .ok (.iload 4, 2) := by decide +kernel
theorem dL_law_1480 : decode cL_law 1480 = .ok (.iconst 1, 1) := by decide +kernel
theorem dL_law_1481 : decode cL_law 1481 = .ok (.iadd, 1) := by decide +kernel
theorem dL_law_1482 : decode cL_law 1482 = .ok (.iaload, 1) := by decide +kernel
theorem dL_law_1483 : decode cL_law 1483 = .ok (.aload_n 0, 1) := by decide +kernel
theorem dL_law_1484 : decode cL_law 1484 = .ok (.iload 4, 2) := by decide +kernel
theorem dL_law_1486 : decode cL_law 1486 = .ok (.iconst 2, 1) := by decide +kernel
theorem dL_law_1487 : decode cL_law 1487 = .ok (.iadd, 1) := by decide +kernel
theorem dL_law_1488 : decode cL_law 1488 = .ok (.iaload, 1) := by decide +kernel
theorem dL_law_1489 : decode cL_law 1489 = .ok (.aload_n 0, 1) := by decide +kernel
theorem dL_law_1490 : decode cL_law 1490 = .ok (.iload 4, 2) := by decide +kernel
theorem dL_law_1492 : decode cL_law 1492 = .ok (.iconst 3, 1) := by decide +kernel
theorem dL_law_1493 : decode cL_law 1493 = .ok (.iadd, 1) := by decide +kernel
theorem dL_law_1494 : decode cL_law 1494 = .ok (.iaload, 1) := by decide +kernel
theorem dL_law_1495 : decode cL_law 1495 = .ok (.ifCond .eq 7, 3) := by decide +kernel
theorem dL_law_1498 : decode cL_law 1498 = .ok (.iconst 1, 1) := by decide +kernel
theorem dL_law_1499 : decode cL_law 1499 = .ok (.goto 4, 3) := by decide +kernel
theorem dL_law_1502 : decode cL_law 1502 = .ok (.iconst 0, 1) := by decide +kernel
theorem dL_law_1503 : decode cL_law 1503 = .ok (.invokevirtual 145, 3) := by decide +kernel
theorem dL_law_1506 : decode cL_law 1506 = .ok (.if_icmp .eq 311, 3) := by decide +kernel
theorem dL_law_1509 : decode cL_law 1509 = .ok (.iconst 0, 1) := by decide +kernel
theorem dL_law_1510 : decode cL_law 1510 = .ok (.ireturn, 1) := by decide +kernel
theorem dL_law_1511 : decode cL_law 1511 = .ok (.aload_n 1, 1) := by decide +kernel
theorem dL_law_1512 : decode cL_law 1512 = .ok (.invokevirtual 146, 3) := by decide +kernel
theorem dL_law_1515 : decode cL_law 1515 = .ok (.aload_n 2, 1) := by decide +kernel
theorem dL_law_1516 : decode cL_law 1516 = .ok (.invokevirtual 149, 3) := by decide +kernel
theorem dL_law_1519 : decode cL_law 1519 = .ok (.if_icmp .eq 298, 3) := by decide +kernel
theorem dL_law_1522 : decode cL_law 1522 = .ok (.iconst 0, 1) := by decide +kernel
theorem dL_law_1523 : decode cL_law 1523 = .ok (.ireturn, 1) := by decide +kernel
theorem dL_law_1524 : decode cL_law 1524 = .ok (.aload_n 1, 1) := by decide +kernel
theorem dL_law_1525 : decode cL_law 1525 = .ok (.invokevirtual 150, 3) := by decide +kernel
theorem dL_law_1528 : decode cL_law 1528 = .ok (.aload_n 2, 1) := by decide +kernel
theorem dL_law_1529 : decode cL_law 1529 = .ok (.invokevirtual 153, 3) := by decide +kernel
theorem dL_law_1532 : decode cL_law 1532 = .ok (.if_icmp .eq 285, 3) := by decide +kernel
theorem dL_law_1535 : decode cL_law 1535 = .ok (.iconst 0, 1) := by decide +kernel
theorem dL_law_1536 : decode cL_law 1536 = .ok (.ireturn, 1) := by decide +kernel
theorem dL_law_1537 : decode cL_law 1537 = .ok (.aload_n 1, 1) := by decide +kernel
theorem dL_law_1538 : decode cL_law 1538 = .ok (.aload_n 0, 1) := by decide +kernel
theorem dL_law_1539 : decode cL_law 1539 = .ok (.iload 4, 2) := by decide +kernel
theorem dL_law_1541 : decode cL_law 1541 = .ok (.iconst 1, 1) := by decide +kernel
theorem dL_law_1542 : decode cL_law 1542 = .ok (.iadd, 1) := by decide +kernel
theorem dL_law_1543 : decode cL_law 1543 = .ok (.iaload, 1) := by decide +kernel
theorem dL_law_1544 : decode cL_law 1544 = .ok (.aload_n 0, 1) := by decide +kernel
theorem dL_law_1545 : decode cL_law 1545 = .ok (.iload 4, 2) := by decide +kernel
theorem dL_law_1547 : decode cL_law 1547 = .ok (.iconst 2, 1) := by decide +kernel
theorem dL_law_1548 : decode cL_law 1548 = .ok (.iadd, 1) := by decide +kernel
theorem dL_law_1549 : decode cL_law 1549 = .ok (.iaload, 1) := by decide +kernel
theorem dL_law_1550 : decode cL_law 1550 = .ok (.invokevirtual 154, 3) := by decide +kernel
theorem dL_law_1553 : decode cL_law 1553 = .ok (.aload_n 2, 1) := by decide +kernel
theorem dL_law_1554 : decode cL_law 1554 = .ok (.aload_n 0, 1) := by decide +kernel
theorem dL_law_1555 : decode cL_law 1555 = .ok (.iload 4, 2) := by decide +kernel
theorem dL_law_1557 : decode cL_law 1557 = .ok (.iconst 1, 1) := by decide +kernel
theorem dL_law_1558 : decode cL_law 1558 = .ok (.iadd, 1) := by decide +kernel
theorem dL_law_1559 : decode cL_law 1559 = .ok (.iaload, 1) := by decide +kernel
theorem dL_law_1560 : decode cL_law 1560 = .ok (.aload_n 0, 1) := by decide +kernel
theorem dL_law_1561 : decode cL_law 1561 = .ok (.iload 4, 2) := by decide +kernel
theorem dL_law_1563 : decode cL_law 1563 = .ok (.iconst 2, 1) := by decide +kernel
theorem dL_law_1564 : decode cL_law 1564 = .ok (.iadd, 1) := by decide +kernel
theorem dL_law_1565 : decode cL_law 1565 = .ok (.iaload, 1) := by decide +kernel
theorem dL_law_1566 : decode cL_law 1566 = .ok (.invokevirtual 157, 3) := by decide +kernel
theorem dL_law_1569 : decode cL_law 1569 = .ok (.if_icmp .eq 248, 3) := by decide +kernel
theorem dL_law_1572 : decode cL_law 1572 = .ok (.iconst 0, 1) := by decide +kernel
theorem dL_law_1573 : decode cL_law 1573 = .ok (.ireturn, 1) := by decide +kernel
theorem dL_law_1574 : decode cL_law 1574 = .ok (.aload_n 1, 1) := by decide +kernel
theorem dL_law_1575 : decode cL_law 1575 = .ok (.aload_n 0, 1) := by decide +kernel
theorem dL_law_1576 : decode cL_law 1576 = .ok (.iload 4, 2) := by decide +kernel
theorem dL_law_1578 : decode cL_law 1578 = .ok (.iconst 1, 1) := by decide +kernel
theorem dL_law_1579 : decode cL_law 1579 = .ok (.iadd, 1) := by decide +kernel
theorem dL_law_1580 : decode cL_law 1580 = .ok (.iaload, 1) := by decide +kernel
theorem dL_law_1581 : decode cL_law 1581 = .ok (.invokevirtual 158, 3) := by decide +kernel
theorem dL_law_1584 : decode cL_law 1584 = .ok (.aload_n 2, 1) := by decide +kernel
theorem dL_law_1585 : decode cL_law 1585 = .ok (.aload_n 0, 1) := by decide +kernel
theorem dL_law_1586 : decode cL_law 1586 = .ok (.iload 4, 2) := by decide +kernel
theorem dL_law_1588 : decode cL_law 1588 = .ok (.iconst 1, 1) := by decide +kernel
theorem dL_law_1589 : decode cL_law 1589 = .ok (.iadd, 1) := by decide +kernel
theorem dL_law_1590 : decode cL_law 1590 = .ok (.iaload, 1) := by decide +kernel
theorem dL_law_1591 : decode cL_law 1591 = .ok (.invokevirtual 161, 3) := by decide +kernel
theorem dL_law_1594 : decode cL_law 1594 = .ok (.if_icmp .eq 223, 3) := by decide +kernel
theorem dL_law_1597 : decode cL_law 1597 = .ok (.iconst 0, 1) := by decide +kernel
theorem dL_law_1598 : decode cL_law 1598 = .ok (.ireturn, 1) := by decide +kernel
theorem dL_law_1599 : decode cL_law 1599 = .ok (.aload_n 1, 1) := by decide +kernel
theorem dL_law_1600 : decode cL_law 1600 = .ok (.aload_n 0, 1) := by decide +kernel
theorem dL_law_1601 : decode cL_law 1601 = .ok (.iload 4, 2) := by decide +kernel
theorem dL_law_1603 : decode cL_law 1603 = .ok (.iconst 1, 1) := by decide +kernel
theorem dL_law_1604 : decode cL_law 1604 = .ok (.iadd, 1) := by decide +kernel
theorem dL_law_1605 : decode cL_law 1605 = .ok (.iaload, 1) := by decide +kernel
theorem dL_law_1606 : decode cL_law 1606 = .ok (.invokevirtual 162, 3) := by decide +kernel
theorem dL_law_1609 : decode cL_law 1609 = .ok (.aload_n 2, 1) := by decide +kernel
theorem dL_law_1610 : decode cL_law 1610 = .ok (.aload_n 0, 1) := by decide +kernel
theorem dL_law_1611 : decode cL_law 1611 = .ok (.iload 4, 2) := by decide +kernel
theorem dL_law_1613 : decode cL_law 1613 = .ok (.iconst 1, 1) := by decide +kernel
theorem dL_law_1614 : decode cL_law 1614 = .ok (.iadd, 1) := by decide +kernel
theorem dL_law_1615 : decode cL_law 1615 = .ok (.iaload, 1) := by decide +kernel
theorem dL_law_1616 : decode cL_law 1616 = .ok (.invokevirtual 165, 3) := by decide +kernel
theorem dL_law_1619 : decode cL_law 1619 = .ok (.if_icmp .eq 198, 3) := by decide +kernel
theorem dL_law_1622 : decode cL_law 1622 = .ok (.iconst 0, 1) := by decide +kernel
theorem dL_law_1623 : decode cL_law 1623 = .ok (.ireturn, 1) := by decide +kernel
theorem dL_law_1624 : decode cL_law 1624 = .ok (.aload_n 1, 1) := by decide +kernel
theorem dL_law_1625 : decode cL_law 1625 = .ok (.aload_n 0, 1) := by decide +kernel
theorem dL_law_1626 : decode cL_law 1626 = .ok (.iload 4, 2) := by decide +kernel
theorem dL_law_1628 : decode cL_law 1628 = .ok (.iconst 1, 1) := by decide +kernel
theorem dL_law_1629 : decode cL_law 1629 = .ok (.iadd, 1) := by decide +kernel
theorem dL_law_1630 : decode cL_law 1630 = .ok (.iaload, 1) := by decide +kernel
theorem dL_law_1631 : decode cL_law 1631 = .ok (.aload_n 0, 1) := by decide +kernel
theorem dL_law_1632 : decode cL_law 1632 = .ok (.iload 4, 2) := by decide +kernel
theorem dL_law_1634 : decode cL_law 1634 = .ok (.iconst 2, 1) := by decide +kernel
theorem dL_law_1635 : decode cL_law 1635 = .ok (.iadd, 1) := by decide +kernel
theorem dL_law_1636 : decode cL_law 1636 = .ok (.iaload, 1) := by decide +kernel
theorem dL_law_1637 : decode cL_law 1637 = .ok (.aload_n 0, 1) := by decide +kernel
theorem dL_law_1638 : decode cL_law 1638 = .ok (.iload 4, 2) := by decide +kernel
theorem dL_law_1640 : decode cL_law 1640 = .ok (.iconst 3, 1) := by decide +kernel
theorem dL_law_1641 : decode cL_law 1641 = .ok (.iadd, 1) := by decide +kernel
theorem dL_law_1642 : decode cL_law 1642 = .ok (.iaload, 1) := by decide +kernel
theorem dL_law_1643 : decode cL_law 1643 = .ok (.aload_n 0, 1) := by decide +kernel
theorem dL_law_1644 : decode cL_law 1644 = .ok (.iload 4, 2) := by decide +kernel
theorem dL_law_1646 : decode cL_law 1646 = .ok (.iconst 4, 1) := by decide +kernel
theorem dL_law_1647 : decode cL_law 1647 = .ok (.iadd, 1) := by decide +kernel
theorem dL_law_1648 : decode cL_law 1648 = .ok (.iaload, 1) := by decide +kernel
theorem dL_law_1649 : decode cL_law 1649 = .ok (.invokevirtual 166, 3) := by decide +kernel
theorem dL_law_1652 : decode cL_law 1652 = .ok (.aload_n 2, 1) := by decide +kernel
theorem dL_law_1653 : decode cL_law 1653 = .ok (.aload_n 0, 1) := by decide +kernel
theorem dL_law_1654 : decode cL_law 1654 = .ok (.iload 4, 2) := by decide +kernel
theorem dL_law_1656 : decode cL_law 1656 = .ok (.iconst 1, 1) := by decide +kernel
theorem dL_law_1657 : decode cL_law 1657 = .ok (.iadd, 1) := by decide +kernel
theorem dL_law_1658 : decode cL_law 1658 = .ok (.iaload, 1) := by decide +kernel
theorem dL_law_1659 : decode cL_law 1659 = .ok (.aload_n 0, 1) := by decide +kernel
theorem dL_law_1660 : decode cL_law 1660 = .ok (.iload 4, 2) := by decide +kernel
theorem dL_law_1662 : decode cL_law 1662 = .ok (.iconst 2, 1) := by decide +kernel
theorem dL_law_1663 : decode cL_law 1663 = .ok (.iadd, 1) := by decide +kernel
theorem dL_law_1664 : decode cL_law 1664 = .ok (.iaload, 1) := by decide +kernel
theorem dL_law_1665 : decode cL_law 1665 = .ok (.aload_n 0, 1) := by decide +kernel
theorem dL_law_1666 : decode cL_law 1666 = .ok (.iload 4, 2) := by decide +kernel
theorem dL_law_1668 : decode cL_law 1668 = .ok (.iconst 3, 1) := by decide +kernel
theorem dL_law_1669 : decode cL_law 1669 = .ok (.iadd, 1) := by decide +kernel
theorem dL_law_1670 : decode cL_law 1670 = .ok (.iaload, 1) := by decide +kernel
theorem dL_law_1671 : decode cL_law 1671 = .ok (.aload_n 0, 1) := by decide +kernel
theorem dL_law_1672 : decode cL_law 1672 = .ok (.iload 4, 2) := by decide +kernel
theorem dL_law_1674 : decode cL_law 1674 = .ok (.iconst 4, 1) := by decide +kernel
theorem dL_law_1675 : decode cL_law 1675 = .ok (.iadd, 1) := by decide +kernel
theorem dL_law_1676 : decode cL_law 1676 = .ok (.iaload, 1) := by decide +kernel
theorem dL_law_1677 : decode cL_law 1677 = .ok (.invokevirtual 169, 3) := by decide +kernel
theorem dL_law_1680 : decode cL_law 1680 = .ok (.if_icmp .eq 137, 3) := by decide +kernel
theorem dL_law_1683 : decode cL_law 1683 = .ok (.iconst 0, 1) := by decide +kernel
theorem dL_law_1684 : decode cL_law 1684 = .ok (.ireturn, 1) := by decide +kernel
theorem dL_law_1685 : decode cL_law 1685 = .ok (.aload_n 1, 1) := by decide +kernel
theorem dL_law_1686 : decode cL_law 1686 = .ok (.aload_n 0, 1) := by decide +kernel
theorem dL_law_1687 : decode cL_law 1687 = .ok (.iload 4, 2) := by decide +kernel
theorem dL_law_1689 : decode cL_law 1689 = .ok (.iconst 1, 1) := by decide +kernel
theorem dL_law_1690 : decode cL_law 1690 = .ok (.iadd, 1) := by decide +kernel
theorem dL_law_1691 : decode cL_law 1691 = .ok (.iaload, 1) := by decide +kernel
theorem dL_law_1692 : decode cL_law 1692 = .ok (.aload_n 0, 1) := by decide +kernel
theorem dL_law_1693 : decode cL_law 1693 = .ok (.iload 4, 2) := by decide +kernel
theorem dL_law_1695 : decode cL_law 1695 = .ok (.iconst 2, 1) := by decide +kernel
theorem dL_law_1696 : decode cL_law 1696 = .ok (.iadd, 1) := by decide +kernel
theorem dL_law_1697 : decode cL_law 1697 = .ok (.iaload, 1) := by decide +kernel
theorem dL_law_1698 : decode cL_law 1698 = .ok (.invokevirtual 170, 3) := by decide +kernel
theorem dL_law_1701 : decode cL_law 1701 = .ok (.aload_n 2, 1) := by decide +kernel
theorem dL_law_1702 : decode cL_law 1702 = .ok (.aload_n 0, 1) := by decide +kernel
theorem dL_law_1703 : decode cL_law 1703 = .ok (.iload 4, 2) := by decide +kernel
theorem dL_law_1705 : decode cL_law 1705 = .ok (.iconst 1, 1) := by decide +kernel
theorem dL_law_1706 : decode cL_law 1706 = .ok (.iadd, 1) := by decide +kernel
theorem dL_law_1707 : decode cL_law 1707 = .ok (.iaload, 1) := by decide +kernel
theorem dL_law_1708 : decode cL_law 1708 = .ok (.aload_n 0, 1) := by decide +kernel
theorem dL_law_1709 : decode cL_law 1709 = .ok (.iload 4, 2) := by decide +kernel
theorem dL_law_1711 : decode cL_law 1711 = .ok (.iconst 2, 1) := by decide +kernel
theorem dL_law_1712 : decode cL_law 1712 = .ok (.iadd, 1) := by decide +kernel
theorem dL_law_1713 : decode cL_law 1713 = .ok (.iaload, 1) := by decide +kernel
theorem dL_law_1714 : decode cL_law 1714 = .ok (.invokevirtual 173, 3) := by decide +kernel
theorem dL_law_1717 : decode cL_law 1717 = .ok (.if_icmp .eq 100, 3) := by decide +kernel
theorem dL_law_1720 : decode cL_law 1720 = .ok (.iconst 0, 1) := by decide +kernel
theorem dL_law_1721 : decode cL_law 1721 = .ok (.ireturn, 1) := by decide +kernel
theorem dL_law_1722 : decode cL_law 1722 = .ok (.aload_n 1, 1) := by decide +kernel
theorem dL_law_1723 : decode cL_law 1723 = .ok (.invokevirtual 174, 3) := by decide +kernel
theorem dL_law_1726 : decode cL_law 1726 = .ok (.aload_n 2, 1) := by decide +kernel
theorem dL_law_1727 : decode cL_law 1727 = .ok (.invokevirtual 177, 3) := by decide +kernel
theorem dL_law_1730 : decode cL_law 1730 = .ok (.if_icmp .eq 87, 3) := by decide +kernel
theorem dL_law_1733 : decode cL_law 1733 = .ok (.iconst 0, 1) := by decide +kernel
theorem dL_law_1734 : decode cL_law 1734 = .ok (.ireturn, 1) := by decide +kernel
theorem dL_law_1735 : decode cL_law 1735 = .ok (.aload_n 1, 1) := by decide +kernel
theorem dL_law_1736 : decode cL_law 1736 = .ok (.aload_n 0, 1) := by decide +kernel
theorem dL_law_1737 : decode cL_law 1737 = .ok (.iload 4, 2) := by decide +kernel
theorem dL_law_1739 : decode cL_law 1739 = .ok (.iconst 1, 1) := by decide +kernel
theorem dL_law_1740 : decode cL_law 1740 = .ok (.iadd, 1) := by decide +kernel
theorem dL_law_1741 : decode cL_law 1741 = .ok (.iaload, 1) := by decide +kernel
theorem dL_law_1742 : decode cL_law 1742 = .ok (.aload_n 3, 1) := by decide +kernel
theorem dL_law_1743 : decode cL_law 1743 = .ok (.invokestatic 178, 3) := by decide +kernel
theorem dL_law_1746 : decode cL_law 1746 = .ok (.istore 5, 2) := by decide +kernel
theorem dL_law_1748 : decode cL_law 1748 = .ok (.aload_n 2, 1) := by decide +kernel
theorem dL_law_1749 : decode cL_law 1749 = .ok (.aload_n 0, 1) := by decide +kernel
theorem dL_law_1750 : decode cL_law 1750 = .ok (.iload 4, 2) := by decide +kernel
theorem dL_law_1752 : decode cL_law 1752 = .ok (.iconst 1, 1) := by decide +kernel
theorem dL_law_1753 : decode cL_law 1753 = .ok (.iadd, 1) := by decide +kernel
theorem dL_law_1754 : decode cL_law 1754 = .ok (.iaload, 1) := by decide +kernel
theorem dL_law_1755 : decode cL_law 1755 = .ok (.invokevirtual 183, 3) := by decide +kernel
theorem dL_law_1758 : decode cL_law 1758 = .ok (.istore 6, 2) := by decide +kernel
theorem dL_law_1760 : decode cL_law 1760 = .ok (.aload_n 2, 1) := by decide +kernel
theorem dL_law_1761 : decode cL_law 1761 = .ok (.invokevirtual 184, 3) := by decide +kernel
theorem dL_law_1764 : decode cL_law 1764 = .ok (.iload 5, 2) := by decide +kernel
theorem dL_law_1766 : decode cL_law 1766 = .ok (.if_icmp .eq 5, 3) := by decide +kernel
theorem dL_law_1769 : decode cL_law 1769 = .ok (.iconst 0, 1) := by decide +kernel
theorem dL_law_1770 : decode cL_law 1770 = .ok (.ireturn, 1) := by decide +kernel
theorem dL_law_1771 : decode cL_law 1771 = .ok (.iload 5, 2) := by decide +kernel
theorem dL_law_1773 : decode cL_law 1773 = .ok (.ifCond .ne 15, 3) := by decide +kernel
theorem dL_law_1776 : decode cL_law 1776 = .ok (.aload_n 3, 1) := by decide +kernel
theorem dL_law_1777 : decode cL_law 1777 = .ok (.iconst 0, 1) := by decide +kernel
theorem dL_law_1778 : decode cL_law 1778 = .ok (.laload, 1) := by decide +kernel
theorem dL_law_1779 : decode cL_law 1779 = .ok (.iload 6, 2) := by decide +kernel
theorem dL_law_1781 : decode cL_law 1781 = .ok (.i2l, 1) := by decide +kernel
theorem dL_law_1782 : decode cL_law 1782 = .ok (.lcmp, 1) := by decide +kernel
theorem dL_law_1783 : decode cL_law 1783 = .ok (.ifCond .eq 5, 3) := by decide +kernel
theorem dL_law_1786 : decode cL_law 1786 = .ok (.iconst 0, 1) := by decide +kernel
theorem dL_law_1787 : decode cL_law 1787 = .ok (.ireturn, 1) := by decide +kernel
theorem dL_law_1788 : decode cL_law 1788 = .ok (.goto 29, 3) := by decide +kernel
theorem dL_law_1791 : decode cL_law 1791 = .ok (.aload_n 1, 1) := by decide +kernel
theorem dL_law_1792 : decode cL_law 1792 = .ok (.invokevirtual 187, 3) := by decide +kernel
theorem dL_law_1795 : decode cL_law 1795 = .ok (.aload_n 2, 1) := by decide +kernel
theorem dL_law_1796 : decode cL_law 1796 = .ok (.invokevirtual 190, 3) := by decide +kernel
theorem dL_law_1799 : decode cL_law 1799 = .ok (.if_icmp .eq 18, 3) := by decide +kernel
theorem dL_law_1802 : decode cL_law 1802 = .ok (.iconst 0, 1) := by decide +kernel
theorem dL_law_1803 : decode cL_law 1803 = .ok (.ireturn, 1) := by decide +kernel
theorem dL_law_1804 : decode cL_law 1804 = .ok (.aload_n 1, 1) := by decide +kernel
theorem dL_law_1805 : decode cL_law 1805 = .ok (.invokevirtual 191, 3) := by decide +kernel
theorem dL_law_1808 : decode cL_law 1808 = .ok (.aload_n 2, 1) := by decide +kernel
theorem dL_law_1809 : decode cL_law 1809 = .ok (.invokevirtual 194, 3) := by decide +kernel
theorem dL_law_1812 : decode cL_law 1812 = .ok (.if_icmp .eq 5, 3) := by decide +kernel
theorem dL_law_1815 : decode cL_law 1815 = .ok (.iconst 0, 1) := by decide +kernel
theorem dL_law_1816 : decode cL_law 1816 = .ok (.ireturn, 1) := by decide +kernel
theorem dL_law_1817 : decode cL_law 1817 = .ok (.iinc 4 6, 3) := by decide +kernel
theorem dL_law_1820 : decode cL_law 1820 = .ok (.goto (-1797), 3) := by decide +kernel
theorem dL_law_1823 : decode cL_law 1823 = .ok (.iconst 1, 1) := by decide +kernel
theorem dL_law_1824 : decode cL_law 1824 = .ok (.ireturn, 1) := by decide +kernel