theorem dX6_readRule_1 : decode cX6_readRule 1 = .ok (.getfield 44, 3) := by decide +kernel
theorem dX6_readRule_4 : decode cX6_readRule 4 = .ok (.iload_n 1, 1) := by decide +kernel
theorem dX6_readRule_5 : decode cX6_readRule 5 = .ok (.baload, 1) := by decide +kernel
theorem dX6_readRule_6 : decode cX6_readRule 6 = .ok (.ifCond .eq 9, 3) := by decide +kernel
theorem dX6_readRule_9 : decode cX6_readRule 9 = .ok (.aload_n 0, 1) := by decide +kernel
theorem dX6_readRule_10 : decode cX6_readRule 10 = .ok (.iconst 3, 1) := by decide +kernel
theorem dX6_readRule_11 : decode cX6_readRule 11 = .ok (.invokevirtual 72, 3) := by decide +kernel
theorem dX6_readRule_14 : decode cX6_readRule 14 = .ok (.ireturn, 1) := by decide +kernel
theorem dX6_readRule_15 : decode cX6_readRule 15 = .ok (.aload_n 0, 1) := by decide +kernel
theorem dX6_readRule_16 : decode cX6_readRule 16 = .ok (.getfield 44, 3) := by decide +kernel
theorem dX6_readRule_19 : decode cX6_readRule 19 = .ok (.iload_n 1, 1) := by decide +kernel
theorem dX6_readRule_20 : decode cX6_readRule 20 = .ok (.iconst 1, 1) := by decide +kernel
theorem dX6_readRule_21 : decode cX6_readRule 21 = .ok (.bastore, 1) := by decide +kernel
theorem dX6_readRule_22 : decode cX6_readRule 22 = .ok (.aload_n 0, 1) := by decide +kernel
theorem dX6_readRule_23 : decode cX6_readRule 23 = .ok (.invokevirtual 76, 3) := by decide +kernel
theorem dX6_readRule_26 : decode cX6_readRule 26 = .ok (.aload_n 0, 1) := by decide +kernel
theorem dX6_readRule_27 : decode cX6_readRule 27 = .ok (.getfield 79, 3) := by decide +kernel
theorem dX6_readRule_30 : decode cX6_readRule 30 = .ok (.iconst 1, 1) := by decide +kernel
theorem dX6_readRule_31 : decode cX6_readRule 31 = .ok (.if_icmp .eq 9, 3) := by decide +kernel
theorem dX6_readRule_34 : decode cX6_readRule 34 = .ok (.aload_n 0, 1) := by decide +kernel
theorem dX6_readRule_35 : decode cX6_readRule 35 = .ok (.iconst 1, 1) := by decide +kernel
theorem dX6_readRule_36 : decode cX6_readRule 36 = .ok (.invokevirtual 72, 3) := by decide +kernel
theorem dX6_readRule_39 : decode cX6_readRule 39 = .ok (.ireturn, 1) := by decide +kernel
theorem dX6_readRule_40 : decode cX6_readRule 40 = .ok (.iload_n 1, 1) := by decide +kernel
theorem dX6_readRule_41 : decode cX6_readRule 41 = .ok (.aload_n 0, 1) := by decide +kernel
theorem dX6_readRule_42 : decode cX6_readRule 42 = .ok (.getfield 82, 3) := by decide +kernel
theorem dX6_readRule_45 : decode cX6_readRule 45 = .ok (.invokestatic 116, 3) := by decide +kernel
theorem dX6_readRule_48 : decode cX6_readRule 48 = .ok (.ifCond .ne 9, 3) := by decide +kernel
theorem dX6_readRule_51 : decode cX6_readRule 51 = .ok (.aload_n 0, 1) := by decide +kernel
theorem dX6_readRule_52 : decode cX6_readRule 52 = .ok (.iconst 2, 1) := by decide +kernel
theorem dX6_readRule_53 : decode cX6_readRule 53 = .ok (.invokevirtual 72, 3) := by decide +kernel
theorem dX6_readRule_56 : decode cX6_readRule 56 = .ok (.ireturn, 1) := by decide +kernel
theorem dX6_readRule_57 : decode cX6_readRule 57 = .ok (.aload_n 0, 1) := by decide +kernel
theorem dX6_readRule_58 : decode cX6_readRule 58 = .ok (.getfield 18, 3) := by decide +kernel
theorem dX6_readRule_61 : decode cX6_readRule 61 = .ok (.iload_n 1, 1) := by decide +kernel
theorem dX6_readRule_62 : decode cX6_readRule 62 = .ok (.aload_n 0, 1) := by decide +kernel
theorem dX6_readRule_63 : decode cX6_readRule 63 = .ok (.getfield 82, 3) := by decide +kernel
theorem dX6_readRule_66 : decode cX6_readRule 66 = .ok (.iastore, 1) := by decide +kernel
theorem dX6_readRule_67 : decode cX6_readRule 67 = .ok (.iconst 1, 1) := by decide +kernel
theorem dX6_readRule_68 : decode cX6_readRule 68 = .ok (.ireturn, 1) := by decide +kernel
theorem dX6_blame_0 : decode cX6_blame 0 = .ok (.aload_n 0, 1) := by decide +kernel
theorem dX6_blame_1 : decode cX6_blame 1 = .ok (.iload_n 1, 1) := by decide +kernel
theorem dX6_blame_2 : decode cX6_blame 2 = .ok (.putfield 66, 3) := by decide +kernel
theorem dX6_blame_5 : decode cX6_blame 5 = .ok (.iconst 0, 1) := by decide +kernel
theorem dX6_blame_6 : decode cX6_blame 6 = .ok (.ireturn, 1) := by decide +kernel
theorem dX6_keyOf_0 : decode cX6_keyOf 0 = .ok (.iconst 0, 1) := by decide +kernel
theorem dX6_keyOf_1 : decode cX6_keyOf 1 = .ok (.istore_n 2, 1) := by decide +kernel
theorem dX6_keyOf_2 : decode cX6_keyOf 2 = .ok (.iload_n 2, 1) := by decide +kernel
theorem dX6_keyOf_3 : decode cX6_keyOf 3 = .ok (.aload_n 0, 1) := by decide +kernel
theorem dX6_keyOf_4 : decode cX6_keyOf 4 = .ok (.getfield 41, 3) := by decide +kernel
theorem dX6_keyOf_7 : decode cX6_keyOf 7 = .ok (.arraylength, 1) := by decide +kernel
theorem dX6_keyOf_8 : decode cX6_keyOf 8 = .ok (.if_icmp .ge 21, 3) := by decide +kernel
theorem dX6_keyOf_11 : decode cX6_keyOf 11 = .ok (.aload_n 0, 1) := by decide +kernel
theorem dX6_keyOf_12 : decode cX6_keyOf 12 = .ok (.getfield 41, 3) := by decide +kernel
theorem dX6_keyOf_15 : decode cX6_keyOf 15 = .ok (.iload_n 2, 1) := by decide +kernel
theorem dX6_keyOf_16 : decode cX6_keyOf 16 = .ok (.iaload, 1) := by decide +kernel
theorem dX6_keyOf_17 : decode cX6_keyOf 17 = .ok (.iload_n 1, 1) := by decide +kernel
theorem dX6_keyOf_18 : decode cX6_keyOf 18 = .ok (.if_icmp .ne 5, 3) := by decide +kernel
theorem dX6_keyOf_21 : decode cX6_keyOf 21 = .ok (.iload_n 2, 1) := by decide +kernel
theorem dX6_keyOf_22 : decode cX6_keyOf 22 = .ok (.ireturn, 1) := by decide +kernel
theorem dX6_keyOf_23 : decode cX6_keyOf 23 = .ok (.iinc 2 1, 3) := by decide +kernel
theorem dX6_keyOf_26 : decode cX6_keyOf 26 = .ok (.goto (-24), 3) := by decide +kernel
theorem dX6_keyOf_29 : decode cX6_keyOf 29 = .ok (.iconst (-1), 1) := by decide +kernel
theorem dX6_keyOf_30 : decode cX6_keyOf 30 = .ok (.ireturn, 1) := by decide +kernel
theorem dX6_isName_0 : decode cX6_isName 0 = .ok (.iconst 0, 1) := by decide +kernel
theorem dX6_isName_1 : decode cX6_isName 1 = .ok (.istore_n 2, 1) := by decide +kernel
theorem dX6_isName_2 : decode cX6_isName 2 = .ok (.iload_n 2, 1) := by decide +kernel
theorem dX6_isName_3 : decode cX6_isName 3 = .ok (.aload_n 0, 1) := by decide +kernel
theorem dX6_isName_4 : decode cX6_isName 4 = .ok (.getfield 69, 3) := by decide +kernel
theorem dX6_isName_7 : decode cX6_isName 7 = .ok (.if_icmp .ge 27, 3) := by decide +kernel
theorem dX6_isName_10 : decode cX6_isName 10 = .ok (.iload_n 2, 1) := by decide +kernel
theorem dX6_isName_11 : decode cX6_isName 11 = .ok (.bipush 9, 2) := by decide +kernel
theorem dX6_isName_13 : decode cX6_isName 13 = .ok (.if_icmp .ge 21, 3) := by decide +kernel
theorem dX6_isName_16 : decode cX6_isName 16 = .ok (.aload_n 0, 1) := by decide +kernel
theorem dX6_isName_17 : decode cX6_isName 17 = .ok (.getfield 9, 3) := by decide +kernel
theorem dX6_isName_20 : decode cX6_isName 20 = .ok (.iload_n 2, 1) := by decide +kernel
theorem dX6_isName_21 : decode cX6_isName 21 = .ok (.iaload, 1) := by decide +kernel
theorem dX6_isName_22 : decode cX6_isName 22 = .ok (.iload_n 1, 1) := by decide +kernel
theorem dX6_isName_23 : decode cX6_isName 23 = .ok (.if_icmp .ne 5, 3) := by decide +kernel
theorem dX6_isName_26 : decode cX6_isName 26 = .ok (.iconst 1, 1) := by decide +kernel
theorem dX6_isName_27 : decode cX6_isName 27 = .ok (.ireturn, 1) := by decide +kernel
theorem dX6_isName_28 : decode cX6_isName 28 = .ok (.iinc 2 1, 3) := by decide +kernel
theorem dX6_isName_31 : decode cX6_isName 31 = .ok (.goto (-29), 3) := by decide +kernel
theorem dX6_isName_34 : decode cX6_isName 34 = .ok (.iconst 0, 1) := by decide +kernel
theorem dX6_isName_35 : decode cX6_isName 35 = .ok (.ireturn, 1) := by decide +kernel
theorem dX6_step_0 : decode cX6_step 0 = .ok (.aload_n 0, 1) := by decide +kernel
theorem dX6_step_1 : decode cX6_step 1 = .ok (.getfield 97, 3) := by decide +kernel
theorem dX6_step_4 : decode cX6_step 4 = .ok (.aload_n 0, 1) := by decide +kernel
theorem dX6_step_5 : decode cX6_step 5 = .ok (.getfield 94, 3) := by decide +kernel
theorem dX6_step_8 : decode cX6_step 8 = .ok (.if_icmp .ge 30, 3) := by decide +kernel
theorem dX6_step_11 : decode cX6_step 11 = .ok (.aload_n 0, 1) := by decide +kernel
theorem dX6_step_12 : decode cX6_step 12 = .ok (.getfield 21, 3) := by decide +kernel
theorem dX6_step_15 : decode cX6_step 15 = .ok (.aload_n 0, 1) := by decide +kernel
theorem dX6_step_16 : decode cX6_step 16 = .ok (.getfield 97, 3) := by decide +kernel
theorem dX6_step_19 : decode cX6_step 19 = .ok (.baload, 1) := by decide +kernel
theorem dX6_step_20 : decode cX6_step 20 = .ok (.bipush 32, 2) := by decide +kernel
theorem dX6_step_22 : decode cX6_step 22 = .ok (.if_icmp .ne 16, 3) := by decide +kernel
theorem dX6_step_25 : decode cX6_step 25 = .ok (.aload_n 0, 1) := by decide +kernel
theorem dX6_step_26 : decode cX6_step 26 = .ok (.dup, 1) := by decide +kernel
theorem dX6_step_27 : decode cX6_step 27 = .ok (.getfield 97, 3) := by decide +kernel
theorem dX6_step_30 : decode cX6_step 30 = .ok (.iconst 1, 1) := by decide +kernel
theorem dX6_step_31 : decode cX6_step 31 = .ok (.iadd, 1) := by decide +kernel
theorem dX6_step_32 : decode cX6_step 32 = .ok (.putfield 97, 3) := by decide +kernel
theorem dX6_step_35 : decode cX6_step 35 = .ok (.goto (-35), 3) := by decide +kernel
theorem dX6_step_38 : decode cX6_step 38 = .ok (.aload_n 0, 1) := by decide +kernel
theorem dX6_step_39 : decode cX6_step 39 = .ok (.aload_n 0, 1) := by decide +kernel
theorem dX6_step_40 : decode cX6_step 40 = .ok (.getfield 97, 3) := by decide +kernel
theorem dX6_step_43 : decode cX6_step 43 = .ok (.putfield 120, 3) := by decide +kernel
theorem dX6_step_46 : decode cX6_step 46 = .ok (.aload_n 0, 1) := by decide +kernel
theorem dX6_step_47 : decode cX6_step 47 = .ok (.iconst 0, 1) := by decide +kernel
theorem dX6_step_48 : decode cX6_step 48 = .ok (.putfield 82, 3) := by decide +kernel
theorem dX6_step_51 : decode cX6_step 51 = .ok (.aload_n 0, 1) := by decide +kernel
theorem dX6_step_52 : decode cX6_step 52 = .ok (.getfield 97, 3) := by decide +kernel
theorem dX6_step_55 : decode cX6_step 55 = .ok (.aload_n 0, 1) := by decide +kernel
theorem dX6_step_56 : decode cX6_step 56 = .ok (.getfield 94, 3) := by decide +kernel
theorem dX6_step_59 : decode cX6_step 59 = .ok (.if_icmp .lt 11, 3) := by decide +kernel
theorem dX6_step_62 : decode cX6_step 62 = .ok (.aload_n 0, 1) := by decide +kernel
theorem dX6_step_63 : decode cX6_step 63 = .ok (.iconst 3, 1) := by decide +kernel
theorem dX6_step_64 : decode cX6_step 64 = .ok (.putfield 79, 3) := by decide +kernel
theorem dX6_step_67 : decode cX6_step 67 = .ok (.goto 80, 3) := by decide +kernel
theorem dX6_step_70 : decode cX6_step 70 = .ok (.aload_n 0, 1) := by decide +kernel
theorem dX6_step_71 : decode cX6_step 71 = .ok (.getfield 21, 3) := by decide +kernel
theorem dX6_step_74 : decode cX6_step 74 = .ok (.aload_n 0, 1) := by decide +kernel
theorem dX6_step_75 : decode cX6_step 75 = .ok (.getfield 97, 3) := by decide +kernel
theorem dX6_step_78 : decode cX6_step 78 = .ok (.baload, 1) := by decide +kernel
theorem dX6_step_79 : decode cX6_step 79 = .ok (.invokestatic 123, 3) := by decide +kernel
theorem dX6_step_82 : decode cX6_step 82 = .ok (.ifCond .eq 10, 3) := by decide +kernel
theorem dX6_step_85 : decode cX6_step 85 = .ok (.aload_n 0, 1) := by decide +kernel
theorem dX6_step_86 : decode cX6_step 86 = .ok (.invokevirtual 126, 3) := by decide +kernel
theorem dX6_step_89 : decode cX6_step 89 = .ok (.goto 58, 3) := by decide +kernel
theorem dX6_step_92 : decode cX6_step 92 = .ok (.aload_n 0, 1) := by decide +kernel
theorem dX6_step_93 : decode cX6_step 93 = .ok (.getfield 21, 3) := by decide +kernel
theorem dX6_step_96 : decode cX6_step 96 = .ok (.aload_n 0, 1) := by decide +kernel
theorem dX6_step_97 : decode cX6_step 97 = .ok (.getfield 97, 3) := by decide +kernel
theorem dX6_step_100 : decode cX6_step 100 = .ok (.baload, 1) := by decide +kernel
theorem dX6_step_101 : decode cX6_step 101 = .ok (.invokestatic 129, 3) := by decide +kernel
theorem dX6_step_104 : decode cX6_step 104 = .ok (.ifCond .eq 10, 3) := by decide +kernel
theorem dX6_step_107 : decode cX6_step 107 = .ok (.aload_n 0, 1) := by decide +kernel
theorem dX6_step_108 : decode cX6_step 108 = .ok (.invokevirtual 132, 3) := by decide +kernel
theorem dX6_step_111 : decode cX6_step 111 = .ok (.goto 36, 3) := by decide +kernel
theorem dX6_step_114 : decode cX6_step 114 = .ok (.aload_n 0, 1) := by decide +kernel
theorem dX6_step_115 : decode cX6_step 115 = .ok (.aload_n 0, 1) := by decide +kernel
theorem dX6_step_116 : decode cX6_step 116 = .ok (.getfield 21, 3) := by decide +kernel
theorem dX6_step_119 : decode cX6_step 119 = .ok (.aload_n 0, 1) := by decide +kernel
theorem dX6_step_120 : decode cX6_step 120 = .ok (.getfield 97, 3) := by decide +kernel
theorem dX6_step_123 : decode cX6_step 123 = .ok (.baload, 1) := by decide +kernel
theorem dX6_step_124 : decode cX6_step 124 = .ok (.bipush 59, 2) := by decide +kernel
theorem dX6_step_126 : decode cX6_step 126 = .ok (.if_icmp .ne 7, 3) := by decide +kernel
theorem dX6_step_129 : decode cX6_step 129 = .ok (.iconst 2, 1) := by decide +kernel
theorem dX6_step_130 : decode cX6_step 130 = .ok (.goto 4, 3) := by decide +kernel
theorem dX6_step_133 : decode cX6_step 133 = .ok (.iconst 4, 1) := by decide +kernel
theorem dX6_step_134 : decode cX6_step 134 = .ok (.putfield 79, 3) := by decide +kernel
theorem dX6_step_137 : decode cX6_step 137 = .ok (.aload_n 0, 1) := by decide +kernel
theorem dX6_step_138 : decode cX6_step 138 = .ok (.dup, 1) := by decide +kernel
theorem dX6_step_139 : decode cX6_step 139 = .ok (.getfield 97, 3) := by decide +kernel
theorem dX6_step_142 : decode cX6_step 142 = .ok (.iconst 1, 1) := by decide +kernel
theorem dX6_step_143 : decode cX6_step 143 = .ok (.iadd, 1) := by decide +kernel
theorem dX6_step_144 : decode cX6_step 144 = .ok (.putfield 97, 3) := by decide +kernel
theorem dX6_step_147 : decode cX6_step 147 = .ok (.return_, 1) := by decide +kernel
theorem dX6_stepOverLetters_0 : decode cX6_stepOverLetters 0 = .ok (.aload_n 0, 1) := by decide +kernel
theorem dX6_stepOverLetters_1 : decode cX6_stepOverLetters 1 = .ok (.getfield 97, 3) := by decide +kernel
theorem dX6_stepOverLetters_4 : decode cX6_stepOverLetters 4 = .ok (.aload_n 0, 1) := by decide +kernel
theorem dX6_stepOverLetters_5 : decode cX6_stepOverLetters 5 = .ok (.getfield 94, 3) := by decide +kernel
theorem dX6_stepOverLetters_8 : decode cX6_stepOverLetters 8 = .ok (.if_icmp .ge 51, 3) := by decide +kernel
theorem dX6_stepOverLetters_11 : decode cX6_stepOverLetters 11 = .ok (.aload_n 0, 1) := by decide +kernel
theorem dX6_stepOverLetters_12 : decode cX6_stepOverLetters 12 = .ok (.getfield 21, 3) := by decide +kernel
theorem dX6_stepOverLetters_15 : decode cX6_stepOverLetters 15 = .ok (.aload_n 0, 1) := by decide +kernel
theorem dX6_stepOverLetters_16 : decode cX6_stepOverLetters 16 = .ok (.getfield 97, 3) := by decide +kernel
theorem dX6_stepOverLetters_19 : decode cX6_stepOverLetters 19 = .ok (.baload, 1) := by decide +kernel
theorem dX6_stepOverLetters_20 : decode cX6_stepOverLetters 20 = .ok (.invokestatic 123, 3) := by decide +kernel
theorem dX6_stepOverLetters_23 : decode cX6_stepOverLetters 23 = .ok (.ifCond .eq 36, 3) := by decide +kernel
theorem dX6_stepOverLetters_26 : decode cX6_stepOverLetters 26 = .ok (.aload_n 0, 1) := by decide +kernel
theorem dX6_stepOverLetters_27 : decode cX6_stepOverLetters 27 = .ok (.aload_n 0, 1) := by decide +kernel
theorem dX6_stepOverLetters_28 : decode cX6_stepOverLetters 28 = .ok (.getfield 82, 3) := by decide +kernel
theorem dX6_stepOverLetters_31 : decode cX6_stepOverLetters 31 = .ok (.aload_n 0, 1) := by decide +kernel
theorem dX6_stepOverLetters_32 : decode cX6_stepOverLetters 32 = .ok (.getfield 21, 3) := by decide +kernel
theorem dX6_stepOverLetters_35 : decode cX6_stepOverLetters 35 = .ok (.aload_n 0, 1) := by decide +kernel
theorem dX6_stepOverLetters_36 : decode cX6_stepOverLetters 36 = .ok (.getfield 97, 3) := by decide +kernel
theorem dX6_stepOverLetters_39 : decode cX6_stepOverLetters 39 = .ok (.baload, 1) := by decide +kernel
theorem dX6_stepOverLetters_40 : decode cX6_stepOverLetters 40 = .ok (.invokestatic 135, 3) := by decide +kernel
theorem dX6_stepOverLetters_43 : decode cX6_stepOverLetters 43 = .ok (.putfield 82, 3) := by decide +kernel
theorem dX6_stepOverLetters_46 : decode cX6_stepOverLetters 46 = .ok (.aload_n 0, 1) := by decide +kernel
theorem dX6_stepOverLetters_47 : decode cX6_stepOverLetters 47 = .ok (.dup, 1) := by decide +kernel
theorem dX6_stepOverLetters_48 : decode cX6_stepOverLetters 48 = .ok (.getfield 97, 3) := by decide +kernel
theorem dX6_stepOverLetters_51 : decode cX6_stepOverLetters 51 = .ok (.iconst 1, 1) := by decide +kernel
theorem dX6_stepOverLetters_52 : decode cX6_stepOverLetters 52 = .ok (.iadd, 1) := by decide +kernel
theorem dX6_stepOverLetters_53 : decode cX6_stepOverLetters 53 = .ok (.putfield 97, 3) := by decide +kernel
theorem dX6_stepOverLetters_56 : decode cX6_stepOverLetters 56 = .ok (.goto (-56), 3) := by decide +kernel
theorem dX6_stepOverLetters_59 : decode cX6_stepOverLetters 59 = .ok (.aload_n 0, 1) := by decide +kernel
theorem dX6_stepOverLetters_60 : decode cX6_stepOverLetters 60 = .ok (.aload_n 0, 1) := by decide +kernel
theorem dX6_stepOverLetters_61 : decode cX6_stepOverLetters 61 = .ok (.getfield 97, 3) := by decide +kernel
theorem dX6_stepOverLetters_64 : decode cX6_stepOverLetters 64 = .ok (.aload_n 0, 1) := by decide +kernel
theorem dX6_stepOverLetters_65 : decode cX6_stepOverLetters 65 = .ok (.getfield 120, 3) := by decide +kernel
theorem dX6_stepOverLetters_68 : decode cX6_stepOverLetters 68 = .ok (.isub, 1) := by decide +kernel
theorem dX6_stepOverLetters_69 : decode cX6_stepOverLetters 69 = .ok (.bipush 6, 2) := by decide +kernel
theorem dX6_stepOverLetters_71 : decode cX6_stepOverLetters 71 = .ok (.if_icmp .gt 7, 3) := by decide +kernel
theorem dX6_stepOverLetters_74 : decode cX6_stepOverLetters 74 = .ok (.iconst 0, 1) := by decide +kernel
theorem dX6_stepOverLetters_75 : decode cX6_stepOverLetters 75 = .ok (.goto 4, 3) := by decide +kernel
theorem dX6_stepOverLetters_78 : decode cX6_stepOverLetters 78 = .ok (.iconst 4, 1) := by decide +kernel
theorem dX6_stepOverLetters_79 : decode cX6_stepOverLetters 79 = .ok (.putfield 79, 3) := by decide +kernel
theorem dX6_stepOverLetters_82 : decode cX6_stepOverLetters 82 = .ok (.return_, 1) := by decide +kernel
theorem dX6_stepOverDigits_0 : decode cX6_stepOverDigits 0 = .ok (.aload_n 0, 1) := by decide +kernel
theorem dX6_stepOverDigits_1 : decode cX6_stepOverDigits 1 = .ok (.getfield 97, 3) := by decide +kernel
theorem dX6_stepOverDigits_4 : decode cX6_stepOverDigits 4 = .ok (.aload_n 0, 1) := by decide +kernel
theorem dX6_stepOverDigits_5 : decode cX6_stepOverDigits 5 = .ok (.getfield 94, 3) := by decide +kernel
theorem dX6_stepOverDigits_8 : decode cX6_stepOverDigits 8 = .ok (.if_icmp .ge 55, 3) := by decide +kernel
theorem dX6_stepOverDigits_11 : decode cX6_stepOverDigits 11 = .ok (.aload_n 0, 1) := by decide +kernel
theorem dX6_stepOverDigits_12 : decode cX6_stepOverDigits 12 = .ok (.getfield 21, 3) := by decide +kernel
theorem dX6_stepOverDigits_15 : decode cX6_stepOverDigits 15 = .ok (.aload_n 0, 1) := by decide +kernel
theorem dX6_stepOverDigits_16 : decode cX6_stepOverDigits 16 = .ok (.getfield 97, 3) := by decide +kernel
theorem dX6_stepOverDigits_19 : decode cX6_stepOverDigits 19 = .ok (.baload, 1) := by decide +kernel
theorem dX6_stepOverDigits_20 : decode cX6_stepOverDigits 20 = .ok (.invokestatic 129, 3) := by decide +kernel
theorem dX6_stepOverDigits_23 : decode cX6_stepOverDigits 23 = .ok (.ifCond .eq 40, 3) := by decide +kernel
theorem dX6_stepOverDigits_26 : decode cX6_stepOverDigits 26 = .ok (.aload_n 0, 1) := by decide +kernel
theorem dX6_stepOverDigits_27 : decode cX6_stepOverDigits 27 = .ok (.aload_n 0, 1) := by decide +kernel
theorem dX6_stepOverDigits_28 : decode cX6_stepOverDigits 28 = .ok (.getfield 82, 3) := by decide +kernel
theorem dX6_stepOverDigits_31 : decode cX6_stepOverDigits 31 = .ok (.bipush 10, 2) := by decide +kernel
theorem dX6_stepOverDigits_33 : decode cX6_stepOverDigits 33 = .ok (.imul, 1) := by decide +kernel
theorem dX6_stepOverDigits_34 : decode cX6_stepOverDigits 34 = .ok (.aload_n 0, 1) := by decide +kernel
theorem dX6_stepOverDigits_35 : decode cX6_stepOverDigits 35 = .ok (.getfield 21, 3) := by decide +kernel
theorem dX6_stepOverDigits_38 : decode cX6_stepOverDigits 38 = .ok (.aload_n 0, 1) := by decide +kernel
theorem dX6_stepOverDigits_39 : decode cX6_stepOverDigits 39 = .ok (.getfield 97, 3) := by decide +kernel
theorem dX6_stepOverDigits_42 : decode cX6_stepOverDigits 42 = .ok (.baload, 1) := by decide +kernel
theorem dX6_stepOverDigits_43 : decode cX6_stepOverDigits 43 = .ok (.bipush 48, 2) := by decide +kernel
theorem dX6_stepOverDigits_45 : decode cX6_stepOverDigits 45 = .ok (.isub, 1) := by decide +kernel
theorem dX6_stepOverDigits_46 : decode cX6_stepOverDigits 46 = .ok (.iadd, 1) := by decide +kernel
theorem dX6_stepOverDigits_47 : decode cX6_stepOverDigits 47 = .ok (.putfield 82, 3) := by decide +kernel
theorem dX6_stepOverDigits_50 : decode cX6_stepOverDigits 50 = .ok (.aload_n 0, 1) := by decide +kernel
theorem dX6_stepOverDigits_51 : decode cX6_stepOverDigits 51 = .ok (.dup, 1) := by decide +kernel
theorem dX6_stepOverDigits_52 : decode cX6_stepOverDigits 52 = .ok (.getfield 97, 3) := by decide +kernel
theorem dX6_stepOverDigits_55 : decode cX6_stepOverDigits 55 = .ok (.iconst 1, 1) := by decide +kernel
theorem dX6_stepOverDigits_56 : decode cX6_stepOverDigits 56 = .ok (.iadd, 1) := by decide +kernel
theorem dX6_stepOverDigits_57 : decode cX6_stepOverDigits 57 = .ok (.putfield 97, 3) := by decide +kernel
theorem dX6_stepOverDigits_60 : decode cX6_stepOverDigits 60 = .ok (.goto (-60), 3) := by decide +kernel
theorem dX6_stepOverDigits_63 : decode cX6_stepOverDigits 63 = .ok (.aload_n 0, 1) := by decide +kernel
theorem dX6_stepOverDigits_64 : decode cX6_stepOverDigits 64 = .ok (.aload_n 0, 1) := by decide +kernel
theorem dX6_stepOverDigits_65 : decode cX6_stepOverDigits 65 = .ok (.getfield 97, 3) := by decide +kernel
theorem dX6_stepOverDigits_68 : decode cX6_stepOverDigits 68 = .ok (.aload_n 0, 1) := by decide +kernel
theorem dX6_stepOverDigits_69 : decode cX6_stepOverDigits 69 = .ok (.getfield 120, 3) := by decide +kernel
theorem dX6_stepOverDigits_72 : decode cX6_stepOverDigits 72 = .ok (.isub, 1) := by decide +kernel
theorem dX6_stepOverDigits_73 : decode cX6_stepOverDigits 73 = .ok (.iconst 2, 1) := by decide +kernel
theorem dX6_stepOverDigits_74 : decode cX6_stepOverDigits 74 = .ok (.if_icmp .gt 7, 3) := by decide +kernel
theorem dX6_stepOverDigits_77 : decode cX6_stepOverDigits 77 = .ok (.iconst 1, 1) := by decide +kernel
theorem dX6_stepOverDigits_78 : decode cX6_stepOverDigits 78 = .ok (.goto 4, 3) := by decide +kernel
theorem dX6_stepOverDigits_81 : decode cX6_stepOverDigits 81 = .ok (.iconst 4, 1) := by decide +kernel
theorem dX6_stepOverDigits_82 : decode cX6_stepOverDigits 82 = .ok (.putfield 79, 3) := by decide +kernel
theorem dX6_stepOverDigits_85 : decode cX6_stepOverDigits 85 = .ok (.return_, 1) := by decide +kernel
theorem dX6_isLetter_0 : decode cX6_isLetter 0 = .ok (.iload_n 0, 1) := by decide +kernel
theorem dX6_isLetter_1 : decode cX6_isLetter 1 = .ok (.bipush 97, 2) := by decide +kernel
theorem dX6_isLetter_3 : decode cX6_isLetter 3 = .ok (.if_icmp .lt 13, 3) := by decide +kernel
theorem dX6_isLetter_6 : decode cX6_isLetter 6 = .ok (.iload_n 0, 1) := by decide +kernel
theorem dX6_isLetter_7 : decode cX6_isLetter 7 = .ok (.bipush 122, 2) := by decide +kernel
theorem dX6_isLetter_9 : decode cX6_isLetter 9 = .ok (.if_icmp .gt 7, 3) := by decide +kernel
theorem dX6_isLetter_12 : decode cX6_isLetter 12 = .ok (.iconst 1, 1) := by decide +kernel
theorem dX6_isLetter_13 : decode cX6_isLetter 13 = .ok (.goto 4, 3) := by decide +kernel
theorem dX6_isLetter_16 : decode cX6_isLetter 16 = .ok (.iconst 0, 1) := by decide +kernel
theorem dX6_isLetter_17 : decode cX6_isLetter 17 = .ok (.ireturn, 1) := by decide +kernel
theorem dX6_isDigit_0 : decode cX6_isDigit 0 = .ok (.iload_n 0, 1) := by decide +kernel
theorem dX6_isDigit_1 : decode cX6_isDigit 1 = .ok (.bipush 48, 2) := by decide +kernel
theorem dX6_isDigit_3 : decode cX6_isDigit 3 = .ok (.if_icmp .lt 13, 3) := by decide +kernel
theorem dX6_isDigit_6 : decode cX6_isDigit 6 = .ok (.iload_n 0, 1) := by decide +kernel
theorem dX6_isDigit_7 : decode cX6_isDigit 7 = .ok (.bipush 57, 2) := by decide +kernel
theorem dX6_isDigit_9 : decode cX6_isDigit 9 = .ok (.if_icmp .gt 7, 3) := by decide +kernel
theorem dX6_isDigit_12 : decode cX6_isDigit 12 = .ok (.iconst 1, 1) := by decide +kernel
theorem dX6_isDigit_13 : decode cX6_isDigit 13 = .ok (.goto 4, 3) := by decide +kernel
theorem dX6_isDigit_16 : decode cX6_isDigit 16 = .ok (.iconst 0, 1) := by decide +kernel
theorem dX6_isDigit_17 : decode cX6_isDigit 17 = .ok (.ireturn, 1) := by decide +kernel
theorem dX6_coded_0 : decode cX6_coded 0 = .ok (.iconst 0, 1) := by decide +kernel
theorem dX6_coded_1 : decode cX6_coded 1 = .ok (.istore_n 1, 1) := by decide +kernel
theorem dX6_coded_2 : decode cX6_coded 2 = .ok (.iconst 0, 1) := by decide +kernel
theorem dX6_coded_3 : decode cX6_coded 3 = .ok (.istore_n 2, 1) := by decide +kernel
theorem dX6_coded_4 : decode cX6_coded 4 = .ok (.iload_n 2, 1) := by decide +kernel
theorem dX6_coded_5 : decode cX6_coded 5 = .ok (.aload_n 0, 1) := by decide +kernel
theorem dX6_coded_6 : decode cX6_coded 6 = .ok (.invokevirtual 138, 3) := by decide +kernel
theorem dX6_coded_9 : decode cX6_coded 9 = .ok (.if_icmp .ge 19, 3) := by decide +kernel
theorem dX6_coded_12 : decode cX6_coded 12 = .ok (.iload_n 1, 1) := by decide +kernel
theorem dX6_coded_13 : decode cX6_coded 13 = .ok (.aload_n 0, 1) := by decide +kernel
theorem dX6_coded_14 : decode cX6_coded 14 = .ok (.iload_n 2, 1) := by decide +kernel
theorem dX6_coded_15 : decode cX6_coded 15 = .ok (.invokevirtual 143, 3) := by decide +kernel
theorem dX6_coded_18 : decode cX6_coded 18 = .ok (.invokestatic 135, 3) := by decide +kernel
theorem dX6_coded_21 : decode cX6_coded 21 = .ok (.istore_n 1, 1) := by decide +kernel
theorem dX6_coded_22 : decode cX6_coded 22 = .ok (.iinc 2 1, 3) := by decide +kernel
theorem dX6_coded_25 : decode cX6_coded 25 = .ok (.goto (-21), 3) := by decide +kernel
theorem dX6_coded_28 : decode cX6_coded 28 = .ok (.iload_n 1, 1) := by decide +kernel
theorem dX6_coded_29 : decode cX6_coded 29 = .ok (.ireturn, 1) := by decide +kernel
theorem dX6_withLetter_0 : decode cX6_withLetter 0 = .ok (.iload_n 0, 1) := by decide +kernel
theorem dX6_withLetter_1 : decode cX6_withLetter 1 = .ok (.bipush 27, 2) := by decide +kernel
theorem dX6_withLetter_3 : decode cX6_withLetter 3 = .ok (.imul, 1) := by decide +kernel
theorem dX6_withLetter_4 : decode cX6_withLetter 4 = .ok (.iload_n 1, 1) := by decide +kernel
theorem dX6_withLetter_5 : decode cX6_withLetter 5 = .ok (.bipush 97, 2) := by decide +kernel
theorem dX6_withLetter_7 : decode cX6_withLetter 7 = .ok (.isub, 1) := by decide +kernel
theorem dX6_withLetter_8 : decode cX6_withLetter 8 = .ok (.iconst 1, 1) := by decide +kernel
theorem dX6_withLetter_9 : decode cX6_withLetter 9 = .ok (.iadd, 1) := by decide +kernel
theorem dX6_withLetter_10 : decode cX6_withLetter 10 = .ok (.iadd, 1) := by decide +kernel
theorem dX6_withLetter_11 : decode cX6_withLetter 11 = .ok (.ireturn, 1) := by decide +kernel
theorem dX7_init_0 : decode cX7_init 0 = .ok (.aload_n 0, 1) := by decide +kernel
theorem dX7_init_1 : decode cX7_init 1 = .ok (.invokespecial 3, 3) := by decide +kernel
theorem dX7_init_4 : decode cX7_init 4 = .ok (.aload_n 0, 1) := by decide +kernel
theorem dX7_init_5 : decode cX7_init 5 = .ok (.new 9, 3) := by decide +kernel
theorem dX7_init_8 : decode cX7_init 8 = .ok (.dup, 1) := by decide +kernel
theorem dX7_init_9 : decode cX7_init 9 = .ok (.invokespecial 11, 3) := by decide +kernel
theorem dX7_init_12 : decode cX7_init 12 = .ok (.putfield 12, 3) := by decide +kernel
theorem dX7_init_15 : decode cX7_init 15 = .ok (.aload_n 0, 1) := by decide +kernel
theorem dX7_init_16 : decode cX7_init 16 = .ok (.bipush 9, 2) := by decide +kernel
theorem dX7_init_18 : decode cX7_init 18 = .ok (.newarray .int, 2) := by decide +kernel
theorem dX7_init_20 : decode cX7_init 20 = .ok (.putfield 16, 3) := by decide +kernel
theorem dX7_init_23 : decode cX7_init 23 = .ok (.aload_n 0, 1) := by decide +kernel
theorem dX7_init_24 : decode cX7_init 24 = .ok (.new 20, 3) := by decide +kernel
theorem dX7_init_27 : decode cX7_init 27 = .ok (.dup, 1) := by decide +kernel
theorem dX7_init_28 : decode cX7_init 28 = .ok (.invokespecial 22, 3) := by decide +kernel
theorem dX7_init_31 : decode cX7_init 31 = .ok (.putfield 23, 3) := by decide +kernel
theorem dX7_init_34 : decode cX7_init 34 = .ok (.aload_n 0, 1) := by decide +kernel
theorem dX7_init_35 : decode cX7_init 35 = .ok (.new 20, 3) := by decide +kernel
theorem dX7_init_38 : decode cX7_init 38 = .ok (.dup, 1) := by decide +kernel
theorem dX7_init_39 : decode cX7_init 39 = .ok (.invokespecial 22, 3) := by decide +kernel
theorem dX7_init_42 : decode cX7_init 42 = .ok (.putfield 27, 3) := by decide +kernel
theorem dX7_init_45 : decode cX7_init 45 = .ok (.aload_n 0, 1) := by decide +kernel
theorem dX7_init_46 : decode cX7_init 46 = .ok (.new 30, 3) := by decide +kernel
theorem dX7_init_49 : decode cX7_init 49 = .ok (.dup, 1) := by decide +kernel
theorem dX7_init_50 : decode cX7_init 50 = .ok (.invokespecial 32, 3) := by decide +kernel
theorem dX7_init_53 : decode cX7_init 53 = .ok (.putfield 33, 3) := by decide +kernel
theorem dX7_init_56 : decode cX7_init 56 = .ok (.aload_n 0, 1) := by decide +kernel
theorem dX7_init_57 : decode cX7_init 57 = .ok (.new 37, 3) := by decide +kernel
theorem dX7_init_60 : decode cX7_init 60 = .ok (.dup, 1) := by decide +kernel
theorem dX7_init_61 : decode cX7_init 61 = .ok (.invokespecial 39, 3) := by decide +kernel
theorem dX7_init_64 : decode cX7_init 64 = .ok (.putfield 40, 3) := by decide +kernel
theorem dX7_init_67 : decode cX7_init 67 = .ok (.aload_n 0, 1) := by decide +kernel
theorem dX7_init_68 : decode cX7_init 68 = .ok (.new 44, 3) := by decide +kernel
theorem dX7_init_71 : decode cX7_init 71 = .ok (.dup, 1) := by decide +kernel
theorem dX7_init_72 : decode cX7_init 72 = .ok (.invokespecial 46, 3) := by decide +kernel
theorem dX7_init_75 : decode cX7_init 75 = .ok (.putfield 47, 3) := by decide +kernel
theorem dX7_init_78 : decode cX7_init 78 = .ok (.aload_n 0, 1) := by decide +kernel
theorem dX7_init_79 : decode cX7_init 79 = .ok (.new 51, 3) := by decide +kernel
theorem dX7_init_82 : decode cX7_init 82 = .ok (.dup, 1) := by decide +kernel
theorem dX7_init_83 : decode cX7_init 83 = .ok (.invokespecial 53, 3) := by decide +kernel
theorem dX7_init_86 : decode cX7_init 86 = .ok (.putfield 54, 3) := by decide +kernel
theorem dX7_init_89 : decode cX7_init 89 = .ok (.return_, 1) := by decide +kernel
theorem dX7_feed_0 : decode cX7_feed 0 = .ok (.aload_n 0, 1) := by decide +kernel
theorem dX7_feed_1 : decode cX7_feed 1 = .ok (.getfield 12, 3) := by decide +kernel
theorem dX7_feed_4 : decode cX7_feed 4 = .ok (.getfield 58, 3) := by decide +kernel
theorem dX7_feed_7 : decode cX7_feed 7 = .ok (.bipush 20, 2) := by decide +kernel
theorem dX7_feed_9 : decode cX7_feed 9 = .ok (.iadd, 1) := by decide +kernel
theorem dX7_feed_10 : decode cX7_feed 10 = .ok (.sipush 500, 3) := by decide +kernel
theorem dX7_feed_13 : decode cX7_feed 13 = .ok (.if_icmp .le 5, 3) := by decide +kernel
theorem dX7_feed_16 : decode cX7_feed 16 = .ok (.iconst (-1), 1) := by decide +kernel
theorem dX7_feed_17 : decode cX7_feed 17 = .ok (.ireturn, 1) := by decide +kernel
theorem dX7_feed_18 : decode cX7_feed 18 = .ok (.aload_n 0, 1) := by decide +kernel
theorem dX7_feed_19 : decode cX7_feed 19 = .ok (.getfield 12, 3) := by decide +kernel
theorem dX7_feed_22 : decode cX7_feed 22 = .ok (.iload_n 1, 1) := by decide +kernel
theorem dX7_feed_23 : decode cX7_feed 23 = .ok (.invokevirtual 62, 3) := by decide +kernel
theorem dX7_feed_26 : decode cX7_feed 26 = .ok (.aload_n 0, 1) := by decide +kernel
theorem dX7_feed_27 : decode cX7_feed 27 = .ok (.getfield 12, 3) := by decide +kernel
theorem dX7_feed_30 : decode cX7_feed 30 = .ok (.iload_n 2, 1) := by decide +kernel
theorem dX7_feed_31 : decode cX7_feed 31 = .ok (.invokevirtual 62, 3) := by decide +kernel
theorem dX7_feed_34 : decode cX7_feed 34 = .ok (.aload_n 0, 1) := by decide +kernel
theorem dX7_feed_35 : decode cX7_feed 35 = .ok (.getfield 12, 3) := by decide +kernel
theorem dX7_feed_38 : decode cX7_feed 38 = .ok (.iload_n 3, 1) := by decide +kernel
theorem dX7_feed_39 : decode cX7_feed 39 = .ok (.invokevirtual 62, 3) := by decide +kernel
theorem dX7_feed_42 : decode cX7_feed 42 = .ok (.aload_n 0, 1) := by decide +kernel
theorem dX7_feed_43 : decode cX7_feed 43 = .ok (.getfield 12, 3) := by decide +kernel
theorem dX7_feed_46 : decode cX7_feed 46 = .ok (.iload 4, 2) := by decide +kernel
theorem dX7_feed_48 : decode cX7_feed 48 = .ok (.invokevirtual 62, 3) := by decide +kernel
theorem dX7_feed_51 : decode cX7_feed 51 = .ok (.aload_n 0, 1) := by decide +kernel
theorem dX7_feed_52 : decode cX7_feed 52 = .ok (.getfield 12, 3) := by decide +kernel
theorem dX7_feed_55 : decode cX7_feed 55 = .ok (.iload 5, 2) := by decide +kernel
theorem dX7_feed_57 : decode cX7_feed 57 = .ok (.invokevirtual 62, 3) := by decide +kernel
theorem dX7_feed_60 : decode cX7_feed 60 = .ok (.aload_n 0, 1) := by decide +kernel
theorem dX7_feed_61 : decode cX7_feed 61 = .ok (.getfield 12, 3) := by decide +kernel
theorem dX7_feed_64 : decode cX7_feed 64 = .ok (.getfield 58, 3) := by decide +kernel
theorem dX7_feed_67 : decode cX7_feed 67 = .ok (.ireturn, 1) := by decide +kernel
theorem dX7_text_0 : decode cX7_text 0 = .ok (.aload_n 0, 1) := by decide +kernel
theorem dX7_text_1 : decode cX7_text 1 = .ok (.iload_n 1, 1) := by decide +kernel
theorem dX7_text_2 : decode cX7_text 2 = .ok (.iconst 0, 1) := by decide +kernel
theorem dX7_text_3 : decode cX7_text 3 = .ok (.aload_n 0, 1) := by decide +kernel
theorem dX7_text_4 : decode cX7_text 4 = .ok (.getfield 12, 3) := by decide +kernel
theorem dX7_text_7 : decode cX7_text 7 = .ok (.getfield 58, 3) := by decide +kernel
theorem dX7_text_10 : decode cX7_text 10 = .ok (.invokestatic 66, 3) := by decide +kernel
theorem dX7_text_13 : decode cX7_text 13 = .ok (.ifCond .eq 7, 3) := by decide +kernel
theorem dX7_text_16 : decode cX7_text 16 = .ok (.iconst 0, 1) := by decide +kernel
theorem dX7_text_17 : decode cX7_text 17 = .ok (.goto 4, 3) := by decide +kernel
theorem dX7_text_20 : decode cX7_text 20 = .ok (.iconst 2, 1) := by decide +kernel
theorem dX7_text_21 : decode cX7_text 21 = .ok (.invokevirtual 70, 3) := by decide +kernel
theorem dX7_text_24 : decode cX7_text 24 = .ok (.ifCond .eq 5, 3) := by decide +kernel
theorem dX7_text_27 : decode cX7_text 27 = .ok (.iconst (-1), 1) := by decide +kernel
theorem dX7_text_28 : decode cX7_text 28 = .ok (.ireturn, 1) := by decide +kernel
theorem dX7_text_29 : decode cX7_text 29 = .ok (.aload_n 0, 1) := by decide +kernel
theorem dX7_text_30 : decode cX7_text 30 = .ok (.aload_n 0, 1) := by decide +kernel
theorem dX7_text_31 : decode cX7_text 31 = .ok (.getfield 12, 3) := by decide +kernel
theorem dX7_text_34 : decode cX7_text 34 = .ok (.iload_n 1, 1) := by decide +kernel
theorem dX7_text_35 : decode cX7_text 35 = .ok (.invokevirtual 74, 3) := by decide +kernel
theorem dX7_text_38 : decode cX7_text 38 = .ok (.putfield 78, 3) := by decide +kernel
theorem dX7_text_41 : decode cX7_text 41 = .ok (.aload_n 0, 1) := by decide +kernel
theorem dX7_text_42 : decode cX7_text 42 = .ok (.aload_n 0, 1) := by decide +kernel
theorem dX7_text_43 : decode cX7_text 43 = .ok (.getfield 12, 3) := by decide +kernel
theorem dX7_text_46 : decode cX7_text 46 = .ok (.getfield 81, 3) := by decide +kernel
theorem dX7_text_49 : decode cX7_text 49 = .ok (.putfield 84, 3) := by decide +kernel
theorem dX7_text_52 : decode cX7_text 52 = .ok (.aload_n 0, 1) := by decide +kernel
theorem dX7_text_53 : decode cX7_text 53 = .ok (.getfield 12, 3) := by decide +kernel
theorem dX7_text_56 : decode cX7_text 56 = .ok (.iconst 0, 1) := by decide +kernel
theorem dX7_text_57 : decode cX7_text 57 = .ok (.putfield 58, 3) := by decide +kernel
theorem dX7_text_60 : decode cX7_text 60 = .ok (.aload_n 0, 1) := by decide +kernel
theorem dX7_text_61 : decode cX7_text 61 = .ok (.aload_n 0, 1) := by decide +kernel
theorem dX7_text_62 : decode cX7_text 62 = .ok (.getfield 78, 3) := by decide +kernel
theorem dX7_text_65 : decode cX7_text 65 = .ok (.ifCond .ne 7, 3) := by decide +kernel
theorem dX7_text_68 : decode cX7_text 68 = .ok (.iconst 0, 1) := by decide +kernel
theorem dX7_text_69 : decode cX7_text 69 = .ok (.goto 4, 3) := by decide +kernel
theorem dX7_text_72 : decode cX7_text 72 = .ok (.iconst 4, 1) := by decide +kernel
theorem dX7_text_73 : decode cX7_text 73 = .ok (.invokevirtual 70, 3) := by decide +kernel
theorem dX7_text_76 : decode cX7_text 76 = .ok (.ifCond .eq 5, 3) := by decide +kernel
theorem dX7_text_79 : decode cX7_text 79 = .ok (.iconst (-1), 1) := by decide +kernel
theorem dX7_text_80 : decode cX7_text 80 = .ok (.ireturn, 1) := by decide +kernel
theorem dX7_text_81 : decode cX7_text 81 = .ok (.aload_n 0, 1) := by decide +kernel
theorem dX7_text_82 : decode cX7_text 82 = .ok (.getfield 12, 3) := by decide +kernel
theorem dX7_text_85 : decode cX7_text 85 = .ok (.getfield 87, 3) := by decide +kernel
theorem dX7_text_88 : decode cX7_text 88 = .ok (.iconst 0, 1) := by decide +kernel
theorem dX7_text_89 : decode cX7_text 89 = .ok (.aload_n 0, 1) := by decide +kernel
theorem dX7_text_90 : decode cX7_text 90 = .ok (.getfield 16, 3) := by decide +kernel
theorem dX7_text_93 : decode cX7_text 93 = .ok (.iconst 0, 1) := by decide +kernel
theorem dX7_text_94 : decode cX7_text 94 = .ok (.bipush 9, 2) := by decide +kernel
theorem dX7_text_96 : decode cX7_text 96 = .ok (.invokestatic 88, 3) := by decide +kernel
theorem dX7_text_99 : decode cX7_text 99 = .ok (.aload_n 0, 1) := by decide +kernel
theorem dX7_text_100 : decode cX7_text 100 = .ok (.getfield 23, 3) := by decide +kernel
theorem dX7_text_103 : decode cX7_text 103 = .ok (.aload_n 0, 1) := by decide +kernel
theorem dX7_text_104 : decode cX7_text 104 = .ok (.getfield 12, 3) := by decide +kernel
theorem dX7_text_107 : decode cX7_text 107 = .ok (.invokevirtual 94, 3) := by decide +kernel
theorem dX7_text_110 : decode cX7_text 110 = .ok (.aload_n 0, 1) := by decide +kernel
theorem dX7_text_111 : decode cX7_text 111 = .ok (.getfield 33, 3) := by decide +kernel
theorem dX7_text_114 : decode cX7_text 114 = .ok (.invokevirtual 98, 3) := by decide +kernel
theorem dX7_text_117 : decode cX7_text 117 = .ok (.aload_n 0, 1) := by decide +kernel
theorem dX7_text_118 : decode cX7_text 118 = .ok (.invokevirtual 101, 3) := by decide +kernel
theorem dX7_text_121 : decode cX7_text 121 = .ok (.aload_n 0, 1) := by decide +kernel
theorem dX7_text_122 : decode cX7_text 122 = .ok (.getfield 23, 3) := by decide +kernel
theorem dX7_text_125 : decode cX7_text 125 = .ok (.getfield 104, 3) := by decide +kernel
theorem dX7_text_128 : decode cX7_text 128 = .ok (.ireturn, 1) := by decide +kernel
theorem dX7_fault_0 : decode cX7_fault 0 = .ok (.aload_n 0, 1) := by decide +kernel
theorem dX7_fault_1 : decode cX7_fault 1 = .ok (.getfield 78, 3) := by decide +kernel
theorem dX7_fault_4 : decode cX7_fault 4 = .ok (.ireturn, 1) := by decide +kernel
theorem dX7_where_0 : decode cX7_where 0 = .ok (.aload_n 0, 1) := by decide +kernel
theorem dX7_where_1 : decode cX7_where 1 = .ok (.getfield 107, 3) := by decide +kernel
theorem dX7_where_4 : decode cX7_where 4 = .ok (.iconst 4, 1) := by decide +kernel
theorem dX7_where_5 : decode cX7_where 5 = .ok (.if_icmp .ne 10, 3) := by decide +kernel
theorem dX7_where_8 : decode cX7_where 8 = .ok (.aload_n 0, 1) := by decide +kernel
theorem dX7_where_9 : decode cX7_where 9 = .ok (.getfield 84, 3) := by decide +kernel
theorem dX7_where_12 : decode cX7_where 12 = .ok (.goto 4, 3) := by decide +kernel
theorem dX7_where_15 : decode cX7_where 15 = .ok (.iconst (-1), 1) := by decide +kernel
theorem dX7_where_16 : decode cX7_where 16 = .ok (.ireturn, 1) := by decide +kernel
theorem dX7_about_0 : decode cX7_about 0 = .ok (.aload_n 0, 1) := by decide +kernel
theorem dX7_about_1 : decode cX7_about 1 = .ok (.aload_n 0, 1) := by decide +kernel
theorem dX7_about_2 : decode cX7_about 2 = .ok (.invokevirtual 110, 3) := by decide +kernel
theorem dX7_about_5 : decode cX7_about 5 = .ok (.ifCond .eq 17, 3) := by decide +kernel
theorem dX7_about_8 : decode cX7_about 8 = .ok (.iload_n 1, 1) := by decide +kernel
theorem dX7_about_9 : decode cX7_about 9 = .ok (.iconst 0, 1) := by decide +kernel
theorem dX7_about_10 : decode cX7_about 10 = .ok (.bipush 8, 2) := by decide +kernel
theorem dX7_about_12 : decode cX7_about 12 = .ok (.invokestatic 66, 3) := by decide +kernel
theorem dX7_about_15 : decode cX7_about 15 = .ok (.ifCond .eq 7, 3) := by decide +kernel
theorem dX7_about_18 : decode cX7_about 18 = .ok (.iconst 0, 1) := by decide +kernel
theorem dX7_about_19 : decode cX7_about 19 = .ok (.goto 4, 3) := by decide +kernel
theorem dX7_about_22 : decode cX7_about 22 = .ok (.iconst 1, 1) := by decide +kernel
theorem dX7_about_23 : decode cX7_about 23 = .ok (.invokevirtual 70, 3) := by decide +kernel
theorem dX7_about_26 : decode cX7_about 26 = .ok (.ifCond .eq 5, 3) := by decide +kernel
theorem dX7_about_29 : decode cX7_about 29 = .ok (.iconst (-1), 1) := by decide +kernel
theorem dX7_about_30 : decode cX7_about 30 = .ok (.ireturn, 1) := by decide +kernel
theorem dX7_about_31 : decode cX7_about 31 = .ok (.iload_n 1, 1) := by decide +kernel
theorem dX7_about_32 : decode cX7_about 32 = .ok (.tableswitch 118 0 7 #[48, 56, 64, 75, 86, 94, 102, 110], 48) := by decide +kernel
theorem dX7_about_80 : decode cX7_about 80 = .ok (.aload_n 0, 1) := by decide +kernel
theorem dX7_about_81 : decode cX7_about 81 = .ok (.getfield 23, 3) := by decide +kernel
theorem dX7_about_84 : decode cX7_about 84 = .ok (.getfield 104, 3) := by decide +kernel
theorem dX7_about_87 : decode cX7_about 87 = .ok (.ireturn, 1) := by decide +kernel
theorem dX7_about_88 : decode cX7_about 88 = .ok (.aload_n 0, 1) := by decide +kernel
theorem dX7_about_89 : decode cX7_about 89 = .ok (.getfield 23, 3) := by decide +kernel
theorem dX7_about_92 : decode cX7_about 92 = .ok (.getfield 114, 3) := by decide +kernel
theorem dX7_about_95 : decode cX7_about 95 = .ok (.ireturn, 1) := by decide +kernel
theorem dX7_about_96 : decode cX7_about 96 = .ok (.aload_n 0, 1) := by decide +kernel
theorem dX7_about_97 : decode cX7_about 97 = .ok (.getfield 23, 3) := by decide +kernel
theorem dX7_about_100 : decode cX7_about 100 = .ok (.getfield 117, 3) := by decide +kernel
theorem dX7_about_103 : decode cX7_about 103 = .ok (.invokestatic 120, 3) := by decide +kernel
theorem dX7_about_106 : decode cX7_about 106 = .ok (.ireturn, 1) := by decide +kernel
theorem dX7_about_107 : decode cX7_about 107 = .ok (.aload_n 0, 1) := by decide +kernel
theorem dX7_about_108 : decode cX7_about 108 = .ok (.getfield 23, 3) := by decide +kernel
theorem dX7_about_111 : decode cX7_about 111 = .ok (.getfield 117, 3) := by decide +kernel
theorem dX7_about_114 : decode cX7_about 114 = .ok (.invokestatic 123, 3) := by decide +kernel
theorem dX7_about_117 : decode cX7_about 117 = .ok (.ireturn, 1) := by decide +kernel
theorem dX7_about_118 : decode cX7_about 118 = .ok (.aload_n 0, 1) := by decide +kernel
theorem dX7_about_119 : decode cX7_about 119 = .ok (.getfield 23, 3) := by decide +kernel
theorem dX7_about_122 : decode cX7_about 122 = .ok (.getfield 126, 3) := by decide +kernel
theorem dX7_about_125 : decode cX7_about 125 = .ok (.ireturn, 1) := by decide +kernel
theorem dX7_about_126 : decode cX7_about 126 = .ok (.aload_n 0, 1) := by decide +kernel
theorem dX7_about_127 : decode cX7_about 127 = .ok (.getfield 23, 3) := by decide +kernel
theorem dX7_about_130 : decode cX7_about 130 = .ok (.getfield 129, 3) := by decide +kernel
theorem dX7_about_133 : decode cX7_about 133 = .ok (.ireturn, 1) := by decide +kernel
theorem dX7_about_134 : decode cX7_about 134 = .ok (.aload_n 0, 1) := by decide +kernel
theorem dX7_about_135 : decode cX7_about 135 = .ok (.getfield 23, 3) := by decide +kernel
theorem dX7_about_138 : decode cX7_about 138 = .ok (.getfield 132, 3) := by decide +kernel
theorem dX7_about_141 : decode cX7_about 141 = .ok (.ireturn, 1) := by decide +kernel
theorem dX7_about_142 : decode cX7_about 142 = .ok (.aload_n 0, 1) := by decide +kernel
theorem dX7_about_143 : decode cX7_about 143 = .ok (.getfield 23, 3) := by decide +kernel
theorem dX7_about_146 : decode cX7_about 146 = .ok (.getfield 135, 3) := by decide +kernel
theorem dX7_about_149 : decode cX7_about 149 = .ok (.ireturn, 1) := by decide +kernel
theorem dX7_about_150 : decode cX7_about 150 = .ok (.aload_n 0, 1) := by decide +kernel
theorem dX7_about_151 : decode cX7_about 151 = .ok (.getfield 33, 3) := by decide +kernel
theorem dX7_about_154 : decode cX7_about 154 = .ok (.getfield 138, 3) := by decide +kernel
theorem dX7_about_157 : decode cX7_about 157 = .ok (.ireturn, 1) := by decide +kernel
theorem dX7_rule_0 : decode cX7_rule 0 = .ok (.aload_n 0, 1) := by decide +kernel
theorem dX7_rule_1 : decode cX7_rule 1 = .ok (.aload_n 0, 1) := by decide +kernel
theorem dX7_rule_2 : decode cX7_rule 2 = .ok (.invokevirtual 110, 3) := by decide +kernel
theorem dX7_rule_5 : decode cX7_rule 5 = .ok (.ifCond .eq 16, 3) := by decide +kernel
theorem dX7_rule_8 : decode cX7_rule 8 = .ok (.iload_n 1, 1) := by decide +kernel
theorem dX7_rule_9 : decode cX7_rule 9 = .ok (.iconst 0, 1) := by decide +kernel
theorem dX7_rule_10 : decode cX7_rule 10 = .ok (.iconst 4, 1) := by decide +kernel
theorem dX7_rule_11 : decode cX7_rule 11 = .ok (.invokestatic 66, 3) := by decide +kernel
theorem dX7_rule_14 : decode cX7_rule 14 = .ok (.ifCond .eq 7, 3) := by decide +kernel
theorem dX7_rule_17 : decode cX7_rule 17 = .ok (.iconst 0, 1) := by decide +kernel
theorem dX7_rule_18 : decode cX7_rule 18 = .ok (.goto 4, 3) := by decide +kernel
theorem dX7_rule_21 : decode cX7_rule 21 = .ok (.iconst 1, 1) := by decide +kernel
theorem dX7_rule_22 : decode cX7_rule 22 = .ok (.invokevirtual 70, 3) := by decide +kernel
theorem dX7_rule_25 : decode cX7_rule 25 = .ok (.ifCond .eq 5, 3) := by decide +kernel
theorem dX7_rule_28 : decode cX7_rule 28 = .ok (.iconst (-1), 1) := by decide +kernel
theorem dX7_rule_29 : decode cX7_rule 29 = .ok (.ireturn, 1) := by decide +kernel
theorem dX7_rule_30 : decode cX7_rule 30 = .ok (.aload_n 0, 1) := by decide +kernel
theorem dX7_rule_31 : decode cX7_rule 31 = .ok (.getfield 23, 3) := by decide +kernel
theorem dX7_rule_34 : decode cX7_rule 34 = .ok (.iload_n 1, 1) := by decide +kernel
theorem dX7_rule_35 : decode cX7_rule 35 = .ok (.invokevirtual 139, 3) := by decide +kernel
theorem dX7_rule_38 : decode cX7_rule 38 = .ok (.ireturn, 1) := by decide +kernel
theorem dX7_batter_0 : decode cX7_batter 0 = .ok (.aload_n 0, 1) := by decide +kernel
theorem dX7_batter_1 : decode cX7_batter 1 = .ok (.aload_n 0, 1) := by decide +kernel
theorem dX7_batter_2 : decode cX7_batter 2 = .ok (.getfield 23, 3) := by decide +kernel
theorem dX7_batter_5 : decode cX7_batter 5 = .ok (.iload_n 1, 1) := by decide +kernel
theorem dX7_batter_6 : decode cX7_batter 6 = .ok (.invokevirtual 142, 3) := by decide +kernel
theorem dX7_batter_9 : decode cX7_batter 9 = .ok (.ifCond .eq 17, 3) := by decide +kernel
theorem dX7_batter_12 : decode cX7_batter 12 = .ok (.iload_n 2, 1) := by decide +kernel
theorem dX7_batter_13 : decode cX7_batter 13 = .ok (.iconst 0, 1) := by decide +kernel
theorem dX7_batter_14 : decode cX7_batter 14 = .ok (.bipush 8, 2) := by decide +kernel
theorem dX7_batter_16 : decode cX7_batter 16 = .ok (.invokestatic 66, 3) := by decide +kernel
theorem dX7_batter_19 : decode cX7_batter 19 = .ok (.ifCond .eq 7, 3) := by decide +kernel
theorem dX7_batter_22 : decode cX7_batter 22 = .ok (.iconst 0, 1) := by decide +kernel
theorem dX7_batter_23 : decode cX7_batter 23 = .ok (.goto 4, 3) := by decide +kernel
theorem dX7_batter_26 : decode cX7_batter 26 = .ok (.iconst 1, 1) := by decide +kernel
theorem dX7_batter_27 : decode cX7_batter 27 = .ok (.invokevirtual 70, 3) := by decide +kernel
theorem dX7_batter_30 : decode cX7_batter 30 = .ok (.ifCond .eq 5, 3) := by decide +kernel
theorem dX7_batter_33 : decode cX7_batter 33 = .ok (.iconst (-1), 1) := by decide +kernel
theorem dX7_batter_34 : decode cX7_batter 34 = .ok (.ireturn, 1) := by decide +kernel
theorem dX7_batter_35 : decode cX7_batter 35 = .ok (.iload_n 2, 1) := by decide +kernel
theorem dX7_batter_36 : decode cX7_batter 36 = .ok (.tableswitch 55 6 8 #[28, 37, 46], 28) := by decide +kernel
theorem dX7_batter_64 : decode cX7_batter 64 = .ok (.aload_n 0, 1) := by decide +kernel
theorem dX7_batter_65 : decode cX7_batter 65 = .ok (.getfield 23, 3) := by decide +kernel
theorem dX7_batter_68 : decode cX7_batter 68 = .ok (.iload_n 1, 1) := by decide +kernel
theorem dX7_batter_69 : decode cX7_batter 69 = .ok (.invokevirtual 145, 3) := by decide +kernel
theorem dX7_batter_72 : decode cX7_batter 72 = .ok (.ireturn, 1) := by decide +kernel
theorem dX7_batter_73 : decode cX7_batter 73 = .ok (.aload_n 0, 1) := by decide +kernel
theorem dX7_batter_74 : decode cX7_batter 74 = .ok (.getfield 23, 3) := by decide +kernel
theorem dX7_batter_77 : decode cX7_batter 77 = .ok (.iload_n 1, 1) := by decide +kernel
theorem dX7_batter_78 : decode cX7_batter 78 = .ok (.invokevirtual 148, 3) := by decide +kernel
theorem dX7_batter_81 : decode cX7_batter 81 = .ok (.ireturn, 1) := by decide +kernel
theorem dX7_batter_82 : decode cX7_batter 82 = .ok (.aload_n 0, 1) := by decide +kernel
theorem dX7_batter_83 : decode cX7_batter 83 = .ok (.getfield 23, 3) := by decide +kernel
theorem dX7_batter_86 : decode cX7_batter 86 = .ok (.iload_n 1, 1) := by decide +kernel
theorem dX7_batter_87 : decode cX7_batter 87 = .ok (.invokevirtual 151, 3) := by decide +kernel
theorem dX7_batter_90 : decode cX7_batter 90 = .ok (.ireturn, 1) := by decide +kernel
theorem dX7_batter_91 : decode cX7_batter 91 = .ok (.aload_n 0, 1) := by decide +kernel
theorem dX7_batter_92 : decode cX7_batter 92 = .ok (.getfield 23, 3) := by decide +kernel
theorem dX7_batter_95 : decode cX7_batter 95 = .ok (.iload_n 1, 1) := by decide +kernel
theorem dX7_batter_96 : decode cX7_batter 96 = .ok (.iload_n 2, 1) := by decide +kernel
theorem dX7_batter_97 : decode cX7_batter 97 = .ok (.invokevirtual 154, 3) := by decide +kernel
theorem dX7_batter_100 : decode cX7_batter 100 = .ok (.ireturn, 1) := by decide +kernel
theorem dX7_place_0 : decode cX7_place 0 = .ok (.aload_n 0, 1) := by decide +kernel
theorem dX7_place_1 : decode cX7_place 1 = .ok (.aload_n 0, 1) := by decide +kernel
theorem dX7_place_2 : decode cX7_place 2 = .ok (.getfield 23, 3) := by decide +kernel
theorem dX7_place_5 : decode cX7_place 5 = .ok (.iload_n 1, 1) := by decide +kernel
theorem dX7_place_6 : decode cX7_place 6 = .ok (.invokevirtual 158, 3) := by decide +kernel
theorem dX7_place_9 : decode cX7_place 9 = .ok (.ifCond .eq 7, 3) := by decide +kernel
theorem dX7_place_12 : decode cX7_place 12 = .ok (.iconst 0, 1) := by decide +kernel
theorem dX7_place_13 : decode cX7_place 13 = .ok (.goto 4, 3) := by decide +kernel
theorem dX7_place_16 : decode cX7_place 16 = .ok (.iconst 1, 1) := by decide +kernel
theorem dX7_place_17 : decode cX7_place 17 = .ok (.invokevirtual 70, 3) := by decide +kernel
theorem dX7_place_20 : decode cX7_place 20 = .ok (.ifCond .eq 7, 3) := by decide +kernel
theorem dX7_place_23 : decode cX7_place 23 = .ok (.iconst (-1), 1) := by decide +kernel
theorem dX7_place_24 : decode cX7_place 24 = .ok (.goto 11, 3) := by decide +kernel
theorem dX7_place_27 : decode cX7_place 27 = .ok (.aload_n 0, 1) := by decide +kernel
theorem dX7_place_28 : decode cX7_place 28 = .ok (.getfield 23, 3) := by decide +kernel
theorem dX7_place_31 : decode cX7_place 31 = .ok (.iload_n 1, 1) := by decide +kernel
theorem dX7_place_32 : decode cX7_place 32 = .ok (.invokevirtual 161, 3) := by decide +kernel
theorem dX7_place_35 : decode cX7_place 35 = .ok (.ireturn, 1) := by decide +kernel
theorem dX7_coming_0 : decode cX7_coming 0 = .ok (.aload_n 0, 1) := by decide +kernel
theorem dX7_coming_1 : decode cX7_coming 1 = .ok (.aload_n 0, 1) := by decide +kernel
theorem dX7_coming_2 : decode cX7_coming 2 = .ok (.invokevirtual 110, 3) := by decide +kernel
theorem dX7_coming_5 : decode cX7_coming 5 = .ok (.ifCond .eq 11, 3) := by decide +kernel
theorem dX7_coming_8 : decode cX7_coming 8 = .ok (.iload_n 1, 1) := by decide +kernel
theorem dX7_coming_9 : decode cX7_coming 9 = .ok (.ifCond .lt 7, 3) := by decide +kernel
theorem dX7_coming_12 : decode cX7_coming 12 = .ok (.iconst 0, 1) := by decide +kernel
theorem dX7_coming_13 : decode cX7_coming 13 = .ok (.goto 4, 3) := by decide +kernel
theorem dX7_coming_16 : decode cX7_coming 16 = .ok (.iconst 1, 1) := by decide +kernel
theorem dX7_coming_17 : decode cX7_coming 17 = .ok (.invokevirtual 70, 3) := by decide +kernel
theorem dX7_coming_20 : decode cX7_coming 20 = .ok (.ifCond .eq 7, 3) := by decide +kernel
theorem dX7_coming_23 : decode cX7_coming 23 = .ok (.iconst (-1), 1) := by decide +kernel
theorem dX7_coming_24 : decode cX7_coming 24 = .ok (.goto 11, 3) := by decide +kernel
theorem dX7_coming_27 : decode cX7_coming 27 = .ok (.aload_n 0, 1) := by decide +kernel
theorem dX7_coming_28 : decode cX7_coming 28 = .ok (.getfield 23, 3) := by decide +kernel
theorem dX7_coming_31 : decode cX7_coming 31 = .ok (.iload_n 1, 1) := by decide +kernel
theorem dX7_coming_32 : decode cX7_coming 32 = .ok (.invokevirtual 164, 3) := by decide +kernel
theorem dX7_coming_35 : decode cX7_coming 35 = .ok (.ireturn, 1) := by decide +kernel
theorem dX7_chance_0 : decode cX7_chance 0 = .ok (.aload_n 0, 1) := by decide +kernel
theorem dX7_chance_1 : decode cX7_chance 1 = .ok (.aload_n 0, 1) := by decide +kernel
theorem dX7_chance_2 : decode cX7_chance 2 = .ok (.getfield 23, 3) := by decide +kernel
theorem dX7_chance_5 : decode cX7_chance 5 = .ok (.iload_n 1, 1) := by decide +kernel
theorem dX7_chance_6 : decode cX7_chance 6 = .ok (.invokevirtual 142, 3) := by decide +kernel
theorem dX7_chance_9 : decode cX7_chance 9 = .ok (.ifCond .eq 10, 3) := by decide +kernel
theorem dX7_chance_12 : decode cX7_chance 12 = .ok (.iload_n 2, 1) := by decide +kernel
theorem dX7_chance_13 : decode cX7_chance 13 = .ok (.invokestatic 167, 3) := by decide +kernel
theorem dX7_chance_16 : decode cX7_chance 16 = .ok (.ifCond .ne 7, 3) := by decide +kernel
theorem dX7_chance_19 : decode cX7_chance 19 = .ok (.iconst 1, 1) := by decide +kernel
theorem dX7_chance_20 : decode cX7_chance 20 = .ok (.goto 19, 3) := by decide +kernel
theorem dX7_chance_23 : decode cX7_chance 23 = .ok (.iload_n 3, 1) := by decide +kernel
theorem dX7_chance_24 : decode cX7_chance 24 = .ok (.iconst 0, 1) := by decide +kernel
theorem dX7_chance_25 : decode cX7_chance 25 = .ok (.sipush 999, 3) := by decide +kernel
theorem dX7_chance_28 : decode cX7_chance 28 = .ok (.invokestatic 66, 3) := by decide +kernel
theorem dX7_chance_31 : decode cX7_chance 31 = .ok (.ifCond .eq 7, 3) := by decide +kernel
theorem dX7_chance_34 : decode cX7_chance 34 = .ok (.iconst 0, 1) := by decide +kernel
theorem dX7_chance_35 : decode cX7_chance 35 = .ok (.goto 4, 3) := by decide +kernel
theorem dX7_chance_38 : decode cX7_chance 38 = .ok (.iconst 2, 1) := by decide +kernel
theorem dX7_chance_39 : decode cX7_chance 39 = .ok (.invokevirtual 70, 3) := by decide +kernel
theorem dX7_chance_42 : decode cX7_chance 42 = .ok (.ifCond .eq 5, 3) := by decide +kernel
theorem dX7_chance_45 : decode cX7_chance 45 = .ok (.iconst (-1), 1) := by decide +kernel
theorem dX7_chance_46 : decode cX7_chance 46 = .ok (.ireturn, 1) := by decide +kernel
theorem dX7_chance_47 : decode cX7_chance 47 = .ok (.aload_n 0, 1) := by decide +kernel
theorem dX7_chance_48 : decode cX7_chance 48 = .ok (.getfield 23, 3) := by decide +kernel
theorem dX7_chance_51 : decode cX7_chance 51 = .ok (.iload_n 1, 1) := by decide +kernel
theorem dX7_chance_52 : decode cX7_chance 52 = .ok (.iload_n 2, 1) := by decide +kernel
theorem dX7_chance_53 : decode cX7_chance 53 = .ok (.iload_n 3, 1) := by decide +kernel
theorem dX7_chance_54 : decode cX7_chance 54 = .ok (.invokevirtual 170, 3) := by decide +kernel
theorem dX7_chance_57 : decode cX7_chance 57 = .ok (.ireturn, 1) := by decide +kernel
theorem dX7_after_0 : decode cX7_after 0 = .ok (.aload_n 0, 1) := by decide +kernel
theorem dX7_after_1 : decode cX7_after 1 = .ok (.aload_n 0, 1) := by decide +kernel
theorem dX7_after_2 : decode cX7_after 2 = .ok (.iload_n 1, 1) := by decide +kernel
theorem dX7_after_3 : decode cX7_after 3 = .ok (.iload_n 2, 1) := by decide +kernel
theorem dX7_after_4 : decode cX7_after 4 = .ok (.iload_n 3, 1) := by decide +kernel
theorem dX7_after_5 : decode cX7_after 5 = .ok (.iload 4, 2) := by decide +kernel
theorem dX7_after_7 : decode cX7_after 7 = .ok (.invokevirtual 174, 3) := by decide +kernel
theorem dX7_after_10 : decode cX7_after 10 = .ok (.invokevirtual 70, 3) := by decide +kernel
theorem dX7_after_13 : decode cX7_after 13 = .ok (.ifCond .eq 5, 3) := by decide +kernel
theorem dX7_after_16 : decode cX7_after 16 = .ok (.iconst (-1), 1) := by decide +kernel
theorem dX7_after_17 : decode cX7_after 17 = .ok (.ireturn, 1) := by decide +kernel
theorem dX7_after_18 : decode cX7_after 18 = .ok (.iload_n 1, 1) := by decide +kernel
theorem dX7_after_19 : decode cX7_after 19 = .ok (.iload_n 2, 1) := by decide +kernel
theorem dX7_after_20 : decode cX7_after 20 = .ok (.invokestatic 178, 3) := by decide +kernel
theorem dX7_after_23 : decode cX7_after 23 = .ok (.istore 5, 2) := by decide +kernel
theorem dX7_after_25 : decode cX7_after 25 = .ok (.iload 4, 2) := by decide +kernel
theorem dX7_after_27 : decode cX7_after 27 = .ok (.lookupswitch 59 #[(0, 25), (1, 42)], 25) := by decide +kernel
theorem dX7_after_52 : decode cX7_after 52 = .ok (.aload_n 0, 1) := by decide +kernel
theorem dX7_after_53 : decode cX7_after 53 = .ok (.getfield 40, 3) := by decide +kernel
theorem dX7_after_56 : decode cX7_after 56 = .ok (.getfield 181, 3) := by decide +kernel
theorem dX7_after_59 : decode cX7_after 59 = .ok (.iload_n 3, 1) := by decide +kernel
theorem dX7_after_60 : decode cX7_after 60 = .ok (.iload 5, 2) := by decide +kernel
theorem dX7_after_62 : decode cX7_after 62 = .ok (.invokevirtual 185, 3) := by decide +kernel
theorem dX7_after_65 : decode cX7_after 65 = .ok (.invokestatic 120, 3) := by decide +kernel
theorem dX7_after_68 : decode cX7_after 68 = .ok (.ireturn, 1) := by decide +kernel
theorem dX7_after_69 : decode cX7_after 69 = .ok (.aload_n 0, 1) := by decide +kernel
theorem dX7_after_70 : decode cX7_after 70 = .ok (.getfield 40, 3) := by decide +kernel
theorem dX7_after_73 : decode cX7_after 73 = .ok (.getfield 181, 3) := by decide +kernel
theorem dX7_after_76 : decode cX7_after 76 = .ok (.iload_n 3, 1) := by decide +kernel
theorem dX7_after_77 : decode cX7_after 77 = .ok (.iload 5, 2) := by decide +kernel
theorem dX7_after_79 : decode cX7_after 79 = .ok (.invokevirtual 185, 3) := by decide +kernel
theorem dX7_after_82 : decode cX7_after 82 = .ok (.invokestatic 123, 3) := by decide +kernel
theorem dX7_after_85 : decode cX7_after 85 = .ok (.ireturn, 1) := by decide +kernel
theorem dX7_after_86 : decode cX7_after 86 = .ok (.aload_n 0, 1) := by decide +kernel
theorem dX7_after_87 : decode cX7_after 87 = .ok (.getfield 40, 3) := by decide +kernel
theorem dX7_after_90 : decode cX7_after 90 = .ok (.getfield 181, 3) := by decide +kernel
theorem dX7_after_93 : decode cX7_after 93 = .ok (.iload_n 3, 1) := by decide +kernel
theorem dX7_after_94 : decode cX7_after 94 = .ok (.iload 5, 2) := by decide +kernel
theorem dX7_after_96 : decode cX7_after 96 = .ok (.invokevirtual 190, 3) := by decide +kernel
theorem dX7_after_99 : decode cX7_after 99 = .ok (.ireturn, 1) := by decide +kernel
theorem dX7_troubleOfAfter_0 : decode cX7_troubleOfAfter 0 = .ok (.aload_n 0, 1) := by decide +kernel
theorem dX7_troubleOfAfter_1 : decode cX7_troubleOfAfter 1 = .ok (.invokevirtual 110, 3) := by decide +kernel
theorem dX7_troubleOfAfter_4 : decode cX7_troubleOfAfter 4 = .ok (.ifCond .eq 23, 3) := by decide +kernel
theorem dX7_troubleOfAfter_7 : decode cX7_troubleOfAfter 7 = .ok (.iload_n 3, 1) := by decide +kernel
theorem dX7_troubleOfAfter_8 : decode cX7_troubleOfAfter 8 = .ok (.iconst 0, 1) := by decide +kernel
theorem dX7_troubleOfAfter_9 : decode cX7_troubleOfAfter 9 = .ok (.bipush 8, 2) := by decide +kernel
theorem dX7_troubleOfAfter_11 : decode cX7_troubleOfAfter 11 = .ok (.invokestatic 66, 3) := by decide +kernel
theorem dX7_troubleOfAfter_14 : decode cX7_troubleOfAfter 14 = .ok (.ifCond .eq 13, 3) := by decide +kernel
theorem dX7_troubleOfAfter_17 : decode cX7_troubleOfAfter 17 = .ok (.iload 4, 2) := by decide +kernel
theorem dX7_troubleOfAfter_19 : decode cX7_troubleOfAfter 19 = .ok (.iconst 0, 1) := by decide +kernel
theorem dX7_troubleOfAfter_20 : decode cX7_troubleOfAfter 20 = .ok (.iconst 2, 1) := by decide +kernel
theorem dX7_troubleOfAfter_21 : decode cX7_troubleOfAfter 21 = .ok (.invokestatic 66, 3) := by decide +kernel
theorem dX7_troubleOfAfter_24 : decode cX7_troubleOfAfter 24 = .ok (.ifCond .ne 5, 3) := by decide +kernel
theorem dX7_troubleOfAfter_27 : decode cX7_troubleOfAfter 27 = .ok (.iconst 1, 1) := by decide +kernel
theorem dX7_troubleOfAfter_28 : decode cX7_troubleOfAfter 28 = .ok (.ireturn, 1) := by decide +kernel
theorem dX7_troubleOfAfter_29 : decode cX7_troubleOfAfter 29 = .ok (.iload_n 1, 1) := by decide +kernel
theorem dX7_troubleOfAfter_30 : decode cX7_troubleOfAfter 30 = .ok (.iload_n 2, 1) := by decide +kernel
theorem dX7_troubleOfAfter_31 : decode cX7_troubleOfAfter 31 = .ok (.invokestatic 193, 3) := by decide +kernel
theorem dX7_troubleOfAfter_34 : decode cX7_troubleOfAfter 34 = .ok (.ifCond .ne 5, 3) := by decide +kernel
theorem dX7_troubleOfAfter_37 : decode cX7_troubleOfAfter 37 = .ok (.iconst 2, 1) := by decide +kernel
theorem dX7_troubleOfAfter_38 : decode cX7_troubleOfAfter 38 = .ok (.ireturn, 1) := by decide +kernel
theorem dX7_troubleOfAfter_39 : decode cX7_troubleOfAfter 39 = .ok (.aload_n 0, 1) := by decide +kernel
theorem dX7_troubleOfAfter_40 : decode cX7_troubleOfAfter 40 = .ok (.getfield 40, 3) := by decide +kernel
theorem dX7_troubleOfAfter_43 : decode cX7_troubleOfAfter 43 = .ok (.getfield 181, 3) := by decide +kernel
theorem dX7_troubleOfAfter_46 : decode cX7_troubleOfAfter 46 = .ok (.iload_n 3, 1) := by decide +kernel
theorem dX7_troubleOfAfter_47 : decode cX7_troubleOfAfter 47 = .ok (.iload_n 1, 1) := by decide +kernel
theorem dX7_troubleOfAfter_48 : decode cX7_troubleOfAfter 48 = .ok (.iload_n 2, 1) := by decide +kernel
theorem dX7_troubleOfAfter_49 : decode cX7_troubleOfAfter 49 = .ok (.invokestatic 178, 3) := by decide +kernel
theorem dX7_troubleOfAfter_52 : decode cX7_troubleOfAfter 52 = .ok (.invokevirtual 197, 3) := by decide +kernel
theorem dX7_troubleOfAfter_55 : decode cX7_troubleOfAfter 55 = .ok (.ifCond .eq 7, 3) := by decide +kernel
theorem dX7_troubleOfAfter_58 : decode cX7_troubleOfAfter 58 = .ok (.iconst 0, 1) := by decide +kernel
theorem dX7_troubleOfAfter_59 : decode cX7_troubleOfAfter 59 = .ok (.goto 4, 3) := by decide +kernel
theorem dX7_troubleOfAfter_62 : decode cX7_troubleOfAfter 62 = .ok (.iconst 5, 1) := by decide +kernel
theorem dX7_troubleOfAfter_63 : decode cX7_troubleOfAfter 63 = .ok (.ireturn, 1) := by decide +kernel
theorem dX7_plain_0 : decode cX7_plain 0 = .ok (.aload_n 0, 1) := by decide +kernel
theorem dX7_plain_1 : decode cX7_plain 1 = .ok (.aload_n 0, 1) := by decide +kernel
theorem dX7_plain_2 : decode cX7_plain 2 = .ok (.iload 4, 2) := by decide +kernel
theorem dX7_plain_4 : decode cX7_plain 4 = .ok (.invokestatic 200, 3) := by decide +kernel
theorem dX7_plain_7 : decode cX7_plain 7 = .ok (.iload_n 1, 1) := by decide +kernel
theorem dX7_plain_8 : decode cX7_plain 8 = .ok (.iload_n 2, 1) := by decide +kernel
theorem dX7_plain_9 : decode cX7_plain 9 = .ok (.iload_n 3, 1) := by decide +kernel
theorem dX7_plain_10 : decode cX7_plain 10 = .ok (.invokevirtual 203, 3) := by decide +kernel
theorem dX7_plain_13 : decode cX7_plain 13 = .ok (.invokevirtual 70, 3) := by decide +kernel
theorem dX7_plain_16 : decode cX7_plain 16 = .ok (.ifCond .eq 7, 3) := by decide +kernel
theorem dX7_plain_19 : decode cX7_plain 19 = .ok (.ldc2_w 207, 3) := by decide +kernel
theorem dX7_plain_22 : decode cX7_plain 22 = .ok (.lreturn, 1) := by decide +kernel
theorem dX7_plain_23 : decode cX7_plain 23 = .ok (.aload_n 0, 1) := by decide +kernel
theorem dX7_plain_24 : decode cX7_plain 24 = .ok (.getfield 40, 3) := by decide +kernel
theorem dX7_plain_27 : decode cX7_plain 27 = .ok (.aload_n 0, 1) := by decide +kernel
theorem dX7_plain_28 : decode cX7_plain 28 = .ok (.getfield 23, 3) := by decide +kernel
theorem dX7_plain_31 : decode cX7_plain 31 = .ok (.aload_n 0, 1) := by decide +kernel
theorem dX7_plain_32 : decode cX7_plain 32 = .ok (.getfield 23, 3) := by decide +kernel
theorem dX7_plain_35 : decode cX7_plain 35 = .ok (.aload_n 0, 1) := by decide +kernel
theorem dX7_plain_36 : decode cX7_plain 36 = .ok (.getfield 23, 3) := by decide +kernel
theorem dX7_plain_39 : decode cX7_plain 39 = .ok (.getfield 129, 3) := by decide +kernel
theorem dX7_plain_42 : decode cX7_plain 42 = .ok (.invokevirtual 145, 3) := by decide +kernel
theorem dX7_plain_45 : decode cX7_plain 45 = .ok (.aload_n 0, 1) := by decide +kernel
theorem dX7_plain_46 : decode cX7_plain 46 = .ok (.getfield 23, 3) := by decide +kernel
theorem dX7_plain_49 : decode cX7_plain 49 = .ok (.getfield 132, 3) := by decide +kernel
theorem dX7_plain_52 : decode cX7_plain 52 = .ok (.iload_n 3, 1) := by decide +kernel
theorem dX7_plain_53 : decode cX7_plain 53 = .ok (.iload_n 1, 1) := by decide +kernel
theorem dX7_plain_54 : decode cX7_plain 54 = .ok (.iload_n 2, 1) := by decide +kernel
theorem dX7_plain_55 : decode cX7_plain 55 = .ok (.invokestatic 178, 3) := by decide +kernel
theorem dX7_plain_58 : decode cX7_plain 58 = .ok (.invokevirtual 209, 3) := by decide +kernel
theorem dX7_plain_61 : decode cX7_plain 61 = .ok (.lstore 5, 2) := by decide +kernel
theorem dX7_plain_63 : decode cX7_plain 63 = .ok (.lload 5, 2) := by decide +kernel
theorem dX7_plain_65 : decode cX7_plain 65 = .ok (.aload_n 0, 1) := by decide +kernel
theorem dX7_plain_66 : decode cX7_plain 66 = .ok (.getfield 40, 3) := by decide +kernel
theorem dX7_plain_69 : decode cX7_plain 69 = .ok (.iload_n 3, 1) := by decide +kernel
theorem dX7_plain_70 : decode cX7_plain 70 = .ok (.invokevirtual 213, 3) := by decide +kernel
theorem dX7_plain_73 : decode cX7_plain 73 = .ok (.iload 4, 2) := by decide +kernel
theorem dX7_plain_75 : decode cX7_plain 75 = .ok (.invokestatic 217, 3) := by decide +kernel
theorem dX7_plain_78 : decode cX7_plain 78 = .ok (.lreturn, 1) := by decide +kernel
theorem dX7_any_0 : decode cX7_any 0 = .ok (.aload_n 0, 1) := by decide +kernel
theorem dX7_any_1 : decode cX7_any 1 = .ok (.aload_n 0, 1) := by decide +kernel
theorem dX7_any_2 : decode cX7_any 2 = .ok (.iload 4, 2) := by decide +kernel
theorem dX7_any_4 : decode cX7_any 4 = .ok (.invokestatic 200, 3) := by decide +kernel
theorem dX7_any_7 : decode cX7_any 7 = .ok (.iload_n 1, 1) := by decide +kernel
theorem dX7_any_8 : decode cX7_any 8 = .ok (.iload_n 2, 1) := by decide +kernel
theorem dX7_any_9 : decode cX7_any 9 = .ok (.iload_n 3, 1) := by decide +kernel
theorem dX7_any_10 : decode cX7_any 10 = .ok (.invokevirtual 203, 3) := by decide +kernel
theorem dX7_any_13 : decode cX7_any 13 = .ok (.invokevirtual 70, 3) := by decide +kernel
theorem dX7_any_16 : decode cX7_any 16 = .ok (.ifCond .eq 7, 3) := by decide +kernel
theorem dX7_any_19 : decode cX7_any 19 = .ok (.ldc2_w 207, 3) := by decide +kernel
theorem dX7_any_22 : decode cX7_any 22 = .ok (.lreturn, 1) := by decide +kernel
theorem dX7_any_23 : decode cX7_any 23 = .ok (.aload_n 0, 1) := by decide +kernel
theorem dX7_any_24 : decode cX7_any 24 = .ok (.getfield 40, 3) := by decide +kernel
theorem dX7_any_27 : decode cX7_any 27 = .ok (.aload_n 0, 1) := by decide +kernel
theorem dX7_any_28 : decode cX7_any 28 = .ok (.getfield 23, 3) := by decide +kernel
theorem dX7_any_31 : decode cX7_any 31 = .ok (.aload_n 0, 1) := by decide +kernel
theorem dX7_any_32 : decode cX7_any 32 = .ok (.getfield 23, 3) := by decide +kernel
theorem dX7_any_35 : decode cX7_any 35 = .ok (.aload_n 0, 1) := by decide +kernel
theorem dX7_any_36 : decode cX7_any 36 = .ok (.getfield 23, 3) := by decide +kernel
theorem dX7_any_39 : decode cX7_any 39 = .ok (.getfield 129, 3) := by decide +kernel
theorem dX7_any_42 : decode cX7_any 42 = .ok (.invokevirtual 145, 3) := by decide +kernel
theorem dX7_any_45 : decode cX7_any 45 = .ok (.aload_n 0, 1) := by decide +kernel
theorem dX7_any_46 : decode cX7_any 46 = .ok (.getfield 23, 3) := by decide +kernel
theorem dX7_any_49 : decode cX7_any 49 = .ok (.getfield 132, 3) := by decide +kernel
theorem dX7_any_52 : decode cX7_any 52 = .ok (.iload_n 3, 1) := by decide +kernel
theorem dX7_any_53 : decode cX7_any 53 = .ok (.iload_n 1, 1) := by decide +kernel
theorem dX7_any_54 : decode cX7_any 54 = .ok (.iload_n 2, 1) := by decide +kernel
theorem dX7_any_55 : decode cX7_any 55 = .ok (.invokestatic 178, 3) := by decide +kernel
theorem dX7_any_58 : decode cX7_any 58 = .ok (.invokevirtual 221, 3) := by decide +kernel
theorem dX7_any_61 : decode cX7_any 61 = .ok (.lstore 5, 2) := by decide +kernel
theorem dX7_any_63 : decode cX7_any 63 = .ok (.lload 5, 2) := by decide +kernel
theorem dX7_any_65 : decode cX7_any 65 = .ok (.aload_n 0, 1) := by decide +kernel
theorem dX7_any_66 : decode cX7_any 66 = .ok (.getfield 40, 3) := by decide +kernel
theorem dX7_any_69 : decode cX7_any 69 = .ok (.iload_n 3, 1) := by decide +kernel
theorem dX7_any_70 : decode cX7_any 70 = .ok (.invokevirtual 213, 3) := by decide +kernel
theorem dX7_any_73 : decode cX7_any 73 = .ok (.iload 4, 2) := by decide +kernel
theorem dX7_any_75 : decode cX7_any 75 = .ok (.invokestatic 217, 3) := by decide +kernel
theorem dX7_any_78 : decode cX7_any 78 = .ok (.lreturn, 1) := by decide +kernel
theorem dX7_wise_0 : decode cX7_wise 0 = .ok (.aload_n 0, 1) := by decide +kernel
theorem dX7_wise_1 : decode cX7_wise 1 = .ok (.aload_n 0, 1) := by decide +kernel
theorem dX7_wise_2 : decode cX7_wise 2 = .ok (.iload 4, 2) := by decide +kernel
theorem dX7_wise_4 : decode cX7_wise 4 = .ok (.invokestatic 200, 3) := by decide +kernel
theorem dX7_wise_7 : decode cX7_wise 7 = .ok (.iload_n 1, 1) := by decide +kernel
theorem dX7_wise_8 : decode cX7_wise 8 = .ok (.iload_n 2, 1) := by decide +kernel
theorem dX7_wise_9 : decode cX7_wise 9 = .ok (.iload_n 3, 1) := by decide +kernel
theorem dX7_wise_10 : decode cX7_wise 10 = .ok (.invokevirtual 203, 3) := by decide +kernel
theorem dX7_wise_13 : decode cX7_wise 13 = .ok (.invokevirtual 70, 3) := by decide +kernel
theorem dX7_wise_16 : decode cX7_wise 16 = .ok (.ifCond .eq 7, 3) := by decide +kernel
theorem dX7_wise_19 : decode cX7_wise 19 = .ok (.ldc2_w 207, 3) := by decide +kernel
theorem dX7_wise_22 : decode cX7_wise 22 = .ok (.lreturn, 1) := by decide +kernel
theorem dX7_wise_23 : decode cX7_wise 23 = .ok (.aload_n 0, 1) := by decide +kernel
theorem dX7_wise_24 : decode cX7_wise 24 = .ok (.getfield 40, 3) := by decide +kernel
theorem dX7_wise_27 : decode cX7_wise 27 = .ok (.aload_n 0, 1) := by decide +kernel
theorem dX7_wise_28 : decode cX7_wise 28 = .ok (.getfield 23, 3) := by decide +kernel
theorem dX7_wise_31 : decode cX7_wise 31 = .ok (.iload_n 3, 1) := by decide +kernel
theorem dX7_wise_32 : decode cX7_wise 32 = .ok (.aload_n 0, 1) := by decide +kernel
theorem dX7_wise_33 : decode cX7_wise 33 = .ok (.getfield 23, 3) := by decide +kernel
theorem dX7_wise_36 : decode cX7_wise 36 = .ok (.iconst 3, 1) := by decide +kernel
theorem dX7_wise_37 : decode cX7_wise 37 = .ok (.invokevirtual 139, 3) := by decide +kernel
theorem dX7_wise_40 : decode cX7_wise 40 = .ok (.invokevirtual 224, 3) := by decide +kernel
theorem dX7_wise_43 : decode cX7_wise 43 = .ok (.iload_n 1, 1) := by decide +kernel
theorem dX7_wise_44 : decode cX7_wise 44 = .ok (.iload_n 2, 1) := by decide +kernel
theorem dX7_wise_45 : decode cX7_wise 45 = .ok (.invokestatic 178, 3) := by decide +kernel
theorem dX7_wise_48 : decode cX7_wise 48 = .ok (.istore 5, 2) := by decide +kernel
theorem dX7_wise_50 : decode cX7_wise 50 = .ok (.aload_n 0, 1) := by decide +kernel
theorem dX7_wise_51 : decode cX7_wise 51 = .ok (.getfield 40, 3) := by decide +kernel
theorem dX7_wise_54 : decode cX7_wise 54 = .ok (.aload_n 0, 1) := by decide +kernel
theorem dX7_wise_55 : decode cX7_wise 55 = .ok (.getfield 40, 3) := by decide +kernel
theorem dX7_wise_58 : decode cX7_wise 58 = .ok (.iload 5, 2) := by decide +kernel
theorem dX7_wise_60 : decode cX7_wise 60 = .ok (.invokevirtual 228, 3) := by decide +kernel
theorem dX7_wise_63 : decode cX7_wise 63 = .ok (.iload 5, 2) := by decide +kernel
theorem dX7_wise_65 : decode cX7_wise 65 = .ok (.invokevirtual 231, 3) := by decide +kernel
theorem dX7_wise_68 : decode cX7_wise 68 = .ok (.aload_n 0, 1) := by decide +kernel
theorem dX7_wise_69 : decode cX7_wise 69 = .ok (.getfield 40, 3) := by decide +kernel
theorem dX7_wise_72 : decode cX7_wise 72 = .ok (.iload_n 3, 1) := by decide +kernel
theorem dX7_wise_73 : decode cX7_wise 73 = .ok (.invokevirtual 213, 3) := by decide +kernel
theorem dX7_wise_76 : decode cX7_wise 76 = .ok (.iload 4, 2) := by decide +kernel
theorem dX7_wise_78 : decode cX7_wise 78 = .ok (.invokestatic 217, 3) := by decide +kernel
theorem dX7_wise_81 : decode cX7_wise 81 = .ok (.lreturn, 1) := by decide +kernel
theorem dX7_choice_0 : decode cX7_choice 0 = .ok (.aload_n 0, 1) := by decide +kernel
theorem dX7_choice_1 : decode cX7_choice 1 = .ok (.aload_n 0, 1) := by decide +kernel
theorem dX7_choice_2 : decode cX7_choice 2 = .ok (.iconst 1, 1) := by decide +kernel
theorem dX7_choice_3 : decode cX7_choice 3 = .ok (.iload_n 1, 1) := by decide +kernel
theorem dX7_choice_4 : decode cX7_choice 4 = .ok (.iload_n 2, 1) := by decide +kernel
theorem dX7_choice_5 : decode cX7_choice 5 = .ok (.iload_n 3, 1) := by decide +kernel
theorem dX7_choice_6 : decode cX7_choice 6 = .ok (.invokevirtual 203, 3) := by decide +kernel
theorem dX7_choice_9 : decode cX7_choice 9 = .ok (.invokevirtual 70, 3) := by decide +kernel
theorem dX7_choice_12 : decode cX7_choice 12 = .ok (.ifCond .eq 5, 3) := by decide +kernel
theorem dX7_choice_15 : decode cX7_choice 15 = .ok (.iconst (-1), 1) := by decide +kernel
theorem dX7_choice_16 : decode cX7_choice 16 = .ok (.ireturn, 1) := by decide +kernel
theorem dX7_choice_17 : decode cX7_choice 17 = .ok (.aload_n 0, 1) := by decide +kernel
theorem dX7_choice_18 : decode cX7_choice 18 = .ok (.getfield 40, 3) := by decide +kernel
theorem dX7_choice_21 : decode cX7_choice 21 = .ok (.aload_n 0, 1) := by decide +kernel
theorem dX7_choice_22 : decode cX7_choice 22 = .ok (.getfield 23, 3) := by decide +kernel
theorem dX7_choice_25 : decode cX7_choice 25 = .ok (.iload_n 3, 1) := by decide +kernel
theorem dX7_choice_26 : decode cX7_choice 26 = .ok (.aload_n 0, 1) := by decide +kernel
theorem dX7_choice_27 : decode cX7_choice 27 = .ok (.getfield 23, 3) := by decide +kernel
theorem dX7_choice_30 : decode cX7_choice 30 = .ok (.iconst 3, 1) := by decide +kernel
theorem dX7_choice_31 : decode cX7_choice 31 = .ok (.invokevirtual 139, 3) := by decide +kernel
theorem dX7_choice_34 : decode cX7_choice 34 = .ok (.invokevirtual 224, 3) := by decide +kernel
theorem dX7_choice_37 : decode cX7_choice 37 = .ok (.aload_n 0, 1) := by decide +kernel
theorem dX7_choice_38 : decode cX7_choice 38 = .ok (.getfield 40, 3) := by decide +kernel
theorem dX7_choice_41 : decode cX7_choice 41 = .ok (.iload_n 1, 1) := by decide +kernel
theorem dX7_choice_42 : decode cX7_choice 42 = .ok (.iload_n 2, 1) := by decide +kernel
theorem dX7_choice_43 : decode cX7_choice 43 = .ok (.invokestatic 178, 3) := by decide +kernel
theorem dX7_choice_46 : decode cX7_choice 46 = .ok (.invokevirtual 228, 3) := by decide +kernel
theorem dX7_choice_49 : decode cX7_choice 49 = .ok (.ireturn, 1) := by decide +kernel
theorem dX7_chosen_0 : decode cX7_chosen 0 = .ok (.aload_n 0, 1) := by decide +kernel
theorem dX7_chosen_1 : decode cX7_chosen 1 = .ok (.aload_n 0, 1) := by decide +kernel
theorem dX7_chosen_2 : decode cX7_chosen 2 = .ok (.iload 5, 2) := by decide +kernel
theorem dX7_chosen_4 : decode cX7_chosen 4 = .ok (.invokestatic 200, 3) := by decide +kernel
theorem dX7_chosen_7 : decode cX7_chosen 7 = .ok (.iload_n 1, 1) := by decide +kernel
theorem dX7_chosen_8 : decode cX7_chosen 8 = .ok (.iload_n 2, 1) := by decide +kernel
theorem dX7_chosen_9 : decode cX7_chosen 9 = .ok (.iload_n 3, 1) := by decide +kernel
theorem dX7_chosen_10 : decode cX7_chosen 10 = .ok (.iload 4, 2) := by decide +kernel
theorem dX7_chosen_12 : decode cX7_chosen 12 = .ok (.invokevirtual 235, 3) := by decide +kernel
theorem dX7_chosen_15 : decode cX7_chosen 15 = .ok (.invokevirtual 70, 3) := by decide +kernel
theorem dX7_chosen_18 : decode cX7_chosen 18 = .ok (.ifCond .eq 7, 3) := by decide +kernel
theorem dX7_chosen_21 : decode cX7_chosen 21 = .ok (.ldc2_w 207, 3) := by decide +kernel
theorem dX7_chosen_24 : decode cX7_chosen 24 = .ok (.lreturn, 1) := by decide +kernel
theorem dX7_chosen_25 : decode cX7_chosen 25 = .ok (.aload_n 0, 1) := by decide +kernel
theorem dX7_chosen_26 : decode cX7_chosen 26 = .ok (.getfield 40, 3) := by decide +kernel
theorem dX7_chosen_29 : decode cX7_chosen 29 = .ok (.aload_n 0, 1) := by decide +kernel
theorem dX7_chosen_30 : decode cX7_chosen 30 = .ok (.getfield 23, 3) := by decide +kernel
theorem dX7_chosen_33 : decode cX7_chosen 33 = .ok (.iload_n 3, 1) := by decide +kernel
theorem dX7_chosen_34 : decode cX7_chosen 34 = .ok (.aload_n 0, 1) := by decide +kernel
theorem dX7_chosen_35 : decode cX7_chosen 35 = .ok (.getfield 23, 3) := by decide +kernel
theorem dX7_chosen_38 : decode cX7_chosen 38 = .ok (.iconst 3, 1) := by decide +kernel
theorem dX7_chosen_39 : decode cX7_chosen 39 = .ok (.invokevirtual 139, 3) := by decide +kernel
theorem dX7_chosen_42 : decode cX7_chosen 42 = .ok (.invokevirtual 224, 3) := by decide +kernel
theorem dX7_chosen_45 : decode cX7_chosen 45 = .ok (.aload_n 0, 1) := by decide +kernel
theorem dX7_chosen_46 : decode cX7_chosen 46 = .ok (.getfield 40, 3) := by decide +kernel
theorem dX7_chosen_49 : decode cX7_chosen 49 = .ok (.iload 4, 2) := by decide +kernel
theorem dX7_chosen_51 : decode cX7_chosen 51 = .ok (.iload_n 1, 1) := by decide +kernel
theorem dX7_chosen_52 : decode cX7_chosen 52 = .ok (.iload_n 2, 1) := by decide +kernel
theorem dX7_chosen_53 : decode cX7_chosen 53 = .ok (.invokestatic 178, 3) := by decide +kernel
theorem dX7_chosen_56 : decode cX7_chosen 56 = .ok (.invokevirtual 231, 3) := by decide +kernel
theorem dX7_chosen_59 : decode cX7_chosen 59 = .ok (.aload_n 0, 1) := by decide +kernel
theorem dX7_chosen_60 : decode cX7_chosen 60 = .ok (.getfield 40, 3) := by decide +kernel
theorem dX7_chosen_63 : decode cX7_chosen 63 = .ok (.iload_n 3, 1) := by decide +kernel
theorem dX7_chosen_64 : decode cX7_chosen 64 = .ok (.invokevirtual 213, 3) := by decide +kernel
theorem dX7_chosen_67 : decode cX7_chosen 67 = .ok (.iload 5, 2) := by decide +kernel
theorem dX7_chosen_69 : decode cX7_chosen 69 = .ok (.invokestatic 217, 3) := by decide +kernel
theorem dX7_chosen_72 : decode cX7_chosen 72 = .ok (.lreturn, 1) := by decide +kernel
theorem dX7_breaksEven_0 : decode cX7_breaksEven 0 = .ok (.aload_n 0, 1) := by decide +kernel
theorem dX7_breaksEven_1 : decode cX7_breaksEven 1 = .ok (.aload_n 0, 1) := by decide +kernel
theorem dX7_breaksEven_2 : decode cX7_breaksEven 2 = .ok (.iconst 1, 1) := by decide +kernel
theorem dX7_breaksEven_3 : decode cX7_breaksEven 3 = .ok (.iload_n 1, 1) := by decide +kernel
theorem dX7_breaksEven_4 : decode cX7_breaksEven 4 = .ok (.iload_n 2, 1) := by decide +kernel
theorem dX7_breaksEven_5 : decode cX7_breaksEven 5 = .ok (.iload_n 3, 1) := by decide +kernel
theorem dX7_breaksEven_6 : decode cX7_breaksEven 6 = .ok (.iconst 2, 1) := by decide +kernel
theorem dX7_breaksEven_7 : decode cX7_breaksEven 7 = .ok (.invokevirtual 235, 3) := by decide +kernel
theorem dX7_breaksEven_10 : decode cX7_breaksEven 10 = .ok (.invokevirtual 70, 3) := by decide +kernel
theorem dX7_breaksEven_13 : decode cX7_breaksEven 13 = .ok (.ifCond .eq 5, 3) := by decide +kernel
theorem dX7_breaksEven_16 : decode cX7_breaksEven 16 = .ok (.iconst (-1), 1) := by decide +kernel
theorem dX7_breaksEven_17 : decode cX7_breaksEven 17 = .ok (.ireturn, 1) := by decide +kernel
theorem dX7_breaksEven_18 : decode cX7_breaksEven 18 = .ok (.iconst 0, 1) := by decide +kernel
theorem dX7_breaksEven_19 : decode cX7_breaksEven 19 = .ok (.istore 4, 2) := by decide +kernel
theorem dX7_breaksEven_21 : decode cX7_breaksEven 21 = .ok (.iload 4, 2) := by decide +kernel
theorem dX7_breaksEven_23 : decode cX7_breaksEven 23 = .ok (.bipush 20, 2) := by decide +kernel
theorem dX7_breaksEven_25 : decode cX7_breaksEven 25 = .ok (.if_icmp .gt 42, 3) := by decide +kernel
theorem dX7_breaksEven_28 : decode cX7_breaksEven 28 = .ok (.aload_n 0, 1) := by decide +kernel
theorem dX7_breaksEven_29 : decode cX7_breaksEven 29 = .ok (.getfield 40, 3) := by decide +kernel
theorem dX7_breaksEven_32 : decode cX7_breaksEven 32 = .ok (.aload_n 0, 1) := by decide +kernel
theorem dX7_breaksEven_33 : decode cX7_breaksEven 33 = .ok (.getfield 23, 3) := by decide +kernel
theorem dX7_breaksEven_36 : decode cX7_breaksEven 36 = .ok (.iload_n 3, 1) := by decide +kernel
theorem dX7_breaksEven_37 : decode cX7_breaksEven 37 = .ok (.iload 4, 2) := by decide +kernel
theorem dX7_breaksEven_39 : decode cX7_breaksEven 39 = .ok (.invokevirtual 224, 3) := by decide +kernel
theorem dX7_breaksEven_42 : decode cX7_breaksEven 42 = .ok (.aload_n 0, 1) := by decide +kernel
theorem dX7_breaksEven_43 : decode cX7_breaksEven 43 = .ok (.getfield 40, 3) := by decide +kernel
theorem dX7_breaksEven_46 : decode cX7_breaksEven 46 = .ok (.iload_n 1, 1) := by decide +kernel
theorem dX7_breaksEven_47 : decode cX7_breaksEven 47 = .ok (.iload_n 2, 1) := by decide +kernel
theorem dX7_breaksEven_48 : decode cX7_breaksEven 48 = .ok (.invokestatic 178, 3) := by decide +kernel
theorem dX7_breaksEven_51 : decode cX7_breaksEven 51 = .ok (.invokevirtual 228, 3) := by decide +kernel
theorem dX7_breaksEven_54 : decode cX7_breaksEven 54 = .ok (.iconst 2, 1) := by decide +kernel
theorem dX7_breaksEven_55 : decode cX7_breaksEven 55 = .ok (.if_icmp .ne 6, 3) := by decide +kernel
theorem dX7_breaksEven_58 : decode cX7_breaksEven 58 = .ok (.iload 4, 2) := by decide +kernel
theorem dX7_breaksEven_60 : decode cX7_breaksEven 60 = .ok (.ireturn, 1) := by decide +kernel
theorem dX7_breaksEven_61 : decode cX7_breaksEven 61 = .ok (.iinc 4 1, 3) := by decide +kernel
theorem dX7_breaksEven_64 : decode cX7_breaksEven 64 = .ok (.goto (-43), 3) := by decide +kernel
theorem dX7_breaksEven_67 : decode cX7_breaksEven 67 = .ok (.bipush (-2), 2) := by decide +kernel
theorem dX7_breaksEven_69 : decode cX7_breaksEven 69 = .ok (.ireturn, 1) := by decide +kernel
theorem dX7_table_0 : decode cX7_table 0 = .ok (.aload_n 0, 1) := by decide +kernel
theorem dX7_table_1 : decode cX7_table 1 = .ok (.aload_n 0, 1) := by decide +kernel
theorem dX7_table_2 : decode cX7_table 2 = .ok (.iload 4, 2) := by decide +kernel
theorem dX7_table_4 : decode cX7_table 4 = .ok (.invokestatic 200, 3) := by decide +kernel
theorem dX7_table_7 : decode cX7_table 7 = .ok (.iload_n 1, 1) := by decide +kernel
theorem dX7_table_8 : decode cX7_table 8 = .ok (.iload_n 2, 1) := by decide +kernel
theorem dX7_table_9 : decode cX7_table 9 = .ok (.iload_n 3, 1) := by decide +kernel
theorem dX7_table_10 : decode cX7_table 10 = .ok (.invokevirtual 203, 3) := by decide +kernel
theorem dX7_table_13 : decode cX7_table 13 = .ok (.invokevirtual 70, 3) := by decide +kernel
theorem dX7_table_16 : decode cX7_table 16 = .ok (.ifCond .eq 7, 3) := by decide +kernel
theorem dX7_table_19 : decode cX7_table 19 = .ok (.ldc2_w 207, 3) := by decide +kernel
theorem dX7_table_22 : decode cX7_table 22 = .ok (.lreturn, 1) := by decide +kernel
theorem dX7_table_23 : decode cX7_table 23 = .ok (.aload_n 0, 1) := by decide +kernel
theorem dX7_table_24 : decode cX7_table 24 = .ok (.getfield 40, 3) := by decide +kernel
theorem dX7_table_27 : decode cX7_table 27 = .ok (.aload_n 0, 1) := by decide +kernel
theorem dX7_table_28 : decode cX7_table 28 = .ok (.getfield 23, 3) := by decide +kernel
theorem dX7_table_31 : decode cX7_table 31 = .ok (.iload_n 3, 1) := by decide +kernel
theorem dX7_table_32 : decode cX7_table 32 = .ok (.invokevirtual 239, 3) := by decide +kernel
theorem dX7_table_35 : decode cX7_table 35 = .ok (.aload_n 0, 1) := by decide +kernel
theorem dX7_table_36 : decode cX7_table 36 = .ok (.getfield 40, 3) := by decide +kernel
theorem dX7_table_39 : decode cX7_table 39 = .ok (.iload_n 3, 1) := by decide +kernel
theorem dX7_table_40 : decode cX7_table 40 = .ok (.iload_n 1, 1) := by decide +kernel
theorem dX7_table_41 : decode cX7_table 41 = .ok (.iload_n 2, 1) := by decide +kernel
theorem dX7_table_42 : decode cX7_table 42 = .ok (.invokestatic 178, 3) := by decide +kernel
theorem dX7_table_45 : decode cX7_table 45 = .ok (.invokevirtual 243, 3) := by decide +kernel
theorem dX7_table_48 : decode cX7_table 48 = .ok (.aload_n 0, 1) := by decide +kernel
theorem dX7_table_49 : decode cX7_table 49 = .ok (.getfield 40, 3) := by decide +kernel
theorem dX7_table_52 : decode cX7_table 52 = .ok (.iload_n 3, 1) := by decide +kernel
theorem dX7_table_53 : decode cX7_table 53 = .ok (.invokevirtual 213, 3) := by decide +kernel
theorem dX7_table_56 : decode cX7_table 56 = .ok (.iload 4, 2) := by decide +kernel
theorem dX7_table_58 : decode cX7_table 58 = .ok (.invokestatic 217, 3) := by decide +kernel
theorem dX7_table_61 : decode cX7_table 61 = .ok (.lreturn, 1) := by decide +kernel
theorem dX7_troubleAhead_0 : decode cX7_troubleAhead 0 = .ok (.aload_n 0, 1) := by decide +kernel
theorem dX7_troubleAhead_1 : decode cX7_troubleAhead 1 = .ok (.invokevirtual 110, 3) := by decide +kernel
theorem dX7_troubleAhead_4 : decode cX7_troubleAhead 4 = .ok (.ifCond .eq 7, 3) := by decide +kernel
theorem dX7_troubleAhead_7 : decode cX7_troubleAhead 7 = .ok (.iload_n 1, 1) := by decide +kernel
theorem dX7_troubleAhead_8 : decode cX7_troubleAhead 8 = .ok (.ifCond .ne 5, 3) := by decide +kernel
theorem dX7_troubleAhead_11 : decode cX7_troubleAhead 11 = .ok (.iconst 1, 1) := by decide +kernel
theorem dX7_troubleAhead_12 : decode cX7_troubleAhead 12 = .ok (.ireturn, 1) := by decide +kernel
theorem dX7_troubleAhead_13 : decode cX7_troubleAhead 13 = .ok (.iload_n 2, 1) := by decide +kernel
theorem dX7_troubleAhead_14 : decode cX7_troubleAhead 14 = .ok (.iload_n 3, 1) := by decide +kernel
theorem dX7_troubleAhead_15 : decode cX7_troubleAhead 15 = .ok (.invokestatic 193, 3) := by decide +kernel
theorem dX7_troubleAhead_18 : decode cX7_troubleAhead 18 = .ok (.ifCond .eq 15, 3) := by decide +kernel
theorem dX7_troubleAhead_21 : decode cX7_troubleAhead 21 = .ok (.iload 4, 2) := by decide +kernel
theorem dX7_troubleAhead_23 : decode cX7_troubleAhead 23 = .ok (.invokestatic 246, 3) := by decide +kernel
theorem dX7_troubleAhead_26 : decode cX7_troubleAhead 26 = .ok (.ifCond .eq 7, 3) := by decide +kernel
theorem dX7_troubleAhead_29 : decode cX7_troubleAhead 29 = .ok (.iconst 0, 1) := by decide +kernel
theorem dX7_troubleAhead_30 : decode cX7_troubleAhead 30 = .ok (.goto 4, 3) := by decide +kernel
theorem dX7_troubleAhead_33 : decode cX7_troubleAhead 33 = .ok (.iconst 2, 1) := by decide +kernel
theorem dX7_troubleAhead_34 : decode cX7_troubleAhead 34 = .ok (.ireturn, 1) := by decide +kernel
theorem dX7_troubleOfWay_0 : decode cX7_troubleOfWay 0 = .ok (.aload_n 0, 1) := by decide +kernel
theorem dX7_troubleOfWay_1 : decode cX7_troubleOfWay 1 = .ok (.iload_n 1, 1) := by decide +kernel
theorem dX7_troubleOfWay_2 : decode cX7_troubleOfWay 2 = .ok (.ifCond .eq 17, 3) := by decide +kernel
theorem dX7_troubleOfWay_5 : decode cX7_troubleOfWay 5 = .ok (.iload 5, 2) := by decide +kernel
theorem dX7_troubleOfWay_7 : decode cX7_troubleOfWay 7 = .ok (.iconst 0, 1) := by decide +kernel
theorem dX7_troubleOfWay_8 : decode cX7_troubleOfWay 8 = .ok (.iconst 2, 1) := by decide +kernel
theorem dX7_troubleOfWay_9 : decode cX7_troubleOfWay 9 = .ok (.invokestatic 66, 3) := by decide +kernel
theorem dX7_troubleOfWay_12 : decode cX7_troubleOfWay 12 = .ok (.ifCond .eq 7, 3) := by decide +kernel
theorem dX7_troubleOfWay_15 : decode cX7_troubleOfWay 15 = .ok (.iconst 1, 1) := by decide +kernel
theorem dX7_troubleOfWay_16 : decode cX7_troubleOfWay 16 = .ok (.goto 4, 3) := by decide +kernel
theorem dX7_troubleOfWay_19 : decode cX7_troubleOfWay 19 = .ok (.iconst 0, 1) := by decide +kernel
theorem dX7_troubleOfWay_20 : decode cX7_troubleOfWay 20 = .ok (.iload_n 2, 1) := by decide +kernel
theorem dX7_troubleOfWay_21 : decode cX7_troubleOfWay 21 = .ok (.iload_n 3, 1) := by decide +kernel
theorem dX7_troubleOfWay_22 : decode cX7_troubleOfWay 22 = .ok (.iload 4, 2) := by decide +kernel
theorem dX7_troubleOfWay_24 : decode cX7_troubleOfWay 24 = .ok (.invokevirtual 203, 3) := by decide +kernel
theorem dX7_troubleOfWay_27 : decode cX7_troubleOfWay 27 = .ok (.istore 6, 2) := by decide +kernel
theorem dX7_troubleOfWay_29 : decode cX7_troubleOfWay 29 = .ok (.iload 6, 2) := by decide +kernel
theorem dX7_troubleOfWay_31 : decode cX7_troubleOfWay 31 = .ok (.ifCond .eq 6, 3) := by decide +kernel
theorem dX7_troubleOfWay_34 : decode cX7_troubleOfWay 34 = .ok (.iload 6, 2) := by decide +kernel
theorem dX7_troubleOfWay_36 : decode cX7_troubleOfWay 36 = .ok (.ireturn, 1) := by decide +kernel
theorem dX7_troubleOfWay_37 : decode cX7_troubleOfWay 37 = .ok (.aload_n 0, 1) := by decide +kernel
theorem dX7_troubleOfWay_38 : decode cX7_troubleOfWay 38 = .ok (.getfield 40, 3) := by decide +kernel
theorem dX7_troubleOfWay_41 : decode cX7_troubleOfWay 41 = .ok (.getfield 181, 3) := by decide +kernel
theorem dX7_troubleOfWay_44 : decode cX7_troubleOfWay 44 = .ok (.iload 5, 2) := by decide +kernel
theorem dX7_troubleOfWay_46 : decode cX7_troubleOfWay 46 = .ok (.iload_n 2, 1) := by decide +kernel
theorem dX7_troubleOfWay_47 : decode cX7_troubleOfWay 47 = .ok (.iload_n 3, 1) := by decide +kernel
theorem dX7_troubleOfWay_48 : decode cX7_troubleOfWay 48 = .ok (.invokestatic 178, 3) := by decide +kernel
theorem dX7_troubleOfWay_51 : decode cX7_troubleOfWay 51 = .ok (.invokevirtual 249, 3) := by decide +kernel
theorem dX7_troubleOfWay_54 : decode cX7_troubleOfWay 54 = .ok (.ifCond .eq 7, 3) := by decide +kernel
theorem dX7_troubleOfWay_57 : decode cX7_troubleOfWay 57 = .ok (.iconst 0, 1) := by decide +kernel
theorem dX7_troubleOfWay_58 : decode cX7_troubleOfWay 58 = .ok (.goto 4, 3) := by decide +kernel
theorem dX7_troubleOfWay_61 : decode cX7_troubleOfWay 61 = .ok (.iconst 5, 1) := by decide +kernel
theorem dX7_troubleOfWay_62 : decode cX7_troubleOfWay 62 = .ok (.ireturn, 1) := by decide +kernel
theorem dX7_worth_0 : decode cX7_worth 0 = .ok (.aload_n 0, 1) := by decide +kernel
theorem dX7_worth_1 : decode cX7_worth 1 = .ok (.aload_n 0, 1) := by decide +kernel
theorem dX7_worth_2 : decode cX7_worth 2 = .ok (.iload_n 2, 1) := by decide +kernel
theorem dX7_worth_3 : decode cX7_worth 3 = .ok (.invokestatic 200, 3) := by decide +kernel
theorem dX7_worth_6 : decode cX7_worth 6 = .ok (.iload_n 1, 1) := by decide +kernel
theorem dX7_worth_7 : decode cX7_worth 7 = .ok (.iconst 5, 1) := by decide +kernel
theorem dX7_worth_8 : decode cX7_worth 8 = .ok (.invokevirtual 252, 3) := by decide +kernel
theorem dX7_worth_11 : decode cX7_worth 11 = .ok (.invokevirtual 70, 3) := by decide +kernel
theorem dX7_worth_14 : decode cX7_worth 14 = .ok (.ifCond .eq 7, 3) := by decide +kernel
theorem dX7_worth_17 : decode cX7_worth 17 = .ok (.ldc2_w 207, 3) := by decide +kernel
theorem dX7_worth_20 : decode cX7_worth 20 = .ok (.lreturn, 1) := by decide +kernel
theorem dX7_worth_21 : decode cX7_worth 21 = .ok (.aload_n 0, 1) := by decide +kernel
theorem dX7_worth_22 : decode cX7_worth 22 = .ok (.getfield 47, 3) := by decide +kernel
theorem dX7_worth_25 : decode cX7_worth 25 = .ok (.aload_n 0, 1) := by decide +kernel
theorem dX7_worth_26 : decode cX7_worth 26 = .ok (.getfield 40, 3) := by decide +kernel
theorem dX7_worth_29 : decode cX7_worth 29 = .ok (.aload_n 0, 1) := by decide +kernel
theorem dX7_worth_30 : decode cX7_worth 30 = .ok (.getfield 23, 3) := by decide +kernel
theorem dX7_worth_33 : decode cX7_worth 33 = .ok (.iload_n 1, 1) := by decide +kernel
theorem dX7_worth_34 : decode cX7_worth 34 = .ok (.invokevirtual 256, 3) := by decide +kernel
theorem dX7_worth_37 : decode cX7_worth 37 = .ok (.aload_n 0, 1) := by decide +kernel
theorem dX7_worth_38 : decode cX7_worth 38 = .ok (.getfield 40, 3) := by decide +kernel
theorem dX7_worth_41 : decode cX7_worth 41 = .ok (.iload_n 1, 1) := by decide +kernel
theorem dX7_worth_42 : decode cX7_worth 42 = .ok (.invokevirtual 213, 3) := by decide +kernel
theorem dX7_worth_45 : decode cX7_worth 45 = .ok (.iload_n 2, 1) := by decide +kernel
theorem dX7_worth_46 : decode cX7_worth 46 = .ok (.invokestatic 217, 3) := by decide +kernel
theorem dX7_worth_49 : decode cX7_worth 49 = .ok (.lreturn, 1) := by decide +kernel
theorem dX7_best_0 : decode cX7_best 0 = .ok (.aload_n 0, 1) := by decide +kernel
theorem dX7_best_1 : decode cX7_best 1 = .ok (.aload_n 0, 1) := by decide +kernel
theorem dX7_best_2 : decode cX7_best 2 = .ok (.iload_n 2, 1) := by decide +kernel
theorem dX7_best_3 : decode cX7_best 3 = .ok (.invokestatic 200, 3) := by decide +kernel
theorem dX7_best_6 : decode cX7_best 6 = .ok (.iload_n 1, 1) := by decide +kernel
theorem dX7_best_7 : decode cX7_best 7 = .ok (.iconst 3, 1) := by decide +kernel
theorem dX7_best_8 : decode cX7_best 8 = .ok (.invokevirtual 252, 3) := by decide +kernel
theorem dX7_best_11 : decode cX7_best 11 = .ok (.invokevirtual 70, 3) := by decide +kernel
theorem dX7_best_14 : decode cX7_best 14 = .ok (.ifCond .eq 7, 3) := by decide +kernel
theorem dX7_best_17 : decode cX7_best 17 = .ok (.ldc2_w 207, 3) := by decide +kernel
theorem dX7_best_20 : decode cX7_best 20 = .ok (.lreturn, 1) := by decide +kernel
theorem dX7_best_21 : decode cX7_best 21 = .ok (.aload_n 0, 1) := by decide +kernel
theorem dX7_best_22 : decode cX7_best 22 = .ok (.getfield 47, 3) := by decide +kernel
theorem dX7_best_25 : decode cX7_best 25 = .ok (.aload_n 0, 1) := by decide +kernel
theorem dX7_best_26 : decode cX7_best 26 = .ok (.getfield 40, 3) := by decide +kernel
theorem dX7_best_29 : decode cX7_best 29 = .ok (.aload_n 0, 1) := by decide +kernel
theorem dX7_best_30 : decode cX7_best 30 = .ok (.getfield 23, 3) := by decide +kernel
theorem dX7_best_33 : decode cX7_best 33 = .ok (.iload_n 1, 1) := by decide +kernel
theorem dX7_best_34 : decode cX7_best 34 = .ok (.invokevirtual 260, 3) := by decide +kernel
theorem dX7_best_37 : decode cX7_best 37 = .ok (.aload_n 0, 1) := by decide +kernel
theorem dX7_best_38 : decode cX7_best 38 = .ok (.getfield 47, 3) := by decide +kernel
theorem dX7_best_41 : decode cX7_best 41 = .ok (.getfield 264, 3) := by decide +kernel
theorem dX7_best_44 : decode cX7_best 44 = .ok (.aload_n 0, 1) := by decide +kernel
theorem dX7_best_45 : decode cX7_best 45 = .ok (.getfield 40, 3) := by decide +kernel
theorem dX7_best_48 : decode cX7_best 48 = .ok (.iload_n 1, 1) := by decide +kernel
theorem dX7_best_49 : decode cX7_best 49 = .ok (.invokevirtual 213, 3) := by decide +kernel
theorem dX7_best_52 : decode cX7_best 52 = .ok (.iload_n 2, 1) := by decide +kernel
theorem dX7_best_53 : decode cX7_best 53 = .ok (.invokestatic 217, 3) := by decide +kernel
theorem dX7_best_56 : decode cX7_best 56 = .ok (.lreturn, 1) := by decide +kernel
theorem dX7_bestAt_0 : decode cX7_bestAt 0 = .ok (.aload_n 0, 1) := by decide +kernel
theorem dX7_bestAt_1 : decode cX7_bestAt 1 = .ok (.aload_n 0, 1) := by decide +kernel
theorem dX7_bestAt_2 : decode cX7_bestAt 2 = .ok (.aload_n 0, 1) := by decide +kernel
theorem dX7_bestAt_3 : decode cX7_bestAt 3 = .ok (.getfield 23, 3) := by decide +kernel
theorem dX7_bestAt_6 : decode cX7_bestAt 6 = .ok (.iload_n 2, 1) := by decide +kernel
theorem dX7_bestAt_7 : decode cX7_bestAt 7 = .ok (.invokevirtual 158, 3) := by decide +kernel
theorem dX7_bestAt_10 : decode cX7_bestAt 10 = .ok (.iload_n 1, 1) := by decide +kernel
theorem dX7_bestAt_11 : decode cX7_bestAt 11 = .ok (.iconst 3, 1) := by decide +kernel
theorem dX7_bestAt_12 : decode cX7_bestAt 12 = .ok (.invokevirtual 252, 3) := by decide +kernel
theorem dX7_bestAt_15 : decode cX7_bestAt 15 = .ok (.invokevirtual 70, 3) := by decide +kernel
theorem dX7_bestAt_18 : decode cX7_bestAt 18 = .ok (.ifCond .eq 5, 3) := by decide +kernel
theorem dX7_bestAt_21 : decode cX7_bestAt 21 = .ok (.iconst (-1), 1) := by decide +kernel
theorem dX7_bestAt_22 : decode cX7_bestAt 22 = .ok (.ireturn, 1) := by decide +kernel
theorem dX7_bestAt_23 : decode cX7_bestAt 23 = .ok (.aload_n 0, 1) := by decide +kernel
theorem dX7_bestAt_24 : decode cX7_bestAt 24 = .ok (.getfield 47, 3) := by decide +kernel
theorem dX7_bestAt_27 : decode cX7_bestAt 27 = .ok (.aload_n 0, 1) := by decide +kernel
theorem dX7_bestAt_28 : decode cX7_bestAt 28 = .ok (.getfield 40, 3) := by decide +kernel
theorem dX7_bestAt_31 : decode cX7_bestAt 31 = .ok (.aload_n 0, 1) := by decide +kernel
theorem dX7_bestAt_32 : decode cX7_bestAt 32 = .ok (.getfield 23, 3) := by decide +kernel
theorem dX7_bestAt_35 : decode cX7_bestAt 35 = .ok (.iload_n 1, 1) := by decide +kernel
theorem dX7_bestAt_36 : decode cX7_bestAt 36 = .ok (.invokevirtual 260, 3) := by decide +kernel
theorem dX7_bestAt_39 : decode cX7_bestAt 39 = .ok (.aload_n 0, 1) := by decide +kernel
theorem dX7_bestAt_40 : decode cX7_bestAt 40 = .ok (.getfield 47, 3) := by decide +kernel
theorem dX7_bestAt_43 : decode cX7_bestAt 43 = .ok (.iload_n 2, 1) := by decide +kernel
theorem dX7_bestAt_44 : decode cX7_bestAt 44 = .ok (.invokevirtual 268, 3) := by decide +kernel
theorem dX7_bestAt_47 : decode cX7_bestAt 47 = .ok (.ireturn, 1) := by decide +kernel
theorem dX7_exchanged_0 : decode cX7_exchanged 0 = .ok (.aload_n 0, 1) := by decide +kernel
theorem dX7_exchanged_1 : decode cX7_exchanged 1 = .ok (.aload_n 0, 1) := by decide +kernel
theorem dX7_exchanged_2 : decode cX7_exchanged 2 = .ok (.aload_n 0, 1) := by decide +kernel
theorem dX7_exchanged_3 : decode cX7_exchanged 3 = .ok (.getfield 23, 3) := by decide +kernel
theorem dX7_exchanged_6 : decode cX7_exchanged 6 = .ok (.iload_n 1, 1) := by decide +kernel
theorem dX7_exchanged_7 : decode cX7_exchanged 7 = .ok (.invokevirtual 158, 3) := by decide +kernel
theorem dX7_exchanged_10 : decode cX7_exchanged 10 = .ok (.ifCond .eq 18, 3) := by decide +kernel
theorem dX7_exchanged_13 : decode cX7_exchanged 13 = .ok (.aload_n 0, 1) := by decide +kernel
theorem dX7_exchanged_14 : decode cX7_exchanged 14 = .ok (.getfield 23, 3) := by decide +kernel
theorem dX7_exchanged_17 : decode cX7_exchanged 17 = .ok (.iload_n 2, 1) := by decide +kernel
theorem dX7_exchanged_18 : decode cX7_exchanged 18 = .ok (.invokevirtual 158, 3) := by decide +kernel
theorem dX7_exchanged_21 : decode cX7_exchanged 21 = .ok (.ifCond .eq 7, 3) := by decide +kernel
theorem dX7_exchanged_24 : decode cX7_exchanged 24 = .ok (.iconst 1, 1) := by decide +kernel
theorem dX7_exchanged_25 : decode cX7_exchanged 25 = .ok (.goto 4, 3) := by decide +kernel
theorem dX7_exchanged_28 : decode cX7_exchanged 28 = .ok (.iconst 0, 1) := by decide +kernel
theorem dX7_exchanged_29 : decode cX7_exchanged 29 = .ok (.iload_n 3, 1) := by decide +kernel
theorem dX7_exchanged_30 : decode cX7_exchanged 30 = .ok (.iconst 5, 1) := by decide +kernel
theorem dX7_exchanged_31 : decode cX7_exchanged 31 = .ok (.invokevirtual 252, 3) := by decide +kernel
theorem dX7_exchanged_34 : decode cX7_exchanged 34 = .ok (.invokevirtual 70, 3) := by decide +kernel
theorem dX7_exchanged_37 : decode cX7_exchanged 37 = .ok (.ifCond .eq 5, 3) := by decide +kernel
theorem dX7_exchanged_40 : decode cX7_exchanged 40 = .ok (.iconst (-1), 1) := by decide +kernel
theorem dX7_exchanged_41 : decode cX7_exchanged 41 = .ok (.ireturn, 1) := by decide +kernel
theorem dX7_exchanged_42 : decode cX7_exchanged 42 = .ok (.aload_n 0, 1) := by decide +kernel
theorem dX7_exchanged_43 : decode cX7_exchanged 43 = .ok (.getfield 47, 3) := by decide +kernel
theorem dX7_exchanged_46 : decode cX7_exchanged 46 = .ok (.aload_n 0, 1) := by decide +kernel
theorem dX7_exchanged_47 : decode cX7_exchanged 47 = .ok (.getfield 40, 3) := by decide +kernel
theorem dX7_exchanged_50 : decode cX7_exchanged 50 = .ok (.aload_n 0, 1) := by decide +kernel
theorem dX7_exchanged_51 : decode cX7_exchanged 51 = .ok (.getfield 23, 3) := by decide +kernel
theorem dX7_exchanged_54 : decode cX7_exchanged 54 = .ok (.iload_n 1, 1) := by decide +kernel
theorem dX7_exchanged_55 : decode cX7_exchanged 55 = .ok (.iload_n 2, 1) := by decide +kernel
theorem dX7_exchanged_56 : decode cX7_exchanged 56 = .ok (.iload_n 3, 1) := by decide +kernel
theorem dX7_exchanged_57 : decode cX7_exchanged 57 = .ok (.invokevirtual 271, 3) := by decide +kernel
theorem dX7_exchanged_60 : decode cX7_exchanged 60 = .ok (.aload_n 0, 1) := by decide +kernel
theorem dX7_exchanged_61 : decode cX7_exchanged 61 = .ok (.getfield 47, 3) := by decide +kernel
theorem dX7_exchanged_64 : decode cX7_exchanged 64 = .ok (.aload_n 0, 1) := by decide +kernel
theorem dX7_exchanged_65 : decode cX7_exchanged 65 = .ok (.getfield 40, 3) := by decide +kernel
theorem dX7_exchanged_68 : decode cX7_exchanged 68 = .ok (.aload_n 0, 1) := by decide +kernel
theorem dX7_exchanged_69 : decode cX7_exchanged 69 = .ok (.getfield 23, 3) := by decide +kernel
theorem dX7_exchanged_72 : decode cX7_exchanged 72 = .ok (.iload_n 3, 1) := by decide +kernel
theorem dX7_exchanged_73 : decode cX7_exchanged 73 = .ok (.invokevirtual 256, 3) := by decide +kernel
theorem dX7_exchanged_76 : decode cX7_exchanged 76 = .ok (.lsub, 1) := by decide +kernel
theorem dX7_exchanged_77 : decode cX7_exchanged 77 = .ok (.lstore 4, 2) := by decide +kernel
theorem dX7_exchanged_79 : decode cX7_exchanged 79 = .ok (.lload 4, 2) := by decide +kernel
theorem dX7_exchanged_81 : decode cX7_exchanged 81 = .ok (.lconst 0, 1) := by decide +kernel
theorem dX7_exchanged_82 : decode cX7_exchanged 82 = .ok (.lcmp, 1) := by decide +kernel
theorem dX7_exchanged_83 : decode cX7_exchanged 83 = .ok (.ifCond .le 7, 3) := by decide +kernel
theorem dX7_exchanged_86 : decode cX7_exchanged 86 = .ok (.iconst 1, 1) := by decide +kernel
theorem dX7_exchanged_87 : decode cX7_exchanged 87 = .ok (.goto 16, 3) := by decide +kernel
theorem dX7_exchanged_90 : decode cX7_exchanged 90 = .ok (.lload 4, 2) := by decide +kernel
theorem dX7_exchanged_92 : decode cX7_exchanged 92 = .ok (.lconst 0, 1) := by decide +kernel
theorem dX7_exchanged_93 : decode cX7_exchanged 93 = .ok (.lcmp, 1) := by decide +kernel
theorem dX7_exchanged_94 : decode cX7_exchanged 94 = .ok (.ifCond .ne 7, 3) := by decide +kernel
theorem dX7_exchanged_97 : decode cX7_exchanged 97 = .ok (.iconst 0, 1) := by decide +kernel
theorem dX7_exchanged_98 : decode cX7_exchanged 98 = .ok (.goto 5, 3) := by decide +kernel
theorem dX7_exchanged_101 : decode cX7_exchanged 101 = .ok (.bipush (-2), 2) := by decide +kernel
theorem dX7_exchanged_103 : decode cX7_exchanged 103 = .ok (.ireturn, 1) := by decide +kernel
theorem dX7_troubleOfDepth_0 : decode cX7_troubleOfDepth 0 = .ok (.aload_n 0, 1) := by decide +kernel
theorem dX7_troubleOfDepth_1 : decode cX7_troubleOfDepth 1 = .ok (.invokevirtual 110, 3) := by decide +kernel
theorem dX7_troubleOfDepth_4 : decode cX7_troubleOfDepth 4 = .ok (.ifCond .eq 7, 3) := by decide +kernel
theorem dX7_troubleOfDepth_7 : decode cX7_troubleOfDepth 7 = .ok (.iload_n 1, 1) := by decide +kernel
theorem dX7_troubleOfDepth_8 : decode cX7_troubleOfDepth 8 = .ok (.ifCond .ne 5, 3) := by decide +kernel
theorem dX7_troubleOfDepth_11 : decode cX7_troubleOfDepth 11 = .ok (.iconst 1, 1) := by decide +kernel
theorem dX7_troubleOfDepth_12 : decode cX7_troubleOfDepth 12 = .ok (.ireturn, 1) := by decide +kernel
theorem dX7_troubleOfDepth_13 : decode cX7_troubleOfDepth 13 = .ok (.iload_n 2, 1) := by decide +kernel
theorem dX7_troubleOfDepth_14 : decode cX7_troubleOfDepth 14 = .ok (.iconst 1, 1) := by decide +kernel
theorem dX7_troubleOfDepth_15 : decode cX7_troubleOfDepth 15 = .ok (.iload_n 3, 1) := by decide +kernel
theorem dX7_troubleOfDepth_16 : decode cX7_troubleOfDepth 16 = .ok (.invokestatic 66, 3) := by decide +kernel
theorem dX7_troubleOfDepth_19 : decode cX7_troubleOfDepth 19 = .ok (.ifCond .eq 7, 3) := by decide +kernel
theorem dX7_troubleOfDepth_22 : decode cX7_troubleOfDepth 22 = .ok (.iconst 0, 1) := by decide +kernel
theorem dX7_troubleOfDepth_23 : decode cX7_troubleOfDepth 23 = .ok (.goto 4, 3) := by decide +kernel
theorem dX7_troubleOfDepth_26 : decode cX7_troubleOfDepth 26 = .ok (.iconst 2, 1) := by decide +kernel
theorem dX7_troubleOfDepth_27 : decode cX7_troubleOfDepth 27 = .ok (.ireturn, 1) := by decide +kernel
theorem dX7_log_0 : decode cX7_log 0 = .ok (.aload_n 0, 1) := by decide +kernel
theorem dX7_log_1 : decode cX7_log 1 = .ok (.aload_n 0, 1) := by decide +kernel
theorem dX7_log_2 : decode cX7_log 2 = .ok (.getfield 23, 3) := by decide +kernel
theorem dX7_log_5 : decode cX7_log 5 = .ok (.iload_n 1, 1) := by decide +kernel
theorem dX7_log_6 : decode cX7_log 6 = .ok (.invokevirtual 275, 3) := by decide +kernel
theorem dX7_log_9 : decode cX7_log 9 = .ok (.ifCond .eq 16, 3) := by decide +kernel
theorem dX7_log_12 : decode cX7_log 12 = .ok (.iload_n 2, 1) := by decide +kernel
theorem dX7_log_13 : decode cX7_log 13 = .ok (.iconst 0, 1) := by decide +kernel
theorem dX7_log_14 : decode cX7_log 14 = .ok (.iconst 5, 1) := by decide +kernel
theorem dX7_log_15 : decode cX7_log 15 = .ok (.invokestatic 66, 3) := by decide +kernel
theorem dX7_log_18 : decode cX7_log 18 = .ok (.ifCond .eq 7, 3) := by decide +kernel
theorem dX7_log_21 : decode cX7_log 21 = .ok (.iconst 0, 1) := by decide +kernel
theorem dX7_log_22 : decode cX7_log 22 = .ok (.goto 4, 3) := by decide +kernel
theorem dX7_log_25 : decode cX7_log 25 = .ok (.iconst 1, 1) := by decide +kernel
theorem dX7_log_26 : decode cX7_log 26 = .ok (.invokevirtual 70, 3) := by decide +kernel
theorem dX7_log_29 : decode cX7_log 29 = .ok (.ifCond .eq 5, 3) := by decide +kernel
theorem dX7_log_32 : decode cX7_log 32 = .ok (.iconst (-1), 1) := by decide +kernel
theorem dX7_log_33 : decode cX7_log 33 = .ok (.ireturn, 1) := by decide +kernel
theorem dX7_log_34 : decode cX7_log 34 = .ok (.iload_n 2, 1) := by decide +kernel
theorem dX7_log_35 : decode cX7_log 35 = .ok (.tableswitch 86 0 4 #[33, 43, 53, 63, 73], 33) := by decide +kernel
theorem dX7_log_68 : decode cX7_log 68 = .ok (.aload_n 0, 1) := by decide +kernel
theorem dX7_log_69 : decode cX7_log 69 = .ok (.getfield 23, 3) := by decide +kernel
theorem dX7_log_72 : decode cX7_log 72 = .ok (.iload_n 1, 1) := by decide +kernel
theorem dX7_log_73 : decode cX7_log 73 = .ok (.iconst 0, 1) := by decide +kernel
theorem dX7_log_74 : decode cX7_log 74 = .ok (.invokevirtual 278, 3) := by decide +kernel
theorem dX7_log_77 : decode cX7_log 77 = .ok (.ireturn, 1) := by decide +kernel
theorem dX7_log_78 : decode cX7_log 78 = .ok (.aload_n 0, 1) := by decide +kernel
theorem dX7_log_79 : decode cX7_log 79 = .ok (.getfield 23, 3) := by decide +kernel
theorem dX7_log_82 : decode cX7_log 82 = .ok (.iload_n 1, 1) := by decide +kernel
theorem dX7_log_83 : decode cX7_log 83 = .ok (.iconst 1, 1) := by decide +kernel
theorem dX7_log_84 : decode cX7_log 84 = .ok (.invokevirtual 278, 3) := by decide +kernel
theorem dX7_log_87 : decode cX7_log 87 = .ok (.ireturn, 1) := by decide +kernel
theorem dX7_log_88 : decode cX7_log 88 = .ok (.aload_n 0, 1) := by decide +kernel
theorem dX7_log_89 : decode cX7_log 89 = .ok (.getfield 23, 3) := by decide +kernel
theorem dX7_log_92 : decode cX7_log 92 = .ok (.iload_n 1, 1) := by decide +kernel
theorem dX7_log_93 : decode cX7_log 93 = .ok (.iconst 2, 1) := by decide +kernel
theorem dX7_log_94 : decode cX7_log 94 = .ok (.invokevirtual 278, 3) := by decide +kernel
theorem dX7_log_97 : decode cX7_log 97 = .ok (.ireturn, 1) := by decide +kernel
theorem dX7_log_98 : decode cX7_log 98 = .ok (.aload_n 0, 1) := by decide +kernel
theorem dX7_log_99 : decode cX7_log 99 = .ok (.getfield 23, 3) := by decide +kernel
theorem dX7_log_102 : decode cX7_log 102 = .ok (.iload_n 1, 1) := by decide +kernel
theorem dX7_log_103 : decode cX7_log 103 = .ok (.iconst 3, 1) := by decide +kernel
theorem dX7_log_104 : decode cX7_log 104 = .ok (.invokevirtual 278, 3) := by decide +kernel
theorem dX7_log_107 : decode cX7_log 107 = .ok (.ireturn, 1) := by decide +kernel
theorem dX7_log_108 : decode cX7_log 108 = .ok (.aload_n 0, 1) := by decide +kernel
theorem dX7_log_109 : decode cX7_log 109 = .ok (.getfield 23, 3) := by decide +kernel
theorem dX7_log_112 : decode cX7_log 112 = .ok (.iload_n 1, 1) := by decide +kernel
theorem dX7_log_113 : decode cX7_log 113 = .ok (.iconst 4, 1) := by decide +kernel
theorem dX7_log_114 : decode cX7_log 114 = .ok (.invokevirtual 278, 3) := by decide +kernel
theorem dX7_log_117 : decode cX7_log 117 = .ok (.invokestatic 120, 3) := by decide +kernel
theorem dX7_log_120 : decode cX7_log 120 = .ok (.ireturn, 1) := by decide +kernel
theorem dX7_log_121 : decode cX7_log 121 = .ok (.aload_n 0, 1) := by decide +kernel
theorem dX7_log_122 : decode cX7_log 122 = .ok (.getfield 23, 3) := by decide +kernel
theorem dX7_log_125 : decode cX7_log 125 = .ok (.iload_n 1, 1) := by decide +kernel
theorem dX7_log_126 : decode cX7_log 126 = .ok (.iconst 4, 1) := by decide +kernel
theorem dX7_log_127 : decode cX7_log 127 = .ok (.invokevirtual 278, 3) := by decide +kernel
theorem dX7_log_130 : decode cX7_log 130 = .ok (.invokestatic 123, 3) := by decide +kernel
theorem dX7_log_133 : decode cX7_log 133 = .ok (.ireturn, 1) := by decide +kernel
theorem dX7_added_0 : decode cX7_added 0 = .ok (.aload_n 0, 1) := by decide +kernel
theorem dX7_added_1 : decode cX7_added 1 = .ok (.aload_n 0, 1) := by decide +kernel
theorem dX7_added_2 : decode cX7_added 2 = .ok (.aload_n 0, 1) := by decide +kernel
theorem dX7_added_3 : decode cX7_added 3 = .ok (.getfield 23, 3) := by decide +kernel
theorem dX7_added_6 : decode cX7_added 6 = .ok (.iload_n 1, 1) := by decide +kernel
theorem dX7_added_7 : decode cX7_added 7 = .ok (.invokevirtual 275, 3) := by decide +kernel
theorem dX7_added_10 : decode cX7_added 10 = .ok (.ifCond .eq 14, 3) := by decide +kernel
theorem dX7_added_13 : decode cX7_added 13 = .ok (.iload_n 3, 1) := by decide +kernel
theorem dX7_added_14 : decode cX7_added 14 = .ok (.invokestatic 200, 3) := by decide +kernel
theorem dX7_added_17 : decode cX7_added 17 = .ok (.ifCond .eq 7, 3) := by decide +kernel
theorem dX7_added_20 : decode cX7_added 20 = .ok (.iconst 1, 1) := by decide +kernel
theorem dX7_added_21 : decode cX7_added 21 = .ok (.goto 4, 3) := by decide +kernel
theorem dX7_added_24 : decode cX7_added 24 = .ok (.iconst 0, 1) := by decide +kernel
theorem dX7_added_25 : decode cX7_added 25 = .ok (.iload_n 2, 1) := by decide +kernel
theorem dX7_added_26 : decode cX7_added 26 = .ok (.iconst 5, 1) := by decide +kernel
theorem dX7_added_27 : decode cX7_added 27 = .ok (.invokevirtual 252, 3) := by decide +kernel
theorem dX7_added_30 : decode cX7_added 30 = .ok (.invokevirtual 70, 3) := by decide +kernel
theorem dX7_added_33 : decode cX7_added 33 = .ok (.ifCond .eq 7, 3) := by decide +kernel
theorem dX7_added_36 : decode cX7_added 36 = .ok (.ldc2_w 207, 3) := by decide +kernel
theorem dX7_added_39 : decode cX7_added 39 = .ok (.lreturn, 1) := by decide +kernel
theorem dX7_added_40 : decode cX7_added 40 = .ok (.aload_n 0, 1) := by decide +kernel
theorem dX7_added_41 : decode cX7_added 41 = .ok (.getfield 40, 3) := by decide +kernel
theorem dX7_added_44 : decode cX7_added 44 = .ok (.aload_n 0, 1) := by decide +kernel
theorem dX7_added_45 : decode cX7_added 45 = .ok (.getfield 23, 3) := by decide +kernel
theorem dX7_added_48 : decode cX7_added 48 = .ok (.iload_n 2, 1) := by decide +kernel
theorem dX7_added_49 : decode cX7_added 49 = .ok (.invokevirtual 239, 3) := by decide +kernel
theorem dX7_added_52 : decode cX7_added 52 = .ok (.aload_n 0, 1) := by decide +kernel
theorem dX7_added_53 : decode cX7_added 53 = .ok (.getfield 40, 3) := by decide +kernel
theorem dX7_added_56 : decode cX7_added 56 = .ok (.aload_n 0, 1) := by decide +kernel
theorem dX7_added_57 : decode cX7_added 57 = .ok (.getfield 23, 3) := by decide +kernel
theorem dX7_added_60 : decode cX7_added 60 = .ok (.iload_n 1, 1) := by decide +kernel
theorem dX7_added_61 : decode cX7_added 61 = .ok (.iload_n 2, 1) := by decide +kernel
theorem dX7_added_62 : decode cX7_added 62 = .ok (.invokevirtual 281, 3) := by decide +kernel
theorem dX7_added_65 : decode cX7_added 65 = .ok (.aload_n 0, 1) := by decide +kernel
theorem dX7_added_66 : decode cX7_added 66 = .ok (.getfield 40, 3) := by decide +kernel
theorem dX7_added_69 : decode cX7_added 69 = .ok (.iload_n 2, 1) := by decide +kernel
theorem dX7_added_70 : decode cX7_added 70 = .ok (.invokevirtual 213, 3) := by decide +kernel
theorem dX7_added_73 : decode cX7_added 73 = .ok (.iload_n 3, 1) := by decide +kernel
theorem dX7_added_74 : decode cX7_added 74 = .ok (.invokestatic 217, 3) := by decide +kernel
theorem dX7_added_77 : decode cX7_added 77 = .ok (.lreturn, 1) := by decide +kernel
theorem dX7_credit_0 : decode cX7_credit 0 = .ok (.aload_n 0, 1) := by decide +kernel
theorem dX7_credit_1 : decode cX7_credit 1 = .ok (.aload_n 0, 1) := by decide +kernel
theorem dX7_credit_2 : decode cX7_credit 2 = .ok (.aload_n 0, 1) := by decide +kernel
theorem dX7_credit_3 : decode cX7_credit 3 = .ok (.getfield 23, 3) := by decide +kernel
theorem dX7_credit_6 : decode cX7_credit 6 = .ok (.iload_n 1, 1) := by decide +kernel
theorem dX7_credit_7 : decode cX7_credit 7 = .ok (.invokevirtual 142, 3) := by decide +kernel
theorem dX7_credit_10 : decode cX7_credit 10 = .ok (.ifCond .eq 14, 3) := by decide +kernel
theorem dX7_credit_13 : decode cX7_credit 13 = .ok (.iload_n 3, 1) := by decide +kernel
theorem dX7_credit_14 : decode cX7_credit 14 = .ok (.invokestatic 200, 3) := by decide +kernel
theorem dX7_credit_17 : decode cX7_credit 17 = .ok (.ifCond .eq 7, 3) := by decide +kernel
theorem dX7_credit_20 : decode cX7_credit 20 = .ok (.iconst 1, 1) := by decide +kernel
theorem dX7_credit_21 : decode cX7_credit 21 = .ok (.goto 4, 3) := by decide +kernel
theorem dX7_credit_24 : decode cX7_credit 24 = .ok (.iconst 0, 1) := by decide +kernel
theorem dX7_credit_25 : decode cX7_credit 25 = .ok (.iload_n 2, 1) := by decide +kernel
theorem dX7_credit_26 : decode cX7_credit 26 = .ok (.iconst 5, 1) := by decide +kernel
theorem dX7_credit_27 : decode cX7_credit 27 = .ok (.invokevirtual 252, 3) := by decide +kernel
theorem dX7_credit_30 : decode cX7_credit 30 = .ok (.invokevirtual 70, 3) := by decide +kernel
theorem dX7_credit_33 : decode cX7_credit 33 = .ok (.ifCond .eq 7, 3) := by decide +kernel
theorem dX7_credit_36 : decode cX7_credit 36 = .ok (.ldc2_w 207, 3) := by decide +kernel
theorem dX7_credit_39 : decode cX7_credit 39 = .ok (.lreturn, 1) := by decide +kernel
theorem dX7_credit_40 : decode cX7_credit 40 = .ok (.aload_n 0, 1) := by decide +kernel
theorem dX7_credit_41 : decode cX7_credit 41 = .ok (.iload_n 1, 1) := by decide +kernel
theorem dX7_credit_42 : decode cX7_credit 42 = .ok (.iload_n 2, 1) := by decide +kernel
theorem dX7_credit_43 : decode cX7_credit 43 = .ok (.invokevirtual 285, 3) := by decide +kernel
theorem dX7_credit_46 : decode cX7_credit 46 = .ok (.aload_n 0, 1) := by decide +kernel
theorem dX7_credit_47 : decode cX7_credit 47 = .ok (.getfield 40, 3) := by decide +kernel
theorem dX7_credit_50 : decode cX7_credit 50 = .ok (.iload_n 2, 1) := by decide +kernel
theorem dX7_credit_51 : decode cX7_credit 51 = .ok (.invokevirtual 213, 3) := by decide +kernel
theorem dX7_credit_54 : decode cX7_credit 54 = .ok (.iload_n 3, 1) := by decide +kernel
theorem dX7_credit_55 : decode cX7_credit 55 = .ok (.invokestatic 217, 3) := by decide +kernel
theorem dX7_credit_58 : decode cX7_credit 58 = .ok (.lreturn, 1) := by decide +kernel
theorem dX7_all_0 : decode cX7_all 0 = .ok (.aload_n 0, 1) := by decide +kernel
theorem dX7_all_1 : decode cX7_all 1 = .ok (.aload_n 0, 1) := by decide +kernel
theorem dX7_all_2 : decode cX7_all 2 = .ok (.iload_n 2, 1) := by decide +kernel
theorem dX7_all_3 : decode cX7_all 3 = .ok (.invokestatic 200, 3) := by decide +kernel
theorem dX7_all_6 : decode cX7_all 6 = .ok (.iload_n 1, 1) := by decide +kernel
theorem dX7_all_7 : decode cX7_all 7 = .ok (.iconst 5, 1) := by decide +kernel
theorem dX7_all_8 : decode cX7_all 8 = .ok (.invokevirtual 252, 3) := by decide +kernel
theorem dX7_all_11 : decode cX7_all 11 = .ok (.invokevirtual 70, 3) := by decide +kernel
theorem dX7_all_14 : decode cX7_all 14 = .ok (.ifCond .eq 7, 3) := by decide +kernel
theorem dX7_all_17 : decode cX7_all 17 = .ok (.ldc2_w 207, 3) := by decide +kernel
theorem dX7_all_20 : decode cX7_all 20 = .ok (.lreturn, 1) := by decide +kernel
theorem dX7_all_21 : decode cX7_all 21 = .ok (.aload_n 0, 1) := by decide +kernel
theorem dX7_all_22 : decode cX7_all 22 = .ok (.iconst (-1), 1) := by decide +kernel
theorem dX7_all_23 : decode cX7_all 23 = .ok (.iload_n 1, 1) := by decide +kernel
theorem dX7_all_24 : decode cX7_all 24 = .ok (.invokevirtual 285, 3) := by decide +kernel
theorem dX7_all_27 : decode cX7_all 27 = .ok (.aload_n 0, 1) := by decide +kernel
theorem dX7_all_28 : decode cX7_all 28 = .ok (.getfield 40, 3) := by decide +kernel
theorem dX7_all_31 : decode cX7_all 31 = .ok (.iload_n 1, 1) := by decide +kernel
theorem dX7_all_32 : decode cX7_all 32 = .ok (.invokevirtual 213, 3) := by decide +kernel
theorem dX7_all_35 : decode cX7_all 35 = .ok (.iload_n 2, 1) := by decide +kernel
theorem dX7_all_36 : decode cX7_all 36 = .ok (.invokestatic 217, 3) := by decide +kernel
theorem dX7_all_39 : decode cX7_all 39 = .ok (.lreturn, 1) := by decide +kernel
theorem dX7_addedTogether_0 : decode cX7_addedTogether 0 = .ok (.aload_n 0, 1) := by decide +kernel
theorem dX7_addedTogether_1 : decode cX7_addedTogether 1 = .ok (.getfield 40, 3) := by decide +kernel
theorem dX7_addedTogether_4 : decode cX7_addedTogether 4 = .ok (.aload_n 0, 1) := by decide +kernel
theorem dX7_addedTogether_5 : decode cX7_addedTogether 5 = .ok (.getfield 23, 3) := by decide +kernel
theorem dX7_addedTogether_8 : decode cX7_addedTogether 8 = .ok (.iload_n 2, 1) := by decide +kernel
theorem dX7_addedTogether_9 : decode cX7_addedTogether 9 = .ok (.invokevirtual 239, 3) := by decide +kernel
theorem dX7_addedTogether_12 : decode cX7_addedTogether 12 = .ok (.lconst 0, 1) := by decide +kernel
theorem dX7_addedTogether_13 : decode cX7_addedTogether 13 = .ok (.lstore_n 3, 1) := by decide +kernel
theorem dX7_addedTogether_14 : decode cX7_addedTogether 14 = .ok (.iconst 0, 1) := by decide +kernel
theorem dX7_addedTogether_15 : decode cX7_addedTogether 15 = .ok (.istore 5, 2) := by decide +kernel
theorem dX7_addedTogether_17 : decode cX7_addedTogether 17 = .ok (.iload 5, 2) := by decide +kernel
theorem dX7_addedTogether_19 : decode cX7_addedTogether 19 = .ok (.aload_n 0, 1) := by decide +kernel
theorem dX7_addedTogether_20 : decode cX7_addedTogether 20 = .ok (.getfield 23, 3) := by decide +kernel
theorem dX7_addedTogether_23 : decode cX7_addedTogether 23 = .ok (.getfield 135, 3) := by decide +kernel
theorem dX7_addedTogether_26 : decode cX7_addedTogether 26 = .ok (.if_icmp .ge 45, 3) := by decide +kernel
theorem dX7_addedTogether_29 : decode cX7_addedTogether 29 = .ok (.iload_n 1, 1) := by decide +kernel
theorem dX7_addedTogether_30 : decode cX7_addedTogether 30 = .ok (.iconst (-1), 1) := by decide +kernel
theorem dX7_addedTogether_31 : decode cX7_addedTogether 31 = .ok (.if_icmp .eq 17, 3) := by decide +kernel
theorem dX7_addedTogether_34 : decode cX7_addedTogether 34 = .ok (.aload_n 0, 1) := by decide +kernel
theorem dX7_addedTogether_35 : decode cX7_addedTogether 35 = .ok (.getfield 23, 3) := by decide +kernel
theorem dX7_addedTogether_38 : decode cX7_addedTogether 38 = .ok (.iload 5, 2) := by decide +kernel
theorem dX7_addedTogether_40 : decode cX7_addedTogether 40 = .ok (.iconst 0, 1) := by decide +kernel
theorem dX7_addedTogether_41 : decode cX7_addedTogether 41 = .ok (.invokevirtual 278, 3) := by decide +kernel
theorem dX7_addedTogether_44 : decode cX7_addedTogether 44 = .ok (.iload_n 1, 1) := by decide +kernel
theorem dX7_addedTogether_45 : decode cX7_addedTogether 45 = .ok (.if_icmp .ne 20, 3) := by decide +kernel
theorem dX7_addedTogether_48 : decode cX7_addedTogether 48 = .ok (.lload_n 3, 1) := by decide +kernel
theorem dX7_addedTogether_49 : decode cX7_addedTogether 49 = .ok (.aload_n 0, 1) := by decide +kernel
theorem dX7_addedTogether_50 : decode cX7_addedTogether 50 = .ok (.getfield 40, 3) := by decide +kernel
theorem dX7_addedTogether_53 : decode cX7_addedTogether 53 = .ok (.aload_n 0, 1) := by decide +kernel
theorem dX7_addedTogether_54 : decode cX7_addedTogether 54 = .ok (.getfield 23, 3) := by decide +kernel
theorem dX7_addedTogether_57 : decode cX7_addedTogether 57 = .ok (.iload 5, 2) := by decide +kernel
theorem dX7_addedTogether_59 : decode cX7_addedTogether 59 = .ok (.iload_n 2, 1) := by decide +kernel
theorem dX7_addedTogether_60 : decode cX7_addedTogether 60 = .ok (.invokevirtual 281, 3) := by decide +kernel
theorem dX7_addedTogether_63 : decode cX7_addedTogether 63 = .ok (.ladd, 1) := by decide +kernel
theorem dX7_addedTogether_64 : decode cX7_addedTogether 64 = .ok (.lstore_n 3, 1) := by decide +kernel
theorem dX7_addedTogether_65 : decode cX7_addedTogether 65 = .ok (.iinc 5 1, 3) := by decide +kernel
theorem dX7_addedTogether_68 : decode cX7_addedTogether 68 = .ok (.goto (-51), 3) := by decide +kernel
theorem dX7_addedTogether_71 : decode cX7_addedTogether 71 = .ok (.lload_n 3, 1) := by decide +kernel
theorem dX7_addedTogether_72 : decode cX7_addedTogether 72 = .ok (.lreturn, 1) := by decide +kernel
theorem dX7_innings_0 : decode cX7_innings 0 = .ok (.aload_n 0, 1) := by decide +kernel
theorem dX7_innings_1 : decode cX7_innings 1 = .ok (.aload_n 0, 1) := by decide +kernel
theorem dX7_innings_2 : decode cX7_innings 2 = .ok (.iload 4, 2) := by decide +kernel
theorem dX7_innings_4 : decode cX7_innings 4 = .ok (.iconst 0, 1) := by decide +kernel
theorem dX7_innings_5 : decode cX7_innings 5 = .ok (.iconst 2, 1) := by decide +kernel
theorem dX7_innings_6 : decode cX7_innings 6 = .ok (.invokestatic 66, 3) := by decide +kernel
theorem dX7_innings_9 : decode cX7_innings 9 = .ok (.iload_n 1, 1) := by decide +kernel
theorem dX7_innings_10 : decode cX7_innings 10 = .ok (.iload_n 2, 1) := by decide +kernel
theorem dX7_innings_11 : decode cX7_innings 11 = .ok (.iconst 1, 1) := by decide +kernel
theorem dX7_innings_12 : decode cX7_innings 12 = .ok (.bipush 9, 2) := by decide +kernel
theorem dX7_innings_14 : decode cX7_innings 14 = .ok (.invokestatic 66, 3) := by decide +kernel
theorem dX7_innings_17 : decode cX7_innings 17 = .ok (.invokevirtual 288, 3) := by decide +kernel
theorem dX7_innings_20 : decode cX7_innings 20 = .ok (.invokevirtual 70, 3) := by decide +kernel
theorem dX7_innings_23 : decode cX7_innings 23 = .ok (.ifCond .eq 5, 3) := by decide +kernel
theorem dX7_innings_26 : decode cX7_innings 26 = .ok (.iconst (-1), 1) := by decide +kernel
theorem dX7_innings_27 : decode cX7_innings 27 = .ok (.ireturn, 1) := by decide +kernel
theorem dX7_innings_28 : decode cX7_innings 28 = .ok (.aload_n 0, 1) := by decide +kernel
theorem dX7_innings_29 : decode cX7_innings 29 = .ok (.getfield 27, 3) := by decide +kernel
theorem dX7_innings_32 : decode cX7_innings 32 = .ok (.aload_n 0, 1) := by decide +kernel
theorem dX7_innings_33 : decode cX7_innings 33 = .ok (.getfield 23, 3) := by decide +kernel
theorem dX7_innings_36 : decode cX7_innings 36 = .ok (.invokevirtual 292, 3) := by decide +kernel
theorem dX7_innings_39 : decode cX7_innings 39 = .ok (.aload_n 0, 1) := by decide +kernel
theorem dX7_innings_40 : decode cX7_innings 40 = .ok (.getfield 27, 3) := by decide +kernel
theorem dX7_innings_43 : decode cX7_innings 43 = .ok (.invokevirtual 296, 3) := by decide +kernel
theorem dX7_innings_46 : decode cX7_innings 46 = .ok (.aload_n 0, 1) := by decide +kernel
theorem dX7_innings_47 : decode cX7_innings 47 = .ok (.getfield 54, 3) := by decide +kernel
theorem dX7_innings_50 : decode cX7_innings 50 = .ok (.iload_n 1, 1) := by decide +kernel
theorem dX7_innings_51 : decode cX7_innings 51 = .ok (.invokevirtual 299, 3) := by decide +kernel
theorem dX7_innings_54 : decode cX7_innings 54 = .ok (.iconst 0, 1) := by decide +kernel
theorem dX7_innings_55 : decode cX7_innings 55 = .ok (.istore 5, 2) := by decide +kernel
theorem dX7_innings_57 : decode cX7_innings 57 = .ok (.iconst 0, 1) := by decide +kernel
theorem dX7_innings_58 : decode cX7_innings 58 = .ok (.istore 6, 2) := by decide +kernel
theorem dX7_innings_60 : decode cX7_innings 60 = .ok (.iconst 0, 1) := by decide +kernel
theorem dX7_innings_61 : decode cX7_innings 61 = .ok (.istore 7, 2) := by decide +kernel
theorem dX7_innings_63 : decode cX7_innings 63 = .ok (.iload 5, 2) := by decide +kernel
theorem dX7_innings_65 : decode cX7_innings 65 = .ok (.bipush 100, 2) := by decide +kernel
theorem dX7_innings_67 : decode cX7_innings 67 = .ok (.if_icmp .ge 74, 3) := by decide +kernel
theorem dX7_innings_70 : decode cX7_innings 70 = .ok (.aload_n 0, 1) := by decide +kernel
theorem dX7_innings_71 : decode cX7_innings 71 = .ok (.getfield 27, 3) := by decide +kernel
theorem dX7_innings_74 : decode cX7_innings 74 = .ok (.getfield 114, 3) := by decide +kernel
theorem dX7_innings_77 : decode cX7_innings 77 = .ok (.iload_n 2, 1) := by decide +kernel
theorem dX7_innings_78 : decode cX7_innings 78 = .ok (.if_icmp .gt 63, 3) := by decide +kernel
theorem dX7_innings_81 : decode cX7_innings 81 = .ok (.aload_n 0, 1) := by decide +kernel
theorem dX7_innings_82 : decode cX7_innings 82 = .ok (.getfield 27, 3) := by decide +kernel
theorem dX7_innings_85 : decode cX7_innings 85 = .ok (.getfield 114, 3) := by decide +kernel
theorem dX7_innings_88 : decode cX7_innings 88 = .ok (.istore 8, 2) := by decide +kernel
theorem dX7_innings_90 : decode cX7_innings 90 = .ok (.iload 7, 2) := by decide +kernel
theorem dX7_innings_92 : decode cX7_innings 92 = .ok (.aload_n 0, 1) := by decide +kernel
theorem dX7_innings_93 : decode cX7_innings 93 = .ok (.getfield 54, 3) := by decide +kernel
theorem dX7_innings_96 : decode cX7_innings 96 = .ok (.aload_n 0, 1) := by decide +kernel
theorem dX7_innings_97 : decode cX7_innings 97 = .ok (.getfield 40, 3) := by decide +kernel
theorem dX7_innings_100 : decode cX7_innings 100 = .ok (.aload_n 0, 1) := by decide +kernel
theorem dX7_innings_101 : decode cX7_innings 101 = .ok (.getfield 27, 3) := by decide +kernel
theorem dX7_innings_104 : decode cX7_innings 104 = .ok (.iload_n 3, 1) := by decide +kernel
theorem dX7_innings_105 : decode cX7_innings 105 = .ok (.invokevirtual 302, 3) := by decide +kernel
theorem dX7_innings_108 : decode cX7_innings 108 = .ok (.iadd, 1) := by decide +kernel
theorem dX7_innings_109 : decode cX7_innings 109 = .ok (.istore 7, 2) := by decide +kernel
theorem dX7_innings_111 : decode cX7_innings 111 = .ok (.iinc 5 1, 3) := by decide +kernel
theorem dX7_innings_114 : decode cX7_innings 114 = .ok (.iload 6, 2) := by decide +kernel
theorem dX7_innings_116 : decode cX7_innings 116 = .ok (.iload 7, 2) := by decide +kernel
theorem dX7_innings_118 : decode cX7_innings 118 = .ok (.invokestatic 306, 3) := by decide +kernel
theorem dX7_innings_121 : decode cX7_innings 121 = .ok (.istore 6, 2) := by decide +kernel
theorem dX7_innings_123 : decode cX7_innings 123 = .ok (.aload_n 0, 1) := by decide +kernel
theorem dX7_innings_124 : decode cX7_innings 124 = .ok (.getfield 27, 3) := by decide +kernel
theorem dX7_innings_127 : decode cX7_innings 127 = .ok (.getfield 114, 3) := by decide +kernel
theorem dX7_innings_130 : decode cX7_innings 130 = .ok (.iload 8, 2) := by decide +kernel
theorem dX7_innings_132 : decode cX7_innings 132 = .ok (.if_icmp .eq 6, 3) := by decide +kernel
theorem dX7_innings_135 : decode cX7_innings 135 = .ok (.iconst 0, 1) := by decide +kernel
theorem dX7_innings_136 : decode cX7_innings 136 = .ok (.istore 7, 2) := by decide +kernel
theorem dX7_innings_138 : decode cX7_innings 138 = .ok (.goto (-75), 3) := by decide +kernel
theorem dX7_innings_141 : decode cX7_innings 141 = .ok (.iload 4, 2) := by decide +kernel
theorem dX7_innings_143 : decode cX7_innings 143 = .ok (.ifCond .ne 13, 3) := by decide +kernel
theorem dX7_innings_146 : decode cX7_innings 146 = .ok (.aload_n 0, 1) := by decide +kernel
theorem dX7_innings_147 : decode cX7_innings 147 = .ok (.getfield 27, 3) := by decide +kernel
theorem dX7_innings_150 : decode cX7_innings 150 = .ok (.getfield 126, 3) := by decide +kernel
theorem dX7_innings_153 : decode cX7_innings 153 = .ok (.goto 16, 3) := by decide +kernel
theorem dX7_innings_156 : decode cX7_innings 156 = .ok (.iload 4, 2) := by decide +kernel
theorem dX7_innings_158 : decode cX7_innings 158 = .ok (.iconst 1, 1) := by decide +kernel
theorem dX7_innings_159 : decode cX7_innings 159 = .ok (.if_icmp .ne 8, 3) := by decide +kernel
theorem dX7_innings_162 : decode cX7_innings 162 = .ok (.iload 5, 2) := by decide +kernel
theorem dX7_innings_164 : decode cX7_innings 164 = .ok (.goto 5, 3) := by decide +kernel
theorem dX7_innings_167 : decode cX7_innings 167 = .ok (.iload 6, 2) := by decide +kernel
theorem dX7_innings_169 : decode cX7_innings 169 = .ok (.ireturn, 1) := by decide +kernel
theorem dX7_troubleOfPlay_0 : decode cX7_troubleOfPlay 0 = .ok (.aload_n 0, 1) := by decide +kernel
theorem dX7_troubleOfPlay_1 : decode cX7_troubleOfPlay 1 = .ok (.invokevirtual 110, 3) := by decide +kernel
theorem dX7_troubleOfPlay_4 : decode cX7_troubleOfPlay 4 = .ok (.ifCond .eq 7, 3) := by decide +kernel
theorem dX7_troubleOfPlay_7 : decode cX7_troubleOfPlay 7 = .ok (.iload_n 1, 1) := by decide +kernel
theorem dX7_troubleOfPlay_8 : decode cX7_troubleOfPlay 8 = .ok (.ifCond .ne 5, 3) := by decide +kernel
theorem dX7_troubleOfPlay_11 : decode cX7_troubleOfPlay 11 = .ok (.iconst 1, 1) := by decide +kernel
theorem dX7_troubleOfPlay_12 : decode cX7_troubleOfPlay 12 = .ok (.ireturn, 1) := by decide +kernel
theorem dX7_troubleOfPlay_13 : decode cX7_troubleOfPlay 13 = .ok (.iload_n 2, 1) := by decide +kernel
theorem dX7_troubleOfPlay_14 : decode cX7_troubleOfPlay 14 = .ok (.iconst 1, 1) := by decide +kernel
theorem dX7_troubleOfPlay_15 : decode cX7_troubleOfPlay 15 = .ok (.ldc_w 311, 3) := by decide +kernel
theorem dX7_troubleOfPlay_18 : decode cX7_troubleOfPlay 18 = .ok (.invokestatic 66, 3) := by decide +kernel
theorem dX7_troubleOfPlay_21 : decode cX7_troubleOfPlay 21 = .ok (.ifCond .eq 11, 3) := by decide +kernel
theorem dX7_troubleOfPlay_24 : decode cX7_troubleOfPlay 24 = .ok (.iload_n 3, 1) := by decide +kernel
theorem dX7_troubleOfPlay_25 : decode cX7_troubleOfPlay 25 = .ok (.ifCond .eq 7, 3) := by decide +kernel
theorem dX7_troubleOfPlay_28 : decode cX7_troubleOfPlay 28 = .ok (.iconst 0, 1) := by decide +kernel
theorem dX7_troubleOfPlay_29 : decode cX7_troubleOfPlay 29 = .ok (.goto 4, 3) := by decide +kernel
theorem dX7_troubleOfPlay_32 : decode cX7_troubleOfPlay 32 = .ok (.iconst 2, 1) := by decide +kernel
theorem dX7_troubleOfPlay_33 : decode cX7_troubleOfPlay 33 = .ok (.ireturn, 1) := by decide +kernel
theorem dX7_event_0 : decode cX7_event 0 = .ok (.aload_n 0, 1) := by decide +kernel
theorem dX7_event_1 : decode cX7_event 1 = .ok (.aload_n 0, 1) := by decide +kernel
theorem dX7_event_2 : decode cX7_event 2 = .ok (.iload_n 1, 1) := by decide +kernel
theorem dX7_event_3 : decode cX7_event 3 = .ok (.invokevirtual 312, 3) := by decide +kernel
theorem dX7_event_6 : decode cX7_event 6 = .ok (.invokevirtual 70, 3) := by decide +kernel
theorem dX7_event_9 : decode cX7_event 9 = .ok (.ifCond .eq 5, 3) := by decide +kernel
theorem dX7_event_12 : decode cX7_event 12 = .ok (.iconst (-1), 1) := by decide +kernel
theorem dX7_event_13 : decode cX7_event 13 = .ok (.ireturn, 1) := by decide +kernel
theorem dX7_event_14 : decode cX7_event 14 = .ok (.aload_n 0, 1) := by decide +kernel
theorem dX7_event_15 : decode cX7_event 15 = .ok (.getfield 33, 3) := by decide +kernel
theorem dX7_event_18 : decode cX7_event 18 = .ok (.aload_n 0, 1) := by decide +kernel
theorem dX7_event_19 : decode cX7_event 19 = .ok (.getfield 23, 3) := by decide +kernel
theorem dX7_event_22 : decode cX7_event 22 = .ok (.invokevirtual 315, 3) := by decide +kernel
theorem dX7_event_25 : decode cX7_event 25 = .ok (.aload_n 0, 1) := by decide +kernel
theorem dX7_event_26 : decode cX7_event 26 = .ok (.getfield 23, 3) := by decide +kernel
theorem dX7_event_29 : decode cX7_event 29 = .ok (.aload_n 0, 1) := by decide +kernel
theorem dX7_event_30 : decode cX7_event 30 = .ok (.getfield 40, 3) := by decide +kernel
theorem dX7_event_33 : decode cX7_event 33 = .ok (.getfield 181, 3) := by decide +kernel
theorem dX7_event_36 : decode cX7_event 36 = .ok (.iload_n 1, 1) := by decide +kernel
theorem dX7_event_37 : decode cX7_event 37 = .ok (.invokevirtual 318, 3) := by decide +kernel
theorem dX7_event_40 : decode cX7_event 40 = .ok (.ireturn, 1) := by decide +kernel
theorem dX7_troubleOfEvent_0 : decode cX7_troubleOfEvent 0 = .ok (.aload_n 0, 1) := by decide +kernel
theorem dX7_troubleOfEvent_1 : decode cX7_troubleOfEvent 1 = .ok (.invokevirtual 110, 3) := by decide +kernel
theorem dX7_troubleOfEvent_4 : decode cX7_troubleOfEvent 4 = .ok (.ifCond .eq 13, 3) := by decide +kernel
theorem dX7_troubleOfEvent_7 : decode cX7_troubleOfEvent 7 = .ok (.iload_n 1, 1) := by decide +kernel
theorem dX7_troubleOfEvent_8 : decode cX7_troubleOfEvent 8 = .ok (.iconst 0, 1) := by decide +kernel
theorem dX7_troubleOfEvent_9 : decode cX7_troubleOfEvent 9 = .ok (.bipush 8, 2) := by decide +kernel
theorem dX7_troubleOfEvent_11 : decode cX7_troubleOfEvent 11 = .ok (.invokestatic 66, 3) := by decide +kernel
theorem dX7_troubleOfEvent_14 : decode cX7_troubleOfEvent 14 = .ok (.ifCond .ne 5, 3) := by decide +kernel
theorem dX7_troubleOfEvent_17 : decode cX7_troubleOfEvent 17 = .ok (.iconst 1, 1) := by decide +kernel
theorem dX7_troubleOfEvent_18 : decode cX7_troubleOfEvent 18 = .ok (.ireturn, 1) := by decide +kernel
theorem dX7_troubleOfEvent_19 : decode cX7_troubleOfEvent 19 = .ok (.aload_n 0, 1) := by decide +kernel
theorem dX7_troubleOfEvent_20 : decode cX7_troubleOfEvent 20 = .ok (.getfield 40, 3) := by decide +kernel
theorem dX7_troubleOfEvent_23 : decode cX7_troubleOfEvent 23 = .ok (.getfield 181, 3) := by decide +kernel
theorem dX7_troubleOfEvent_26 : decode cX7_troubleOfEvent 26 = .ok (.iload_n 1, 1) := by decide +kernel
theorem dX7_troubleOfEvent_27 : decode cX7_troubleOfEvent 27 = .ok (.aload_n 0, 1) := by decide +kernel
theorem dX7_troubleOfEvent_28 : decode cX7_troubleOfEvent 28 = .ok (.getfield 23, 3) := by decide +kernel
theorem dX7_troubleOfEvent_31 : decode cX7_troubleOfEvent 31 = .ok (.getfield 117, 3) := by decide +kernel
theorem dX7_troubleOfEvent_34 : decode cX7_troubleOfEvent 34 = .ok (.invokevirtual 197, 3) := by decide +kernel
theorem dX7_troubleOfEvent_37 : decode cX7_troubleOfEvent 37 = .ok (.ifCond .eq 7, 3) := by decide +kernel
theorem dX7_troubleOfEvent_40 : decode cX7_troubleOfEvent 40 = .ok (.iconst 0, 1) := by decide +kernel
theorem dX7_troubleOfEvent_41 : decode cX7_troubleOfEvent 41 = .ok (.goto 4, 3) := by decide +kernel
theorem dX7_troubleOfEvent_44 : decode cX7_troubleOfEvent 44 = .ok (.iconst 5, 1) := by decide +kernel
theorem dX7_troubleOfEvent_45 : decode cX7_troubleOfEvent 45 = .ok (.ireturn, 1) := by decide +kernel
theorem dX7_play_0 : decode cX7_play 0 = .ok (.aload_n 0, 1) := by decide +kernel
theorem dX7_play_1 : decode cX7_play 1 = .ok (.aload_n 0, 1) := by decide +kernel
theorem dX7_play_2 : decode cX7_play 2 = .ok (.iconst 1, 1) := by decide +kernel
theorem dX7_play_3 : decode cX7_play 3 = .ok (.iload_n 1, 1) := by decide +kernel
theorem dX7_play_4 : decode cX7_play 4 = .ok (.iload_n 2, 1) := by decide +kernel
theorem dX7_play_5 : decode cX7_play 5 = .ok (.iconst 1, 1) := by decide +kernel
theorem dX7_play_6 : decode cX7_play 6 = .ok (.bipush 20, 2) := by decide +kernel
theorem dX7_play_8 : decode cX7_play 8 = .ok (.invokestatic 66, 3) := by decide +kernel
theorem dX7_play_11 : decode cX7_play 11 = .ok (.invokevirtual 288, 3) := by decide +kernel
theorem dX7_play_14 : decode cX7_play 14 = .ok (.invokevirtual 70, 3) := by decide +kernel
theorem dX7_play_17 : decode cX7_play 17 = .ok (.ifCond .eq 5, 3) := by decide +kernel
theorem dX7_play_20 : decode cX7_play 20 = .ok (.iconst (-1), 1) := by decide +kernel
theorem dX7_play_21 : decode cX7_play 21 = .ok (.ireturn, 1) := by decide +kernel
theorem dX7_play_22 : decode cX7_play 22 = .ok (.aload_n 0, 1) := by decide +kernel
theorem dX7_play_23 : decode cX7_play 23 = .ok (.getfield 33, 3) := by decide +kernel
theorem dX7_play_26 : decode cX7_play 26 = .ok (.aload_n 0, 1) := by decide +kernel
theorem dX7_play_27 : decode cX7_play 27 = .ok (.getfield 23, 3) := by decide +kernel
theorem dX7_play_30 : decode cX7_play 30 = .ok (.invokevirtual 315, 3) := by decide +kernel
theorem dX7_play_33 : decode cX7_play 33 = .ok (.aload_n 0, 1) := by decide +kernel
theorem dX7_play_34 : decode cX7_play 34 = .ok (.getfield 54, 3) := by decide +kernel
theorem dX7_play_37 : decode cX7_play 37 = .ok (.iload_n 1, 1) := by decide +kernel
theorem dX7_play_38 : decode cX7_play 38 = .ok (.invokevirtual 299, 3) := by decide +kernel
theorem dX7_play_41 : decode cX7_play 41 = .ok (.iconst 0, 1) := by decide +kernel
theorem dX7_play_42 : decode cX7_play 42 = .ok (.istore 4, 2) := by decide +kernel
theorem dX7_play_44 : decode cX7_play 44 = .ok (.iconst 0, 1) := by decide +kernel
theorem dX7_play_45 : decode cX7_play 45 = .ok (.istore 5, 2) := by decide +kernel
theorem dX7_play_47 : decode cX7_play 47 = .ok (.iload 5, 2) := by decide +kernel
theorem dX7_play_49 : decode cX7_play 49 = .ok (.iload_n 2, 1) := by decide +kernel
theorem dX7_play_50 : decode cX7_play 50 = .ok (.if_icmp .ge 30, 3) := by decide +kernel
theorem dX7_play_53 : decode cX7_play 53 = .ok (.iload 4, 2) := by decide +kernel
theorem dX7_play_55 : decode cX7_play 55 = .ok (.aload_n 0, 1) := by decide +kernel
theorem dX7_play_56 : decode cX7_play 56 = .ok (.getfield 54, 3) := by decide +kernel
theorem dX7_play_59 : decode cX7_play 59 = .ok (.aload_n 0, 1) := by decide +kernel
theorem dX7_play_60 : decode cX7_play 60 = .ok (.getfield 40, 3) := by decide +kernel
theorem dX7_play_63 : decode cX7_play 63 = .ok (.aload_n 0, 1) := by decide +kernel
theorem dX7_play_64 : decode cX7_play 64 = .ok (.getfield 23, 3) := by decide +kernel
theorem dX7_play_67 : decode cX7_play 67 = .ok (.iload_n 3, 1) := by decide +kernel
theorem dX7_play_68 : decode cX7_play 68 = .ok (.invokevirtual 302, 3) := by decide +kernel
theorem dX7_play_71 : decode cX7_play 71 = .ok (.iadd, 1) := by decide +kernel
theorem dX7_play_72 : decode cX7_play 72 = .ok (.istore 4, 2) := by decide +kernel
theorem dX7_play_74 : decode cX7_play 74 = .ok (.iinc 5 1, 3) := by decide +kernel
theorem dX7_play_77 : decode cX7_play 77 = .ok (.goto (-30), 3) := by decide +kernel
theorem dX7_play_80 : decode cX7_play 80 = .ok (.iload 4, 2) := by decide +kernel
theorem dX7_play_82 : decode cX7_play 82 = .ok (.ireturn, 1) := by decide +kernel
theorem dX7_relieve_0 : decode cX7_relieve 0 = .ok (.aload_n 0, 1) := by decide +kernel
theorem dX7_relieve_1 : decode cX7_relieve 1 = .ok (.aload_n 0, 1) := by decide +kernel
theorem dX7_relieve_2 : decode cX7_relieve 2 = .ok (.invokevirtual 110, 3) := by decide +kernel
theorem dX7_relieve_5 : decode cX7_relieve 5 = .ok (.ifCond .eq 7, 3) := by decide +kernel
theorem dX7_relieve_8 : decode cX7_relieve 8 = .ok (.iconst 0, 1) := by decide +kernel
theorem dX7_relieve_9 : decode cX7_relieve 9 = .ok (.goto 4, 3) := by decide +kernel
theorem dX7_relieve_12 : decode cX7_relieve 12 = .ok (.iconst 1, 1) := by decide +kernel
theorem dX7_relieve_13 : decode cX7_relieve 13 = .ok (.invokevirtual 70, 3) := by decide +kernel
theorem dX7_relieve_16 : decode cX7_relieve 16 = .ok (.ifCond .eq 5, 3) := by decide +kernel
theorem dX7_relieve_19 : decode cX7_relieve 19 = .ok (.iconst (-1), 1) := by decide +kernel
theorem dX7_relieve_20 : decode cX7_relieve 20 = .ok (.ireturn, 1) := by decide +kernel
theorem dX7_relieve_21 : decode cX7_relieve 21 = .ok (.aload_n 0, 1) := by decide +kernel
theorem dX7_relieve_22 : decode cX7_relieve 22 = .ok (.getfield 33, 3) := by decide +kernel
theorem dX7_relieve_25 : decode cX7_relieve 25 = .ok (.aload_n 0, 1) := by decide +kernel
theorem dX7_relieve_26 : decode cX7_relieve 26 = .ok (.getfield 23, 3) := by decide +kernel
theorem dX7_relieve_29 : decode cX7_relieve 29 = .ok (.invokevirtual 315, 3) := by decide +kernel
theorem dX7_relieve_32 : decode cX7_relieve 32 = .ok (.aload_n 0, 1) := by decide +kernel
theorem dX7_relieve_33 : decode cX7_relieve 33 = .ok (.getfield 23, 3) := by decide +kernel
theorem dX7_relieve_36 : decode cX7_relieve 36 = .ok (.getfield 132, 3) := by decide +kernel
theorem dX7_relieve_39 : decode cX7_relieve 39 = .ok (.istore_n 1, 1) := by decide +kernel
theorem dX7_relieve_40 : decode cX7_relieve 40 = .ok (.aload_n 0, 1) := by decide +kernel
theorem dX7_relieve_41 : decode cX7_relieve 41 = .ok (.getfield 23, 3) := by decide +kernel
theorem dX7_relieve_44 : decode cX7_relieve 44 = .ok (.iconst 0, 1) := by decide +kernel
theorem dX7_relieve_45 : decode cX7_relieve 45 = .ok (.putfield 132, 3) := by decide +kernel
theorem dX7_relieve_48 : decode cX7_relieve 48 = .ok (.iload_n 1, 1) := by decide +kernel
theorem dX7_relieve_49 : decode cX7_relieve 49 = .ok (.ireturn, 1) := by decide +kernel
theorem dX7_begin_0 : decode cX7_begin 0 = .ok (.aload_n 0, 1) := by decide +kernel
theorem dX7_begin_1 : decode cX7_begin 1 = .ok (.aload_n 0, 1) := by decide +kernel
theorem dX7_begin_2 : decode cX7_begin 2 = .ok (.invokevirtual 110, 3) := by decide +kernel
theorem dX7_begin_5 : decode cX7_begin 5 = .ok (.ifCond .eq 7, 3) := by decide +kernel
theorem dX7_begin_8 : decode cX7_begin 8 = .ok (.iconst 0, 1) := by decide +kernel
theorem dX7_begin_9 : decode cX7_begin 9 = .ok (.goto 4, 3) := by decide +kernel
theorem dX7_begin_12 : decode cX7_begin 12 = .ok (.iconst 1, 1) := by decide +kernel
theorem dX7_begin_13 : decode cX7_begin 13 = .ok (.invokevirtual 70, 3) := by decide +kernel
theorem dX7_begin_16 : decode cX7_begin 16 = .ok (.ifCond .eq 5, 3) := by decide +kernel
theorem dX7_begin_19 : decode cX7_begin 19 = .ok (.iconst (-1), 1) := by decide +kernel
theorem dX7_begin_20 : decode cX7_begin 20 = .ok (.ireturn, 1) := by decide +kernel
theorem dX7_begin_21 : decode cX7_begin 21 = .ok (.aload_n 0, 1) := by decide +kernel
theorem dX7_begin_22 : decode cX7_begin 22 = .ok (.getfield 33, 3) := by decide +kernel
theorem dX7_begin_25 : decode cX7_begin 25 = .ok (.aload_n 0, 1) := by decide +kernel
theorem dX7_begin_26 : decode cX7_begin 26 = .ok (.getfield 23, 3) := by decide +kernel
theorem dX7_begin_29 : decode cX7_begin 29 = .ok (.invokevirtual 315, 3) := by decide +kernel
theorem dX7_begin_32 : decode cX7_begin 32 = .ok (.aload_n 0, 1) := by decide +kernel
theorem dX7_begin_33 : decode cX7_begin 33 = .ok (.getfield 23, 3) := by decide +kernel
theorem dX7_begin_36 : decode cX7_begin 36 = .ok (.getfield 126, 3) := by decide +kernel
theorem dX7_begin_39 : decode cX7_begin 39 = .ok (.istore_n 1, 1) := by decide +kernel
theorem dX7_begin_40 : decode cX7_begin 40 = .ok (.aload_n 0, 1) := by decide +kernel
theorem dX7_begin_41 : decode cX7_begin 41 = .ok (.getfield 23, 3) := by decide +kernel
theorem dX7_begin_44 : decode cX7_begin 44 = .ok (.invokevirtual 296, 3) := by decide +kernel
theorem dX7_begin_47 : decode cX7_begin 47 = .ok (.iload_n 1, 1) := by decide +kernel
theorem dX7_begin_48 : decode cX7_begin 48 = .ok (.ireturn, 1) := by decide +kernel
theorem dX7_swap_0 : decode cX7_swap 0 = .ok (.aload_n 0, 1) := by decide +kernel
theorem dX7_swap_1 : decode cX7_swap 1 = .ok (.aload_n 0, 1) := by decide +kernel
theorem dX7_swap_2 : decode cX7_swap 2 = .ok (.getfield 23, 3) := by decide +kernel
theorem dX7_swap_5 : decode cX7_swap 5 = .ok (.iload_n 1, 1) := by decide +kernel
theorem dX7_swap_6 : decode cX7_swap 6 = .ok (.invokevirtual 158, 3) := by decide +kernel
theorem dX7_swap_9 : decode cX7_swap 9 = .ok (.ifCond .eq 14, 3) := by decide +kernel
theorem dX7_swap_12 : decode cX7_swap 12 = .ok (.aload_n 0, 1) := by decide +kernel
theorem dX7_swap_13 : decode cX7_swap 13 = .ok (.getfield 23, 3) := by decide +kernel
theorem dX7_swap_16 : decode cX7_swap 16 = .ok (.iload_n 2, 1) := by decide +kernel
theorem dX7_swap_17 : decode cX7_swap 17 = .ok (.invokevirtual 158, 3) := by decide +kernel
theorem dX7_swap_20 : decode cX7_swap 20 = .ok (.ifCond .ne 7, 3) := by decide +kernel
theorem dX7_swap_23 : decode cX7_swap 23 = .ok (.iconst 1, 1) := by decide +kernel
theorem dX7_swap_24 : decode cX7_swap 24 = .ok (.goto 13, 3) := by decide +kernel
theorem dX7_swap_27 : decode cX7_swap 27 = .ok (.iload_n 1, 1) := by decide +kernel
theorem dX7_swap_28 : decode cX7_swap 28 = .ok (.iload_n 2, 1) := by decide +kernel
theorem dX7_swap_29 : decode cX7_swap 29 = .ok (.if_icmp .ne 7, 3) := by decide +kernel
theorem dX7_swap_32 : decode cX7_swap 32 = .ok (.iconst 5, 1) := by decide +kernel
theorem dX7_swap_33 : decode cX7_swap 33 = .ok (.goto 4, 3) := by decide +kernel
theorem dX7_swap_36 : decode cX7_swap 36 = .ok (.iconst 0, 1) := by decide +kernel
theorem dX7_swap_37 : decode cX7_swap 37 = .ok (.invokevirtual 70, 3) := by decide +kernel
theorem dX7_swap_40 : decode cX7_swap 40 = .ok (.ifCond .eq 5, 3) := by decide +kernel
theorem dX7_swap_43 : decode cX7_swap 43 = .ok (.iconst (-1), 1) := by decide +kernel
theorem dX7_swap_44 : decode cX7_swap 44 = .ok (.ireturn, 1) := by decide +kernel
theorem dX7_swap_45 : decode cX7_swap 45 = .ok (.aload_n 0, 1) := by decide +kernel
theorem dX7_swap_46 : decode cX7_swap 46 = .ok (.getfield 33, 3) := by decide +kernel
theorem dX7_swap_49 : decode cX7_swap 49 = .ok (.aload_n 0, 1) := by decide +kernel
theorem dX7_swap_50 : decode cX7_swap 50 = .ok (.getfield 23, 3) := by decide +kernel
theorem dX7_swap_53 : decode cX7_swap 53 = .ok (.invokevirtual 315, 3) := by decide +kernel
theorem dX7_swap_56 : decode cX7_swap 56 = .ok (.aload_n 0, 1) := by decide +kernel
theorem dX7_swap_57 : decode cX7_swap 57 = .ok (.getfield 23, 3) := by decide +kernel
theorem dX7_swap_60 : decode cX7_swap 60 = .ok (.iload_n 1, 1) := by decide +kernel
theorem dX7_swap_61 : decode cX7_swap 61 = .ok (.iload_n 2, 1) := by decide +kernel
theorem dX7_swap_62 : decode cX7_swap 62 = .ok (.invokevirtual 322, 3) := by decide +kernel
theorem dX7_swap_65 : decode cX7_swap 65 = .ok (.aload_n 0, 1) := by decide +kernel
theorem dX7_swap_66 : decode cX7_swap 66 = .ok (.getfield 23, 3) := by decide +kernel
theorem dX7_swap_69 : decode cX7_swap 69 = .ok (.iload_n 1, 1) := by decide +kernel
theorem dX7_swap_70 : decode cX7_swap 70 = .ok (.invokevirtual 161, 3) := by decide +kernel
theorem dX7_swap_73 : decode cX7_swap 73 = .ok (.ireturn, 1) := by decide +kernel
theorem dX7_lay_0 : decode cX7_lay 0 = .ok (.aload_n 0, 1) := by decide +kernel
theorem dX7_lay_1 : decode cX7_lay 1 = .ok (.aload_n 0, 1) := by decide +kernel
theorem dX7_lay_2 : decode cX7_lay 2 = .ok (.iconst 1, 1) := by decide +kernel
theorem dX7_lay_3 : decode cX7_lay 3 = .ok (.iload_n 1, 1) := by decide +kernel
theorem dX7_lay_4 : decode cX7_lay 4 = .ok (.iconst 3, 1) := by decide +kernel
theorem dX7_lay_5 : decode cX7_lay 5 = .ok (.invokevirtual 252, 3) := by decide +kernel
theorem dX7_lay_8 : decode cX7_lay 8 = .ok (.invokevirtual 70, 3) := by decide +kernel
theorem dX7_lay_11 : decode cX7_lay 11 = .ok (.ifCond .eq 5, 3) := by decide +kernel
theorem dX7_lay_14 : decode cX7_lay 14 = .ok (.iconst (-1), 1) := by decide +kernel
theorem dX7_lay_15 : decode cX7_lay 15 = .ok (.ireturn, 1) := by decide +kernel
theorem dX7_lay_16 : decode cX7_lay 16 = .ok (.aload_n 0, 1) := by decide +kernel
theorem dX7_lay_17 : decode cX7_lay 17 = .ok (.getfield 33, 3) := by decide +kernel
theorem dX7_lay_20 : decode cX7_lay 20 = .ok (.aload_n 0, 1) := by decide +kernel
theorem dX7_lay_21 : decode cX7_lay 21 = .ok (.getfield 23, 3) := by decide +kernel
theorem dX7_lay_24 : decode cX7_lay 24 = .ok (.invokevirtual 315, 3) := by decide +kernel
theorem dX7_lay_27 : decode cX7_lay 27 = .ok (.aload_n 0, 1) := by decide +kernel
theorem dX7_lay_28 : decode cX7_lay 28 = .ok (.getfield 47, 3) := by decide +kernel
theorem dX7_lay_31 : decode cX7_lay 31 = .ok (.aload_n 0, 1) := by decide +kernel
theorem dX7_lay_32 : decode cX7_lay 32 = .ok (.getfield 40, 3) := by decide +kernel
theorem dX7_lay_35 : decode cX7_lay 35 = .ok (.aload_n 0, 1) := by decide +kernel
theorem dX7_lay_36 : decode cX7_lay 36 = .ok (.getfield 23, 3) := by decide +kernel
theorem dX7_lay_39 : decode cX7_lay 39 = .ok (.iload_n 1, 1) := by decide +kernel
theorem dX7_lay_40 : decode cX7_lay 40 = .ok (.invokevirtual 260, 3) := by decide +kernel
theorem dX7_lay_43 : decode cX7_lay 43 = .ok (.iconst 0, 1) := by decide +kernel
theorem dX7_lay_44 : decode cX7_lay 44 = .ok (.istore_n 2, 1) := by decide +kernel
theorem dX7_lay_45 : decode cX7_lay 45 = .ok (.iconst 0, 1) := by decide +kernel
theorem dX7_lay_46 : decode cX7_lay 46 = .ok (.istore_n 3, 1) := by decide +kernel
theorem dX7_lay_47 : decode cX7_lay 47 = .ok (.iload_n 3, 1) := by decide +kernel
theorem dX7_lay_48 : decode cX7_lay 48 = .ok (.aload_n 0, 1) := by decide +kernel
theorem dX7_lay_49 : decode cX7_lay 49 = .ok (.getfield 23, 3) := by decide +kernel
theorem dX7_lay_52 : decode cX7_lay 52 = .ok (.getfield 104, 3) := by decide +kernel
theorem dX7_lay_55 : decode cX7_lay 55 = .ok (.if_icmp .ge 47, 3) := by decide +kernel
theorem dX7_lay_58 : decode cX7_lay 58 = .ok (.aload_n 0, 1) := by decide +kernel
theorem dX7_lay_59 : decode cX7_lay 59 = .ok (.getfield 23, 3) := by decide +kernel
theorem dX7_lay_62 : decode cX7_lay 62 = .ok (.iload_n 3, 1) := by decide +kernel
theorem dX7_lay_63 : decode cX7_lay 63 = .ok (.invokevirtual 161, 3) := by decide +kernel
theorem dX7_lay_66 : decode cX7_lay 66 = .ok (.aload_n 0, 1) := by decide +kernel
theorem dX7_lay_67 : decode cX7_lay 67 = .ok (.getfield 47, 3) := by decide +kernel
theorem dX7_lay_70 : decode cX7_lay 70 = .ok (.iload_n 3, 1) := by decide +kernel
theorem dX7_lay_71 : decode cX7_lay 71 = .ok (.invokevirtual 268, 3) := by decide +kernel
theorem dX7_lay_74 : decode cX7_lay 74 = .ok (.if_icmp .eq 6, 3) := by decide +kernel
theorem dX7_lay_77 : decode cX7_lay 77 = .ok (.iinc 2 1, 3) := by decide +kernel
theorem dX7_lay_80 : decode cX7_lay 80 = .ok (.aload_n 0, 1) := by decide +kernel
theorem dX7_lay_81 : decode cX7_lay 81 = .ok (.getfield 23, 3) := by decide +kernel
theorem dX7_lay_84 : decode cX7_lay 84 = .ok (.iload_n 3, 1) := by decide +kernel
theorem dX7_lay_85 : decode cX7_lay 85 = .ok (.aload_n 0, 1) := by decide +kernel
theorem dX7_lay_86 : decode cX7_lay 86 = .ok (.getfield 47, 3) := by decide +kernel
theorem dX7_lay_89 : decode cX7_lay 89 = .ok (.iload_n 3, 1) := by decide +kernel
theorem dX7_lay_90 : decode cX7_lay 90 = .ok (.invokevirtual 268, 3) := by decide +kernel
theorem dX7_lay_93 : decode cX7_lay 93 = .ok (.invokevirtual 326, 3) := by decide +kernel
theorem dX7_lay_96 : decode cX7_lay 96 = .ok (.iinc 3 1, 3) := by decide +kernel
theorem dX7_lay_99 : decode cX7_lay 99 = .ok (.goto (-52), 3) := by decide +kernel
theorem dX7_lay_102 : decode cX7_lay 102 = .ok (.iload_n 2, 1) := by decide +kernel
theorem dX7_lay_103 : decode cX7_lay 103 = .ok (.ireturn, 1) := by decide +kernel
theorem dX7_better_0 : decode cX7_better 0 = .ok (.aload_n 0, 1) := by decide +kernel
theorem dX7_better_1 : decode cX7_better 1 = .ok (.aload_n 0, 1) := by decide +kernel
theorem dX7_better_2 : decode cX7_better 2 = .ok (.iconst 1, 1) := by decide +kernel
theorem dX7_better_3 : decode cX7_better 3 = .ok (.iload_n 1, 1) := by decide +kernel
theorem dX7_better_4 : decode cX7_better 4 = .ok (.iconst 5, 1) := by decide +kernel
theorem dX7_better_5 : decode cX7_better 5 = .ok (.invokevirtual 252, 3) := by decide +kernel
theorem dX7_better_8 : decode cX7_better 8 = .ok (.invokevirtual 70, 3) := by decide +kernel
theorem dX7_better_11 : decode cX7_better 11 = .ok (.ifCond .eq 5, 3) := by decide +kernel
theorem dX7_better_14 : decode cX7_better 14 = .ok (.iconst (-1), 1) := by decide +kernel
theorem dX7_better_15 : decode cX7_better 15 = .ok (.ireturn, 1) := by decide +kernel
theorem dX7_better_16 : decode cX7_better 16 = .ok (.aload_n 0, 1) := by decide +kernel
theorem dX7_better_17 : decode cX7_better 17 = .ok (.getfield 33, 3) := by decide +kernel
theorem dX7_better_20 : decode cX7_better 20 = .ok (.aload_n 0, 1) := by decide +kernel
theorem dX7_better_21 : decode cX7_better 21 = .ok (.getfield 23, 3) := by decide +kernel
theorem dX7_better_24 : decode cX7_better 24 = .ok (.invokevirtual 315, 3) := by decide +kernel
theorem dX7_better_27 : decode cX7_better 27 = .ok (.iconst 0, 1) := by decide +kernel
theorem dX7_better_28 : decode cX7_better 28 = .ok (.istore_n 2, 1) := by decide +kernel
theorem dX7_better_29 : decode cX7_better 29 = .ok (.iload_n 2, 1) := by decide +kernel
theorem dX7_better_30 : decode cX7_better 30 = .ok (.bipush 60, 2) := by decide +kernel
theorem dX7_better_32 : decode cX7_better 32 = .ok (.if_icmp .ge 28, 3) := by decide +kernel
theorem dX7_better_35 : decode cX7_better 35 = .ok (.aload_n 0, 1) := by decide +kernel
theorem dX7_better_36 : decode cX7_better 36 = .ok (.getfield 47, 3) := by decide +kernel
theorem dX7_better_39 : decode cX7_better 39 = .ok (.aload_n 0, 1) := by decide +kernel
theorem dX7_better_40 : decode cX7_better 40 = .ok (.getfield 40, 3) := by decide +kernel
theorem dX7_better_43 : decode cX7_better 43 = .ok (.aload_n 0, 1) := by decide +kernel
theorem dX7_better_44 : decode cX7_better 44 = .ok (.getfield 23, 3) := by decide +kernel
theorem dX7_better_47 : decode cX7_better 47 = .ok (.iload_n 1, 1) := by decide +kernel
theorem dX7_better_48 : decode cX7_better 48 = .ok (.invokevirtual 329, 3) := by decide +kernel
theorem dX7_better_51 : decode cX7_better 51 = .ok (.ifCond .eq 9, 3) := by decide +kernel
theorem dX7_better_54 : decode cX7_better 54 = .ok (.iinc 2 1, 3) := by decide +kernel
theorem dX7_better_57 : decode cX7_better 57 = .ok (.goto (-28), 3) := by decide +kernel
theorem dX7_better_60 : decode cX7_better 60 = .ok (.iload_n 2, 1) := by decide +kernel
theorem dX7_better_61 : decode cX7_better 61 = .ok (.ireturn, 1) := by decide +kernel
theorem dX7_shift_0 : decode cX7_shift 0 = .ok (.aload_n 0, 1) := by decide +kernel
theorem dX7_shift_1 : decode cX7_shift 1 = .ok (.aload_n 0, 1) := by decide +kernel
theorem dX7_shift_2 : decode cX7_shift 2 = .ok (.iload_n 1, 1) := by decide +kernel
theorem dX7_shift_3 : decode cX7_shift 3 = .ok (.iload_n 2, 1) := by decide +kernel
theorem dX7_shift_4 : decode cX7_shift 4 = .ok (.iload_n 3, 1) := by decide +kernel
theorem dX7_shift_5 : decode cX7_shift 5 = .ok (.iload 4, 2) := by decide +kernel
theorem dX7_shift_7 : decode cX7_shift 7 = .ok (.invokevirtual 333, 3) := by decide +kernel
theorem dX7_shift_10 : decode cX7_shift 10 = .ok (.invokevirtual 70, 3) := by decide +kernel
theorem dX7_shift_13 : decode cX7_shift 13 = .ok (.ifCond .eq 5, 3) := by decide +kernel
theorem dX7_shift_16 : decode cX7_shift 16 = .ok (.iconst (-1), 1) := by decide +kernel
theorem dX7_shift_17 : decode cX7_shift 17 = .ok (.ireturn, 1) := by decide +kernel
theorem dX7_shift_18 : decode cX7_shift 18 = .ok (.aload_n 0, 1) := by decide +kernel
theorem dX7_shift_19 : decode cX7_shift 19 = .ok (.getfield 33, 3) := by decide +kernel
theorem dX7_shift_22 : decode cX7_shift 22 = .ok (.aload_n 0, 1) := by decide +kernel
theorem dX7_shift_23 : decode cX7_shift 23 = .ok (.getfield 23, 3) := by decide +kernel
theorem dX7_shift_26 : decode cX7_shift 26 = .ok (.invokevirtual 315, 3) := by decide +kernel
theorem dX7_shift_29 : decode cX7_shift 29 = .ok (.aload_n 0, 1) := by decide +kernel
theorem dX7_shift_30 : decode cX7_shift 30 = .ok (.getfield 23, 3) := by decide +kernel
theorem dX7_shift_33 : decode cX7_shift 33 = .ok (.iload_n 1, 1) := by decide +kernel
theorem dX7_shift_34 : decode cX7_shift 34 = .ok (.iload_n 2, 1) := by decide +kernel
theorem dX7_shift_35 : decode cX7_shift 35 = .ok (.aload_n 0, 1) := by decide +kernel
theorem dX7_shift_36 : decode cX7_shift 36 = .ok (.getfield 23, 3) := by decide +kernel
theorem dX7_shift_39 : decode cX7_shift 39 = .ok (.iload_n 1, 1) := by decide +kernel
theorem dX7_shift_40 : decode cX7_shift 40 = .ok (.iload_n 2, 1) := by decide +kernel
theorem dX7_shift_41 : decode cX7_shift 41 = .ok (.invokevirtual 154, 3) := by decide +kernel
theorem dX7_shift_44 : decode cX7_shift 44 = .ok (.iload 4, 2) := by decide +kernel
theorem dX7_shift_46 : decode cX7_shift 46 = .ok (.isub, 1) := by decide +kernel
theorem dX7_shift_47 : decode cX7_shift 47 = .ok (.invokevirtual 336, 3) := by decide +kernel
theorem dX7_shift_50 : decode cX7_shift 50 = .ok (.aload_n 0, 1) := by decide +kernel
theorem dX7_shift_51 : decode cX7_shift 51 = .ok (.getfield 23, 3) := by decide +kernel
theorem dX7_shift_54 : decode cX7_shift 54 = .ok (.iload_n 1, 1) := by decide +kernel
theorem dX7_shift_55 : decode cX7_shift 55 = .ok (.iload_n 3, 1) := by decide +kernel
theorem dX7_shift_56 : decode cX7_shift 56 = .ok (.aload_n 0, 1) := by decide +kernel
theorem dX7_shift_57 : decode cX7_shift 57 = .ok (.getfield 23, 3) := by decide +kernel
theorem dX7_shift_60 : decode cX7_shift 60 = .ok (.iload_n 1, 1) := by decide +kernel
theorem dX7_shift_61 : decode cX7_shift 61 = .ok (.iload_n 3, 1) := by decide +kernel
theorem dX7_shift_62 : decode cX7_shift 62 = .ok (.invokevirtual 154, 3) := by decide +kernel
theorem dX7_shift_65 : decode cX7_shift 65 = .ok (.iload 4, 2) := by decide +kernel
theorem dX7_shift_67 : decode cX7_shift 67 = .ok (.iadd, 1) := by decide +kernel
theorem dX7_shift_68 : decode cX7_shift 68 = .ok (.invokevirtual 336, 3) := by decide +kernel
theorem dX7_shift_71 : decode cX7_shift 71 = .ok (.aload_n 0, 1) := by decide +kernel
theorem dX7_shift_72 : decode cX7_shift 72 = .ok (.getfield 23, 3) := by decide +kernel
theorem dX7_shift_75 : decode cX7_shift 75 = .ok (.iload_n 1, 1) := by decide +kernel
theorem dX7_shift_76 : decode cX7_shift 76 = .ok (.iload_n 3, 1) := by decide +kernel
theorem dX7_shift_77 : decode cX7_shift 77 = .ok (.invokevirtual 154, 3) := by decide +kernel
theorem dX7_shift_80 : decode cX7_shift 80 = .ok (.ireturn, 1) := by decide +kernel
theorem dX7_troubleOfShift_0 : decode cX7_troubleOfShift 0 = .ok (.aload_n 0, 1) := by decide +kernel
theorem dX7_troubleOfShift_1 : decode cX7_troubleOfShift 1 = .ok (.getfield 23, 3) := by decide +kernel
theorem dX7_troubleOfShift_4 : decode cX7_troubleOfShift 4 = .ok (.iload_n 1, 1) := by decide +kernel
theorem dX7_troubleOfShift_5 : decode cX7_troubleOfShift 5 = .ok (.invokevirtual 142, 3) := by decide +kernel
theorem dX7_troubleOfShift_8 : decode cX7_troubleOfShift 8 = .ok (.ifCond .eq 17, 3) := by decide +kernel
theorem dX7_troubleOfShift_11 : decode cX7_troubleOfShift 11 = .ok (.iload_n 2, 1) := by decide +kernel
theorem dX7_troubleOfShift_12 : decode cX7_troubleOfShift 12 = .ok (.invokestatic 167, 3) := by decide +kernel
theorem dX7_troubleOfShift_15 : decode cX7_troubleOfShift 15 = .ok (.ifCond .eq 10, 3) := by decide +kernel
theorem dX7_troubleOfShift_18 : decode cX7_troubleOfShift 18 = .ok (.iload_n 3, 1) := by decide +kernel
theorem dX7_troubleOfShift_19 : decode cX7_troubleOfShift 19 = .ok (.invokestatic 167, 3) := by decide +kernel
theorem dX7_troubleOfShift_22 : decode cX7_troubleOfShift 22 = .ok (.ifCond .ne 5, 3) := by decide +kernel
theorem dX7_troubleOfShift_25 : decode cX7_troubleOfShift 25 = .ok (.iconst 1, 1) := by decide +kernel
theorem dX7_troubleOfShift_26 : decode cX7_troubleOfShift 26 = .ok (.ireturn, 1) := by decide +kernel
theorem dX7_troubleOfShift_27 : decode cX7_troubleOfShift 27 = .ok (.iload 4, 2) := by decide +kernel
theorem dX7_troubleOfShift_29 : decode cX7_troubleOfShift 29 = .ok (.iconst 1, 1) := by decide +kernel
theorem dX7_troubleOfShift_30 : decode cX7_troubleOfShift 30 = .ok (.bipush 20, 2) := by decide +kernel
theorem dX7_troubleOfShift_32 : decode cX7_troubleOfShift 32 = .ok (.invokestatic 66, 3) := by decide +kernel
theorem dX7_troubleOfShift_35 : decode cX7_troubleOfShift 35 = .ok (.ifCond .ne 5, 3) := by decide +kernel
theorem dX7_troubleOfShift_38 : decode cX7_troubleOfShift 38 = .ok (.iconst 2, 1) := by decide +kernel
theorem dX7_troubleOfShift_39 : decode cX7_troubleOfShift 39 = .ok (.ireturn, 1) := by decide +kernel
theorem dX7_troubleOfShift_40 : decode cX7_troubleOfShift 40 = .ok (.iload_n 2, 1) := by decide +kernel
theorem dX7_troubleOfShift_41 : decode cX7_troubleOfShift 41 = .ok (.iload_n 3, 1) := by decide +kernel
theorem dX7_troubleOfShift_42 : decode cX7_troubleOfShift 42 = .ok (.if_icmp .eq 17, 3) := by decide +kernel
theorem dX7_troubleOfShift_45 : decode cX7_troubleOfShift 45 = .ok (.aload_n 0, 1) := by decide +kernel
theorem dX7_troubleOfShift_46 : decode cX7_troubleOfShift 46 = .ok (.getfield 23, 3) := by decide +kernel
theorem dX7_troubleOfShift_49 : decode cX7_troubleOfShift 49 = .ok (.iload_n 1, 1) := by decide +kernel
theorem dX7_troubleOfShift_50 : decode cX7_troubleOfShift 50 = .ok (.iload_n 2, 1) := by decide +kernel
theorem dX7_troubleOfShift_51 : decode cX7_troubleOfShift 51 = .ok (.invokevirtual 154, 3) := by decide +kernel
theorem dX7_troubleOfShift_54 : decode cX7_troubleOfShift 54 = .ok (.iload 4, 2) := by decide +kernel
theorem dX7_troubleOfShift_56 : decode cX7_troubleOfShift 56 = .ok (.if_icmp .ge 7, 3) := by decide +kernel
theorem dX7_troubleOfShift_59 : decode cX7_troubleOfShift 59 = .ok (.iconst 5, 1) := by decide +kernel
theorem dX7_troubleOfShift_60 : decode cX7_troubleOfShift 60 = .ok (.goto 4, 3) := by decide +kernel
theorem dX7_troubleOfShift_63 : decode cX7_troubleOfShift 63 = .ok (.iconst 0, 1) := by decide +kernel
theorem dX7_troubleOfShift_64 : decode cX7_troubleOfShift 64 = .ok (.ireturn, 1) := by decide +kernel
theorem dX7_become_0 : decode cX7_become 0 = .ok (.aload_n 0, 1) := by decide +kernel
theorem dX7_become_1 : decode cX7_become 1 = .ok (.aload_n 0, 1) := by decide +kernel
theorem dX7_become_2 : decode cX7_become 2 = .ok (.iload_n 1, 1) := by decide +kernel
theorem dX7_become_3 : decode cX7_become 3 = .ok (.iload_n 2, 1) := by decide +kernel
theorem dX7_become_4 : decode cX7_become 4 = .ok (.invokevirtual 340, 3) := by decide +kernel
theorem dX7_become_7 : decode cX7_become 7 = .ok (.invokevirtual 70, 3) := by decide +kernel
theorem dX7_become_10 : decode cX7_become 10 = .ok (.ifCond .eq 5, 3) := by decide +kernel
theorem dX7_become_13 : decode cX7_become 13 = .ok (.iconst (-1), 1) := by decide +kernel
theorem dX7_become_14 : decode cX7_become 14 = .ok (.ireturn, 1) := by decide +kernel
theorem dX7_become_15 : decode cX7_become 15 = .ok (.aload_n 0, 1) := by decide +kernel
theorem dX7_become_16 : decode cX7_become 16 = .ok (.getfield 33, 3) := by decide +kernel
theorem dX7_become_19 : decode cX7_become 19 = .ok (.aload_n 0, 1) := by decide +kernel
theorem dX7_become_20 : decode cX7_become 20 = .ok (.getfield 23, 3) := by decide +kernel
theorem dX7_become_23 : decode cX7_become 23 = .ok (.invokevirtual 315, 3) := by decide +kernel
theorem dX7_become_26 : decode cX7_become 26 = .ok (.aload_n 0, 1) := by decide +kernel
theorem dX7_become_27 : decode cX7_become 27 = .ok (.getfield 23, 3) := by decide +kernel
theorem dX7_become_30 : decode cX7_become 30 = .ok (.iload_n 1, 1) := by decide +kernel
theorem dX7_become_31 : decode cX7_become 31 = .ok (.invokevirtual 139, 3) := by decide +kernel
theorem dX7_become_34 : decode cX7_become 34 = .ok (.istore_n 3, 1) := by decide +kernel
theorem dX7_become_35 : decode cX7_become 35 = .ok (.aload_n 0, 1) := by decide +kernel
theorem dX7_become_36 : decode cX7_become 36 = .ok (.getfield 23, 3) := by decide +kernel
theorem dX7_become_39 : decode cX7_become 39 = .ok (.iload_n 1, 1) := by decide +kernel
theorem dX7_become_40 : decode cX7_become 40 = .ok (.iload_n 2, 1) := by decide +kernel
theorem dX7_become_41 : decode cX7_become 41 = .ok (.invokevirtual 343, 3) := by decide +kernel
theorem dX7_become_44 : decode cX7_become 44 = .ok (.aload_n 0, 1) := by decide +kernel
theorem dX7_become_45 : decode cX7_become 45 = .ok (.invokevirtual 101, 3) := by decide +kernel
theorem dX7_become_48 : decode cX7_become 48 = .ok (.iload_n 3, 1) := by decide +kernel
theorem dX7_become_49 : decode cX7_become 49 = .ok (.ireturn, 1) := by decide +kernel
theorem dX7_troubleOfBecome_0 : decode cX7_troubleOfBecome 0 = .ok (.aload_n 0, 1) := by decide +kernel
theorem dX7_troubleOfBecome_1 : decode cX7_troubleOfBecome 1 = .ok (.invokevirtual 110, 3) := by decide +kernel
theorem dX7_troubleOfBecome_4 : decode cX7_troubleOfBecome 4 = .ok (.ifCond .eq 12, 3) := by decide +kernel
theorem dX7_troubleOfBecome_7 : decode cX7_troubleOfBecome 7 = .ok (.iload_n 1, 1) := by decide +kernel
theorem dX7_troubleOfBecome_8 : decode cX7_troubleOfBecome 8 = .ok (.iconst 0, 1) := by decide +kernel
theorem dX7_troubleOfBecome_9 : decode cX7_troubleOfBecome 9 = .ok (.iconst 4, 1) := by decide +kernel
theorem dX7_troubleOfBecome_10 : decode cX7_troubleOfBecome 10 = .ok (.invokestatic 66, 3) := by decide +kernel
theorem dX7_troubleOfBecome_13 : decode cX7_troubleOfBecome 13 = .ok (.ifCond .ne 5, 3) := by decide +kernel
theorem dX7_troubleOfBecome_16 : decode cX7_troubleOfBecome 16 = .ok (.iconst 1, 1) := by decide +kernel
theorem dX7_troubleOfBecome_17 : decode cX7_troubleOfBecome 17 = .ok (.ireturn, 1) := by decide +kernel
theorem dX7_troubleOfBecome_18 : decode cX7_troubleOfBecome 18 = .ok (.iload_n 1, 1) := by decide +kernel
theorem dX7_troubleOfBecome_19 : decode cX7_troubleOfBecome 19 = .ok (.iload_n 2, 1) := by decide +kernel
theorem dX7_troubleOfBecome_20 : decode cX7_troubleOfBecome 20 = .ok (.invokestatic 346, 3) := by decide +kernel
theorem dX7_troubleOfBecome_23 : decode cX7_troubleOfBecome 23 = .ok (.ifCond .eq 7, 3) := by decide +kernel
theorem dX7_troubleOfBecome_26 : decode cX7_troubleOfBecome 26 = .ok (.iconst 0, 1) := by decide +kernel
theorem dX7_troubleOfBecome_27 : decode cX7_troubleOfBecome 27 = .ok (.goto 4, 3) := by decide +kernel
theorem dX7_troubleOfBecome_30 : decode cX7_troubleOfBecome 30 = .ok (.iconst 2, 1) := by decide +kernel
theorem dX7_troubleOfBecome_31 : decode cX7_troubleOfBecome 31 = .ok (.ireturn, 1) := by decide +kernel
theorem dX7_undo_0 : decode cX7_undo 0 = .ok (.aload_n 0, 1) := by decide +kernel
theorem dX7_undo_1 : decode cX7_undo 1 = .ok (.aload_n 0, 1) := by decide +kernel
theorem dX7_undo_2 : decode cX7_undo 2 = .ok (.invokevirtual 110, 3) := by decide +kernel
theorem dX7_undo_5 : decode cX7_undo 5 = .ok (.ifCond .ne 7, 3) := by decide +kernel
theorem dX7_undo_8 : decode cX7_undo 8 = .ok (.iconst 1, 1) := by decide +kernel
theorem dX7_undo_9 : decode cX7_undo 9 = .ok (.goto 18, 3) := by decide +kernel
theorem dX7_undo_12 : decode cX7_undo 12 = .ok (.aload_n 0, 1) := by decide +kernel
theorem dX7_undo_13 : decode cX7_undo 13 = .ok (.getfield 33, 3) := by decide +kernel
theorem dX7_undo_16 : decode cX7_undo 16 = .ok (.getfield 138, 3) := by decide +kernel
theorem dX7_undo_19 : decode cX7_undo 19 = .ok (.ifCond .le 7, 3) := by decide +kernel
theorem dX7_undo_22 : decode cX7_undo 22 = .ok (.iconst 0, 1) := by decide +kernel
theorem dX7_undo_23 : decode cX7_undo 23 = .ok (.goto 4, 3) := by decide +kernel
theorem dX7_undo_26 : decode cX7_undo 26 = .ok (.iconst 5, 1) := by decide +kernel
theorem dX7_undo_27 : decode cX7_undo 27 = .ok (.invokevirtual 70, 3) := by decide +kernel
theorem dX7_undo_30 : decode cX7_undo 30 = .ok (.ifCond .eq 5, 3) := by decide +kernel
theorem dX7_undo_33 : decode cX7_undo 33 = .ok (.iconst (-1), 1) := by decide +kernel
theorem dX7_undo_34 : decode cX7_undo 34 = .ok (.ireturn, 1) := by decide +kernel
theorem dX7_undo_35 : decode cX7_undo 35 = .ok (.aload_n 0, 1) := by decide +kernel
theorem dX7_undo_36 : decode cX7_undo 36 = .ok (.getfield 33, 3) := by decide +kernel
theorem dX7_undo_39 : decode cX7_undo 39 = .ok (.aload_n 0, 1) := by decide +kernel
theorem dX7_undo_40 : decode cX7_undo 40 = .ok (.getfield 23, 3) := by decide +kernel
theorem dX7_undo_43 : decode cX7_undo 43 = .ok (.invokevirtual 349, 3) := by decide +kernel
theorem dX7_undo_46 : decode cX7_undo 46 = .ok (.aload_n 0, 1) := by decide +kernel
theorem dX7_undo_47 : decode cX7_undo 47 = .ok (.invokevirtual 101, 3) := by decide +kernel
theorem dX7_undo_50 : decode cX7_undo 50 = .ok (.aload_n 0, 1) := by decide +kernel
theorem dX7_undo_51 : decode cX7_undo 51 = .ok (.getfield 33, 3) := by decide +kernel
theorem dX7_undo_54 : decode cX7_undo 54 = .ok (.getfield 138, 3) := by decide +kernel
theorem dX7_undo_57 : decode cX7_undo 57 = .ok (.ireturn, 1) := by decide +kernel
theorem dX7_named_0 : decode cX7_named 0 = .ok (.iload_n 1, 1) := by decide +kernel
theorem dX7_named_1 : decode cX7_named 1 = .ok (.iconst 0, 1) := by decide +kernel
theorem dX7_named_2 : decode cX7_named 2 = .ok (.aload_n 0, 1) := by decide +kernel
theorem dX7_named_3 : decode cX7_named 3 = .ok (.getfield 12, 3) := by decide +kernel
theorem dX7_named_6 : decode cX7_named 6 = .ok (.getfield 58, 3) := by decide +kernel
theorem dX7_named_9 : decode cX7_named 9 = .ok (.invokestatic 66, 3) := by decide +kernel
theorem dX7_named_12 : decode cX7_named 12 = .ok (.ifCond .eq 14, 3) := by decide +kernel
theorem dX7_named_15 : decode cX7_named 15 = .ok (.aload_n 0, 1) := by decide +kernel
theorem dX7_named_16 : decode cX7_named 16 = .ok (.getfield 12, 3) := by decide +kernel
theorem dX7_named_19 : decode cX7_named 19 = .ok (.iload_n 1, 1) := by decide +kernel
theorem dX7_named_20 : decode cX7_named 20 = .ok (.invokevirtual 352, 3) := by decide +kernel
theorem dX7_named_23 : decode cX7_named 23 = .ok (.goto 4, 3) := by decide +kernel
theorem dX7_named_26 : decode cX7_named 26 = .ok (.iconst (-1), 1) := by decide +kernel
theorem dX7_named_27 : decode cX7_named 27 = .ok (.istore_n 2, 1) := by decide +kernel
theorem dX7_named_28 : decode cX7_named 28 = .ok (.iconst 0, 1) := by decide +kernel
theorem dX7_named_29 : decode cX7_named 29 = .ok (.istore_n 3, 1) := by decide +kernel
theorem dX7_named_30 : decode cX7_named 30 = .ok (.iload_n 3, 1) := by decide +kernel
theorem dX7_named_31 : decode cX7_named 31 = .ok (.aload_n 0, 1) := by decide +kernel
theorem dX7_named_32 : decode cX7_named 32 = .ok (.getfield 23, 3) := by decide +kernel
theorem dX7_named_35 : decode cX7_named 35 = .ok (.getfield 104, 3) := by decide +kernel
theorem dX7_named_38 : decode cX7_named 38 = .ok (.if_icmp .ge 27, 3) := by decide +kernel
theorem dX7_named_41 : decode cX7_named 41 = .ok (.iload_n 3, 1) := by decide +kernel
theorem dX7_named_42 : decode cX7_named 42 = .ok (.bipush 9, 2) := by decide +kernel
theorem dX7_named_44 : decode cX7_named 44 = .ok (.if_icmp .ge 21, 3) := by decide +kernel
theorem dX7_named_47 : decode cX7_named 47 = .ok (.aload_n 0, 1) := by decide +kernel
theorem dX7_named_48 : decode cX7_named 48 = .ok (.getfield 16, 3) := by decide +kernel
theorem dX7_named_51 : decode cX7_named 51 = .ok (.iload_n 3, 1) := by decide +kernel
theorem dX7_named_52 : decode cX7_named 52 = .ok (.iaload, 1) := by decide +kernel
theorem dX7_named_53 : decode cX7_named 53 = .ok (.iload_n 2, 1) := by decide +kernel
theorem dX7_named_54 : decode cX7_named 54 = .ok (.if_icmp .ne 5, 3) := by decide +kernel
theorem dX7_named_57 : decode cX7_named 57 = .ok (.iload_n 3, 1) := by decide +kernel
theorem dX7_named_58 : decode cX7_named 58 = .ok (.ireturn, 1) := by decide +kernel
theorem dX7_named_59 : decode cX7_named 59 = .ok (.iinc 3 1, 3) := by decide +kernel
theorem dX7_named_62 : decode cX7_named 62 = .ok (.goto (-32), 3) := by decide +kernel
theorem dX7_named_65 : decode cX7_named 65 = .ok (.new 355, 3) := by decide +kernel
theorem dX7_named_68 : decode cX7_named 68 = .ok (.dup, 1) := by decide +kernel
theorem dX7_named_69 : decode cX7_named 69 = .ok (.ldc_w 357, 3) := by decide +kernel
theorem dX7_named_72 : decode cX7_named 72 = .ok (.invokespecial 359, 3) := by decide +kernel
theorem dX7_named_75 : decode cX7_named 75 = .ok (.athrow, 1) := by decide +kernel
theorem dX7_size_0 : decode cX7_size 0 = .ok (.aload_n 0, 1) := by decide +kernel
theorem dX7_size_1 : decode cX7_size 1 = .ok (.getfield 12, 3) := by decide +kernel
theorem dX7_size_4 : decode cX7_size 4 = .ok (.getfield 58, 3) := by decide +kernel
theorem dX7_size_7 : decode cX7_size 7 = .ok (.ireturn, 1) := by decide +kernel
theorem dX7_trouble_0 : decode cX7_trouble 0 = .ok (.aload_n 0, 1) := by decide +kernel
theorem dX7_trouble_1 : decode cX7_trouble 1 = .ok (.getfield 107, 3) := by decide +kernel
theorem dX7_trouble_4 : decode cX7_trouble 4 = .ok (.ireturn, 1) := by decide +kernel
theorem dX7_refused_0 : decode cX7_refused 0 = .ok (.aload_n 0, 1) := by decide +kernel
theorem dX7_refused_1 : decode cX7_refused 1 = .ok (.iload_n 1, 1) := by decide +kernel
theorem dX7_refused_2 : decode cX7_refused 2 = .ok (.putfield 107, 3) := by decide +kernel
theorem dX7_refused_5 : decode cX7_refused 5 = .ok (.iload_n 1, 1) := by decide +kernel
theorem dX7_refused_6 : decode cX7_refused 6 = .ok (.ifCond .eq 7, 3) := by decide +kernel
theorem dX7_refused_9 : decode cX7_refused 9 = .ok (.iconst 1, 1) := by decide +kernel
theorem dX7_refused_10 : decode cX7_refused 10 = .ok (.goto 4, 3) := by decide +kernel
theorem dX7_refused_13 : decode cX7_refused 13 = .ok (.iconst 0, 1) := by decide +kernel
theorem dX7_refused_14 : decode cX7_refused 14 = .ok (.ireturn, 1) := by decide +kernel
theorem dX7_hasText_0 : decode cX7_hasText 0 = .ok (.aload_n 0, 1) := by decide +kernel
theorem dX7_hasText_1 : decode cX7_hasText 1 = .ok (.getfield 23, 3) := by decide +kernel
theorem dX7_hasText_4 : decode cX7_hasText 4 = .ok (.getfield 104, 3) := by decide +kernel
theorem dX7_hasText_7 : decode cX7_hasText 7 = .ok (.ifCond .le 7, 3) := by decide +kernel
theorem dX7_hasText_10 : decode cX7_hasText 10 = .ok (.iconst 1, 1) := by decide +kernel
theorem dX7_hasText_11 : decode cX7_hasText 11 = .ok (.goto 4, 3) := by decide +kernel
theorem dX7_hasText_14 : decode cX7_hasText 14 = .ok (.iconst 0, 1) := by decide +kernel
theorem dX7_hasText_15 : decode cX7_hasText 15 = .ok (.ireturn, 1) := by decide +kernel
theorem dX7_fitMoves_0 : decode cX7_fitMoves 0 = .ok (.aload_n 0, 1) := by decide +kernel
theorem dX7_fitMoves_1 : decode cX7_fitMoves 1 = .ok (.getfield 40, 3) := by decide +kernel
theorem dX7_fitMoves_4 : decode cX7_fitMoves 4 = .ok (.getfield 181, 3) := by decide +kernel
theorem dX7_fitMoves_7 : decode cX7_fitMoves 7 = .ok (.aload_n 0, 1) := by decide +kernel
theorem dX7_fitMoves_8 : decode cX7_fitMoves 8 = .ok (.getfield 23, 3) := by decide +kernel
theorem dX7_fitMoves_11 : decode cX7_fitMoves 11 = .ok (.iconst 0, 1) := by decide +kernel
theorem dX7_fitMoves_12 : decode cX7_fitMoves 12 = .ok (.invokevirtual 139, 3) := by decide +kernel
theorem dX7_fitMoves_15 : decode cX7_fitMoves 15 = .ok (.aload_n 0, 1) := by decide +kernel
theorem dX7_fitMoves_16 : decode cX7_fitMoves 16 = .ok (.getfield 23, 3) := by decide +kernel
theorem dX7_fitMoves_19 : decode cX7_fitMoves 19 = .ok (.iconst 1, 1) := by decide +kernel
theorem dX7_fitMoves_20 : decode cX7_fitMoves 20 = .ok (.invokevirtual 139, 3) := by decide +kernel
theorem dX7_fitMoves_23 : decode cX7_fitMoves 23 = .ok (.aload_n 0, 1) := by decide +kernel
theorem dX7_fitMoves_24 : decode cX7_fitMoves 24 = .ok (.getfield 23, 3) := by decide +kernel
theorem dX7_fitMoves_27 : decode cX7_fitMoves 27 = .ok (.iconst 2, 1) := by decide +kernel
theorem dX7_fitMoves_28 : decode cX7_fitMoves 28 = .ok (.invokevirtual 139, 3) := by decide +kernel
theorem dX7_fitMoves_31 : decode cX7_fitMoves 31 = .ok (.invokevirtual 362, 3) := by decide +kernel
theorem dX7_fitMoves_34 : decode cX7_fitMoves 34 = .ok (.return_, 1) := by decide +kernel
theorem dX7_within_0 : decode cX7_within 0 = .ok (.iload_n 0, 1) := by decide +kernel
theorem dX7_within_1 : decode cX7_within 1 = .ok (.iload_n 1, 1) := by decide +kernel
theorem dX7_within_2 : decode cX7_within 2 = .ok (.if_icmp .lt 12, 3) := by decide +kernel
theorem dX7_within_5 : decode cX7_within 5 = .ok (.iload_n 0, 1) := by decide +kernel
theorem dX7_within_6 : decode cX7_within 6 = .ok (.iload_n 2, 1) := by decide +kernel
theorem dX7_within_7 : decode cX7_within 7 = .ok (.if_icmp .gt 7, 3) := by decide +kernel
theorem dX7_within_10 : decode cX7_within 10 = .ok (.iconst 1, 1) := by decide +kernel
theorem dX7_within_11 : decode cX7_within 11 = .ok (.goto 4, 3) := by decide +kernel
theorem dX7_within_14 : decode cX7_within 14 = .ok (.iconst 0, 1) := by decide +kernel
theorem dX7_within_15 : decode cX7_within 15 = .ok (.ireturn, 1) := by decide +kernel
theorem dX7_isHit_0 : decode cX7_isHit 0 = .ok (.iload_n 0, 1) := by decide +kernel
theorem dX7_isHit_1 : decode cX7_isHit 1 = .ok (.iconst 0, 1) := by decide +kernel
theorem dX7_isHit_2 : decode cX7_isHit 2 = .ok (.iconst 5, 1) := by decide +kernel
theorem dX7_isHit_3 : decode cX7_isHit 3 = .ok (.invokestatic 66, 3) := by decide +kernel
theorem dX7_isHit_6 : decode cX7_isHit 6 = .ok (.ireturn, 1) := by decide +kernel
theorem dX7_isPart_0 : decode cX7_isPart 0 = .ok (.iload_n 0, 1) := by decide +kernel
theorem dX7_isPart_1 : decode cX7_isPart 1 = .ok (.iconst 0, 1) := by decide +kernel
theorem dX7_isPart_2 : decode cX7_isPart 2 = .ok (.iconst 1, 1) := by decide +kernel
theorem dX7_isPart_3 : decode cX7_isPart 3 = .ok (.invokestatic 66, 3) := by decide +kernel
theorem dX7_isPart_6 : decode cX7_isPart 6 = .ok (.ireturn, 1) := by decide +kernel
theorem dX7_isDepth_0 : decode cX7_isDepth 0 = .ok (.iload_n 0, 1) := by decide +kernel
theorem dX7_isDepth_1 : decode cX7_isDepth 1 = .ok (.iconst 1, 1) := by decide +kernel
theorem dX7_isDepth_2 : decode cX7_isDepth 2 = .ok (.iconst 5, 1) := by decide +kernel
theorem dX7_isDepth_3 : decode cX7_isDepth 3 = .ok (.invokestatic 66, 3) := by decide +kernel
theorem dX7_isDepth_6 : decode cX7_isDepth 6 = .ok (.ireturn, 1) := by decide +kernel
theorem dX7_isState_0 : decode cX7_isState 0 = .ok (.iload_n 0, 1) := by decide +kernel
theorem dX7_isState_1 : decode cX7_isState 1 = .ok (.iconst 0, 1) := by decide +kernel
theorem dX7_isState_2 : decode cX7_isState 2 = .ok (.bipush 7, 2) := by decide +kernel
theorem dX7_isState_4 : decode cX7_isState 4 = .ok (.invokestatic 66, 3) := by decide +kernel
theorem dX7_isState_7 : decode cX7_isState 7 = .ok (.ifCond .eq 16, 3) := by decide +kernel
theorem dX7_isState_10 : decode cX7_isState 10 = .ok (.iload_n 1, 1) := by decide +kernel
theorem dX7_isState_11 : decode cX7_isState 11 = .ok (.iconst 0, 1) := by decide +kernel
theorem dX7_isState_12 : decode cX7_isState 12 = .ok (.iconst 2, 1) := by decide +kernel
theorem dX7_isState_13 : decode cX7_isState 13 = .ok (.invokestatic 66, 3) := by decide +kernel
theorem dX7_isState_16 : decode cX7_isState 16 = .ok (.ifCond .eq 7, 3) := by decide +kernel
theorem dX7_isState_19 : decode cX7_isState 19 = .ok (.iconst 1, 1) := by decide +kernel
theorem dX7_isState_20 : decode cX7_isState 20 = .ok (.goto 4, 3) := by decide +kernel
theorem dX7_isState_23 : decode cX7_isState 23 = .ok (.iconst 0, 1) := by decide +kernel
theorem dX7_isState_24 : decode cX7_isState 24 = .ok (.ireturn, 1) := by decide +kernel
theorem dX7_stateOf_0 : decode cX7_stateOf 0 = .ok (.iload_n 1, 1) := by decide +kernel
theorem dX7_stateOf_1 : decode cX7_stateOf 1 = .ok (.bipush 8, 2) := by decide +kernel
theorem dX7_stateOf_3 : decode cX7_stateOf 3 = .ok (.imul, 1) := by decide +kernel
theorem dX7_stateOf_4 : decode cX7_stateOf 4 = .ok (.iload_n 0, 1) := by decide +kernel
theorem dX7_stateOf_5 : decode cX7_stateOf 5 = .ok (.iadd, 1) := by decide +kernel
theorem dX7_stateOf_6 : decode cX7_stateOf 6 = .ok (.ireturn, 1) := by decide +kernel
theorem dX7_basesOf_0 : decode cX7_basesOf 0 = .ok (.iload_n 0, 1) := by decide +kernel
theorem dX7_basesOf_1 : decode cX7_basesOf 1 = .ok (.bipush 7, 2) := by decide +kernel
theorem dX7_basesOf_3 : decode cX7_basesOf 3 = .ok (.iand, 1) := by decide +kernel
theorem dX7_basesOf_4 : decode cX7_basesOf 4 = .ok (.ireturn, 1) := by decide +kernel
theorem dX7_outsOf_0 : decode cX7_outsOf 0 = .ok (.iload_n 0, 1) := by decide +kernel
theorem dX7_outsOf_1 : decode cX7_outsOf 1 = .ok (.iconst 3, 1) := by decide +kernel
theorem dX7_outsOf_2 : decode cX7_outsOf 2 = .ok (.ishr, 1) := by decide +kernel
theorem dX7_outsOf_3 : decode cX7_outsOf 3 = .ok (.ireturn, 1) := by decide +kernel
theorem dX7_isRule_0 : decode cX7_isRule 0 = .ok (.iload_n 0, 1) := by decide +kernel
theorem dX7_isRule_1 : decode cX7_isRule 1 = .ok (.tableswitch 72 0 4 #[35, 42, 49, 56, 64], 35) := by decide +kernel
theorem dX7_isRule_36 : decode cX7_isRule 36 = .ok (.iload_n 1, 1) := by decide +kernel
theorem dX7_isRule_37 : decode cX7_isRule 37 = .ok (.iconst 1, 1) := by decide +kernel
theorem dX7_isRule_38 : decode cX7_isRule 38 = .ok (.iconst 2, 1) := by decide +kernel
theorem dX7_isRule_39 : decode cX7_isRule 39 = .ok (.invokestatic 66, 3) := by decide +kernel
theorem dX7_isRule_42 : decode cX7_isRule 42 = .ok (.ireturn, 1) := by decide +kernel
theorem dX7_isRule_43 : decode cX7_isRule 43 = .ok (.iload_n 1, 1) := by decide +kernel
theorem dX7_isRule_44 : decode cX7_isRule 44 = .ok (.iconst 2, 1) := by decide +kernel
theorem dX7_isRule_45 : decode cX7_isRule 45 = .ok (.iconst 3, 1) := by decide +kernel
theorem dX7_isRule_46 : decode cX7_isRule 46 = .ok (.invokestatic 66, 3) := by decide +kernel
theorem dX7_isRule_49 : decode cX7_isRule 49 = .ok (.ireturn, 1) := by decide +kernel
theorem dX7_isRule_50 : decode cX7_isRule 50 = .ok (.iload_n 1, 1) := by decide +kernel
theorem dX7_isRule_51 : decode cX7_isRule 51 = .ok (.iconst 0, 1) := by decide +kernel
theorem dX7_isRule_52 : decode cX7_isRule 52 = .ok (.iconst 1, 1) := by decide +kernel
theorem dX7_isRule_53 : decode cX7_isRule 53 = .ok (.invokestatic 66, 3) := by decide +kernel
theorem dX7_isRule_56 : decode cX7_isRule 56 = .ok (.ireturn, 1) := by decide +kernel
theorem dX7_isRule_57 : decode cX7_isRule 57 = .ok (.iload_n 1, 1) := by decide +kernel
theorem dX7_isRule_58 : decode cX7_isRule 58 = .ok (.iconst 0, 1) := by decide +kernel
theorem dX7_isRule_59 : decode cX7_isRule 59 = .ok (.bipush 20, 2) := by decide +kernel
theorem dX7_isRule_61 : decode cX7_isRule 61 = .ok (.invokestatic 66, 3) := by decide +kernel
theorem dX7_isRule_64 : decode cX7_isRule 64 = .ok (.ireturn, 1) := by decide +kernel
theorem dX7_isRule_65 : decode cX7_isRule 65 = .ok (.iload_n 1, 1) := by decide +kernel
theorem dX7_isRule_66 : decode cX7_isRule 66 = .ok (.iconst 1, 1) := by decide +kernel
theorem dX7_isRule_67 : decode cX7_isRule 67 = .ok (.bipush 99, 2) := by decide +kernel
theorem dX7_isRule_69 : decode cX7_isRule 69 = .ok (.invokestatic 66, 3) := by decide +kernel
theorem dX7_isRule_72 : decode cX7_isRule 72 = .ok (.ireturn, 1) := by decide +kernel
theorem dX7_isRule_73 : decode cX7_isRule 73 = .ok (.iconst 0, 1) := by decide +kernel
theorem dX7_isRule_74 : decode cX7_isRule 74 = .ok (.ireturn, 1) := by decide +kernel
theorem dX7_part_0 : decode cX7_part 0 = .ok (.lload_n 0, 1) := by decide +kernel
theorem dX7_part_1 : decode cX7_part 1 = .ok (.lconst 0, 1) := by decide +kernel
theorem dX7_part_2 : decode cX7_part 2 = .ok (.lcmp, 1) := by decide +kernel
theorem dX7_part_3 : decode cX7_part 3 = .ok (.ifCond .ge 8, 3) := by decide +kernel
theorem dX7_part_6 : decode cX7_part 6 = .ok (.lload_n 0, 1) := by decide +kernel
theorem dX7_part_7 : decode cX7_part 7 = .ok (.lneg, 1) := by decide +kernel
theorem dX7_part_8 : decode cX7_part 8 = .ok (.goto 4, 3) := by decide +kernel
theorem dX7_part_11 : decode cX7_part 11 = .ok (.lload_n 0, 1) := by decide +kernel
theorem dX7_part_12 : decode cX7_part 12 = .ok (.lload_n 2, 1) := by decide +kernel
theorem dX7_part_13 : decode cX7_part 13 = .ok (.invokestatic 365, 3) := by decide +kernel
theorem dX7_part_16 : decode cX7_part 16 = .ok (.lstore 5, 2) := by decide +kernel
theorem dX7_part_18 : decode cX7_part 18 = .ok (.lload 5, 2) := by decide +kernel
theorem dX7_part_20 : decode cX7_part 20 = .ok (.lconst 0, 1) := by decide +kernel
theorem dX7_part_21 : decode cX7_part 21 = .ok (.lcmp, 1) := by decide +kernel
theorem dX7_part_22 : decode cX7_part 22 = .ok (.ifCond .ne 9, 3) := by decide +kernel
theorem dX7_part_25 : decode cX7_part 25 = .ok (.ldc2_w 207, 3) := by decide +kernel
theorem dX7_part_28 : decode cX7_part 28 = .ok (.goto 16, 3) := by decide +kernel
theorem dX7_part_31 : decode cX7_part 31 = .ok (.iload 4, 2) := by decide +kernel
theorem dX7_part_33 : decode cX7_part 33 = .ok (.ifCond .ne 7, 3) := by decide +kernel
theorem dX7_part_36 : decode cX7_part 36 = .ok (.lload_n 0, 1) := by decide +kernel
theorem dX7_part_37 : decode cX7_part 37 = .ok (.goto 4, 3) := by decide +kernel
theorem dX7_part_40 : decode cX7_part 40 = .ok (.lload_n 2, 1) := by decide +kernel
theorem dX7_part_41 : decode cX7_part 41 = .ok (.lload 5, 2) := by decide +kernel
theorem dX7_part_43 : decode cX7_part 43 = .ok (.ldiv, 1) := by decide +kernel
theorem dX7_part_44 : decode cX7_part 44 = .ok (.lreturn, 1) := by decide +kernel
theorem dX7_commonDivisor_0 : decode cX7_commonDivisor 0 = .ok (.iconst 0, 1) := by decide +kernel
theorem dX7_commonDivisor_1 : decode cX7_commonDivisor 1 = .ok (.istore 4, 2) := by decide +kernel
theorem dX7_commonDivisor_3 : decode cX7_commonDivisor 3 = .ok (.iload 4, 2) := by decide +kernel
theorem dX7_commonDivisor_5 : decode cX7_commonDivisor 5 = .ok (.bipush 100, 2) := by decide +kernel
theorem dX7_commonDivisor_7 : decode cX7_commonDivisor 7 = .ok (.if_icmp .ge 25, 3) := by decide +kernel
theorem dX7_commonDivisor_10 : decode cX7_commonDivisor 10 = .ok (.lload_n 2, 1) := by decide +kernel
theorem dX7_commonDivisor_11 : decode cX7_commonDivisor 11 = .ok (.lconst 0, 1) := by decide +kernel
theorem dX7_commonDivisor_12 : decode cX7_commonDivisor 12 = .ok (.lcmp, 1) := by decide +kernel
theorem dX7_commonDivisor_13 : decode cX7_commonDivisor 13 = .ok (.ifCond .eq 19, 3) := by decide +kernel
theorem dX7_commonDivisor_16 : decode cX7_commonDivisor 16 = .ok (.lload_n 0, 1) := by decide +kernel
theorem dX7_commonDivisor_17 : decode cX7_commonDivisor 17 = .ok (.lload_n 2, 1) := by decide +kernel
theorem dX7_commonDivisor_18 : decode cX7_commonDivisor 18 = .ok (.lrem, 1) := by decide +kernel
theorem dX7_commonDivisor_19 : decode cX7_commonDivisor 19 = .ok (.lstore 5, 2) := by decide +kernel
theorem dX7_commonDivisor_21 : decode cX7_commonDivisor 21 = .ok (.lload_n 2, 1) := by decide +kernel
theorem dX7_commonDivisor_22 : decode cX7_commonDivisor 22 = .ok (.lstore_n 0, 1) := by decide +kernel
theorem dX7_commonDivisor_23 : decode cX7_commonDivisor 23 = .ok (.lload 5, 2) := by decide +kernel
theorem dX7_commonDivisor_25 : decode cX7_commonDivisor 25 = .ok (.lstore_n 2, 1) := by decide +kernel
theorem dX7_commonDivisor_26 : decode cX7_commonDivisor 26 = .ok (.iinc 4 1, 3) := by decide +kernel
theorem dX7_commonDivisor_29 : decode cX7_commonDivisor 29 = .ok (.goto (-26), 3) := by decide +kernel
theorem dX7_commonDivisor_32 : decode cX7_commonDivisor 32 = .ok (.lload_n 0, 1) := by decide +kernel
theorem dX7_commonDivisor_33 : decode cX7_commonDivisor 33 = .ok (.lreturn, 1) := by decide +kernel
theorem dX8_init_0 : decode cX8_init 0 = .ok (.aload_n 0, 1) := by decide +kernel
theorem dX8_init_1 : decode cX8_init 1 = .ok (.invokespecial 1, 3) := by decide +kernel
theorem dX8_init_4 : decode cX8_init 4 = .ok (.aload_n 0, 1) := by decide +kernel
theorem dX8_init_5 : decode cX8_init 5 = .ok (.iconst (-1), 1) := by decide +kernel
theorem dX8_init_6 : decode cX8_init 6 = .ok (.putfield 9, 3) := by decide +kernel
theorem dX8_init_9 : decode cX8_init 9 = .ok (.aload_n 0, 1) := by decide +kernel
theorem dX8_init_10 : decode cX8_init 10 = .ok (.sipush 500, 3) := by decide +kernel
theorem dX8_init_13 : decode cX8_init 13 = .ok (.newarray .int, 2) := by decide +kernel
theorem dX8_init_15 : decode cX8_init 15 = .ok (.putfield 13, 3) := by decide +kernel
theorem dX8_init_18 : decode cX8_init 18 = .ok (.aload_n 0, 1) := by decide +kernel
theorem dX8_init_19 : decode cX8_init 19 = .ok (.sipush 396, 3) := by decide +kernel
theorem dX8_init_22 : decode cX8_init 22 = .ok (.newarray .int, 2) := by decide +kernel
theorem dX8_init_24 : decode cX8_init 24 = .ok (.putfield 17, 3) := by decide +kernel
theorem dX8_init_27 : decode cX8_init 27 = .ok (.aload_n 0, 1) := by decide +kernel
theorem dX8_init_28 : decode cX8_init 28 = .ok (.sipush 396, 3) := by decide +kernel
theorem dX8_init_31 : decode cX8_init 31 = .ok (.newarray .int, 2) := by decide +kernel
theorem dX8_init_33 : decode cX8_init 33 = .ok (.putfield 20, 3) := by decide +kernel
theorem dX8_init_36 : decode cX8_init 36 = .ok (.aload_n 0, 1) := by decide +kernel
theorem dX8_init_37 : decode cX8_init 37 = .ok (.bipush 54, 2) := by decide +kernel
theorem dX8_init_39 : decode cX8_init 39 = .ok (.newarray .int, 2) := by decide +kernel
theorem dX8_init_41 : decode cX8_init 41 = .ok (.putfield 23, 3) := by decide +kernel
theorem dX8_init_44 : decode cX8_init 44 = .ok (.aload_n 0, 1) := by decide +kernel
theorem dX8_init_45 : decode cX8_init 45 = .ok (.bipush 54, 2) := by decide +kernel
theorem dX8_init_47 : decode cX8_init 47 = .ok (.newarray .int, 2) := by decide +kernel
theorem dX8_init_49 : decode cX8_init 49 = .ok (.putfield 26, 3) := by decide +kernel
theorem dX8_init_52 : decode cX8_init 52 = .ok (.aload_n 0, 1) := by decide +kernel
theorem dX8_init_53 : decode cX8_init 53 = .ok (.bipush 24, 2) := by decide +kernel
theorem dX8_init_55 : decode cX8_init 55 = .ok (.newarray .long, 2) := by decide +kernel
theorem dX8_init_57 : decode cX8_init 57 = .ok (.putfield 29, 3) := by decide +kernel
theorem dX8_init_60 : decode cX8_init 60 = .ok (.aload_n 0, 1) := by decide +kernel
theorem dX8_init_61 : decode cX8_init 61 = .ok (.bipush 24, 2) := by decide +kernel
theorem dX8_init_63 : decode cX8_init 63 = .ok (.newarray .long, 2) := by decide +kernel
theorem dX8_init_65 : decode cX8_init 65 = .ok (.putfield 33, 3) := by decide +kernel
theorem dX8_init_68 : decode cX8_init 68 = .ok (.aload_n 0, 1) := by decide +kernel
theorem dX8_init_69 : decode cX8_init 69 = .ok (.bipush 24, 2) := by decide +kernel
theorem dX8_init_71 : decode cX8_init 71 = .ok (.newarray .int, 2) := by decide +kernel
theorem dX8_init_73 : decode cX8_init 73 = .ok (.putfield 36, 3) := by decide +kernel
theorem dX8_init_76 : decode cX8_init 76 = .ok (.aload_n 0, 1) := by decide +kernel
theorem dX8_init_77 : decode cX8_init 77 = .ok (.bipush 6, 2) := by decide +kernel
theorem dX8_init_79 : decode cX8_init 79 = .ok (.newarray .int, 2) := by decide +kernel
theorem dX8_init_81 : decode cX8_init 81 = .ok (.putfield 39, 3) := by decide +kernel
theorem dX8_init_84 : decode cX8_init 84 = .ok (.aload_n 0, 1) := by decide +kernel
theorem dX8_init_85 : decode cX8_init 85 = .ok (.bipush 9, 2) := by decide +kernel
theorem dX8_init_87 : decode cX8_init 87 = .ok (.newarray .int, 2) := by decide +kernel
theorem dX8_init_89 : decode cX8_init 89 = .ok (.putfield 42, 3) := by decide +kernel
theorem dX8_init_92 : decode cX8_init 92 = .ok (.aload_n 0, 1) := by decide +kernel
theorem dX8_init_93 : decode cX8_init 93 = .ok (.bipush 9, 2) := by decide +kernel
theorem dX8_init_95 : decode cX8_init 95 = .ok (.newarray .int, 2) := by decide +kernel
theorem dX8_init_97 : decode cX8_init 97 = .ok (.putfield 45, 3) := by decide +kernel
theorem dX8_init_100 : decode cX8_init 100 = .ok (.aload_n 0, 1) := by decide +kernel
theorem dX8_init_101 : decode cX8_init 101 = .ok (.sipush 396, 3) := by decide +kernel
theorem dX8_init_104 : decode cX8_init 104 = .ok (.newarray .int, 2) := by decide +kernel
theorem dX8_init_106 : decode cX8_init 106 = .ok (.putfield 48, 3) := by decide +kernel
theorem dX8_init_109 : decode cX8_init 109 = .ok (.aload_n 0, 1) := by decide +kernel
theorem dX8_init_110 : decode cX8_init 110 = .ok (.sipush 3960, 3) := by decide +kernel
theorem dX8_init_113 : decode cX8_init 113 = .ok (.newarray .int, 2) := by decide +kernel
theorem dX8_init_115 : decode cX8_init 115 = .ok (.putfield 51, 3) := by decide +kernel
theorem dX8_init_118 : decode cX8_init 118 = .ok (.return_, 1) := by decide +kernel
theorem dX8_thrown_0 : decode cX8_thrown 0 = .ok (.aload_n 0, 1) := by decide +kernel
theorem dX8_thrown_1 : decode cX8_thrown 1 = .ok (.getfield 54, 3) := by decide +kernel
theorem dX8_thrown_4 : decode cX8_thrown 4 = .ok (.ireturn, 1) := by decide +kernel
theorem dX8_in_0 : decode cX8_in 0 = .ok (.iload_n 0, 1) := by decide +kernel
theorem dX8_in_1 : decode cX8_in 1 = .ok (.iload_n 1, 1) := by decide +kernel
theorem dX8_in_2 : decode cX8_in 2 = .ok (.if_icmp .lt 12, 3) := by decide +kernel
theorem dX8_in_5 : decode cX8_in 5 = .ok (.iload_n 0, 1) := by decide +kernel
theorem dX8_in_6 : decode cX8_in 6 = .ok (.iload_n 2, 1) := by decide +kernel
theorem dX8_in_7 : decode cX8_in 7 = .ok (.if_icmp .gt 7, 3) := by decide +kernel
theorem dX8_in_10 : decode cX8_in 10 = .ok (.iconst 1, 1) := by decide +kernel
theorem dX8_in_11 : decode cX8_in 11 = .ok (.goto 4, 3) := by decide +kernel
theorem dX8_in_14 : decode cX8_in 14 = .ok (.iconst 0, 1) := by decide +kernel
theorem dX8_in_15 : decode cX8_in 15 = .ok (.ireturn, 1) := by decide +kernel
theorem dX8_no_0 : decode cX8_no 0 = .ok (.aload_n 0, 1) := by decide +kernel
theorem dX8_no_1 : decode cX8_no 1 = .ok (.iload_n 1, 1) := by decide +kernel
theorem dX8_no_2 : decode cX8_no 2 = .ok (.putfield 57, 3) := by decide +kernel
theorem dX8_no_5 : decode cX8_no 5 = .ok (.iconst (-1), 1) := by decide +kernel
theorem dX8_no_6 : decode cX8_no 6 = .ok (.ireturn, 1) := by decide +kernel
theorem dX8_isRefused_0 : decode cX8_isRefused 0 = .ok (.aload_n 0, 1) := by decide +kernel
theorem dX8_isRefused_1 : decode cX8_isRefused 1 = .ok (.iconst 0, 1) := by decide +kernel
theorem dX8_isRefused_2 : decode cX8_isRefused 2 = .ok (.putfield 54, 3) := by decide +kernel
theorem dX8_isRefused_5 : decode cX8_isRefused 5 = .ok (.aload_n 0, 1) := by decide +kernel
theorem dX8_isRefused_6 : decode cX8_isRefused 6 = .ok (.iconst (-1), 1) := by decide +kernel
theorem dX8_isRefused_7 : decode cX8_isRefused 7 = .ok (.putfield 9, 3) := by decide +kernel
theorem dX8_isRefused_10 : decode cX8_isRefused 10 = .ok (.aload_n 0, 1) := by decide +kernel
theorem dX8_isRefused_11 : decode cX8_isRefused 11 = .ok (.iload_n 1, 1) := by decide +kernel
theorem dX8_isRefused_12 : decode cX8_isRefused 12 = .ok (.putfield 57, 3) := by decide +kernel
theorem dX8_isRefused_15 : decode cX8_isRefused 15 = .ok (.iload_n 1, 1) := by decide +kernel
theorem dX8_isRefused_16 : decode cX8_isRefused 16 = .ok (.ifCond .eq 7, 3) := by decide +kernel
theorem dX8_isRefused_19 : decode cX8_isRefused 19 = .ok (.iconst 1, 1) := by decide +kernel
theorem dX8_isRefused_20 : decode cX8_isRefused 20 = .ok (.goto 4, 3) := by decide +kernel
theorem dX8_isRefused_23 : decode cX8_isRefused 23 = .ok (.iconst 0, 1) := by decide +kernel
theorem dX8_isRefused_24 : decode cX8_isRefused 24 = .ok (.ireturn, 1) := by decide +kernel
theorem dX8_unless_0 : decode cX8_unless 0 = .ok (.iload_n 0, 1) := by decide +kernel
theorem dX8_unless_1 : decode cX8_unless 1 = .ok (.ifCond .eq 7, 3) := by decide +kernel
theorem dX8_unless_4 : decode cX8_unless 4 = .ok (.iconst 0, 1) := by decide +kernel
theorem dX8_unless_5 : decode cX8_unless 5 = .ok (.goto 4, 3) := by decide +kernel
theorem dX8_unless_8 : decode cX8_unless 8 = .ok (.iconst 1, 1) := by decide +kernel
theorem dX8_unless_9 : decode cX8_unless 9 = .ok (.ireturn, 1) := by decide +kernel
theorem dX8_unless__0 : decode cX8_unless_ 0 = .ok (.iload_n 0, 1) := by decide +kernel
theorem dX8_unless__1 : decode cX8_unless_ 1 = .ok (.ifCond .ne 7, 3) := by decide +kernel
theorem dX8_unless__4 : decode cX8_unless_ 4 = .ok (.iconst 1, 1) := by decide +kernel
theorem dX8_unless__5 : decode cX8_unless_ 5 = .ok (.goto 12, 3) := by decide +kernel
theorem dX8_unless__8 : decode cX8_unless_ 8 = .ok (.iload_n 1, 1) := by decide +kernel
theorem dX8_unless__9 : decode cX8_unless_ 9 = .ok (.ifCond .eq 7, 3) := by decide +kernel
theorem dX8_unless__12 : decode cX8_unless_ 12 = .ok (.iconst 0, 1) := by decide +kernel
theorem dX8_unless__13 : decode cX8_unless_ 13 = .ok (.goto 4, 3) := by decide +kernel
theorem dX8_unless__16 : decode cX8_unless_ 16 = .ok (.iconst 2, 1) := by decide +kernel
theorem dX8_unless__17 : decode cX8_unless_ 17 = .ok (.ireturn, 1) := by decide +kernel
theorem dX8_feed_0 : decode cX8_feed 0 = .ok (.aload_n 0, 1) := by decide +kernel
theorem dX8_feed_1 : decode cX8_feed 1 = .ok (.iconst 0, 1) := by decide +kernel
theorem dX8_feed_2 : decode cX8_feed 2 = .ok (.putfield 54, 3) := by decide +kernel
theorem dX8_feed_5 : decode cX8_feed 5 = .ok (.aload_n 0, 1) := by decide +kernel
theorem dX8_feed_6 : decode cX8_feed 6 = .ok (.getfield 60, 3) := by decide +kernel
theorem dX8_feed_9 : decode cX8_feed 9 = .ok (.sipush 480, 3) := by decide +kernel
theorem dX8_feed_12 : decode cX8_feed 12 = .ok (.if_icmp .le 5, 3) := by decide +kernel
theorem dX8_feed_15 : decode cX8_feed 15 = .ok (.iconst (-1), 1) := by decide +kernel
theorem dX8_feed_16 : decode cX8_feed 16 = .ok (.ireturn, 1) := by decide +kernel
theorem dX8_feed_17 : decode cX8_feed 17 = .ok (.aload_n 0, 1) := by decide +kernel
theorem dX8_feed_18 : decode cX8_feed 18 = .ok (.iload_n 1, 1) := by decide +kernel
theorem dX8_feed_19 : decode cX8_feed 19 = .ok (.invokevirtual 63, 3) := by decide +kernel
theorem dX8_feed_22 : decode cX8_feed 22 = .ok (.aload_n 0, 1) := by decide +kernel
theorem dX8_feed_23 : decode cX8_feed 23 = .ok (.iload_n 2, 1) := by decide +kernel
theorem dX8_feed_24 : decode cX8_feed 24 = .ok (.invokevirtual 63, 3) := by decide +kernel
theorem dX8_feed_27 : decode cX8_feed 27 = .ok (.aload_n 0, 1) := by decide +kernel
theorem dX8_feed_28 : decode cX8_feed 28 = .ok (.iload_n 3, 1) := by decide +kernel
theorem dX8_feed_29 : decode cX8_feed 29 = .ok (.invokevirtual 63, 3) := by decide +kernel
theorem dX8_feed_32 : decode cX8_feed 32 = .ok (.aload_n 0, 1) := by decide +kernel
theorem dX8_feed_33 : decode cX8_feed 33 = .ok (.iload 4, 2) := by decide +kernel
theorem dX8_feed_35 : decode cX8_feed 35 = .ok (.invokevirtual 63, 3) := by decide +kernel
theorem dX8_feed_38 : decode cX8_feed 38 = .ok (.aload_n 0, 1) := by decide +kernel
theorem dX8_feed_39 : decode cX8_feed 39 = .ok (.iload 5, 2) := by decide +kernel
theorem dX8_feed_41 : decode cX8_feed 41 = .ok (.invokevirtual 63, 3) := by decide +kernel
theorem dX8_feed_44 : decode cX8_feed 44 = .ok (.aload_n 0, 1) := by decide +kernel
theorem dX8_feed_45 : decode cX8_feed 45 = .ok (.getfield 60, 3) := by decide +kernel
theorem dX8_feed_48 : decode cX8_feed 48 = .ok (.ireturn, 1) := by decide +kernel
theorem dX8_laysWord_0 : decode cX8_laysWord 0 = .ok (.iconst 0, 1) := by decide +kernel
theorem dX8_laysWord_1 : decode cX8_laysWord 1 = .ok (.istore_n 2, 1) := by decide +kernel
theorem dX8_laysWord_2 : decode cX8_laysWord 2 = .ok (.iload_n 2, 1) := by decide +kernel
theorem dX8_laysWord_3 : decode cX8_laysWord 3 = .ok (.iconst 4, 1) := by decide +kernel
theorem dX8_laysWord_4 : decode cX8_laysWord 4 = .ok (.if_icmp .ge 33, 3) := by decide +kernel
theorem dX8_laysWord_7 : decode cX8_laysWord 7 = .ok (.aload_n 0, 1) := by decide +kernel
theorem dX8_laysWord_8 : decode cX8_laysWord 8 = .ok (.getfield 13, 3) := by decide +kernel
theorem dX8_laysWord_11 : decode cX8_laysWord 11 = .ok (.aload_n 0, 1) := by decide +kernel
theorem dX8_laysWord_12 : decode cX8_laysWord 12 = .ok (.getfield 60, 3) := by decide +kernel
theorem dX8_laysWord_15 : decode cX8_laysWord 15 = .ok (.iload_n 2, 1) := by decide +kernel
theorem dX8_laysWord_16 : decode cX8_laysWord 16 = .ok (.iadd, 1) := by decide +kernel
theorem dX8_laysWord_17 : decode cX8_laysWord 17 = .ok (.iload_n 1, 1) := by decide +kernel
theorem dX8_laysWord_18 : decode cX8_laysWord 18 = .ok (.bipush 24, 2) := by decide +kernel
theorem dX8_laysWord_20 : decode cX8_laysWord 20 = .ok (.bipush 8, 2) := by decide +kernel
theorem dX8_laysWord_22 : decode cX8_laysWord 22 = .ok (.iload_n 2, 1) := by decide +kernel
theorem dX8_laysWord_23 : decode cX8_laysWord 23 = .ok (.imul, 1) := by decide +kernel
theorem dX8_laysWord_24 : decode cX8_laysWord 24 = .ok (.isub, 1) := by decide +kernel
theorem dX8_laysWord_25 : decode cX8_laysWord 25 = .ok (.ishr, 1) := by decide +kernel
theorem dX8_laysWord_26 : decode cX8_laysWord 26 = .ok (.sipush 255, 3) := by decide +kernel
theorem dX8_laysWord_29 : decode cX8_laysWord 29 = .ok (.iand, 1) := by decide +kernel
theorem dX8_laysWord_30 : decode cX8_laysWord 30 = .ok (.iastore, 1) := by decide +kernel
theorem dX8_laysWord_31 : decode cX8_laysWord 31 = .ok (.iinc 2 1, 3) := by decide +kernel
theorem dX8_laysWord_34 : decode cX8_laysWord 34 = .ok (.goto (-32), 3) := by decide +kernel
theorem dX8_laysWord_37 : decode cX8_laysWord 37 = .ok (.aload_n 0, 1) := by decide +kernel
theorem dX8_laysWord_38 : decode cX8_laysWord 38 = .ok (.dup, 1) := by decide +kernel
theorem dX8_laysWord_39 : decode cX8_laysWord 39 = .ok (.getfield 60, 3) := by decide +kernel
theorem dX8_laysWord_42 : decode cX8_laysWord 42 = .ok (.iconst 4, 1) := by decide +kernel
theorem dX8_laysWord_43 : decode cX8_laysWord 43 = .ok (.iadd, 1) := by decide +kernel
theorem dX8_laysWord_44 : decode cX8_laysWord 44 = .ok (.putfield 60, 3) := by decide +kernel
theorem dX8_laysWord_47 : decode cX8_laysWord 47 = .ok (.return_, 1) := by decide +kernel
theorem dX8_see_0 : decode cX8_see 0 = .ok (.iload_n 1, 1) := by decide +kernel
theorem dX8_see_1 : decode cX8_see 1 = .ok (.aload_n 0, 1) := by decide +kernel
theorem dX8_see_2 : decode cX8_see 2 = .ok (.getfield 67, 3) := by decide +kernel
theorem dX8_see_5 : decode cX8_see 5 = .ok (.if_icmp .ge 12, 3) := by decide +kernel
theorem dX8_see_8 : decode cX8_see 8 = .ok (.aload_n 0, 1) := by decide +kernel
theorem dX8_see_9 : decode cX8_see 9 = .ok (.getfield 13, 3) := by decide +kernel
theorem dX8_see_12 : decode cX8_see 12 = .ok (.iload_n 1, 1) := by decide +kernel
theorem dX8_see_13 : decode cX8_see 13 = .ok (.iaload, 1) := by decide +kernel
theorem dX8_see_14 : decode cX8_see 14 = .ok (.goto 4, 3) := by decide +kernel
theorem dX8_see_17 : decode cX8_see 17 = .ok (.iconst (-1), 1) := by decide +kernel
theorem dX8_see_18 : decode cX8_see 18 = .ok (.ireturn, 1) := by decide +kernel
theorem dX8_goesOn_0 : decode cX8_goesOn 0 = .ok (.aload_n 0, 1) := by decide +kernel
theorem dX8_goesOn_1 : decode cX8_goesOn 1 = .ok (.aload_n 0, 1) := by decide +kernel
theorem dX8_goesOn_2 : decode cX8_goesOn 2 = .ok (.getfield 70, 3) := by decide +kernel
theorem dX8_goesOn_5 : decode cX8_goesOn 5 = .ok (.invokevirtual 73, 3) := by decide +kernel
theorem dX8_goesOn_8 : decode cX8_goesOn 8 = .ok (.bipush 32, 2) := by decide +kernel
theorem dX8_goesOn_10 : decode cX8_goesOn 10 = .ok (.if_icmp .ne 16, 3) := by decide +kernel
theorem dX8_goesOn_13 : decode cX8_goesOn 13 = .ok (.aload_n 0, 1) := by decide +kernel
theorem dX8_goesOn_14 : decode cX8_goesOn 14 = .ok (.dup, 1) := by decide +kernel
theorem dX8_goesOn_15 : decode cX8_goesOn 15 = .ok (.getfield 70, 3) := by decide +kernel
theorem dX8_goesOn_18 : decode cX8_goesOn 18 = .ok (.iconst 1, 1) := by decide +kernel
theorem dX8_goesOn_19 : decode cX8_goesOn 19 = .ok (.iadd, 1) := by decide +kernel
theorem dX8_goesOn_20 : decode cX8_goesOn 20 = .ok (.putfield 70, 3) := by decide +kernel
theorem dX8_goesOn_23 : decode cX8_goesOn 23 = .ok (.goto (-23), 3) := by decide +kernel
theorem dX8_goesOn_26 : decode cX8_goesOn 26 = .ok (.aload_n 0, 1) := by decide +kernel
theorem dX8_goesOn_27 : decode cX8_goesOn 27 = .ok (.aload_n 0, 1) := by decide +kernel
theorem dX8_goesOn_28 : decode cX8_goesOn 28 = .ok (.getfield 70, 3) := by decide +kernel
theorem dX8_goesOn_31 : decode cX8_goesOn 31 = .ok (.putfield 77, 3) := by decide +kernel
theorem dX8_goesOn_34 : decode cX8_goesOn 34 = .ok (.aload_n 0, 1) := by decide +kernel
theorem dX8_goesOn_35 : decode cX8_goesOn 35 = .ok (.aload_n 0, 1) := by decide +kernel
theorem dX8_goesOn_36 : decode cX8_goesOn 36 = .ok (.getfield 70, 3) := by decide +kernel
theorem dX8_goesOn_39 : decode cX8_goesOn 39 = .ok (.invokevirtual 73, 3) := by decide +kernel
theorem dX8_goesOn_42 : decode cX8_goesOn 42 = .ok (.istore_n 1, 1) := by decide +kernel
theorem dX8_goesOn_43 : decode cX8_goesOn 43 = .ok (.iload_n 1, 1) := by decide +kernel
theorem dX8_goesOn_44 : decode cX8_goesOn 44 = .ok (.iconst (-1), 1) := by decide +kernel
theorem dX8_goesOn_45 : decode cX8_goesOn 45 = .ok (.if_icmp .ne 9, 3) := by decide +kernel
theorem dX8_goesOn_48 : decode cX8_goesOn 48 = .ok (.aload_n 0, 1) := by decide +kernel
theorem dX8_goesOn_49 : decode cX8_goesOn 49 = .ok (.iconst 0, 1) := by decide +kernel
theorem dX8_goesOn_50 : decode cX8_goesOn 50 = .ok (.putfield 80, 3) := by decide +kernel
theorem dX8_goesOn_53 : decode cX8_goesOn 53 = .ok (.return_, 1) := by decide +kernel
theorem dX8_goesOn_54 : decode cX8_goesOn 54 = .ok (.iload_n 1, 1) := by decide +kernel
theorem dX8_goesOn_55 : decode cX8_goesOn 55 = .ok (.bipush 97, 2) := by decide +kernel
theorem dX8_goesOn_57 : decode cX8_goesOn 57 = .ok (.bipush 122, 2) := by decide +kernel
theorem dX8_goesOn_59 : decode cX8_goesOn 59 = .ok (.invokestatic 83, 3) := by decide +kernel
theorem dX8_goesOn_62 : decode cX8_goesOn 62 = .ok (.ifCond .eq 58, 3) := by decide +kernel
theorem dX8_goesOn_65 : decode cX8_goesOn 65 = .ok (.aload_n 0, 1) := by decide +kernel
theorem dX8_goesOn_66 : decode cX8_goesOn 66 = .ok (.aload_n 0, 1) := by decide +kernel
theorem dX8_goesOn_67 : decode cX8_goesOn 67 = .ok (.getfield 70, 3) := by decide +kernel
theorem dX8_goesOn_70 : decode cX8_goesOn 70 = .ok (.invokevirtual 73, 3) := by decide +kernel
theorem dX8_goesOn_73 : decode cX8_goesOn 73 = .ok (.bipush 97, 2) := by decide +kernel
theorem dX8_goesOn_75 : decode cX8_goesOn 75 = .ok (.bipush 122, 2) := by decide +kernel
theorem dX8_goesOn_77 : decode cX8_goesOn 77 = .ok (.invokestatic 83, 3) := by decide +kernel
theorem dX8_goesOn_80 : decode cX8_goesOn 80 = .ok (.ifCond .eq 16, 3) := by decide +kernel
theorem dX8_goesOn_83 : decode cX8_goesOn 83 = .ok (.aload_n 0, 1) := by decide +kernel
theorem dX8_goesOn_84 : decode cX8_goesOn 84 = .ok (.dup, 1) := by decide +kernel
theorem dX8_goesOn_85 : decode cX8_goesOn 85 = .ok (.getfield 70, 3) := by decide +kernel
theorem dX8_goesOn_88 : decode cX8_goesOn 88 = .ok (.iconst 1, 1) := by decide +kernel
theorem dX8_goesOn_89 : decode cX8_goesOn 89 = .ok (.iadd, 1) := by decide +kernel
theorem dX8_goesOn_90 : decode cX8_goesOn 90 = .ok (.putfield 70, 3) := by decide +kernel
theorem dX8_goesOn_93 : decode cX8_goesOn 93 = .ok (.goto (-28), 3) := by decide +kernel
theorem dX8_goesOn_96 : decode cX8_goesOn 96 = .ok (.aload_n 0, 1) := by decide +kernel
theorem dX8_goesOn_97 : decode cX8_goesOn 97 = .ok (.aload_n 0, 1) := by decide +kernel
theorem dX8_goesOn_98 : decode cX8_goesOn 98 = .ok (.getfield 70, 3) := by decide +kernel
theorem dX8_goesOn_101 : decode cX8_goesOn 101 = .ok (.aload_n 0, 1) := by decide +kernel
theorem dX8_goesOn_102 : decode cX8_goesOn 102 = .ok (.getfield 77, 3) := by decide +kernel
theorem dX8_goesOn_105 : decode cX8_goesOn 105 = .ok (.isub, 1) := by decide +kernel
theorem dX8_goesOn_106 : decode cX8_goesOn 106 = .ok (.bipush 6, 2) := by decide +kernel
theorem dX8_goesOn_108 : decode cX8_goesOn 108 = .ok (.if_icmp .le 7, 3) := by decide +kernel
theorem dX8_goesOn_111 : decode cX8_goesOn 111 = .ok (.iconst 1, 1) := by decide +kernel
theorem dX8_goesOn_112 : decode cX8_goesOn 112 = .ok (.goto 4, 3) := by decide +kernel
theorem dX8_goesOn_115 : decode cX8_goesOn 115 = .ok (.iconst 2, 1) := by decide +kernel
theorem dX8_goesOn_116 : decode cX8_goesOn 116 = .ok (.putfield 80, 3) := by decide +kernel
theorem dX8_goesOn_119 : decode cX8_goesOn 119 = .ok (.return_, 1) := by decide +kernel
theorem dX8_goesOn_120 : decode cX8_goesOn 120 = .ok (.iload_n 1, 1) := by decide +kernel
theorem dX8_goesOn_121 : decode cX8_goesOn 121 = .ok (.bipush 48, 2) := by decide +kernel
theorem dX8_goesOn_123 : decode cX8_goesOn 123 = .ok (.bipush 57, 2) := by decide +kernel
theorem dX8_goesOn_125 : decode cX8_goesOn 125 = .ok (.invokestatic 83, 3) := by decide +kernel
theorem dX8_goesOn_128 : decode cX8_goesOn 128 = .ok (.ifCond .eq 105, 3) := by decide +kernel
theorem dX8_goesOn_131 : decode cX8_goesOn 131 = .ok (.aload_n 0, 1) := by decide +kernel
theorem dX8_goesOn_132 : decode cX8_goesOn 132 = .ok (.iconst 0, 1) := by decide +kernel
theorem dX8_goesOn_133 : decode cX8_goesOn 133 = .ok (.putfield 87, 3) := by decide +kernel
theorem dX8_goesOn_136 : decode cX8_goesOn 136 = .ok (.aload_n 0, 1) := by decide +kernel
theorem dX8_goesOn_137 : decode cX8_goesOn 137 = .ok (.aload_n 0, 1) := by decide +kernel
theorem dX8_goesOn_138 : decode cX8_goesOn 138 = .ok (.getfield 70, 3) := by decide +kernel
theorem dX8_goesOn_141 : decode cX8_goesOn 141 = .ok (.invokevirtual 73, 3) := by decide +kernel
theorem dX8_goesOn_144 : decode cX8_goesOn 144 = .ok (.bipush 48, 2) := by decide +kernel
theorem dX8_goesOn_146 : decode cX8_goesOn 146 = .ok (.bipush 57, 2) := by decide +kernel
theorem dX8_goesOn_148 : decode cX8_goesOn 148 = .ok (.invokestatic 83, 3) := by decide +kernel
theorem dX8_goesOn_151 : decode cX8_goesOn 151 = .ok (.ifCond .eq 59, 3) := by decide +kernel
theorem dX8_goesOn_154 : decode cX8_goesOn 154 = .ok (.aload_n 0, 1) := by decide +kernel
theorem dX8_goesOn_155 : decode cX8_goesOn 155 = .ok (.aload_n 0, 1) := by decide +kernel
theorem dX8_goesOn_156 : decode cX8_goesOn 156 = .ok (.getfield 70, 3) := by decide +kernel
theorem dX8_goesOn_159 : decode cX8_goesOn 159 = .ok (.aload_n 0, 1) := by decide +kernel
theorem dX8_goesOn_160 : decode cX8_goesOn 160 = .ok (.getfield 77, 3) := by decide +kernel
theorem dX8_goesOn_163 : decode cX8_goesOn 163 = .ok (.isub, 1) := by decide +kernel
theorem dX8_goesOn_164 : decode cX8_goesOn 164 = .ok (.iconst 2, 1) := by decide +kernel
theorem dX8_goesOn_165 : decode cX8_goesOn 165 = .ok (.if_icmp .ge 25, 3) := by decide +kernel
theorem dX8_goesOn_168 : decode cX8_goesOn 168 = .ok (.bipush 10, 2) := by decide +kernel
theorem dX8_goesOn_170 : decode cX8_goesOn 170 = .ok (.aload_n 0, 1) := by decide +kernel
theorem dX8_goesOn_171 : decode cX8_goesOn 171 = .ok (.getfield 87, 3) := by decide +kernel
theorem dX8_goesOn_174 : decode cX8_goesOn 174 = .ok (.imul, 1) := by decide +kernel
theorem dX8_goesOn_175 : decode cX8_goesOn 175 = .ok (.aload_n 0, 1) := by decide +kernel
theorem dX8_goesOn_176 : decode cX8_goesOn 176 = .ok (.aload_n 0, 1) := by decide +kernel
theorem dX8_goesOn_177 : decode cX8_goesOn 177 = .ok (.getfield 70, 3) := by decide +kernel
theorem dX8_goesOn_180 : decode cX8_goesOn 180 = .ok (.invokevirtual 73, 3) := by decide +kernel
theorem dX8_goesOn_183 : decode cX8_goesOn 183 = .ok (.iadd, 1) := by decide +kernel
theorem dX8_goesOn_184 : decode cX8_goesOn 184 = .ok (.bipush 48, 2) := by decide +kernel
theorem dX8_goesOn_186 : decode cX8_goesOn 186 = .ok (.isub, 1) := by decide +kernel
theorem dX8_goesOn_187 : decode cX8_goesOn 187 = .ok (.goto 7, 3) := by decide +kernel
theorem dX8_goesOn_190 : decode cX8_goesOn 190 = .ok (.aload_n 0, 1) := by decide +kernel
theorem dX8_goesOn_191 : decode cX8_goesOn 191 = .ok (.getfield 87, 3) := by decide +kernel
theorem dX8_goesOn_194 : decode cX8_goesOn 194 = .ok (.putfield 87, 3) := by decide +kernel
theorem dX8_goesOn_197 : decode cX8_goesOn 197 = .ok (.aload_n 0, 1) := by decide +kernel
theorem dX8_goesOn_198 : decode cX8_goesOn 198 = .ok (.dup, 1) := by decide +kernel
theorem dX8_goesOn_199 : decode cX8_goesOn 199 = .ok (.getfield 70, 3) := by decide +kernel
theorem dX8_goesOn_202 : decode cX8_goesOn 202 = .ok (.iconst 1, 1) := by decide +kernel
theorem dX8_goesOn_203 : decode cX8_goesOn 203 = .ok (.iadd, 1) := by decide +kernel
theorem dX8_goesOn_204 : decode cX8_goesOn 204 = .ok (.putfield 70, 3) := by decide +kernel
theorem dX8_goesOn_207 : decode cX8_goesOn 207 = .ok (.goto (-71), 3) := by decide +kernel
theorem dX8_goesOn_210 : decode cX8_goesOn 210 = .ok (.aload_n 0, 1) := by decide +kernel
theorem dX8_goesOn_211 : decode cX8_goesOn 211 = .ok (.aload_n 0, 1) := by decide +kernel
theorem dX8_goesOn_212 : decode cX8_goesOn 212 = .ok (.getfield 70, 3) := by decide +kernel
theorem dX8_goesOn_215 : decode cX8_goesOn 215 = .ok (.aload_n 0, 1) := by decide +kernel
theorem dX8_goesOn_216 : decode cX8_goesOn 216 = .ok (.getfield 77, 3) := by decide +kernel
theorem dX8_goesOn_219 : decode cX8_goesOn 219 = .ok (.isub, 1) := by decide +kernel
theorem dX8_goesOn_220 : decode cX8_goesOn 220 = .ok (.iconst 2, 1) := by decide +kernel
theorem dX8_goesOn_221 : decode cX8_goesOn 221 = .ok (.if_icmp .le 7, 3) := by decide +kernel
theorem dX8_goesOn_224 : decode cX8_goesOn 224 = .ok (.iconst 1, 1) := by decide +kernel
theorem dX8_goesOn_225 : decode cX8_goesOn 225 = .ok (.goto 4, 3) := by decide +kernel
theorem dX8_goesOn_228 : decode cX8_goesOn 228 = .ok (.iconst 3, 1) := by decide +kernel
theorem dX8_goesOn_229 : decode cX8_goesOn 229 = .ok (.putfield 80, 3) := by decide +kernel
theorem dX8_goesOn_232 : decode cX8_goesOn 232 = .ok (.return_, 1) := by decide +kernel
theorem dX8_goesOn_233 : decode cX8_goesOn 233 = .ok (.aload_n 0, 1) := by decide +kernel
theorem dX8_goesOn_234 : decode cX8_goesOn 234 = .ok (.dup, 1) := by decide +kernel
theorem dX8_goesOn_235 : decode cX8_goesOn 235 = .ok (.getfield 70, 3) := by decide +kernel
theorem dX8_goesOn_238 : decode cX8_goesOn 238 = .ok (.iconst 1, 1) := by decide +kernel
theorem dX8_goesOn_239 : decode cX8_goesOn 239 = .ok (.iadd, 1) := by decide +kernel
theorem dX8_goesOn_240 : decode cX8_goesOn 240 = .ok (.putfield 70, 3) := by decide +kernel
theorem dX8_goesOn_243 : decode cX8_goesOn 243 = .ok (.aload_n 0, 1) := by decide +kernel
theorem dX8_goesOn_244 : decode cX8_goesOn 244 = .ok (.iload_n 1, 1) := by decide +kernel
theorem dX8_goesOn_245 : decode cX8_goesOn 245 = .ok (.bipush 59, 2) := by decide +kernel
theorem dX8_goesOn_247 : decode cX8_goesOn 247 = .ok (.if_icmp .ne 7, 3) := by decide +kernel
theorem dX8_goesOn_250 : decode cX8_goesOn 250 = .ok (.iload_n 1, 1) := by decide +kernel
theorem dX8_goesOn_251 : decode cX8_goesOn 251 = .ok (.goto 4, 3) := by decide +kernel
theorem dX8_goesOn_254 : decode cX8_goesOn 254 = .ok (.iconst 1, 1) := by decide +kernel
theorem dX8_goesOn_255 : decode cX8_goesOn 255 = .ok (.putfield 80, 3) := by decide +kernel
theorem dX8_goesOn_258 : decode cX8_goesOn 258 = .ok (.return_, 1) := by decide +kernel
theorem dX8_isWord_0 : decode cX8_isWord 0 = .ok (.aload_n 0, 1) := by decide +kernel
theorem dX8_isWord_1 : decode cX8_isWord 1 = .ok (.getfield 80, 3) := by decide +kernel
theorem dX8_isWord_4 : decode cX8_isWord 4 = .ok (.iconst 2, 1) := by decide +kernel
theorem dX8_isWord_5 : decode cX8_isWord 5 = .ok (.if_icmp .ne 19, 3) := by decide +kernel
theorem dX8_isWord_8 : decode cX8_isWord 8 = .ok (.aload_n 0, 1) := by decide +kernel
theorem dX8_isWord_9 : decode cX8_isWord 9 = .ok (.getfield 70, 3) := by decide +kernel
theorem dX8_isWord_12 : decode cX8_isWord 12 = .ok (.aload_n 0, 1) := by decide +kernel
theorem dX8_isWord_13 : decode cX8_isWord 13 = .ok (.getfield 77, 3) := by decide +kernel
theorem dX8_isWord_16 : decode cX8_isWord 16 = .ok (.isub, 1) := by decide +kernel
theorem dX8_isWord_17 : decode cX8_isWord 17 = .ok (.aload_n 1, 1) := by decide +kernel
theorem dX8_isWord_18 : decode cX8_isWord 18 = .ok (.invokevirtual 90, 3) := by decide +kernel
theorem dX8_isWord_21 : decode cX8_isWord 21 = .ok (.if_icmp .eq 5, 3) := by decide +kernel
theorem dX8_isWord_24 : decode cX8_isWord 24 = .ok (.iconst 0, 1) := by decide +kernel
theorem dX8_isWord_25 : decode cX8_isWord 25 = .ok (.ireturn, 1) := by decide +kernel
theorem dX8_isWord_26 : decode cX8_isWord 26 = .ok (.iconst 0, 1) := by decide +kernel
theorem dX8_isWord_27 : decode cX8_isWord 27 = .ok (.istore_n 2, 1) := by decide +kernel
theorem dX8_isWord_28 : decode cX8_isWord 28 = .ok (.iload_n 2, 1) := by decide +kernel
theorem dX8_isWord_29 : decode cX8_isWord 29 = .ok (.aload_n 1, 1) := by decide +kernel
theorem dX8_isWord_30 : decode cX8_isWord 30 = .ok (.invokevirtual 90, 3) := by decide +kernel
theorem dX8_isWord_33 : decode cX8_isWord 33 = .ok (.if_icmp .ge 30, 3) := by decide +kernel
theorem dX8_isWord_36 : decode cX8_isWord 36 = .ok (.aload_n 0, 1) := by decide +kernel
theorem dX8_isWord_37 : decode cX8_isWord 37 = .ok (.getfield 13, 3) := by decide +kernel
theorem dX8_isWord_40 : decode cX8_isWord 40 = .ok (.aload_n 0, 1) := by decide +kernel
theorem dX8_isWord_41 : decode cX8_isWord 41 = .ok (.getfield 77, 3) := by decide +kernel
theorem dX8_isWord_44 : decode cX8_isWord 44 = .ok (.iload_n 2, 1) := by decide +kernel
theorem dX8_isWord_45 : decode cX8_isWord 45 = .ok (.iadd, 1) := by decide +kernel
theorem dX8_isWord_46 : decode cX8_isWord 46 = .ok (.iaload, 1) := by decide +kernel
theorem dX8_isWord_47 : decode cX8_isWord 47 = .ok (.aload_n 1, 1) := by decide +kernel
theorem dX8_isWord_48 : decode cX8_isWord 48 = .ok (.iload_n 2, 1) := by decide +kernel
theorem dX8_isWord_49 : decode cX8_isWord 49 = .ok (.invokevirtual 96, 3) := by decide +kernel
theorem dX8_isWord_52 : decode cX8_isWord 52 = .ok (.if_icmp .eq 5, 3) := by decide +kernel
theorem dX8_isWord_55 : decode cX8_isWord 55 = .ok (.iconst 0, 1) := by decide +kernel
theorem dX8_isWord_56 : decode cX8_isWord 56 = .ok (.ireturn, 1) := by decide +kernel
theorem dX8_isWord_57 : decode cX8_isWord 57 = .ok (.iinc 2 1, 3) := by decide +kernel
theorem dX8_isWord_60 : decode cX8_isWord 60 = .ok (.goto (-32), 3) := by decide +kernel
theorem dX8_isWord_63 : decode cX8_isWord 63 = .ok (.iconst 1, 1) := by decide +kernel
theorem dX8_isWord_64 : decode cX8_isWord 64 = .ok (.ireturn, 1) := by decide +kernel
theorem dX8_errs_0 : decode cX8_errs 0 = .ok (.aload_n 0, 1) := by decide +kernel
theorem dX8_errs_1 : decode cX8_errs 1 = .ok (.iload_n 1, 1) := by decide +kernel
theorem dX8_errs_2 : decode cX8_errs 2 = .ok (.putfield 100, 3) := by decide +kernel
theorem dX8_errs_5 : decode cX8_errs 5 = .ok (.aload_n 0, 1) := by decide +kernel
theorem dX8_errs_6 : decode cX8_errs 6 = .ok (.aload_n 0, 1) := by decide +kernel
theorem dX8_errs_7 : decode cX8_errs 7 = .ok (.getfield 77, 3) := by decide +kernel
theorem dX8_errs_10 : decode cX8_errs 10 = .ok (.putfield 103, 3) := by decide +kernel
theorem dX8_errs_13 : decode cX8_errs 13 = .ok (.iconst 0, 1) := by decide +kernel
theorem dX8_errs_14 : decode cX8_errs 14 = .ok (.ireturn, 1) := by decide +kernel
theorem dX8_isName_0 : decode cX8_isName 0 = .ok (.aload_n 0, 1) := by decide +kernel
theorem dX8_isName_1 : decode cX8_isName 1 = .ok (.getfield 80, 3) := by decide +kernel
theorem dX8_isName_4 : decode cX8_isName 4 = .ok (.iconst 2, 1) := by decide +kernel
theorem dX8_isName_5 : decode cX8_isName 5 = .ok (.if_icmp .ne 61, 3) := by decide +kernel
theorem dX8_isName_8 : decode cX8_isName 8 = .ok (.aload_n 0, 1) := by decide +kernel
theorem dX8_isName_9 : decode cX8_isName 9 = .ok (.ldc 106, 2) := by decide +kernel
theorem dX8_isName_11 : decode cX8_isName 11 = .ok (.invokevirtual 108, 3) := by decide +kernel
theorem dX8_isName_14 : decode cX8_isName 14 = .ok (.ifCond .ne 52, 3) := by decide +kernel
theorem dX8_isName_17 : decode cX8_isName 17 = .ok (.aload_n 0, 1) := by decide +kernel
theorem dX8_isName_18 : decode cX8_isName 18 = .ok (.ldc 112, 2) := by decide +kernel
theorem dX8_isName_20 : decode cX8_isName 20 = .ok (.invokevirtual 108, 3) := by decide +kernel
theorem dX8_isName_23 : decode cX8_isName 23 = .ok (.ifCond .ne 43, 3) := by decide +kernel
theorem dX8_isName_26 : decode cX8_isName 26 = .ok (.aload_n 0, 1) := by decide +kernel
theorem dX8_isName_27 : decode cX8_isName 27 = .ok (.ldc 114, 2) := by decide +kernel
theorem dX8_isName_29 : decode cX8_isName 29 = .ok (.invokevirtual 108, 3) := by decide +kernel
theorem dX8_isName_32 : decode cX8_isName 32 = .ok (.ifCond .ne 34, 3) := by decide +kernel
theorem dX8_isName_35 : decode cX8_isName 35 = .ok (.aload_n 0, 1) := by decide +kernel
theorem dX8_isName_36 : decode cX8_isName 36 = .ok (.ldc 116, 2) := by decide +kernel
theorem dX8_isName_38 : decode cX8_isName 38 = .ok (.invokevirtual 108, 3) := by decide +kernel
theorem dX8_isName_41 : decode cX8_isName 41 = .ok (.ifCond .ne 25, 3) := by decide +kernel
theorem dX8_isName_44 : decode cX8_isName 44 = .ok (.aload_n 0, 1) := by decide +kernel
theorem dX8_isName_45 : decode cX8_isName 45 = .ok (.ldc 118, 2) := by decide +kernel
theorem dX8_isName_47 : decode cX8_isName 47 = .ok (.invokevirtual 108, 3) := by decide +kernel
theorem dX8_isName_50 : decode cX8_isName 50 = .ok (.ifCond .ne 16, 3) := by decide +kernel
theorem dX8_isName_53 : decode cX8_isName 53 = .ok (.aload_n 0, 1) := by decide +kernel
theorem dX8_isName_54 : decode cX8_isName 54 = .ok (.ldc 120, 2) := by decide +kernel
theorem dX8_isName_56 : decode cX8_isName 56 = .ok (.invokevirtual 108, 3) := by decide +kernel
theorem dX8_isName_59 : decode cX8_isName 59 = .ok (.ifCond .ne 7, 3) := by decide +kernel
theorem dX8_isName_62 : decode cX8_isName 62 = .ok (.iconst 1, 1) := by decide +kernel
theorem dX8_isName_63 : decode cX8_isName 63 = .ok (.goto 4, 3) := by decide +kernel
theorem dX8_isName_66 : decode cX8_isName 66 = .ok (.iconst 0, 1) := by decide +kernel
theorem dX8_isName_67 : decode cX8_isName 67 = .ok (.ireturn, 1) := by decide +kernel
theorem dX8_isAt_0 : decode cX8_isAt 0 = .ok (.iload 4, 2) := by decide +kernel
theorem dX8_isAt_2 : decode cX8_isAt 2 = .ok (.iload_n 3, 1) := by decide +kernel
theorem dX8_isAt_3 : decode cX8_isAt 3 = .ok (.isub, 1) := by decide +kernel
theorem dX8_isAt_4 : decode cX8_isAt 4 = .ok (.bipush 6, 2) := by decide +kernel
theorem dX8_isAt_6 : decode cX8_isAt 6 = .ok (.if_icmp .gt 7, 3) := by decide +kernel
theorem dX8_isAt_9 : decode cX8_isAt 9 = .ok (.iconst 1, 1) := by decide +kernel
theorem dX8_isAt_10 : decode cX8_isAt 10 = .ok (.goto 4, 3) := by decide +kernel
theorem dX8_isAt_13 : decode cX8_isAt 13 = .ok (.iconst 0, 1) := by decide +kernel
theorem dX8_isAt_14 : decode cX8_isAt 14 = .ok (.istore 5, 2) := by decide +kernel
theorem dX8_isAt_16 : decode cX8_isAt 16 = .ok (.iconst 0, 1) := by decide +kernel
theorem dX8_isAt_17 : decode cX8_isAt 17 = .ok (.istore 6, 2) := by decide +kernel
theorem dX8_isAt_19 : decode cX8_isAt 19 = .ok (.iload 6, 2) := by decide +kernel
theorem dX8_isAt_21 : decode cX8_isAt 21 = .ok (.bipush 6, 2) := by decide +kernel
theorem dX8_isAt_23 : decode cX8_isAt 23 = .ok (.if_icmp .ge 84, 3) := by decide +kernel
theorem dX8_isAt_26 : decode cX8_isAt 26 = .ok (.iload_n 3, 1) := by decide +kernel
theorem dX8_isAt_27 : decode cX8_isAt 27 = .ok (.iload 6, 2) := by decide +kernel
theorem dX8_isAt_29 : decode cX8_isAt 29 = .ok (.iadd, 1) := by decide +kernel
theorem dX8_isAt_30 : decode cX8_isAt 30 = .ok (.iload 4, 2) := by decide +kernel
theorem dX8_isAt_32 : decode cX8_isAt 32 = .ok (.if_icmp .ge 7, 3) := by decide +kernel
theorem dX8_isAt_35 : decode cX8_isAt 35 = .ok (.iconst 1, 1) := by decide +kernel
theorem dX8_isAt_36 : decode cX8_isAt 36 = .ok (.goto 4, 3) := by decide +kernel
theorem dX8_isAt_39 : decode cX8_isAt 39 = .ok (.iconst 0, 1) := by decide +kernel
theorem dX8_isAt_40 : decode cX8_isAt 40 = .ok (.istore 7, 2) := by decide +kernel
theorem dX8_isAt_42 : decode cX8_isAt 42 = .ok (.iload 5, 2) := by decide +kernel
theorem dX8_isAt_44 : decode cX8_isAt 44 = .ok (.ifCond .eq 54, 3) := by decide +kernel
theorem dX8_isAt_47 : decode cX8_isAt 47 = .ok (.iload 7, 2) := by decide +kernel
theorem dX8_isAt_49 : decode cX8_isAt 49 = .ok (.ifCond .eq 36, 3) := by decide +kernel
theorem dX8_isAt_52 : decode cX8_isAt 52 = .ok (.aload_n 0, 1) := by decide +kernel
theorem dX8_isAt_53 : decode cX8_isAt 53 = .ok (.getfield 13, 3) := by decide +kernel
theorem dX8_isAt_56 : decode cX8_isAt 56 = .ok (.iload_n 3, 1) := by decide +kernel
theorem dX8_isAt_57 : decode cX8_isAt 57 = .ok (.iload 6, 2) := by decide +kernel
theorem dX8_isAt_59 : decode cX8_isAt 59 = .ok (.iadd, 1) := by decide +kernel
