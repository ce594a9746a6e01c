theorem dX0_init_0 : decode cX0_init 0 = .ok (.aload_n 0, 1) := by decide +kernel
theorem dX0_init_1 : decode cX0_init 1 = .ok (.invokespecial 3, 3) := by decide +kernel
theorem dX0_init_4 : decode cX0_init 4 = .ok (.aload_n 0, 1) := by decide +kernel
theorem dX0_init_5 : decode cX0_init 5 = .ok (.bipush 54, 2) := by decide +kernel
theorem dX0_init_7 : decode cX0_init 7 = .ok (.newarray .int, 2) := by decide +kernel
theorem dX0_init_9 : decode cX0_init 9 = .ok (.putfield 9, 3) := by decide +kernel
theorem dX0_init_12 : decode cX0_init 12 = .ok (.aload_n 0, 1) := by decide +kernel
theorem dX0_init_13 : decode cX0_init 13 = .ok (.iconst 5, 1) := by decide +kernel
theorem dX0_init_14 : decode cX0_init 14 = .ok (.newarray .int, 2) := by decide +kernel
theorem dX0_init_16 : decode cX0_init 16 = .ok (.putfield 15, 3) := by decide +kernel
theorem dX0_init_19 : decode cX0_init 19 = .ok (.aload_n 0, 1) := by decide +kernel
theorem dX0_init_20 : decode cX0_init 20 = .ok (.bipush 9, 2) := by decide +kernel
theorem dX0_init_22 : decode cX0_init 22 = .ok (.newarray .int, 2) := by decide +kernel
theorem dX0_init_24 : decode cX0_init 24 = .ok (.putfield 18, 3) := by decide +kernel
theorem dX0_init_27 : decode cX0_init 27 = .ok (.aload_n 0, 1) := by decide +kernel
theorem dX0_init_28 : decode cX0_init 28 = .ok (.sipush 240, 3) := by decide +kernel
theorem dX0_init_31 : decode cX0_init 31 = .ok (.newarray .int, 2) := by decide +kernel
theorem dX0_init_33 : decode cX0_init 33 = .ok (.putfield 21, 3) := by decide +kernel
theorem dX0_init_36 : decode cX0_init 36 = .ok (.return_, 1) := by decide +kernel
theorem dX0_openWith_0 : decode cX0_openWith 0 = .ok (.aload_n 0, 1) := by decide +kernel
theorem dX0_openWith_1 : decode cX0_openWith 1 = .ok (.aload_n 1, 1) := by decide +kernel
theorem dX0_openWith_2 : decode cX0_openWith 2 = .ok (.getfield 24, 3) := by decide +kernel
theorem dX0_openWith_5 : decode cX0_openWith 5 = .ok (.putfield 30, 3) := by decide +kernel
theorem dX0_openWith_8 : decode cX0_openWith 8 = .ok (.aload_n 1, 1) := by decide +kernel
theorem dX0_openWith_9 : decode cX0_openWith 9 = .ok (.getfield 31, 3) := by decide +kernel
theorem dX0_openWith_12 : decode cX0_openWith 12 = .ok (.iconst 0, 1) := by decide +kernel
theorem dX0_openWith_13 : decode cX0_openWith 13 = .ok (.aload_n 0, 1) := by decide +kernel
theorem dX0_openWith_14 : decode cX0_openWith 14 = .ok (.getfield 9, 3) := by decide +kernel
theorem dX0_openWith_17 : decode cX0_openWith 17 = .ok (.iconst 0, 1) := by decide +kernel
theorem dX0_openWith_18 : decode cX0_openWith 18 = .ok (.bipush 54, 2) := by decide +kernel
theorem dX0_openWith_20 : decode cX0_openWith 20 = .ok (.invokestatic 32, 3) := by decide +kernel
theorem dX0_openWith_23 : decode cX0_openWith 23 = .ok (.aload_n 1, 1) := by decide +kernel
theorem dX0_openWith_24 : decode cX0_openWith 24 = .ok (.getfield 38, 3) := by decide +kernel
theorem dX0_openWith_27 : decode cX0_openWith 27 = .ok (.iconst 0, 1) := by decide +kernel
theorem dX0_openWith_28 : decode cX0_openWith 28 = .ok (.aload_n 0, 1) := by decide +kernel
theorem dX0_openWith_29 : decode cX0_openWith 29 = .ok (.getfield 15, 3) := by decide +kernel
theorem dX0_openWith_32 : decode cX0_openWith 32 = .ok (.iconst 0, 1) := by decide +kernel
theorem dX0_openWith_33 : decode cX0_openWith 33 = .ok (.iconst 5, 1) := by decide +kernel
theorem dX0_openWith_34 : decode cX0_openWith 34 = .ok (.invokestatic 32, 3) := by decide +kernel
theorem dX0_openWith_37 : decode cX0_openWith 37 = .ok (.iconst 0, 1) := by decide +kernel
theorem dX0_openWith_38 : decode cX0_openWith 38 = .ok (.istore_n 2, 1) := by decide +kernel
theorem dX0_openWith_39 : decode cX0_openWith 39 = .ok (.iload_n 2, 1) := by decide +kernel
theorem dX0_openWith_40 : decode cX0_openWith 40 = .ok (.bipush 9, 2) := by decide +kernel
theorem dX0_openWith_42 : decode cX0_openWith 42 = .ok (.if_icmp .ge 16, 3) := by decide +kernel
theorem dX0_openWith_45 : decode cX0_openWith 45 = .ok (.aload_n 0, 1) := by decide +kernel
theorem dX0_openWith_46 : decode cX0_openWith 46 = .ok (.getfield 18, 3) := by decide +kernel
theorem dX0_openWith_49 : decode cX0_openWith 49 = .ok (.iload_n 2, 1) := by decide +kernel
theorem dX0_openWith_50 : decode cX0_openWith 50 = .ok (.iload_n 2, 1) := by decide +kernel
theorem dX0_openWith_51 : decode cX0_openWith 51 = .ok (.iastore, 1) := by decide +kernel
theorem dX0_openWith_52 : decode cX0_openWith 52 = .ok (.iinc 2 1, 3) := by decide +kernel
theorem dX0_openWith_55 : decode cX0_openWith 55 = .ok (.goto (-16), 3) := by decide +kernel
theorem dX0_openWith_58 : decode cX0_openWith 58 = .ok (.aload_n 0, 1) := by decide +kernel
theorem dX0_openWith_59 : decode cX0_openWith 59 = .ok (.invokevirtual 39, 3) := by decide +kernel
theorem dX0_openWith_62 : decode cX0_openWith 62 = .ok (.return_, 1) := by decide +kernel
theorem dX0_beginAnew_0 : decode cX0_beginAnew 0 = .ok (.aload_n 0, 1) := by decide +kernel
theorem dX0_beginAnew_1 : decode cX0_beginAnew 1 = .ok (.iconst 1, 1) := by decide +kernel
theorem dX0_beginAnew_2 : decode cX0_beginAnew 2 = .ok (.putfield 42, 3) := by decide +kernel
theorem dX0_beginAnew_5 : decode cX0_beginAnew 5 = .ok (.aload_n 0, 1) := by decide +kernel
theorem dX0_beginAnew_6 : decode cX0_beginAnew 6 = .ok (.iconst 0, 1) := by decide +kernel
theorem dX0_beginAnew_7 : decode cX0_beginAnew 7 = .ok (.putfield 45, 3) := by decide +kernel
theorem dX0_beginAnew_10 : decode cX0_beginAnew 10 = .ok (.aload_n 0, 1) := by decide +kernel
theorem dX0_beginAnew_11 : decode cX0_beginAnew 11 = .ok (.iconst 0, 1) := by decide +kernel
theorem dX0_beginAnew_12 : decode cX0_beginAnew 12 = .ok (.putfield 48, 3) := by decide +kernel
theorem dX0_beginAnew_15 : decode cX0_beginAnew 15 = .ok (.aload_n 0, 1) := by decide +kernel
theorem dX0_beginAnew_16 : decode cX0_beginAnew 16 = .ok (.aload_n 0, 1) := by decide +kernel
theorem dX0_beginAnew_17 : decode cX0_beginAnew 17 = .ok (.getfield 18, 3) := by decide +kernel
theorem dX0_beginAnew_20 : decode cX0_beginAnew 20 = .ok (.iconst 0, 1) := by decide +kernel
theorem dX0_beginAnew_21 : decode cX0_beginAnew 21 = .ok (.iaload, 1) := by decide +kernel
theorem dX0_beginAnew_22 : decode cX0_beginAnew 22 = .ok (.putfield 51, 3) := by decide +kernel
theorem dX0_beginAnew_25 : decode cX0_beginAnew 25 = .ok (.aload_n 0, 1) := by decide +kernel
theorem dX0_beginAnew_26 : decode cX0_beginAnew 26 = .ok (.iconst 0, 1) := by decide +kernel
theorem dX0_beginAnew_27 : decode cX0_beginAnew 27 = .ok (.putfield 54, 3) := by decide +kernel
theorem dX0_beginAnew_30 : decode cX0_beginAnew 30 = .ok (.aload_n 0, 1) := by decide +kernel
theorem dX0_beginAnew_31 : decode cX0_beginAnew 31 = .ok (.iconst 0, 1) := by decide +kernel
theorem dX0_beginAnew_32 : decode cX0_beginAnew 32 = .ok (.putfield 57, 3) := by decide +kernel
theorem dX0_beginAnew_35 : decode cX0_beginAnew 35 = .ok (.aload_n 0, 1) := by decide +kernel
theorem dX0_beginAnew_36 : decode cX0_beginAnew 36 = .ok (.iconst 0, 1) := by decide +kernel
theorem dX0_beginAnew_37 : decode cX0_beginAnew 37 = .ok (.putfield 60, 3) := by decide +kernel
theorem dX0_beginAnew_40 : decode cX0_beginAnew 40 = .ok (.return_, 1) := by decide +kernel
theorem dX0_copyFrom_0 : decode cX0_copyFrom 0 = .ok (.aload_n 0, 1) := by decide +kernel
theorem dX0_copyFrom_1 : decode cX0_copyFrom 1 = .ok (.aload_n 1, 1) := by decide +kernel
theorem dX0_copyFrom_2 : decode cX0_copyFrom 2 = .ok (.getfield 30, 3) := by decide +kernel
theorem dX0_copyFrom_5 : decode cX0_copyFrom 5 = .ok (.putfield 30, 3) := by decide +kernel
theorem dX0_copyFrom_8 : decode cX0_copyFrom 8 = .ok (.aload_n 0, 1) := by decide +kernel
theorem dX0_copyFrom_9 : decode cX0_copyFrom 9 = .ok (.aload_n 1, 1) := by decide +kernel
theorem dX0_copyFrom_10 : decode cX0_copyFrom 10 = .ok (.getfield 42, 3) := by decide +kernel
theorem dX0_copyFrom_13 : decode cX0_copyFrom 13 = .ok (.putfield 42, 3) := by decide +kernel
theorem dX0_copyFrom_16 : decode cX0_copyFrom 16 = .ok (.aload_n 0, 1) := by decide +kernel
theorem dX0_copyFrom_17 : decode cX0_copyFrom 17 = .ok (.aload_n 1, 1) := by decide +kernel
theorem dX0_copyFrom_18 : decode cX0_copyFrom 18 = .ok (.getfield 45, 3) := by decide +kernel
theorem dX0_copyFrom_21 : decode cX0_copyFrom 21 = .ok (.putfield 45, 3) := by decide +kernel
theorem dX0_copyFrom_24 : decode cX0_copyFrom 24 = .ok (.aload_n 0, 1) := by decide +kernel
theorem dX0_copyFrom_25 : decode cX0_copyFrom 25 = .ok (.aload_n 1, 1) := by decide +kernel
theorem dX0_copyFrom_26 : decode cX0_copyFrom 26 = .ok (.getfield 48, 3) := by decide +kernel
theorem dX0_copyFrom_29 : decode cX0_copyFrom 29 = .ok (.putfield 48, 3) := by decide +kernel
theorem dX0_copyFrom_32 : decode cX0_copyFrom 32 = .ok (.aload_n 0, 1) := by decide +kernel
theorem dX0_copyFrom_33 : decode cX0_copyFrom 33 = .ok (.aload_n 1, 1) := by decide +kernel
theorem dX0_copyFrom_34 : decode cX0_copyFrom 34 = .ok (.getfield 51, 3) := by decide +kernel
theorem dX0_copyFrom_37 : decode cX0_copyFrom 37 = .ok (.putfield 51, 3) := by decide +kernel
theorem dX0_copyFrom_40 : decode cX0_copyFrom 40 = .ok (.aload_n 0, 1) := by decide +kernel
theorem dX0_copyFrom_41 : decode cX0_copyFrom 41 = .ok (.aload_n 1, 1) := by decide +kernel
theorem dX0_copyFrom_42 : decode cX0_copyFrom 42 = .ok (.getfield 54, 3) := by decide +kernel
theorem dX0_copyFrom_45 : decode cX0_copyFrom 45 = .ok (.putfield 54, 3) := by decide +kernel
theorem dX0_copyFrom_48 : decode cX0_copyFrom 48 = .ok (.aload_n 0, 1) := by decide +kernel
theorem dX0_copyFrom_49 : decode cX0_copyFrom 49 = .ok (.aload_n 1, 1) := by decide +kernel
theorem dX0_copyFrom_50 : decode cX0_copyFrom 50 = .ok (.getfield 57, 3) := by decide +kernel
theorem dX0_copyFrom_53 : decode cX0_copyFrom 53 = .ok (.putfield 57, 3) := by decide +kernel
theorem dX0_copyFrom_56 : decode cX0_copyFrom 56 = .ok (.aload_n 0, 1) := by decide +kernel
theorem dX0_copyFrom_57 : decode cX0_copyFrom 57 = .ok (.aload_n 1, 1) := by decide +kernel
theorem dX0_copyFrom_58 : decode cX0_copyFrom 58 = .ok (.getfield 60, 3) := by decide +kernel
theorem dX0_copyFrom_61 : decode cX0_copyFrom 61 = .ok (.putfield 60, 3) := by decide +kernel
theorem dX0_copyFrom_64 : decode cX0_copyFrom 64 = .ok (.aload_n 1, 1) := by decide +kernel
theorem dX0_copyFrom_65 : decode cX0_copyFrom 65 = .ok (.getfield 9, 3) := by decide +kernel
theorem dX0_copyFrom_68 : decode cX0_copyFrom 68 = .ok (.iconst 0, 1) := by decide +kernel
theorem dX0_copyFrom_69 : decode cX0_copyFrom 69 = .ok (.aload_n 0, 1) := by decide +kernel
theorem dX0_copyFrom_70 : decode cX0_copyFrom 70 = .ok (.getfield 9, 3) := by decide +kernel
theorem dX0_copyFrom_73 : decode cX0_copyFrom 73 = .ok (.iconst 0, 1) := by decide +kernel
theorem dX0_copyFrom_74 : decode cX0_copyFrom 74 = .ok (.bipush 54, 2) := by decide +kernel
theorem dX0_copyFrom_76 : decode cX0_copyFrom 76 = .ok (.invokestatic 32, 3) := by decide +kernel
theorem dX0_copyFrom_79 : decode cX0_copyFrom 79 = .ok (.aload_n 1, 1) := by decide +kernel
theorem dX0_copyFrom_80 : decode cX0_copyFrom 80 = .ok (.getfield 15, 3) := by decide +kernel
theorem dX0_copyFrom_83 : decode cX0_copyFrom 83 = .ok (.iconst 0, 1) := by decide +kernel
theorem dX0_copyFrom_84 : decode cX0_copyFrom 84 = .ok (.aload_n 0, 1) := by decide +kernel
theorem dX0_copyFrom_85 : decode cX0_copyFrom 85 = .ok (.getfield 15, 3) := by decide +kernel
theorem dX0_copyFrom_88 : decode cX0_copyFrom 88 = .ok (.iconst 0, 1) := by decide +kernel
theorem dX0_copyFrom_89 : decode cX0_copyFrom 89 = .ok (.iconst 5, 1) := by decide +kernel
theorem dX0_copyFrom_90 : decode cX0_copyFrom 90 = .ok (.invokestatic 32, 3) := by decide +kernel
theorem dX0_copyFrom_93 : decode cX0_copyFrom 93 = .ok (.aload_n 1, 1) := by decide +kernel
theorem dX0_copyFrom_94 : decode cX0_copyFrom 94 = .ok (.getfield 18, 3) := by decide +kernel
theorem dX0_copyFrom_97 : decode cX0_copyFrom 97 = .ok (.iconst 0, 1) := by decide +kernel
theorem dX0_copyFrom_98 : decode cX0_copyFrom 98 = .ok (.aload_n 0, 1) := by decide +kernel
theorem dX0_copyFrom_99 : decode cX0_copyFrom 99 = .ok (.getfield 18, 3) := by decide +kernel
theorem dX0_copyFrom_102 : decode cX0_copyFrom 102 = .ok (.iconst 0, 1) := by decide +kernel
theorem dX0_copyFrom_103 : decode cX0_copyFrom 103 = .ok (.bipush 9, 2) := by decide +kernel
theorem dX0_copyFrom_105 : decode cX0_copyFrom 105 = .ok (.invokestatic 32, 3) := by decide +kernel
theorem dX0_copyFrom_108 : decode cX0_copyFrom 108 = .ok (.aload_n 1, 1) := by decide +kernel
theorem dX0_copyFrom_109 : decode cX0_copyFrom 109 = .ok (.getfield 21, 3) := by decide +kernel
theorem dX0_copyFrom_112 : decode cX0_copyFrom 112 = .ok (.iconst 0, 1) := by decide +kernel
theorem dX0_copyFrom_113 : decode cX0_copyFrom 113 = .ok (.aload_n 0, 1) := by decide +kernel
theorem dX0_copyFrom_114 : decode cX0_copyFrom 114 = .ok (.getfield 21, 3) := by decide +kernel
theorem dX0_copyFrom_117 : decode cX0_copyFrom 117 = .ok (.iconst 0, 1) := by decide +kernel
theorem dX0_copyFrom_118 : decode cX0_copyFrom 118 = .ok (.sipush 240, 3) := by decide +kernel
theorem dX0_copyFrom_121 : decode cX0_copyFrom 121 = .ok (.invokestatic 32, 3) := by decide +kernel
theorem dX0_copyFrom_124 : decode cX0_copyFrom 124 = .ok (.return_, 1) := by decide +kernel
theorem dX0_hasBatter_0 : decode cX0_hasBatter 0 = .ok (.iload_n 1, 1) := by decide +kernel
theorem dX0_hasBatter_1 : decode cX0_hasBatter 1 = .ok (.ifCond .lt 15, 3) := by decide +kernel
theorem dX0_hasBatter_4 : decode cX0_hasBatter 4 = .ok (.iload_n 1, 1) := by decide +kernel
theorem dX0_hasBatter_5 : decode cX0_hasBatter 5 = .ok (.aload_n 0, 1) := by decide +kernel
theorem dX0_hasBatter_6 : decode cX0_hasBatter 6 = .ok (.getfield 30, 3) := by decide +kernel
theorem dX0_hasBatter_9 : decode cX0_hasBatter 9 = .ok (.if_icmp .ge 7, 3) := by decide +kernel
theorem dX0_hasBatter_12 : decode cX0_hasBatter 12 = .ok (.iconst 1, 1) := by decide +kernel
theorem dX0_hasBatter_13 : decode cX0_hasBatter 13 = .ok (.goto 4, 3) := by decide +kernel
theorem dX0_hasBatter_16 : decode cX0_hasBatter 16 = .ok (.iconst 0, 1) := by decide +kernel
theorem dX0_hasBatter_17 : decode cX0_hasBatter 17 = .ok (.ireturn, 1) := by decide +kernel
theorem dX0_hasPlace_0 : decode cX0_hasPlace 0 = .ok (.iload_n 1, 1) := by decide +kernel
theorem dX0_hasPlace_1 : decode cX0_hasPlace 1 = .ok (.ifCond .lt 15, 3) := by decide +kernel
theorem dX0_hasPlace_4 : decode cX0_hasPlace 4 = .ok (.iload_n 1, 1) := by decide +kernel
theorem dX0_hasPlace_5 : decode cX0_hasPlace 5 = .ok (.aload_n 0, 1) := by decide +kernel
theorem dX0_hasPlace_6 : decode cX0_hasPlace 6 = .ok (.getfield 30, 3) := by decide +kernel
theorem dX0_hasPlace_9 : decode cX0_hasPlace 9 = .ok (.if_icmp .ge 7, 3) := by decide +kernel
theorem dX0_hasPlace_12 : decode cX0_hasPlace 12 = .ok (.iconst 1, 1) := by decide +kernel
theorem dX0_hasPlace_13 : decode cX0_hasPlace 13 = .ok (.goto 4, 3) := by decide +kernel
theorem dX0_hasPlace_16 : decode cX0_hasPlace 16 = .ok (.iconst 0, 1) := by decide +kernel
theorem dX0_hasPlace_17 : decode cX0_hasPlace 17 = .ok (.ireturn, 1) := by decide +kernel
theorem dX0_hasRow_0 : decode cX0_hasRow 0 = .ok (.iload_n 1, 1) := by decide +kernel
theorem dX0_hasRow_1 : decode cX0_hasRow 1 = .ok (.ifCond .lt 15, 3) := by decide +kernel
theorem dX0_hasRow_4 : decode cX0_hasRow 4 = .ok (.iload_n 1, 1) := by decide +kernel
theorem dX0_hasRow_5 : decode cX0_hasRow 5 = .ok (.aload_n 0, 1) := by decide +kernel
theorem dX0_hasRow_6 : decode cX0_hasRow 6 = .ok (.getfield 57, 3) := by decide +kernel
theorem dX0_hasRow_9 : decode cX0_hasRow 9 = .ok (.if_icmp .ge 7, 3) := by decide +kernel
theorem dX0_hasRow_12 : decode cX0_hasRow 12 = .ok (.iconst 1, 1) := by decide +kernel
theorem dX0_hasRow_13 : decode cX0_hasRow 13 = .ok (.goto 4, 3) := by decide +kernel
theorem dX0_hasRow_16 : decode cX0_hasRow 16 = .ok (.iconst 0, 1) := by decide +kernel
theorem dX0_hasRow_17 : decode cX0_hasRow 17 = .ok (.ireturn, 1) := by decide +kernel
theorem dX0_ruled_0 : decode cX0_ruled 0 = .ok (.iload_n 1, 1) := by decide +kernel
theorem dX0_ruled_1 : decode cX0_ruled 1 = .ok (.iconst 0, 1) := by decide +kernel
theorem dX0_ruled_2 : decode cX0_ruled 2 = .ok (.iconst 4, 1) := by decide +kernel
theorem dX0_ruled_3 : decode cX0_ruled 3 = .ok (.invokestatic 63, 3) := by decide +kernel
theorem dX0_ruled_6 : decode cX0_ruled 6 = .ok (.ifCond .eq 12, 3) := by decide +kernel
theorem dX0_ruled_9 : decode cX0_ruled 9 = .ok (.aload_n 0, 1) := by decide +kernel
theorem dX0_ruled_10 : decode cX0_ruled 10 = .ok (.getfield 15, 3) := by decide +kernel
theorem dX0_ruled_13 : decode cX0_ruled 13 = .ok (.iload_n 1, 1) := by decide +kernel
theorem dX0_ruled_14 : decode cX0_ruled 14 = .ok (.iaload, 1) := by decide +kernel
theorem dX0_ruled_15 : decode cX0_ruled 15 = .ok (.goto 4, 3) := by decide +kernel
theorem dX0_ruled_18 : decode cX0_ruled 18 = .ok (.iconst (-1), 1) := by decide +kernel
theorem dX0_ruled_19 : decode cX0_ruled 19 = .ok (.ireturn, 1) := by decide +kernel
theorem dX0_putRule_0 : decode cX0_putRule 0 = .ok (.iload_n 1, 1) := by decide +kernel
theorem dX0_putRule_1 : decode cX0_putRule 1 = .ok (.iconst 0, 1) := by decide +kernel
theorem dX0_putRule_2 : decode cX0_putRule 2 = .ok (.iconst 4, 1) := by decide +kernel
theorem dX0_putRule_3 : decode cX0_putRule 3 = .ok (.invokestatic 63, 3) := by decide +kernel
theorem dX0_putRule_6 : decode cX0_putRule 6 = .ok (.ifCond .eq 10, 3) := by decide +kernel
theorem dX0_putRule_9 : decode cX0_putRule 9 = .ok (.aload_n 0, 1) := by decide +kernel
theorem dX0_putRule_10 : decode cX0_putRule 10 = .ok (.getfield 15, 3) := by decide +kernel
theorem dX0_putRule_13 : decode cX0_putRule 13 = .ok (.iload_n 1, 1) := by decide +kernel
theorem dX0_putRule_14 : decode cX0_putRule 14 = .ok (.iload_n 2, 1) := by decide +kernel
theorem dX0_putRule_15 : decode cX0_putRule 15 = .ok (.iastore, 1) := by decide +kernel
theorem dX0_putRule_16 : decode cX0_putRule 16 = .ok (.return_, 1) := by decide +kernel
theorem dX0_batterAt_0 : decode cX0_batterAt 0 = .ok (.iload_n 1, 1) := by decide +kernel
theorem dX0_batterAt_1 : decode cX0_batterAt 1 = .ok (.ifCond .lt 18, 3) := by decide +kernel
theorem dX0_batterAt_4 : decode cX0_batterAt 4 = .ok (.iload_n 1, 1) := by decide +kernel
theorem dX0_batterAt_5 : decode cX0_batterAt 5 = .ok (.bipush 9, 2) := by decide +kernel
theorem dX0_batterAt_7 : decode cX0_batterAt 7 = .ok (.if_icmp .ge 12, 3) := by decide +kernel
theorem dX0_batterAt_10 : decode cX0_batterAt 10 = .ok (.aload_n 0, 1) := by decide +kernel
theorem dX0_batterAt_11 : decode cX0_batterAt 11 = .ok (.getfield 18, 3) := by decide +kernel
theorem dX0_batterAt_14 : decode cX0_batterAt 14 = .ok (.iload_n 1, 1) := by decide +kernel
theorem dX0_batterAt_15 : decode cX0_batterAt 15 = .ok (.iaload, 1) := by decide +kernel
theorem dX0_batterAt_16 : decode cX0_batterAt 16 = .ok (.goto 4, 3) := by decide +kernel
theorem dX0_batterAt_19 : decode cX0_batterAt 19 = .ok (.iconst (-1), 1) := by decide +kernel
theorem dX0_batterAt_20 : decode cX0_batterAt 20 = .ok (.ireturn, 1) := by decide +kernel
theorem dX0_batterRound_0 : decode cX0_batterRound 0 = .ok (.aload_n 0, 1) := by decide +kernel
theorem dX0_batterRound_1 : decode cX0_batterRound 1 = .ok (.getfield 30, 3) := by decide +kernel
theorem dX0_batterRound_4 : decode cX0_batterRound 4 = .ok (.ifCond .le 16, 3) := by decide +kernel
theorem dX0_batterRound_7 : decode cX0_batterRound 7 = .ok (.aload_n 0, 1) := by decide +kernel
theorem dX0_batterRound_8 : decode cX0_batterRound 8 = .ok (.iload_n 1, 1) := by decide +kernel
theorem dX0_batterRound_9 : decode cX0_batterRound 9 = .ok (.aload_n 0, 1) := by decide +kernel
theorem dX0_batterRound_10 : decode cX0_batterRound 10 = .ok (.getfield 30, 3) := by decide +kernel
theorem dX0_batterRound_13 : decode cX0_batterRound 13 = .ok (.irem, 1) := by decide +kernel
theorem dX0_batterRound_14 : decode cX0_batterRound 14 = .ok (.invokevirtual 67, 3) := by decide +kernel
theorem dX0_batterRound_17 : decode cX0_batterRound 17 = .ok (.goto 4, 3) := by decide +kernel
theorem dX0_batterRound_20 : decode cX0_batterRound 20 = .ok (.iconst (-1), 1) := by decide +kernel
theorem dX0_batterRound_21 : decode cX0_batterRound 21 = .ok (.ireturn, 1) := by decide +kernel
theorem dX0_putAt_0 : decode cX0_putAt 0 = .ok (.iload_n 1, 1) := by decide +kernel
theorem dX0_putAt_1 : decode cX0_putAt 1 = .ok (.iconst 0, 1) := by decide +kernel
theorem dX0_putAt_2 : decode cX0_putAt 2 = .ok (.bipush 8, 2) := by decide +kernel
theorem dX0_putAt_4 : decode cX0_putAt 4 = .ok (.invokestatic 63, 3) := by decide +kernel
theorem dX0_putAt_7 : decode cX0_putAt 7 = .ok (.ifCond .eq 10, 3) := by decide +kernel
theorem dX0_putAt_10 : decode cX0_putAt 10 = .ok (.aload_n 0, 1) := by decide +kernel
theorem dX0_putAt_11 : decode cX0_putAt 11 = .ok (.getfield 18, 3) := by decide +kernel
theorem dX0_putAt_14 : decode cX0_putAt 14 = .ok (.iload_n 1, 1) := by decide +kernel
theorem dX0_putAt_15 : decode cX0_putAt 15 = .ok (.iload_n 2, 1) := by decide +kernel
theorem dX0_putAt_16 : decode cX0_putAt 16 = .ok (.iastore, 1) := by decide +kernel
theorem dX0_putAt_17 : decode cX0_putAt 17 = .ok (.return_, 1) := by decide +kernel
theorem dX0_exchange_0 : decode cX0_exchange 0 = .ok (.aload_n 0, 1) := by decide +kernel
theorem dX0_exchange_1 : decode cX0_exchange 1 = .ok (.iload_n 1, 1) := by decide +kernel
theorem dX0_exchange_2 : decode cX0_exchange 2 = .ok (.invokevirtual 67, 3) := by decide +kernel
theorem dX0_exchange_5 : decode cX0_exchange 5 = .ok (.istore_n 3, 1) := by decide +kernel
theorem dX0_exchange_6 : decode cX0_exchange 6 = .ok (.aload_n 0, 1) := by decide +kernel
theorem dX0_exchange_7 : decode cX0_exchange 7 = .ok (.iload_n 1, 1) := by decide +kernel
theorem dX0_exchange_8 : decode cX0_exchange 8 = .ok (.aload_n 0, 1) := by decide +kernel
theorem dX0_exchange_9 : decode cX0_exchange 9 = .ok (.iload_n 2, 1) := by decide +kernel
theorem dX0_exchange_10 : decode cX0_exchange 10 = .ok (.invokevirtual 67, 3) := by decide +kernel
theorem dX0_exchange_13 : decode cX0_exchange 13 = .ok (.invokevirtual 71, 3) := by decide +kernel
theorem dX0_exchange_16 : decode cX0_exchange 16 = .ok (.aload_n 0, 1) := by decide +kernel
theorem dX0_exchange_17 : decode cX0_exchange 17 = .ok (.iload_n 2, 1) := by decide +kernel
theorem dX0_exchange_18 : decode cX0_exchange 18 = .ok (.iload_n 3, 1) := by decide +kernel
theorem dX0_exchange_19 : decode cX0_exchange 19 = .ok (.invokevirtual 71, 3) := by decide +kernel
theorem dX0_exchange_22 : decode cX0_exchange 22 = .ok (.return_, 1) := by decide +kernel
theorem dX0_placeOf_0 : decode cX0_placeOf 0 = .ok (.iconst 0, 1) := by decide +kernel
theorem dX0_placeOf_1 : decode cX0_placeOf 1 = .ok (.istore_n 2, 1) := by decide +kernel
theorem dX0_placeOf_2 : decode cX0_placeOf 2 = .ok (.iload_n 2, 1) := by decide +kernel
theorem dX0_placeOf_3 : decode cX0_placeOf 3 = .ok (.aload_n 0, 1) := by decide +kernel
theorem dX0_placeOf_4 : decode cX0_placeOf 4 = .ok (.getfield 30, 3) := by decide +kernel
theorem dX0_placeOf_7 : decode cX0_placeOf 7 = .ok (.if_icmp .ge 27, 3) := by decide +kernel
theorem dX0_placeOf_10 : decode cX0_placeOf 10 = .ok (.iload_n 2, 1) := by decide +kernel
theorem dX0_placeOf_11 : decode cX0_placeOf 11 = .ok (.bipush 9, 2) := by decide +kernel
theorem dX0_placeOf_13 : decode cX0_placeOf 13 = .ok (.if_icmp .ge 21, 3) := by decide +kernel
theorem dX0_placeOf_16 : decode cX0_placeOf 16 = .ok (.aload_n 0, 1) := by decide +kernel
theorem dX0_placeOf_17 : decode cX0_placeOf 17 = .ok (.getfield 18, 3) := by decide +kernel
theorem dX0_placeOf_20 : decode cX0_placeOf 20 = .ok (.iload_n 2, 1) := by decide +kernel
theorem dX0_placeOf_21 : decode cX0_placeOf 21 = .ok (.iaload, 1) := by decide +kernel
theorem dX0_placeOf_22 : decode cX0_placeOf 22 = .ok (.iload_n 1, 1) := by decide +kernel
theorem dX0_placeOf_23 : decode cX0_placeOf 23 = .ok (.if_icmp .ne 5, 3) := by decide +kernel
theorem dX0_placeOf_26 : decode cX0_placeOf 26 = .ok (.iload_n 2, 1) := by decide +kernel
theorem dX0_placeOf_27 : decode cX0_placeOf 27 = .ok (.ireturn, 1) := by decide +kernel
theorem dX0_placeOf_28 : decode cX0_placeOf 28 = .ok (.iinc 2 1, 3) := by decide +kernel
theorem dX0_placeOf_31 : decode cX0_placeOf 31 = .ok (.goto (-29), 3) := by decide +kernel
theorem dX0_placeOf_34 : decode cX0_placeOf 34 = .ok (.iconst 0, 1) := by decide +kernel
theorem dX0_placeOf_35 : decode cX0_placeOf 35 = .ok (.ireturn, 1) := by decide +kernel
theorem dX0_batterBehind_0 : decode cX0_batterBehind 0 = .ok (.aload_n 0, 1) := by decide +kernel
theorem dX0_batterBehind_1 : decode cX0_batterBehind 1 = .ok (.getfield 30, 3) := by decide +kernel
theorem dX0_batterBehind_4 : decode cX0_batterBehind 4 = .ok (.ifCond .le 25, 3) := by decide +kernel
theorem dX0_batterBehind_7 : decode cX0_batterBehind 7 = .ok (.aload_n 0, 1) := by decide +kernel
theorem dX0_batterBehind_8 : decode cX0_batterBehind 8 = .ok (.aload_n 0, 1) := by decide +kernel
theorem dX0_batterBehind_9 : decode cX0_batterBehind 9 = .ok (.aload_n 0, 1) := by decide +kernel
theorem dX0_batterBehind_10 : decode cX0_batterBehind 10 = .ok (.getfield 51, 3) := by decide +kernel
theorem dX0_batterBehind_13 : decode cX0_batterBehind 13 = .ok (.invokevirtual 75, 3) := by decide +kernel
theorem dX0_batterBehind_16 : decode cX0_batterBehind 16 = .ok (.iload_n 1, 1) := by decide +kernel
theorem dX0_batterBehind_17 : decode cX0_batterBehind 17 = .ok (.aload_n 0, 1) := by decide +kernel
theorem dX0_batterBehind_18 : decode cX0_batterBehind 18 = .ok (.getfield 30, 3) := by decide +kernel
theorem dX0_batterBehind_21 : decode cX0_batterBehind 21 = .ok (.irem, 1) := by decide +kernel
theorem dX0_batterBehind_22 : decode cX0_batterBehind 22 = .ok (.iadd, 1) := by decide +kernel
theorem dX0_batterBehind_23 : decode cX0_batterBehind 23 = .ok (.invokevirtual 78, 3) := by decide +kernel
theorem dX0_batterBehind_26 : decode cX0_batterBehind 26 = .ok (.goto 4, 3) := by decide +kernel
theorem dX0_batterBehind_29 : decode cX0_batterBehind 29 = .ok (.iconst (-1), 1) := by decide +kernel
theorem dX0_batterBehind_30 : decode cX0_batterBehind 30 = .ok (.ireturn, 1) := by decide +kernel
theorem dX0_chanceOf_0 : decode cX0_chanceOf 0 = .ok (.iload_n 1, 1) := by decide +kernel
theorem dX0_chanceOf_1 : decode cX0_chanceOf 1 = .ok (.ifCond .lt 33, 3) := by decide +kernel
theorem dX0_chanceOf_4 : decode cX0_chanceOf 4 = .ok (.iload_n 1, 1) := by decide +kernel
theorem dX0_chanceOf_5 : decode cX0_chanceOf 5 = .ok (.bipush 9, 2) := by decide +kernel
theorem dX0_chanceOf_7 : decode cX0_chanceOf 7 = .ok (.if_icmp .ge 27, 3) := by decide +kernel
theorem dX0_chanceOf_10 : decode cX0_chanceOf 10 = .ok (.iload_n 2, 1) := by decide +kernel
theorem dX0_chanceOf_11 : decode cX0_chanceOf 11 = .ok (.ifCond .lt 23, 3) := by decide +kernel
theorem dX0_chanceOf_14 : decode cX0_chanceOf 14 = .ok (.iload_n 2, 1) := by decide +kernel
theorem dX0_chanceOf_15 : decode cX0_chanceOf 15 = .ok (.bipush 6, 2) := by decide +kernel
theorem dX0_chanceOf_17 : decode cX0_chanceOf 17 = .ok (.if_icmp .ge 17, 3) := by decide +kernel
theorem dX0_chanceOf_20 : decode cX0_chanceOf 20 = .ok (.aload_n 0, 1) := by decide +kernel
theorem dX0_chanceOf_21 : decode cX0_chanceOf 21 = .ok (.getfield 9, 3) := by decide +kernel
theorem dX0_chanceOf_24 : decode cX0_chanceOf 24 = .ok (.iload_n 1, 1) := by decide +kernel
theorem dX0_chanceOf_25 : decode cX0_chanceOf 25 = .ok (.bipush 6, 2) := by decide +kernel
theorem dX0_chanceOf_27 : decode cX0_chanceOf 27 = .ok (.imul, 1) := by decide +kernel
theorem dX0_chanceOf_28 : decode cX0_chanceOf 28 = .ok (.iload_n 2, 1) := by decide +kernel
theorem dX0_chanceOf_29 : decode cX0_chanceOf 29 = .ok (.iadd, 1) := by decide +kernel
theorem dX0_chanceOf_30 : decode cX0_chanceOf 30 = .ok (.iaload, 1) := by decide +kernel
theorem dX0_chanceOf_31 : decode cX0_chanceOf 31 = .ok (.goto 4, 3) := by decide +kernel
theorem dX0_chanceOf_34 : decode cX0_chanceOf 34 = .ok (.iconst 0, 1) := by decide +kernel
theorem dX0_chanceOf_35 : decode cX0_chanceOf 35 = .ok (.ireturn, 1) := by decide +kernel
theorem dX0_putChance_0 : decode cX0_putChance 0 = .ok (.iload_n 1, 1) := by decide +kernel
theorem dX0_putChance_1 : decode cX0_putChance 1 = .ok (.ifCond .lt 31, 3) := by decide +kernel
theorem dX0_putChance_4 : decode cX0_putChance 4 = .ok (.iload_n 1, 1) := by decide +kernel
theorem dX0_putChance_5 : decode cX0_putChance 5 = .ok (.bipush 9, 2) := by decide +kernel
theorem dX0_putChance_7 : decode cX0_putChance 7 = .ok (.if_icmp .ge 25, 3) := by decide +kernel
theorem dX0_putChance_10 : decode cX0_putChance 10 = .ok (.iload_n 2, 1) := by decide +kernel
theorem dX0_putChance_11 : decode cX0_putChance 11 = .ok (.ifCond .lt 21, 3) := by decide +kernel
theorem dX0_putChance_14 : decode cX0_putChance 14 = .ok (.iload_n 2, 1) := by decide +kernel
theorem dX0_putChance_15 : decode cX0_putChance 15 = .ok (.bipush 6, 2) := by decide +kernel
theorem dX0_putChance_17 : decode cX0_putChance 17 = .ok (.if_icmp .ge 15, 3) := by decide +kernel
theorem dX0_putChance_20 : decode cX0_putChance 20 = .ok (.aload_n 0, 1) := by decide +kernel
theorem dX0_putChance_21 : decode cX0_putChance 21 = .ok (.getfield 9, 3) := by decide +kernel
theorem dX0_putChance_24 : decode cX0_putChance 24 = .ok (.iload_n 1, 1) := by decide +kernel
theorem dX0_putChance_25 : decode cX0_putChance 25 = .ok (.bipush 6, 2) := by decide +kernel
theorem dX0_putChance_27 : decode cX0_putChance 27 = .ok (.imul, 1) := by decide +kernel
theorem dX0_putChance_28 : decode cX0_putChance 28 = .ok (.iload_n 2, 1) := by decide +kernel
theorem dX0_putChance_29 : decode cX0_putChance 29 = .ok (.iadd, 1) := by decide +kernel
theorem dX0_putChance_30 : decode cX0_putChance 30 = .ok (.iload_n 3, 1) := by decide +kernel
theorem dX0_putChance_31 : decode cX0_putChance 31 = .ok (.iastore, 1) := by decide +kernel
theorem dX0_putChance_32 : decode cX0_putChance 32 = .ok (.return_, 1) := by decide +kernel
theorem dX0_tiredChance_0 : decode cX0_tiredChance 0 = .ok (.aload_n 0, 1) := by decide +kernel
theorem dX0_tiredChance_1 : decode cX0_tiredChance 1 = .ok (.iload_n 1, 1) := by decide +kernel
theorem dX0_tiredChance_2 : decode cX0_tiredChance 2 = .ok (.iload_n 2, 1) := by decide +kernel
theorem dX0_tiredChance_3 : decode cX0_tiredChance 3 = .ok (.invokevirtual 81, 3) := by decide +kernel
theorem dX0_tiredChance_6 : decode cX0_tiredChance 6 = .ok (.istore 4, 2) := by decide +kernel
theorem dX0_tiredChance_8 : decode cX0_tiredChance 8 = .ok (.iload_n 2, 1) := by decide +kernel
theorem dX0_tiredChance_9 : decode cX0_tiredChance 9 = .ok (.ifCond .ne 15, 3) := by decide +kernel
theorem dX0_tiredChance_12 : decode cX0_tiredChance 12 = .ok (.iload 4, 2) := by decide +kernel
theorem dX0_tiredChance_14 : decode cX0_tiredChance 14 = .ok (.aload_n 0, 1) := by decide +kernel
theorem dX0_tiredChance_15 : decode cX0_tiredChance 15 = .ok (.iload_n 1, 1) := by decide +kernel
theorem dX0_tiredChance_16 : decode cX0_tiredChance 16 = .ok (.iload_n 3, 1) := by decide +kernel
theorem dX0_tiredChance_17 : decode cX0_tiredChance 17 = .ok (.invokevirtual 85, 3) := by decide +kernel
theorem dX0_tiredChance_20 : decode cX0_tiredChance 20 = .ok (.isub, 1) := by decide +kernel
theorem dX0_tiredChance_21 : decode cX0_tiredChance 21 = .ok (.goto 22, 3) := by decide +kernel
theorem dX0_tiredChance_24 : decode cX0_tiredChance 24 = .ok (.iload_n 2, 1) := by decide +kernel
theorem dX0_tiredChance_25 : decode cX0_tiredChance 25 = .ok (.iconst 2, 1) := by decide +kernel
theorem dX0_tiredChance_26 : decode cX0_tiredChance 26 = .ok (.if_icmp .ne 15, 3) := by decide +kernel
theorem dX0_tiredChance_29 : decode cX0_tiredChance 29 = .ok (.iload 4, 2) := by decide +kernel
theorem dX0_tiredChance_31 : decode cX0_tiredChance 31 = .ok (.aload_n 0, 1) := by decide +kernel
theorem dX0_tiredChance_32 : decode cX0_tiredChance 32 = .ok (.iload_n 1, 1) := by decide +kernel
theorem dX0_tiredChance_33 : decode cX0_tiredChance 33 = .ok (.iload_n 3, 1) := by decide +kernel
theorem dX0_tiredChance_34 : decode cX0_tiredChance 34 = .ok (.invokevirtual 85, 3) := by decide +kernel
theorem dX0_tiredChance_37 : decode cX0_tiredChance 37 = .ok (.iadd, 1) := by decide +kernel
theorem dX0_tiredChance_38 : decode cX0_tiredChance 38 = .ok (.goto 5, 3) := by decide +kernel
theorem dX0_tiredChance_41 : decode cX0_tiredChance 41 = .ok (.iload 4, 2) := by decide +kernel
theorem dX0_tiredChance_43 : decode cX0_tiredChance 43 = .ok (.ireturn, 1) := by decide +kernel
theorem dX0_tiredBy_0 : decode cX0_tiredBy 0 = .ok (.aload_n 0, 1) := by decide +kernel
theorem dX0_tiredBy_1 : decode cX0_tiredBy 1 = .ok (.getfield 15, 3) := by decide +kernel
theorem dX0_tiredBy_4 : decode cX0_tiredBy 4 = .ok (.iconst 4, 1) := by decide +kernel
theorem dX0_tiredBy_5 : decode cX0_tiredBy 5 = .ok (.iaload, 1) := by decide +kernel
theorem dX0_tiredBy_6 : decode cX0_tiredBy 6 = .ok (.istore_n 3, 1) := by decide +kernel
theorem dX0_tiredBy_7 : decode cX0_tiredBy 7 = .ok (.iload_n 3, 1) := by decide +kernel
theorem dX0_tiredBy_8 : decode cX0_tiredBy 8 = .ok (.ifCond .le 18, 3) := by decide +kernel
theorem dX0_tiredBy_11 : decode cX0_tiredBy 11 = .ok (.aload_n 0, 1) := by decide +kernel
theorem dX0_tiredBy_12 : decode cX0_tiredBy 12 = .ok (.iload_n 1, 1) := by decide +kernel
theorem dX0_tiredBy_13 : decode cX0_tiredBy 13 = .ok (.iconst 0, 1) := by decide +kernel
theorem dX0_tiredBy_14 : decode cX0_tiredBy 14 = .ok (.invokevirtual 81, 3) := by decide +kernel
theorem dX0_tiredBy_17 : decode cX0_tiredBy 17 = .ok (.iload_n 2, 1) := by decide +kernel
theorem dX0_tiredBy_18 : decode cX0_tiredBy 18 = .ok (.iload_n 3, 1) := by decide +kernel
theorem dX0_tiredBy_19 : decode cX0_tiredBy 19 = .ok (.idiv, 1) := by decide +kernel
theorem dX0_tiredBy_20 : decode cX0_tiredBy 20 = .ok (.invokestatic 88, 3) := by decide +kernel
theorem dX0_tiredBy_23 : decode cX0_tiredBy 23 = .ok (.goto 4, 3) := by decide +kernel
theorem dX0_tiredBy_26 : decode cX0_tiredBy 26 = .ok (.iconst 0, 1) := by decide +kernel
theorem dX0_tiredBy_27 : decode cX0_tiredBy 27 = .ok (.ireturn, 1) := by decide +kernel
theorem dX0_happen_0 : decode cX0_happen 0 = .ok (.aload_n 1, 1) := by decide +kernel
theorem dX0_happen_1 : decode cX0_happen 1 = .ok (.iload_n 2, 1) := by decide +kernel
theorem dX0_happen_2 : decode cX0_happen 2 = .ok (.aload_n 0, 1) := by decide +kernel
theorem dX0_happen_3 : decode cX0_happen 3 = .ok (.getfield 45, 3) := by decide +kernel
theorem dX0_happen_6 : decode cX0_happen 6 = .ok (.invokevirtual 93, 3) := by decide +kernel
theorem dX0_happen_9 : decode cX0_happen 9 = .ok (.istore_n 3, 1) := by decide +kernel
theorem dX0_happen_10 : decode cX0_happen 10 = .ok (.aload_n 1, 1) := by decide +kernel
theorem dX0_happen_11 : decode cX0_happen 11 = .ok (.iload_n 2, 1) := by decide +kernel
theorem dX0_happen_12 : decode cX0_happen 12 = .ok (.aload_n 0, 1) := by decide +kernel
theorem dX0_happen_13 : decode cX0_happen 13 = .ok (.getfield 45, 3) := by decide +kernel
theorem dX0_happen_16 : decode cX0_happen 16 = .ok (.invokevirtual 98, 3) := by decide +kernel
theorem dX0_happen_19 : decode cX0_happen 19 = .ok (.istore 4, 2) := by decide +kernel
theorem dX0_happen_21 : decode cX0_happen 21 = .ok (.aload_n 0, 1) := by decide +kernel
theorem dX0_happen_22 : decode cX0_happen 22 = .ok (.iload_n 2, 1) := by decide +kernel
theorem dX0_happen_23 : decode cX0_happen 23 = .ok (.iload_n 3, 1) := by decide +kernel
theorem dX0_happen_24 : decode cX0_happen 24 = .ok (.iload 4, 2) := by decide +kernel
theorem dX0_happen_26 : decode cX0_happen 26 = .ok (.invokevirtual 101, 3) := by decide +kernel
theorem dX0_happen_29 : decode cX0_happen 29 = .ok (.aload_n 0, 1) := by decide +kernel
theorem dX0_happen_30 : decode cX0_happen 30 = .ok (.dup, 1) := by decide +kernel
theorem dX0_happen_31 : decode cX0_happen 31 = .ok (.getfield 48, 3) := by decide +kernel
theorem dX0_happen_34 : decode cX0_happen 34 = .ok (.iload_n 3, 1) := by decide +kernel
theorem dX0_happen_35 : decode cX0_happen 35 = .ok (.iadd, 1) := by decide +kernel
theorem dX0_happen_36 : decode cX0_happen 36 = .ok (.putfield 48, 3) := by decide +kernel
theorem dX0_happen_39 : decode cX0_happen 39 = .ok (.iload_n 2, 1) := by decide +kernel
theorem dX0_happen_40 : decode cX0_happen 40 = .ok (.bipush 6, 2) := by decide +kernel
theorem dX0_happen_42 : decode cX0_happen 42 = .ok (.if_icmp .gt 22, 3) := by decide +kernel
theorem dX0_happen_45 : decode cX0_happen 45 = .ok (.aload_n 0, 1) := by decide +kernel
theorem dX0_happen_46 : decode cX0_happen 46 = .ok (.aload_n 0, 1) := by decide +kernel
theorem dX0_happen_47 : decode cX0_happen 47 = .ok (.iconst 1, 1) := by decide +kernel
theorem dX0_happen_48 : decode cX0_happen 48 = .ok (.invokevirtual 105, 3) := by decide +kernel
theorem dX0_happen_51 : decode cX0_happen 51 = .ok (.putfield 51, 3) := by decide +kernel
theorem dX0_happen_54 : decode cX0_happen 54 = .ok (.aload_n 0, 1) := by decide +kernel
theorem dX0_happen_55 : decode cX0_happen 55 = .ok (.dup, 1) := by decide +kernel
theorem dX0_happen_56 : decode cX0_happen 56 = .ok (.getfield 54, 3) := by decide +kernel
theorem dX0_happen_59 : decode cX0_happen 59 = .ok (.iconst 1, 1) := by decide +kernel
theorem dX0_happen_60 : decode cX0_happen 60 = .ok (.iadd, 1) := by decide +kernel
theorem dX0_happen_61 : decode cX0_happen 61 = .ok (.putfield 54, 3) := by decide +kernel
theorem dX0_happen_64 : decode cX0_happen 64 = .ok (.iload 4, 2) := by decide +kernel
theorem dX0_happen_66 : decode cX0_happen 66 = .ok (.bipush 24, 2) := by decide +kernel
theorem dX0_happen_68 : decode cX0_happen 68 = .ok (.if_icmp .ne 13, 3) := by decide +kernel
theorem dX0_happen_71 : decode cX0_happen 71 = .ok (.aload_n 0, 1) := by decide +kernel
theorem dX0_happen_72 : decode cX0_happen 72 = .ok (.dup, 1) := by decide +kernel
theorem dX0_happen_73 : decode cX0_happen 73 = .ok (.getfield 42, 3) := by decide +kernel
theorem dX0_happen_76 : decode cX0_happen 76 = .ok (.iconst 1, 1) := by decide +kernel
theorem dX0_happen_77 : decode cX0_happen 77 = .ok (.iadd, 1) := by decide +kernel
theorem dX0_happen_78 : decode cX0_happen 78 = .ok (.putfield 42, 3) := by decide +kernel
theorem dX0_happen_81 : decode cX0_happen 81 = .ok (.aload_n 0, 1) := by decide +kernel
theorem dX0_happen_82 : decode cX0_happen 82 = .ok (.iload 4, 2) := by decide +kernel
theorem dX0_happen_84 : decode cX0_happen 84 = .ok (.bipush 24, 2) := by decide +kernel
theorem dX0_happen_86 : decode cX0_happen 86 = .ok (.if_icmp .ne 7, 3) := by decide +kernel
theorem dX0_happen_89 : decode cX0_happen 89 = .ok (.iconst 0, 1) := by decide +kernel
theorem dX0_happen_90 : decode cX0_happen 90 = .ok (.goto 5, 3) := by decide +kernel
theorem dX0_happen_93 : decode cX0_happen 93 = .ok (.iload 4, 2) := by decide +kernel
theorem dX0_happen_95 : decode cX0_happen 95 = .ok (.putfield 45, 3) := by decide +kernel
theorem dX0_happen_98 : decode cX0_happen 98 = .ok (.iload_n 3, 1) := by decide +kernel
theorem dX0_happen_99 : decode cX0_happen 99 = .ok (.ireturn, 1) := by decide +kernel
theorem dX0_note_0 : decode cX0_note 0 = .ok (.aload_n 0, 1) := by decide +kernel
theorem dX0_note_1 : decode cX0_note 1 = .ok (.aload_n 0, 1) := by decide +kernel
theorem dX0_note_2 : decode cX0_note 2 = .ok (.getfield 60, 3) := by decide +kernel
theorem dX0_note_5 : decode cX0_note 5 = .ok (.iconst 1, 1) := by decide +kernel
theorem dX0_note_6 : decode cX0_note 6 = .ok (.iadd, 1) := by decide +kernel
theorem dX0_note_7 : decode cX0_note 7 = .ok (.bipush 40, 2) := by decide +kernel
theorem dX0_note_9 : decode cX0_note 9 = .ok (.if_icmp .ge 12, 3) := by decide +kernel
theorem dX0_note_12 : decode cX0_note 12 = .ok (.aload_n 0, 1) := by decide +kernel
theorem dX0_note_13 : decode cX0_note 13 = .ok (.getfield 60, 3) := by decide +kernel
theorem dX0_note_16 : decode cX0_note 16 = .ok (.iconst 1, 1) := by decide +kernel
theorem dX0_note_17 : decode cX0_note 17 = .ok (.iadd, 1) := by decide +kernel
theorem dX0_note_18 : decode cX0_note 18 = .ok (.goto 4, 3) := by decide +kernel
theorem dX0_note_21 : decode cX0_note 21 = .ok (.iconst 0, 1) := by decide +kernel
theorem dX0_note_22 : decode cX0_note 22 = .ok (.putfield 60, 3) := by decide +kernel
theorem dX0_note_25 : decode cX0_note 25 = .ok (.aload_n 0, 1) := by decide +kernel
theorem dX0_note_26 : decode cX0_note 26 = .ok (.aload_n 0, 1) := by decide +kernel
theorem dX0_note_27 : decode cX0_note 27 = .ok (.getfield 57, 3) := by decide +kernel
theorem dX0_note_30 : decode cX0_note 30 = .ok (.iconst 1, 1) := by decide +kernel
theorem dX0_note_31 : decode cX0_note 31 = .ok (.iadd, 1) := by decide +kernel
theorem dX0_note_32 : decode cX0_note 32 = .ok (.bipush 40, 2) := by decide +kernel
theorem dX0_note_34 : decode cX0_note 34 = .ok (.invokestatic 88, 3) := by decide +kernel
theorem dX0_note_37 : decode cX0_note 37 = .ok (.putfield 57, 3) := by decide +kernel
theorem dX0_note_40 : decode cX0_note 40 = .ok (.aload_n 0, 1) := by decide +kernel
theorem dX0_note_41 : decode cX0_note 41 = .ok (.getfield 60, 3) := by decide +kernel
theorem dX0_note_44 : decode cX0_note 44 = .ok (.bipush 6, 2) := by decide +kernel
theorem dX0_note_46 : decode cX0_note 46 = .ok (.imul, 1) := by decide +kernel
theorem dX0_note_47 : decode cX0_note 47 = .ok (.istore 4, 2) := by decide +kernel
theorem dX0_note_49 : decode cX0_note 49 = .ok (.aload_n 0, 1) := by decide +kernel
theorem dX0_note_50 : decode cX0_note 50 = .ok (.getfield 21, 3) := by decide +kernel
theorem dX0_note_53 : decode cX0_note 53 = .ok (.iload 4, 2) := by decide +kernel
theorem dX0_note_55 : decode cX0_note 55 = .ok (.iconst 0, 1) := by decide +kernel
theorem dX0_note_56 : decode cX0_note 56 = .ok (.iadd, 1) := by decide +kernel
theorem dX0_note_57 : decode cX0_note 57 = .ok (.aload_n 0, 1) := by decide +kernel
theorem dX0_note_58 : decode cX0_note 58 = .ok (.getfield 51, 3) := by decide +kernel
theorem dX0_note_61 : decode cX0_note 61 = .ok (.iastore, 1) := by decide +kernel
theorem dX0_note_62 : decode cX0_note 62 = .ok (.aload_n 0, 1) := by decide +kernel
theorem dX0_note_63 : decode cX0_note 63 = .ok (.getfield 21, 3) := by decide +kernel
theorem dX0_note_66 : decode cX0_note 66 = .ok (.iload 4, 2) := by decide +kernel
theorem dX0_note_68 : decode cX0_note 68 = .ok (.iconst 1, 1) := by decide +kernel
theorem dX0_note_69 : decode cX0_note 69 = .ok (.iadd, 1) := by decide +kernel
theorem dX0_note_70 : decode cX0_note 70 = .ok (.iload_n 1, 1) := by decide +kernel
theorem dX0_note_71 : decode cX0_note 71 = .ok (.iastore, 1) := by decide +kernel
theorem dX0_note_72 : decode cX0_note 72 = .ok (.aload_n 0, 1) := by decide +kernel
theorem dX0_note_73 : decode cX0_note 73 = .ok (.getfield 21, 3) := by decide +kernel
theorem dX0_note_76 : decode cX0_note 76 = .ok (.iload 4, 2) := by decide +kernel
theorem dX0_note_78 : decode cX0_note 78 = .ok (.iconst 2, 1) := by decide +kernel
theorem dX0_note_79 : decode cX0_note 79 = .ok (.iadd, 1) := by decide +kernel
theorem dX0_note_80 : decode cX0_note 80 = .ok (.iload_n 2, 1) := by decide +kernel
theorem dX0_note_81 : decode cX0_note 81 = .ok (.iastore, 1) := by decide +kernel
theorem dX0_note_82 : decode cX0_note 82 = .ok (.aload_n 0, 1) := by decide +kernel
theorem dX0_note_83 : decode cX0_note 83 = .ok (.getfield 21, 3) := by decide +kernel
theorem dX0_note_86 : decode cX0_note 86 = .ok (.iload 4, 2) := by decide +kernel
theorem dX0_note_88 : decode cX0_note 88 = .ok (.iconst 3, 1) := by decide +kernel
theorem dX0_note_89 : decode cX0_note 89 = .ok (.iadd, 1) := by decide +kernel
theorem dX0_note_90 : decode cX0_note 90 = .ok (.aload_n 0, 1) := by decide +kernel
theorem dX0_note_91 : decode cX0_note 91 = .ok (.getfield 42, 3) := by decide +kernel
theorem dX0_note_94 : decode cX0_note 94 = .ok (.iastore, 1) := by decide +kernel
theorem dX0_note_95 : decode cX0_note 95 = .ok (.aload_n 0, 1) := by decide +kernel
theorem dX0_note_96 : decode cX0_note 96 = .ok (.getfield 21, 3) := by decide +kernel
theorem dX0_note_99 : decode cX0_note 99 = .ok (.iload 4, 2) := by decide +kernel
theorem dX0_note_101 : decode cX0_note 101 = .ok (.iconst 4, 1) := by decide +kernel
theorem dX0_note_102 : decode cX0_note 102 = .ok (.iadd, 1) := by decide +kernel
theorem dX0_note_103 : decode cX0_note 103 = .ok (.aload_n 0, 1) := by decide +kernel
theorem dX0_note_104 : decode cX0_note 104 = .ok (.getfield 45, 3) := by decide +kernel
theorem dX0_note_107 : decode cX0_note 107 = .ok (.iastore, 1) := by decide +kernel
theorem dX0_note_108 : decode cX0_note 108 = .ok (.aload_n 0, 1) := by decide +kernel
theorem dX0_note_109 : decode cX0_note 109 = .ok (.getfield 21, 3) := by decide +kernel
theorem dX0_note_112 : decode cX0_note 112 = .ok (.iload 4, 2) := by decide +kernel
theorem dX0_note_114 : decode cX0_note 114 = .ok (.iconst 5, 1) := by decide +kernel
theorem dX0_note_115 : decode cX0_note 115 = .ok (.iadd, 1) := by decide +kernel
theorem dX0_note_116 : decode cX0_note 116 = .ok (.iload_n 3, 1) := by decide +kernel
theorem dX0_note_117 : decode cX0_note 117 = .ok (.iastore, 1) := by decide +kernel
theorem dX0_note_118 : decode cX0_note 118 = .ok (.return_, 1) := by decide +kernel
theorem dX0_noted_0 : decode cX0_noted 0 = .ok (.aload_n 0, 1) := by decide +kernel
theorem dX0_noted_1 : decode cX0_noted 1 = .ok (.iload_n 1, 1) := by decide +kernel
theorem dX0_noted_2 : decode cX0_noted 2 = .ok (.invokevirtual 108, 3) := by decide +kernel
theorem dX0_noted_5 : decode cX0_noted 5 = .ok (.ifCond .eq 12, 3) := by decide +kernel
theorem dX0_noted_8 : decode cX0_noted 8 = .ok (.iload_n 2, 1) := by decide +kernel
theorem dX0_noted_9 : decode cX0_noted 9 = .ok (.iconst 0, 1) := by decide +kernel
theorem dX0_noted_10 : decode cX0_noted 10 = .ok (.iconst 5, 1) := by decide +kernel
theorem dX0_noted_11 : decode cX0_noted 11 = .ok (.invokestatic 63, 3) := by decide +kernel
theorem dX0_noted_14 : decode cX0_noted 14 = .ok (.ifCond .ne 5, 3) := by decide +kernel
theorem dX0_noted_17 : decode cX0_noted 17 = .ok (.iconst (-1), 1) := by decide +kernel
theorem dX0_noted_18 : decode cX0_noted 18 = .ok (.ireturn, 1) := by decide +kernel
theorem dX0_noted_19 : decode cX0_noted 19 = .ok (.aload_n 0, 1) := by decide +kernel
theorem dX0_noted_20 : decode cX0_noted 20 = .ok (.getfield 60, 3) := by decide +kernel
theorem dX0_noted_23 : decode cX0_noted 23 = .ok (.iload_n 1, 1) := by decide +kernel
theorem dX0_noted_24 : decode cX0_noted 24 = .ok (.if_icmp .lt 12, 3) := by decide +kernel
theorem dX0_noted_27 : decode cX0_noted 27 = .ok (.aload_n 0, 1) := by decide +kernel
theorem dX0_noted_28 : decode cX0_noted 28 = .ok (.getfield 60, 3) := by decide +kernel
theorem dX0_noted_31 : decode cX0_noted 31 = .ok (.iload_n 1, 1) := by decide +kernel
theorem dX0_noted_32 : decode cX0_noted 32 = .ok (.isub, 1) := by decide +kernel
theorem dX0_noted_33 : decode cX0_noted 33 = .ok (.goto 12, 3) := by decide +kernel
theorem dX0_noted_36 : decode cX0_noted 36 = .ok (.aload_n 0, 1) := by decide +kernel
theorem dX0_noted_37 : decode cX0_noted 37 = .ok (.getfield 60, 3) := by decide +kernel
theorem dX0_noted_40 : decode cX0_noted 40 = .ok (.iload_n 1, 1) := by decide +kernel
theorem dX0_noted_41 : decode cX0_noted 41 = .ok (.isub, 1) := by decide +kernel
theorem dX0_noted_42 : decode cX0_noted 42 = .ok (.bipush 40, 2) := by decide +kernel
theorem dX0_noted_44 : decode cX0_noted 44 = .ok (.iadd, 1) := by decide +kernel
theorem dX0_noted_45 : decode cX0_noted 45 = .ok (.istore_n 3, 1) := by decide +kernel
theorem dX0_noted_46 : decode cX0_noted 46 = .ok (.aload_n 0, 1) := by decide +kernel
theorem dX0_noted_47 : decode cX0_noted 47 = .ok (.getfield 21, 3) := by decide +kernel
theorem dX0_noted_50 : decode cX0_noted 50 = .ok (.iload_n 3, 1) := by decide +kernel
theorem dX0_noted_51 : decode cX0_noted 51 = .ok (.bipush 6, 2) := by decide +kernel
theorem dX0_noted_53 : decode cX0_noted 53 = .ok (.imul, 1) := by decide +kernel
theorem dX0_noted_54 : decode cX0_noted 54 = .ok (.iload_n 2, 1) := by decide +kernel
theorem dX0_noted_55 : decode cX0_noted 55 = .ok (.iadd, 1) := by decide +kernel
theorem dX0_noted_56 : decode cX0_noted 56 = .ok (.iaload, 1) := by decide +kernel
theorem dX0_noted_57 : decode cX0_noted 57 = .ok (.ireturn, 1) := by decide +kernel
theorem dX0_rowsOf_0 : decode cX0_rowsOf 0 = .ok (.iconst 0, 1) := by decide +kernel
theorem dX0_rowsOf_1 : decode cX0_rowsOf 1 = .ok (.istore_n 2, 1) := by decide +kernel
theorem dX0_rowsOf_2 : decode cX0_rowsOf 2 = .ok (.iconst 0, 1) := by decide +kernel
theorem dX0_rowsOf_3 : decode cX0_rowsOf 3 = .ok (.istore_n 3, 1) := by decide +kernel
theorem dX0_rowsOf_4 : decode cX0_rowsOf 4 = .ok (.iload_n 3, 1) := by decide +kernel
theorem dX0_rowsOf_5 : decode cX0_rowsOf 5 = .ok (.aload_n 0, 1) := by decide +kernel
theorem dX0_rowsOf_6 : decode cX0_rowsOf 6 = .ok (.getfield 57, 3) := by decide +kernel
theorem dX0_rowsOf_9 : decode cX0_rowsOf 9 = .ok (.if_icmp .ge 27, 3) := by decide +kernel
theorem dX0_rowsOf_12 : decode cX0_rowsOf 12 = .ok (.iload_n 2, 1) := by decide +kernel
theorem dX0_rowsOf_13 : decode cX0_rowsOf 13 = .ok (.aload_n 0, 1) := by decide +kernel
theorem dX0_rowsOf_14 : decode cX0_rowsOf 14 = .ok (.iload_n 3, 1) := by decide +kernel
theorem dX0_rowsOf_15 : decode cX0_rowsOf 15 = .ok (.iconst 0, 1) := by decide +kernel
theorem dX0_rowsOf_16 : decode cX0_rowsOf 16 = .ok (.invokevirtual 112, 3) := by decide +kernel
theorem dX0_rowsOf_19 : decode cX0_rowsOf 19 = .ok (.iload_n 1, 1) := by decide +kernel
theorem dX0_rowsOf_20 : decode cX0_rowsOf 20 = .ok (.if_icmp .ne 7, 3) := by decide +kernel
theorem dX0_rowsOf_23 : decode cX0_rowsOf 23 = .ok (.iconst 1, 1) := by decide +kernel
theorem dX0_rowsOf_24 : decode cX0_rowsOf 24 = .ok (.goto 4, 3) := by decide +kernel
theorem dX0_rowsOf_27 : decode cX0_rowsOf 27 = .ok (.iconst 0, 1) := by decide +kernel
theorem dX0_rowsOf_28 : decode cX0_rowsOf 28 = .ok (.iadd, 1) := by decide +kernel
theorem dX0_rowsOf_29 : decode cX0_rowsOf 29 = .ok (.istore_n 2, 1) := by decide +kernel
theorem dX0_rowsOf_30 : decode cX0_rowsOf 30 = .ok (.iinc 3 1, 3) := by decide +kernel
theorem dX0_rowsOf_33 : decode cX0_rowsOf 33 = .ok (.goto (-29), 3) := by decide +kernel
theorem dX0_rowsOf_36 : decode cX0_rowsOf 36 = .ok (.iload_n 2, 1) := by decide +kernel
theorem dX0_rowsOf_37 : decode cX0_rowsOf 37 = .ok (.ireturn, 1) := by decide +kernel
theorem dX0_runsOf_0 : decode cX0_runsOf 0 = .ok (.iconst 0, 1) := by decide +kernel
theorem dX0_runsOf_1 : decode cX0_runsOf 1 = .ok (.istore_n 2, 1) := by decide +kernel
theorem dX0_runsOf_2 : decode cX0_runsOf 2 = .ok (.iconst 0, 1) := by decide +kernel
theorem dX0_runsOf_3 : decode cX0_runsOf 3 = .ok (.istore_n 3, 1) := by decide +kernel
theorem dX0_runsOf_4 : decode cX0_runsOf 4 = .ok (.iload_n 3, 1) := by decide +kernel
theorem dX0_runsOf_5 : decode cX0_runsOf 5 = .ok (.aload_n 0, 1) := by decide +kernel
theorem dX0_runsOf_6 : decode cX0_runsOf 6 = .ok (.getfield 57, 3) := by decide +kernel
theorem dX0_runsOf_9 : decode cX0_runsOf 9 = .ok (.if_icmp .ge 32, 3) := by decide +kernel
theorem dX0_runsOf_12 : decode cX0_runsOf 12 = .ok (.iload_n 2, 1) := by decide +kernel
theorem dX0_runsOf_13 : decode cX0_runsOf 13 = .ok (.aload_n 0, 1) := by decide +kernel
theorem dX0_runsOf_14 : decode cX0_runsOf 14 = .ok (.iload_n 3, 1) := by decide +kernel
theorem dX0_runsOf_15 : decode cX0_runsOf 15 = .ok (.iconst 0, 1) := by decide +kernel
theorem dX0_runsOf_16 : decode cX0_runsOf 16 = .ok (.invokevirtual 112, 3) := by decide +kernel
theorem dX0_runsOf_19 : decode cX0_runsOf 19 = .ok (.iload_n 1, 1) := by decide +kernel
theorem dX0_runsOf_20 : decode cX0_runsOf 20 = .ok (.if_icmp .ne 12, 3) := by decide +kernel
theorem dX0_runsOf_23 : decode cX0_runsOf 23 = .ok (.aload_n 0, 1) := by decide +kernel
theorem dX0_runsOf_24 : decode cX0_runsOf 24 = .ok (.iload_n 3, 1) := by decide +kernel
theorem dX0_runsOf_25 : decode cX0_runsOf 25 = .ok (.iconst 2, 1) := by decide +kernel
theorem dX0_runsOf_26 : decode cX0_runsOf 26 = .ok (.invokevirtual 112, 3) := by decide +kernel
theorem dX0_runsOf_29 : decode cX0_runsOf 29 = .ok (.goto 4, 3) := by decide +kernel
theorem dX0_runsOf_32 : decode cX0_runsOf 32 = .ok (.iconst 0, 1) := by decide +kernel
theorem dX0_runsOf_33 : decode cX0_runsOf 33 = .ok (.iadd, 1) := by decide +kernel
theorem dX0_runsOf_34 : decode cX0_runsOf 34 = .ok (.istore_n 2, 1) := by decide +kernel
theorem dX0_runsOf_35 : decode cX0_runsOf 35 = .ok (.iinc 3 1, 3) := by decide +kernel
theorem dX0_runsOf_38 : decode cX0_runsOf 38 = .ok (.goto (-34), 3) := by decide +kernel
theorem dX0_runsOf_41 : decode cX0_runsOf 41 = .ok (.iload_n 2, 1) := by decide +kernel
theorem dX0_runsOf_42 : decode cX0_runsOf 42 = .ok (.ireturn, 1) := by decide +kernel
theorem dX1_init_0 : decode cX1_init 0 = .ok (.aload_n 0, 1) := by decide +kernel
theorem dX1_init_1 : decode cX1_init 1 = .ok (.invokespecial 3, 3) := by decide +kernel
theorem dX1_init_4 : decode cX1_init 4 = .ok (.aload_n 0, 1) := by decide +kernel
theorem dX1_init_5 : decode cX1_init 5 = .ok (.new 9, 3) := by decide +kernel
theorem dX1_init_8 : decode cX1_init 8 = .ok (.dup, 1) := by decide +kernel
theorem dX1_init_9 : decode cX1_init 9 = .ok (.invokespecial 11, 3) := by decide +kernel
theorem dX1_init_12 : decode cX1_init 12 = .ok (.putfield 12, 3) := by decide +kernel
theorem dX1_init_15 : decode cX1_init 15 = .ok (.aload_n 0, 1) := by decide +kernel
theorem dX1_init_16 : decode cX1_init 16 = .ok (.sipush 150, 3) := by decide +kernel
theorem dX1_init_19 : decode cX1_init 19 = .ok (.newarray .long, 2) := by decide +kernel
theorem dX1_init_21 : decode cX1_init 21 = .ok (.putfield 18, 3) := by decide +kernel
theorem dX1_init_24 : decode cX1_init 24 = .ok (.aload_n 0, 1) := by decide +kernel
theorem dX1_init_25 : decode cX1_init 25 = .ok (.bipush 6, 2) := by decide +kernel
theorem dX1_init_27 : decode cX1_init 27 = .ok (.newarray .long, 2) := by decide +kernel
theorem dX1_init_29 : decode cX1_init 29 = .ok (.putfield 22, 3) := by decide +kernel
theorem dX1_init_32 : decode cX1_init 32 = .ok (.aload_n 0, 1) := by decide +kernel
theorem dX1_init_33 : decode cX1_init 33 = .ok (.bipush 6, 2) := by decide +kernel
theorem dX1_init_35 : decode cX1_init 35 = .ok (.newarray .int, 2) := by decide +kernel
theorem dX1_init_37 : decode cX1_init 37 = .ok (.putfield 25, 3) := by decide +kernel
theorem dX1_init_40 : decode cX1_init 40 = .ok (.aload_n 0, 1) := by decide +kernel
theorem dX1_init_41 : decode cX1_init 41 = .ok (.bipush 25, 2) := by decide +kernel
theorem dX1_init_43 : decode cX1_init 43 = .ok (.newarray .long, 2) := by decide +kernel
theorem dX1_init_45 : decode cX1_init 45 = .ok (.putfield 29, 3) := by decide +kernel
theorem dX1_init_48 : decode cX1_init 48 = .ok (.return_, 1) := by decide +kernel
theorem dX1_scaleBy_0 : decode cX1_scaleBy 0 = .ok (.aload_n 0, 1) := by decide +kernel
theorem dX1_scaleBy_1 : decode cX1_scaleBy 1 = .ok (.getfield 22, 3) := by decide +kernel
theorem dX1_scaleBy_4 : decode cX1_scaleBy 4 = .ok (.iconst 0, 1) := by decide +kernel
theorem dX1_scaleBy_5 : decode cX1_scaleBy 5 = .ok (.lconst 1, 1) := by decide +kernel
theorem dX1_scaleBy_6 : decode cX1_scaleBy 6 = .ok (.lastore, 1) := by decide +kernel
theorem dX1_scaleBy_7 : decode cX1_scaleBy 7 = .ok (.iconst 1, 1) := by decide +kernel
theorem dX1_scaleBy_8 : decode cX1_scaleBy 8 = .ok (.istore_n 3, 1) := by decide +kernel
theorem dX1_scaleBy_9 : decode cX1_scaleBy 9 = .ok (.iload_n 3, 1) := by decide +kernel
theorem dX1_scaleBy_10 : decode cX1_scaleBy 10 = .ok (.bipush 6, 2) := by decide +kernel
theorem dX1_scaleBy_12 : decode cX1_scaleBy 12 = .ok (.if_icmp .ge 25, 3) := by decide +kernel
theorem dX1_scaleBy_15 : decode cX1_scaleBy 15 = .ok (.aload_n 0, 1) := by decide +kernel
theorem dX1_scaleBy_16 : decode cX1_scaleBy 16 = .ok (.getfield 22, 3) := by decide +kernel
theorem dX1_scaleBy_19 : decode cX1_scaleBy 19 = .ok (.iload_n 3, 1) := by decide +kernel
theorem dX1_scaleBy_20 : decode cX1_scaleBy 20 = .ok (.aload_n 0, 1) := by decide +kernel
theorem dX1_scaleBy_21 : decode cX1_scaleBy 21 = .ok (.getfield 22, 3) := by decide +kernel
theorem dX1_scaleBy_24 : decode cX1_scaleBy 24 = .ok (.iload_n 3, 1) := by decide +kernel
theorem dX1_scaleBy_25 : decode cX1_scaleBy 25 = .ok (.iconst 1, 1) := by decide +kernel
theorem dX1_scaleBy_26 : decode cX1_scaleBy 26 = .ok (.isub, 1) := by decide +kernel
theorem dX1_scaleBy_27 : decode cX1_scaleBy 27 = .ok (.laload, 1) := by decide +kernel
theorem dX1_scaleBy_28 : decode cX1_scaleBy 28 = .ok (.lload_n 1, 1) := by decide +kernel
theorem dX1_scaleBy_29 : decode cX1_scaleBy 29 = .ok (.lmul, 1) := by decide +kernel
theorem dX1_scaleBy_30 : decode cX1_scaleBy 30 = .ok (.lastore, 1) := by decide +kernel
theorem dX1_scaleBy_31 : decode cX1_scaleBy 31 = .ok (.iinc 3 1, 3) := by decide +kernel
theorem dX1_scaleBy_34 : decode cX1_scaleBy 34 = .ok (.goto (-25), 3) := by decide +kernel
theorem dX1_scaleBy_37 : decode cX1_scaleBy 37 = .ok (.return_, 1) := by decide +kernel
theorem dX1_unit_0 : decode cX1_unit 0 = .ok (.iload_n 1, 1) := by decide +kernel
theorem dX1_unit_1 : decode cX1_unit 1 = .ok (.iconst 0, 1) := by decide +kernel
theorem dX1_unit_2 : decode cX1_unit 2 = .ok (.iconst 5, 1) := by decide +kernel
theorem dX1_unit_3 : decode cX1_unit 3 = .ok (.invokestatic 32, 3) := by decide +kernel
theorem dX1_unit_6 : decode cX1_unit 6 = .ok (.ifCond .eq 12, 3) := by decide +kernel
theorem dX1_unit_9 : decode cX1_unit 9 = .ok (.aload_n 0, 1) := by decide +kernel
theorem dX1_unit_10 : decode cX1_unit 10 = .ok (.getfield 22, 3) := by decide +kernel
theorem dX1_unit_13 : decode cX1_unit 13 = .ok (.iload_n 1, 1) := by decide +kernel
theorem dX1_unit_14 : decode cX1_unit 14 = .ok (.laload, 1) := by decide +kernel
theorem dX1_unit_15 : decode cX1_unit 15 = .ok (.goto 4, 3) := by decide +kernel
theorem dX1_unit_18 : decode cX1_unit 18 = .ok (.lconst 1, 1) := by decide +kernel
theorem dX1_unit_19 : decode cX1_unit 19 = .ok (.lreturn, 1) := by decide +kernel
theorem dX1_sendUp_0 : decode cX1_sendUp 0 = .ok (.iconst 0, 1) := by decide +kernel
theorem dX1_sendUp_1 : decode cX1_sendUp 1 = .ok (.istore 4, 2) := by decide +kernel
theorem dX1_sendUp_3 : decode cX1_sendUp 3 = .ok (.iload 4, 2) := by decide +kernel
theorem dX1_sendUp_5 : decode cX1_sendUp 5 = .ok (.bipush 6, 2) := by decide +kernel
theorem dX1_sendUp_7 : decode cX1_sendUp 7 = .ok (.if_icmp .ge 23, 3) := by decide +kernel
theorem dX1_sendUp_10 : decode cX1_sendUp 10 = .ok (.aload_n 0, 1) := by decide +kernel
theorem dX1_sendUp_11 : decode cX1_sendUp 11 = .ok (.getfield 25, 3) := by decide +kernel
theorem dX1_sendUp_14 : decode cX1_sendUp 14 = .ok (.iload 4, 2) := by decide +kernel
theorem dX1_sendUp_16 : decode cX1_sendUp 16 = .ok (.aload_n 1, 1) := by decide +kernel
theorem dX1_sendUp_17 : decode cX1_sendUp 17 = .ok (.iload_n 2, 1) := by decide +kernel
theorem dX1_sendUp_18 : decode cX1_sendUp 18 = .ok (.iload 4, 2) := by decide +kernel
theorem dX1_sendUp_20 : decode cX1_sendUp 20 = .ok (.invokevirtual 36, 3) := by decide +kernel
theorem dX1_sendUp_23 : decode cX1_sendUp 23 = .ok (.iastore, 1) := by decide +kernel
theorem dX1_sendUp_24 : decode cX1_sendUp 24 = .ok (.iinc 4 1, 3) := by decide +kernel
theorem dX1_sendUp_27 : decode cX1_sendUp 27 = .ok (.goto (-24), 3) := by decide +kernel
theorem dX1_sendUp_30 : decode cX1_sendUp 30 = .ok (.aload_n 1, 1) := by decide +kernel
theorem dX1_sendUp_31 : decode cX1_sendUp 31 = .ok (.iload_n 2, 1) := by decide +kernel
theorem dX1_sendUp_32 : decode cX1_sendUp 32 = .ok (.iload_n 3, 1) := by decide +kernel
theorem dX1_sendUp_33 : decode cX1_sendUp 33 = .ok (.invokevirtual 42, 3) := by decide +kernel
theorem dX1_sendUp_36 : decode cX1_sendUp 36 = .ok (.istore 4, 2) := by decide +kernel
theorem dX1_sendUp_38 : decode cX1_sendUp 38 = .ok (.aload_n 0, 1) := by decide +kernel
theorem dX1_sendUp_39 : decode cX1_sendUp 39 = .ok (.getfield 25, 3) := by decide +kernel
theorem dX1_sendUp_42 : decode cX1_sendUp 42 = .ok (.iconst 0, 1) := by decide +kernel
theorem dX1_sendUp_43 : decode cX1_sendUp 43 = .ok (.dup2, 1) := by decide +kernel
theorem dX1_sendUp_44 : decode cX1_sendUp 44 = .ok (.iaload, 1) := by decide +kernel
theorem dX1_sendUp_45 : decode cX1_sendUp 45 = .ok (.iload 4, 2) := by decide +kernel
theorem dX1_sendUp_47 : decode cX1_sendUp 47 = .ok (.isub, 1) := by decide +kernel
theorem dX1_sendUp_48 : decode cX1_sendUp 48 = .ok (.iastore, 1) := by decide +kernel
theorem dX1_sendUp_49 : decode cX1_sendUp 49 = .ok (.aload_n 0, 1) := by decide +kernel
theorem dX1_sendUp_50 : decode cX1_sendUp 50 = .ok (.getfield 25, 3) := by decide +kernel
theorem dX1_sendUp_53 : decode cX1_sendUp 53 = .ok (.iconst 2, 1) := by decide +kernel
theorem dX1_sendUp_54 : decode cX1_sendUp 54 = .ok (.dup2, 1) := by decide +kernel
theorem dX1_sendUp_55 : decode cX1_sendUp 55 = .ok (.iaload, 1) := by decide +kernel
theorem dX1_sendUp_56 : decode cX1_sendUp 56 = .ok (.iload 4, 2) := by decide +kernel
theorem dX1_sendUp_58 : decode cX1_sendUp 58 = .ok (.iadd, 1) := by decide +kernel
theorem dX1_sendUp_59 : decode cX1_sendUp 59 = .ok (.iastore, 1) := by decide +kernel
theorem dX1_sendUp_60 : decode cX1_sendUp 60 = .ok (.return_, 1) := by decide +kernel
theorem dX1_plainMean_0 : decode cX1_plainMean 0 = .ok (.aload_n 0, 1) := by decide +kernel
theorem dX1_plainMean_1 : decode cX1_plainMean 1 = .ok (.ldc2_w 45, 3) := by decide +kernel
theorem dX1_plainMean_4 : decode cX1_plainMean 4 = .ok (.invokevirtual 47, 3) := by decide +kernel
theorem dX1_plainMean_7 : decode cX1_plainMean 7 = .ok (.iconst 1, 1) := by decide +kernel
theorem dX1_plainMean_8 : decode cX1_plainMean 8 = .ok (.istore 6, 2) := by decide +kernel
theorem dX1_plainMean_10 : decode cX1_plainMean 10 = .ok (.iload 6, 2) := by decide +kernel
theorem dX1_plainMean_12 : decode cX1_plainMean 12 = .ok (.iload 4, 2) := by decide +kernel
theorem dX1_plainMean_14 : decode cX1_plainMean 14 = .ok (.if_icmp .ge 38, 3) := by decide +kernel
theorem dX1_plainMean_17 : decode cX1_plainMean 17 = .ok (.aload_n 0, 1) := by decide +kernel
theorem dX1_plainMean_18 : decode cX1_plainMean 18 = .ok (.aload_n 1, 1) := by decide +kernel
theorem dX1_plainMean_19 : decode cX1_plainMean 19 = .ok (.aload_n 1, 1) := by decide +kernel
theorem dX1_plainMean_20 : decode cX1_plainMean 20 = .ok (.iload_n 2, 1) := by decide +kernel
theorem dX1_plainMean_21 : decode cX1_plainMean 21 = .ok (.iload 4, 2) := by decide +kernel
theorem dX1_plainMean_23 : decode cX1_plainMean 23 = .ok (.iadd, 1) := by decide +kernel
theorem dX1_plainMean_24 : decode cX1_plainMean 24 = .ok (.iload 6, 2) := by decide +kernel
theorem dX1_plainMean_26 : decode cX1_plainMean 26 = .ok (.isub, 1) := by decide +kernel
theorem dX1_plainMean_27 : decode cX1_plainMean 27 = .ok (.invokevirtual 51, 3) := by decide +kernel
theorem dX1_plainMean_30 : decode cX1_plainMean 30 = .ok (.iload_n 3, 1) := by decide +kernel
theorem dX1_plainMean_31 : decode cX1_plainMean 31 = .ok (.iload 4, 2) := by decide +kernel
theorem dX1_plainMean_33 : decode cX1_plainMean 33 = .ok (.iadd, 1) := by decide +kernel
theorem dX1_plainMean_34 : decode cX1_plainMean 34 = .ok (.iload 6, 2) := by decide +kernel
theorem dX1_plainMean_36 : decode cX1_plainMean 36 = .ok (.isub, 1) := by decide +kernel
theorem dX1_plainMean_37 : decode cX1_plainMean 37 = .ok (.invokevirtual 55, 3) := by decide +kernel
theorem dX1_plainMean_40 : decode cX1_plainMean 40 = .ok (.aload_n 0, 1) := by decide +kernel
theorem dX1_plainMean_41 : decode cX1_plainMean 41 = .ok (.iload 6, 2) := by decide +kernel
theorem dX1_plainMean_43 : decode cX1_plainMean 43 = .ok (.invokevirtual 59, 3) := by decide +kernel
theorem dX1_plainMean_46 : decode cX1_plainMean 46 = .ok (.iinc 6 1, 3) := by decide +kernel
theorem dX1_plainMean_49 : decode cX1_plainMean 49 = .ok (.goto (-39), 3) := by decide +kernel
theorem dX1_plainMean_52 : decode cX1_plainMean 52 = .ok (.aload_n 0, 1) := by decide +kernel
theorem dX1_plainMean_53 : decode cX1_plainMean 53 = .ok (.aload_n 1, 1) := by decide +kernel
theorem dX1_plainMean_54 : decode cX1_plainMean 54 = .ok (.aload_n 1, 1) := by decide +kernel
theorem dX1_plainMean_55 : decode cX1_plainMean 55 = .ok (.iload_n 2, 1) := by decide +kernel
theorem dX1_plainMean_56 : decode cX1_plainMean 56 = .ok (.invokevirtual 51, 3) := by decide +kernel
theorem dX1_plainMean_59 : decode cX1_plainMean 59 = .ok (.iload_n 3, 1) := by decide +kernel
theorem dX1_plainMean_60 : decode cX1_plainMean 60 = .ok (.invokevirtual 55, 3) := by decide +kernel
theorem dX1_plainMean_63 : decode cX1_plainMean 63 = .ok (.aload_n 0, 1) := by decide +kernel
theorem dX1_plainMean_64 : decode cX1_plainMean 64 = .ok (.iload 4, 2) := by decide +kernel
theorem dX1_plainMean_66 : decode cX1_plainMean 66 = .ok (.iconst 1, 1) := by decide +kernel
theorem dX1_plainMean_67 : decode cX1_plainMean 67 = .ok (.isub, 1) := by decide +kernel
theorem dX1_plainMean_68 : decode cX1_plainMean 68 = .ok (.iload 5, 2) := by decide +kernel
theorem dX1_plainMean_70 : decode cX1_plainMean 70 = .ok (.invokevirtual 63, 3) := by decide +kernel
theorem dX1_plainMean_73 : decode cX1_plainMean 73 = .ok (.lreturn, 1) := by decide +kernel
theorem dX1_oddsOfRun_0 : decode cX1_oddsOfRun 0 = .ok (.aload_n 0, 1) := by decide +kernel
theorem dX1_oddsOfRun_1 : decode cX1_oddsOfRun 1 = .ok (.iconst 1, 1) := by decide +kernel
theorem dX1_oddsOfRun_2 : decode cX1_oddsOfRun 2 = .ok (.putfield 67, 3) := by decide +kernel
theorem dX1_oddsOfRun_5 : decode cX1_oddsOfRun 5 = .ok (.aload_n 0, 1) := by decide +kernel
theorem dX1_oddsOfRun_6 : decode cX1_oddsOfRun 6 = .ok (.aload_n 1, 1) := by decide +kernel
theorem dX1_oddsOfRun_7 : decode cX1_oddsOfRun 7 = .ok (.iload_n 2, 1) := by decide +kernel
theorem dX1_oddsOfRun_8 : decode cX1_oddsOfRun 8 = .ok (.iload_n 3, 1) := by decide +kernel
theorem dX1_oddsOfRun_9 : decode cX1_oddsOfRun 9 = .ok (.iload 4, 2) := by decide +kernel
theorem dX1_oddsOfRun_11 : decode cX1_oddsOfRun 11 = .ok (.iload 5, 2) := by decide +kernel
theorem dX1_oddsOfRun_13 : decode cX1_oddsOfRun 13 = .ok (.invokevirtual 71, 3) := by decide +kernel
theorem dX1_oddsOfRun_16 : decode cX1_oddsOfRun 16 = .ok (.lstore 6, 2) := by decide +kernel
theorem dX1_oddsOfRun_18 : decode cX1_oddsOfRun 18 = .ok (.aload_n 0, 1) := by decide +kernel
theorem dX1_oddsOfRun_19 : decode cX1_oddsOfRun 19 = .ok (.iconst 0, 1) := by decide +kernel
theorem dX1_oddsOfRun_20 : decode cX1_oddsOfRun 20 = .ok (.putfield 67, 3) := by decide +kernel
theorem dX1_oddsOfRun_23 : decode cX1_oddsOfRun 23 = .ok (.lload 6, 2) := by decide +kernel
theorem dX1_oddsOfRun_25 : decode cX1_oddsOfRun 25 = .ok (.lreturn, 1) := by decide +kernel
theorem dX1_layTable_0 : decode cX1_layTable 0 = .ok (.aload_n 0, 1) := by decide +kernel
theorem dX1_layTable_1 : decode cX1_layTable 1 = .ok (.ldc2_w 45, 3) := by decide +kernel
theorem dX1_layTable_4 : decode cX1_layTable 4 = .ok (.aload_n 1, 1) := by decide +kernel
theorem dX1_layTable_5 : decode cX1_layTable 5 = .ok (.getfield 75, 3) := by decide +kernel
theorem dX1_layTable_8 : decode cX1_layTable 8 = .ok (.i2l, 1) := by decide +kernel
theorem dX1_layTable_9 : decode cX1_layTable 9 = .ok (.lmul, 1) := by decide +kernel
theorem dX1_layTable_10 : decode cX1_layTable 10 = .ok (.invokevirtual 47, 3) := by decide +kernel
theorem dX1_layTable_13 : decode cX1_layTable 13 = .ok (.iconst 0, 1) := by decide +kernel
theorem dX1_layTable_14 : decode cX1_layTable 14 = .ok (.istore_n 3, 1) := by decide +kernel
theorem dX1_layTable_15 : decode cX1_layTable 15 = .ok (.iload_n 3, 1) := by decide +kernel
theorem dX1_layTable_16 : decode cX1_layTable 16 = .ok (.bipush 6, 2) := by decide +kernel
theorem dX1_layTable_18 : decode cX1_layTable 18 = .ok (.if_icmp .ge 50, 3) := by decide +kernel
theorem dX1_layTable_21 : decode cX1_layTable 21 = .ok (.aload_n 0, 1) := by decide +kernel
theorem dX1_layTable_22 : decode cX1_layTable 22 = .ok (.getfield 25, 3) := by decide +kernel
theorem dX1_layTable_25 : decode cX1_layTable 25 = .ok (.iload_n 3, 1) := by decide +kernel
theorem dX1_layTable_26 : decode cX1_layTable 26 = .ok (.iconst 0, 1) := by decide +kernel
theorem dX1_layTable_27 : decode cX1_layTable 27 = .ok (.iastore, 1) := by decide +kernel
theorem dX1_layTable_28 : decode cX1_layTable 28 = .ok (.iconst 0, 1) := by decide +kernel
theorem dX1_layTable_29 : decode cX1_layTable 29 = .ok (.istore 4, 2) := by decide +kernel
theorem dX1_layTable_31 : decode cX1_layTable 31 = .ok (.iload 4, 2) := by decide +kernel
theorem dX1_layTable_33 : decode cX1_layTable 33 = .ok (.aload_n 1, 1) := by decide +kernel
theorem dX1_layTable_34 : decode cX1_layTable 34 = .ok (.getfield 75, 3) := by decide +kernel
theorem dX1_layTable_37 : decode cX1_layTable 37 = .ok (.if_icmp .ge 25, 3) := by decide +kernel
theorem dX1_layTable_40 : decode cX1_layTable 40 = .ok (.aload_n 0, 1) := by decide +kernel
theorem dX1_layTable_41 : decode cX1_layTable 41 = .ok (.getfield 25, 3) := by decide +kernel
theorem dX1_layTable_44 : decode cX1_layTable 44 = .ok (.iload_n 3, 1) := by decide +kernel
theorem dX1_layTable_45 : decode cX1_layTable 45 = .ok (.dup2, 1) := by decide +kernel
theorem dX1_layTable_46 : decode cX1_layTable 46 = .ok (.iaload, 1) := by decide +kernel
theorem dX1_layTable_47 : decode cX1_layTable 47 = .ok (.aload_n 1, 1) := by decide +kernel
theorem dX1_layTable_48 : decode cX1_layTable 48 = .ok (.iload 4, 2) := by decide +kernel
theorem dX1_layTable_50 : decode cX1_layTable 50 = .ok (.iload_n 3, 1) := by decide +kernel
theorem dX1_layTable_51 : decode cX1_layTable 51 = .ok (.invokevirtual 36, 3) := by decide +kernel
theorem dX1_layTable_54 : decode cX1_layTable 54 = .ok (.iadd, 1) := by decide +kernel
theorem dX1_layTable_55 : decode cX1_layTable 55 = .ok (.iastore, 1) := by decide +kernel
theorem dX1_layTable_56 : decode cX1_layTable 56 = .ok (.iinc 4 1, 3) := by decide +kernel
theorem dX1_layTable_59 : decode cX1_layTable 59 = .ok (.goto (-28), 3) := by decide +kernel
theorem dX1_layTable_62 : decode cX1_layTable 62 = .ok (.iinc 3 1, 3) := by decide +kernel
theorem dX1_layTable_65 : decode cX1_layTable 65 = .ok (.goto (-50), 3) := by decide +kernel
theorem dX1_layTable_68 : decode cX1_layTable 68 = .ok (.iconst 1, 1) := by decide +kernel
theorem dX1_layTable_69 : decode cX1_layTable 69 = .ok (.istore_n 3, 1) := by decide +kernel
theorem dX1_layTable_70 : decode cX1_layTable 70 = .ok (.iload_n 3, 1) := by decide +kernel
theorem dX1_layTable_71 : decode cX1_layTable 71 = .ok (.iload_n 2, 1) := by decide +kernel
theorem dX1_layTable_72 : decode cX1_layTable 72 = .ok (.if_icmp .gt 14, 3) := by decide +kernel
theorem dX1_layTable_75 : decode cX1_layTable 75 = .ok (.aload_n 0, 1) := by decide +kernel
theorem dX1_layTable_76 : decode cX1_layTable 76 = .ok (.iload_n 3, 1) := by decide +kernel
theorem dX1_layTable_77 : decode cX1_layTable 77 = .ok (.invokevirtual 59, 3) := by decide +kernel
theorem dX1_layTable_80 : decode cX1_layTable 80 = .ok (.iinc 3 1, 3) := by decide +kernel
theorem dX1_layTable_83 : decode cX1_layTable 83 = .ok (.goto (-13), 3) := by decide +kernel
theorem dX1_layTable_86 : decode cX1_layTable 86 = .ok (.return_, 1) := by decide +kernel
theorem dX1_tableAt_0 : decode cX1_tableAt 0 = .ok (.iload_n 1, 1) := by decide +kernel
theorem dX1_tableAt_1 : decode cX1_tableAt 1 = .ok (.iconst 0, 1) := by decide +kernel
theorem dX1_tableAt_2 : decode cX1_tableAt 2 = .ok (.iconst 5, 1) := by decide +kernel
theorem dX1_tableAt_3 : decode cX1_tableAt 3 = .ok (.invokestatic 32, 3) := by decide +kernel
theorem dX1_tableAt_6 : decode cX1_tableAt 6 = .ok (.ifCond .eq 27, 3) := by decide +kernel
theorem dX1_tableAt_9 : decode cX1_tableAt 9 = .ok (.iload_n 2, 1) := by decide +kernel
theorem dX1_tableAt_10 : decode cX1_tableAt 10 = .ok (.iconst 0, 1) := by decide +kernel
theorem dX1_tableAt_11 : decode cX1_tableAt 11 = .ok (.bipush 24, 2) := by decide +kernel
theorem dX1_tableAt_13 : decode cX1_tableAt 13 = .ok (.invokestatic 32, 3) := by decide +kernel
theorem dX1_tableAt_16 : decode cX1_tableAt 16 = .ok (.ifCond .eq 17, 3) := by decide +kernel
theorem dX1_tableAt_19 : decode cX1_tableAt 19 = .ok (.aload_n 0, 1) := by decide +kernel
theorem dX1_tableAt_20 : decode cX1_tableAt 20 = .ok (.getfield 18, 3) := by decide +kernel
theorem dX1_tableAt_23 : decode cX1_tableAt 23 = .ok (.iload_n 1, 1) := by decide +kernel
theorem dX1_tableAt_24 : decode cX1_tableAt 24 = .ok (.bipush 25, 2) := by decide +kernel
theorem dX1_tableAt_26 : decode cX1_tableAt 26 = .ok (.imul, 1) := by decide +kernel
theorem dX1_tableAt_27 : decode cX1_tableAt 27 = .ok (.iload_n 2, 1) := by decide +kernel
theorem dX1_tableAt_28 : decode cX1_tableAt 28 = .ok (.iadd, 1) := by decide +kernel
theorem dX1_tableAt_29 : decode cX1_tableAt 29 = .ok (.laload, 1) := by decide +kernel
theorem dX1_tableAt_30 : decode cX1_tableAt 30 = .ok (.goto 4, 3) := by decide +kernel
theorem dX1_tableAt_33 : decode cX1_tableAt 33 = .ok (.lconst 0, 1) := by decide +kernel
theorem dX1_tableAt_34 : decode cX1_tableAt 34 = .ok (.lreturn, 1) := by decide +kernel
theorem dX1_addedBy_0 : decode cX1_addedBy 0 = .ok (.aload_n 1, 1) := by decide +kernel
theorem dX1_addedBy_1 : decode cX1_addedBy 1 = .ok (.iload_n 2, 1) := by decide +kernel
theorem dX1_addedBy_2 : decode cX1_addedBy 2 = .ok (.iconst 2, 1) := by decide +kernel
theorem dX1_addedBy_3 : decode cX1_addedBy 3 = .ok (.invokevirtual 79, 3) := by decide +kernel
theorem dX1_addedBy_6 : decode cX1_addedBy 6 = .ok (.i2l, 1) := by decide +kernel
theorem dX1_addedBy_7 : decode cX1_addedBy 7 = .ok (.aload_n 0, 1) := by decide +kernel
theorem dX1_addedBy_8 : decode cX1_addedBy 8 = .ok (.iload_n 3, 1) := by decide +kernel
theorem dX1_addedBy_9 : decode cX1_addedBy 9 = .ok (.invokevirtual 82, 3) := by decide +kernel
theorem dX1_addedBy_12 : decode cX1_addedBy 12 = .ok (.lmul, 1) := by decide +kernel
theorem dX1_addedBy_13 : decode cX1_addedBy 13 = .ok (.lstore 4, 2) := by decide +kernel
theorem dX1_addedBy_15 : decode cX1_addedBy 15 = .ok (.lload 4, 2) := by decide +kernel
theorem dX1_addedBy_17 : decode cX1_addedBy 17 = .ok (.aload_n 0, 1) := by decide +kernel
theorem dX1_addedBy_18 : decode cX1_addedBy 18 = .ok (.iload_n 3, 1) := by decide +kernel
theorem dX1_addedBy_19 : decode cX1_addedBy 19 = .ok (.aload_n 1, 1) := by decide +kernel
theorem dX1_addedBy_20 : decode cX1_addedBy 20 = .ok (.iload_n 2, 1) := by decide +kernel
theorem dX1_addedBy_21 : decode cX1_addedBy 21 = .ok (.iconst 5, 1) := by decide +kernel
theorem dX1_addedBy_22 : decode cX1_addedBy 22 = .ok (.invokevirtual 79, 3) := by decide +kernel
theorem dX1_addedBy_25 : decode cX1_addedBy 25 = .ok (.invokevirtual 86, 3) := by decide +kernel
theorem dX1_addedBy_28 : decode cX1_addedBy 28 = .ok (.ladd, 1) := by decide +kernel
theorem dX1_addedBy_29 : decode cX1_addedBy 29 = .ok (.aload_n 0, 1) := by decide +kernel
theorem dX1_addedBy_30 : decode cX1_addedBy 30 = .ok (.iload_n 3, 1) := by decide +kernel
theorem dX1_addedBy_31 : decode cX1_addedBy 31 = .ok (.aload_n 1, 1) := by decide +kernel
theorem dX1_addedBy_32 : decode cX1_addedBy 32 = .ok (.iload_n 2, 1) := by decide +kernel
theorem dX1_addedBy_33 : decode cX1_addedBy 33 = .ok (.iconst 4, 1) := by decide +kernel
theorem dX1_addedBy_34 : decode cX1_addedBy 34 = .ok (.invokevirtual 79, 3) := by decide +kernel
theorem dX1_addedBy_37 : decode cX1_addedBy 37 = .ok (.invokevirtual 86, 3) := by decide +kernel
theorem dX1_addedBy_40 : decode cX1_addedBy 40 = .ok (.lsub, 1) := by decide +kernel
theorem dX1_addedBy_41 : decode cX1_addedBy 41 = .ok (.lreturn, 1) := by decide +kernel
theorem dX1_fillRow_0 : decode cX1_fillRow 0 = .ok (.iload_n 1, 1) := by decide +kernel
theorem dX1_fillRow_1 : decode cX1_fillRow 1 = .ok (.iconst 1, 1) := by decide +kernel
theorem dX1_fillRow_2 : decode cX1_fillRow 2 = .ok (.iconst 5, 1) := by decide +kernel
theorem dX1_fillRow_3 : decode cX1_fillRow 3 = .ok (.invokestatic 32, 3) := by decide +kernel
theorem dX1_fillRow_6 : decode cX1_fillRow 6 = .ok (.ifCond .ne 4, 3) := by decide +kernel
theorem dX1_fillRow_9 : decode cX1_fillRow 9 = .ok (.return_, 1) := by decide +kernel
theorem dX1_fillRow_10 : decode cX1_fillRow 10 = .ok (.iconst 0, 1) := by decide +kernel
theorem dX1_fillRow_11 : decode cX1_fillRow 11 = .ok (.istore_n 2, 1) := by decide +kernel
theorem dX1_fillRow_12 : decode cX1_fillRow 12 = .ok (.iload_n 2, 1) := by decide +kernel
theorem dX1_fillRow_13 : decode cX1_fillRow 13 = .ok (.bipush 24, 2) := by decide +kernel
theorem dX1_fillRow_15 : decode cX1_fillRow 15 = .ok (.if_icmp .ge 28, 3) := by decide +kernel
theorem dX1_fillRow_18 : decode cX1_fillRow 18 = .ok (.aload_n 0, 1) := by decide +kernel
theorem dX1_fillRow_19 : decode cX1_fillRow 19 = .ok (.getfield 18, 3) := by decide +kernel
theorem dX1_fillRow_22 : decode cX1_fillRow 22 = .ok (.iload_n 1, 1) := by decide +kernel
theorem dX1_fillRow_23 : decode cX1_fillRow 23 = .ok (.bipush 25, 2) := by decide +kernel
theorem dX1_fillRow_25 : decode cX1_fillRow 25 = .ok (.imul, 1) := by decide +kernel
theorem dX1_fillRow_26 : decode cX1_fillRow 26 = .ok (.iload_n 2, 1) := by decide +kernel
theorem dX1_fillRow_27 : decode cX1_fillRow 27 = .ok (.iadd, 1) := by decide +kernel
theorem dX1_fillRow_28 : decode cX1_fillRow 28 = .ok (.aload_n 0, 1) := by decide +kernel
theorem dX1_fillRow_29 : decode cX1_fillRow 29 = .ok (.iload_n 1, 1) := by decide +kernel
theorem dX1_fillRow_30 : decode cX1_fillRow 30 = .ok (.iconst 1, 1) := by decide +kernel
theorem dX1_fillRow_31 : decode cX1_fillRow 31 = .ok (.isub, 1) := by decide +kernel
theorem dX1_fillRow_32 : decode cX1_fillRow 32 = .ok (.iload_n 2, 1) := by decide +kernel
theorem dX1_fillRow_33 : decode cX1_fillRow 33 = .ok (.invokevirtual 63, 3) := by decide +kernel
theorem dX1_fillRow_36 : decode cX1_fillRow 36 = .ok (.lastore, 1) := by decide +kernel
theorem dX1_fillRow_37 : decode cX1_fillRow 37 = .ok (.iinc 2 1, 3) := by decide +kernel
theorem dX1_fillRow_40 : decode cX1_fillRow 40 = .ok (.goto (-28), 3) := by decide +kernel
theorem dX1_fillRow_43 : decode cX1_fillRow 43 = .ok (.return_, 1) := by decide +kernel
theorem dX1_hitMean_0 : decode cX1_hitMean 0 = .ok (.iload_n 2, 1) := by decide +kernel
theorem dX1_hitMean_1 : decode cX1_hitMean 1 = .ok (.ifCond .lt 9, 3) := by decide +kernel
theorem dX1_hitMean_4 : decode cX1_hitMean 4 = .ok (.iload_n 2, 1) := by decide +kernel
theorem dX1_hitMean_5 : decode cX1_hitMean 5 = .ok (.bipush 24, 2) := by decide +kernel
theorem dX1_hitMean_7 : decode cX1_hitMean 7 = .ok (.if_icmp .lt 5, 3) := by decide +kernel
theorem dX1_hitMean_10 : decode cX1_hitMean 10 = .ok (.lconst 0, 1) := by decide +kernel
theorem dX1_hitMean_11 : decode cX1_hitMean 11 = .ok (.lreturn, 1) := by decide +kernel
theorem dX1_hitMean_12 : decode cX1_hitMean 12 = .ok (.lconst 0, 1) := by decide +kernel
theorem dX1_hitMean_13 : decode cX1_hitMean 13 = .ok (.lstore_n 3, 1) := by decide +kernel
theorem dX1_hitMean_14 : decode cX1_hitMean 14 = .ok (.iconst 0, 1) := by decide +kernel
theorem dX1_hitMean_15 : decode cX1_hitMean 15 = .ok (.istore 5, 2) := by decide +kernel
theorem dX1_hitMean_17 : decode cX1_hitMean 17 = .ok (.iload 5, 2) := by decide +kernel
theorem dX1_hitMean_19 : decode cX1_hitMean 19 = .ok (.bipush 6, 2) := by decide +kernel
theorem dX1_hitMean_21 : decode cX1_hitMean 21 = .ok (.if_icmp .ge 65, 3) := by decide +kernel
theorem dX1_hitMean_24 : decode cX1_hitMean 24 = .ok (.aload_n 0, 1) := by decide +kernel
theorem dX1_hitMean_25 : decode cX1_hitMean 25 = .ok (.getfield 25, 3) := by decide +kernel
theorem dX1_hitMean_28 : decode cX1_hitMean 28 = .ok (.iload 5, 2) := by decide +kernel
theorem dX1_hitMean_30 : decode cX1_hitMean 30 = .ok (.iaload, 1) := by decide +kernel
theorem dX1_hitMean_31 : decode cX1_hitMean 31 = .ok (.ifCond .le 49, 3) := by decide +kernel
theorem dX1_hitMean_34 : decode cX1_hitMean 34 = .ok (.iload 5, 2) := by decide +kernel
theorem dX1_hitMean_36 : decode cX1_hitMean 36 = .ok (.bipush 24, 2) := by decide +kernel
theorem dX1_hitMean_38 : decode cX1_hitMean 38 = .ok (.imul, 1) := by decide +kernel
theorem dX1_hitMean_39 : decode cX1_hitMean 39 = .ok (.iload_n 2, 1) := by decide +kernel
theorem dX1_hitMean_40 : decode cX1_hitMean 40 = .ok (.iadd, 1) := by decide +kernel
theorem dX1_hitMean_41 : decode cX1_hitMean 41 = .ok (.istore 6, 2) := by decide +kernel
theorem dX1_hitMean_43 : decode cX1_hitMean 43 = .ok (.lload_n 3, 1) := by decide +kernel
theorem dX1_hitMean_44 : decode cX1_hitMean 44 = .ok (.aload_n 0, 1) := by decide +kernel
theorem dX1_hitMean_45 : decode cX1_hitMean 45 = .ok (.getfield 25, 3) := by decide +kernel
theorem dX1_hitMean_48 : decode cX1_hitMean 48 = .ok (.iload 5, 2) := by decide +kernel
theorem dX1_hitMean_50 : decode cX1_hitMean 50 = .ok (.iaload, 1) := by decide +kernel
theorem dX1_hitMean_51 : decode cX1_hitMean 51 = .ok (.i2l, 1) := by decide +kernel
theorem dX1_hitMean_52 : decode cX1_hitMean 52 = .ok (.aload_n 0, 1) := by decide +kernel
theorem dX1_hitMean_53 : decode cX1_hitMean 53 = .ok (.iload_n 1, 1) := by decide +kernel
theorem dX1_hitMean_54 : decode cX1_hitMean 54 = .ok (.aload_n 0, 1) := by decide +kernel
theorem dX1_hitMean_55 : decode cX1_hitMean 55 = .ok (.getfield 12, 3) := by decide +kernel
theorem dX1_hitMean_58 : decode cX1_hitMean 58 = .ok (.getfield 89, 3) := by decide +kernel
theorem dX1_hitMean_61 : decode cX1_hitMean 61 = .ok (.iload 6, 2) := by decide +kernel
theorem dX1_hitMean_63 : decode cX1_hitMean 63 = .ok (.iaload, 1) := by decide +kernel
theorem dX1_hitMean_64 : decode cX1_hitMean 64 = .ok (.aload_n 0, 1) := by decide +kernel
theorem dX1_hitMean_65 : decode cX1_hitMean 65 = .ok (.getfield 12, 3) := by decide +kernel
theorem dX1_hitMean_68 : decode cX1_hitMean 68 = .ok (.getfield 92, 3) := by decide +kernel
theorem dX1_hitMean_71 : decode cX1_hitMean 71 = .ok (.iload 6, 2) := by decide +kernel
theorem dX1_hitMean_73 : decode cX1_hitMean 73 = .ok (.iaload, 1) := by decide +kernel
theorem dX1_hitMean_74 : decode cX1_hitMean 74 = .ok (.invokevirtual 95, 3) := by decide +kernel
theorem dX1_hitMean_77 : decode cX1_hitMean 77 = .ok (.lmul, 1) := by decide +kernel
theorem dX1_hitMean_78 : decode cX1_hitMean 78 = .ok (.ladd, 1) := by decide +kernel
theorem dX1_hitMean_79 : decode cX1_hitMean 79 = .ok (.lstore_n 3, 1) := by decide +kernel
theorem dX1_hitMean_80 : decode cX1_hitMean 80 = .ok (.iinc 5 1, 3) := by decide +kernel
theorem dX1_hitMean_83 : decode cX1_hitMean 83 = .ok (.goto (-66), 3) := by decide +kernel
theorem dX1_hitMean_86 : decode cX1_hitMean 86 = .ok (.lload_n 3, 1) := by decide +kernel
theorem dX1_hitMean_87 : decode cX1_hitMean 87 = .ok (.lreturn, 1) := by decide +kernel
theorem dX1_gain_0 : decode cX1_gain 0 = .ok (.iload_n 1, 1) := by decide +kernel
theorem dX1_gain_1 : decode cX1_gain 1 = .ok (.ifCond .lt 18, 3) := by decide +kernel
theorem dX1_gain_4 : decode cX1_gain 4 = .ok (.iload_n 1, 1) := by decide +kernel
theorem dX1_gain_5 : decode cX1_gain 5 = .ok (.iconst 5, 1) := by decide +kernel
theorem dX1_gain_6 : decode cX1_gain 6 = .ok (.if_icmp .gt 13, 3) := by decide +kernel
theorem dX1_gain_9 : decode cX1_gain 9 = .ok (.iload_n 3, 1) := by decide +kernel
theorem dX1_gain_10 : decode cX1_gain 10 = .ok (.ifCond .lt 9, 3) := by decide +kernel
theorem dX1_gain_13 : decode cX1_gain 13 = .ok (.iload_n 3, 1) := by decide +kernel
theorem dX1_gain_14 : decode cX1_gain 14 = .ok (.bipush 24, 2) := by decide +kernel
theorem dX1_gain_16 : decode cX1_gain 16 = .ok (.if_icmp .le 5, 3) := by decide +kernel
theorem dX1_gain_19 : decode cX1_gain 19 = .ok (.lconst 0, 1) := by decide +kernel
theorem dX1_gain_20 : decode cX1_gain 20 = .ok (.lreturn, 1) := by decide +kernel
theorem dX1_gain_21 : decode cX1_gain 21 = .ok (.aload_n 0, 1) := by decide +kernel
theorem dX1_gain_22 : decode cX1_gain 22 = .ok (.getfield 67, 3) := by decide +kernel
theorem dX1_gain_25 : decode cX1_gain 25 = .ok (.ifCond .eq 16, 3) := by decide +kernel
theorem dX1_gain_28 : decode cX1_gain 28 = .ok (.iload_n 2, 1) := by decide +kernel
theorem dX1_gain_29 : decode cX1_gain 29 = .ok (.ifCond .le 12, 3) := by decide +kernel
theorem dX1_gain_32 : decode cX1_gain 32 = .ok (.aload_n 0, 1) := by decide +kernel
theorem dX1_gain_33 : decode cX1_gain 33 = .ok (.getfield 22, 3) := by decide +kernel
theorem dX1_gain_36 : decode cX1_gain 36 = .ok (.iload_n 1, 1) := by decide +kernel
theorem dX1_gain_37 : decode cX1_gain 37 = .ok (.laload, 1) := by decide +kernel
theorem dX1_gain_38 : decode cX1_gain 38 = .ok (.goto 24, 3) := by decide +kernel
theorem dX1_gain_41 : decode cX1_gain 41 = .ok (.iload_n 2, 1) := by decide +kernel
theorem dX1_gain_42 : decode cX1_gain 42 = .ok (.i2l, 1) := by decide +kernel
theorem dX1_gain_43 : decode cX1_gain 43 = .ok (.aload_n 0, 1) := by decide +kernel
theorem dX1_gain_44 : decode cX1_gain 44 = .ok (.getfield 22, 3) := by decide +kernel
theorem dX1_gain_47 : decode cX1_gain 47 = .ok (.iload_n 1, 1) := by decide +kernel
theorem dX1_gain_48 : decode cX1_gain 48 = .ok (.laload, 1) := by decide +kernel
theorem dX1_gain_49 : decode cX1_gain 49 = .ok (.lmul, 1) := by decide +kernel
theorem dX1_gain_50 : decode cX1_gain 50 = .ok (.aload_n 0, 1) := by decide +kernel
theorem dX1_gain_51 : decode cX1_gain 51 = .ok (.getfield 18, 3) := by decide +kernel
theorem dX1_gain_54 : decode cX1_gain 54 = .ok (.iload_n 1, 1) := by decide +kernel
theorem dX1_gain_55 : decode cX1_gain 55 = .ok (.bipush 25, 2) := by decide +kernel
theorem dX1_gain_57 : decode cX1_gain 57 = .ok (.imul, 1) := by decide +kernel
theorem dX1_gain_58 : decode cX1_gain 58 = .ok (.iload_n 3, 1) := by decide +kernel
theorem dX1_gain_59 : decode cX1_gain 59 = .ok (.iadd, 1) := by decide +kernel
theorem dX1_gain_60 : decode cX1_gain 60 = .ok (.laload, 1) := by decide +kernel
theorem dX1_gain_61 : decode cX1_gain 61 = .ok (.ladd, 1) := by decide +kernel
theorem dX1_gain_62 : decode cX1_gain 62 = .ok (.lreturn, 1) := by decide +kernel
theorem dX1_buntMean_0 : decode cX1_buntMean 0 = .ok (.aload_n 0, 1) := by decide +kernel
theorem dX1_buntMean_1 : decode cX1_buntMean 1 = .ok (.getfield 12, 3) := by decide +kernel
theorem dX1_buntMean_4 : decode cX1_buntMean 4 = .ok (.bipush 6, 2) := by decide +kernel
theorem dX1_buntMean_6 : decode cX1_buntMean 6 = .ok (.iload_n 2, 1) := by decide +kernel
theorem dX1_buntMean_7 : decode cX1_buntMean 7 = .ok (.invokevirtual 99, 3) := by decide +kernel
theorem dX1_buntMean_10 : decode cX1_buntMean 10 = .ok (.istore_n 3, 1) := by decide +kernel
theorem dX1_buntMean_11 : decode cX1_buntMean 11 = .ok (.iload_n 3, 1) := by decide +kernel
theorem dX1_buntMean_12 : decode cX1_buntMean 12 = .ok (.iconst (-1), 1) := by decide +kernel
theorem dX1_buntMean_13 : decode cX1_buntMean 13 = .ok (.if_icmp .ne 9, 3) := by decide +kernel
theorem dX1_buntMean_16 : decode cX1_buntMean 16 = .ok (.ldc2_w 102, 3) := by decide +kernel
theorem dX1_buntMean_19 : decode cX1_buntMean 19 = .ok (.goto 23, 3) := by decide +kernel
theorem dX1_buntMean_22 : decode cX1_buntMean 22 = .ok (.ldc2_w 45, 3) := by decide +kernel
theorem dX1_buntMean_25 : decode cX1_buntMean 25 = .ok (.aload_n 0, 1) := by decide +kernel
theorem dX1_buntMean_26 : decode cX1_buntMean 26 = .ok (.iload_n 1, 1) := by decide +kernel
theorem dX1_buntMean_27 : decode cX1_buntMean 27 = .ok (.aload_n 0, 1) := by decide +kernel
theorem dX1_buntMean_28 : decode cX1_buntMean 28 = .ok (.getfield 12, 3) := by decide +kernel
theorem dX1_buntMean_31 : decode cX1_buntMean 31 = .ok (.bipush 6, 2) := by decide +kernel
theorem dX1_buntMean_33 : decode cX1_buntMean 33 = .ok (.iload_n 2, 1) := by decide +kernel
theorem dX1_buntMean_34 : decode cX1_buntMean 34 = .ok (.invokevirtual 104, 3) := by decide +kernel
theorem dX1_buntMean_37 : decode cX1_buntMean 37 = .ok (.iload_n 3, 1) := by decide +kernel
theorem dX1_buntMean_38 : decode cX1_buntMean 38 = .ok (.invokevirtual 95, 3) := by decide +kernel
theorem dX1_buntMean_41 : decode cX1_buntMean 41 = .ok (.lmul, 1) := by decide +kernel
theorem dX1_buntMean_42 : decode cX1_buntMean 42 = .ok (.lreturn, 1) := by decide +kernel
theorem dX1_lookAhead_0 : decode cX1_lookAhead 0 = .ok (.aload_n 0, 1) := by decide +kernel
theorem dX1_lookAhead_1 : decode cX1_lookAhead 1 = .ok (.ldc2_w 107, 3) := by decide +kernel
theorem dX1_lookAhead_4 : decode cX1_lookAhead 4 = .ok (.invokevirtual 47, 3) := by decide +kernel
theorem dX1_lookAhead_7 : decode cX1_lookAhead 7 = .ok (.aload_n 0, 1) := by decide +kernel
theorem dX1_lookAhead_8 : decode cX1_lookAhead 8 = .ok (.iload_n 3, 1) := by decide +kernel
theorem dX1_lookAhead_9 : decode cX1_lookAhead 9 = .ok (.putfield 109, 3) := by decide +kernel
theorem dX1_lookAhead_12 : decode cX1_lookAhead 12 = .ok (.aload_n 1, 1) := by decide +kernel
theorem dX1_lookAhead_13 : decode cX1_lookAhead 13 = .ok (.aload_n 1, 1) := by decide +kernel
theorem dX1_lookAhead_14 : decode cX1_lookAhead 14 = .ok (.getfield 112, 3) := by decide +kernel
theorem dX1_lookAhead_17 : decode cX1_lookAhead 17 = .ok (.invokevirtual 115, 3) := by decide +kernel
theorem dX1_lookAhead_20 : decode cX1_lookAhead 20 = .ok (.istore 4, 2) := by decide +kernel
theorem dX1_lookAhead_22 : decode cX1_lookAhead 22 = .ok (.iconst 1, 1) := by decide +kernel
theorem dX1_lookAhead_23 : decode cX1_lookAhead 23 = .ok (.istore 5, 2) := by decide +kernel
theorem dX1_lookAhead_25 : decode cX1_lookAhead 25 = .ok (.iload 5, 2) := by decide +kernel
theorem dX1_lookAhead_27 : decode cX1_lookAhead 27 = .ok (.iload_n 2, 1) := by decide +kernel
theorem dX1_lookAhead_28 : decode cX1_lookAhead 28 = .ok (.if_icmp .ge 40, 3) := by decide +kernel
theorem dX1_lookAhead_31 : decode cX1_lookAhead 31 = .ok (.aload_n 0, 1) := by decide +kernel
theorem dX1_lookAhead_32 : decode cX1_lookAhead 32 = .ok (.aload_n 1, 1) := by decide +kernel
theorem dX1_lookAhead_33 : decode cX1_lookAhead 33 = .ok (.aload_n 1, 1) := by decide +kernel
theorem dX1_lookAhead_34 : decode cX1_lookAhead 34 = .ok (.iload 4, 2) := by decide +kernel
theorem dX1_lookAhead_36 : decode cX1_lookAhead 36 = .ok (.iload_n 2, 1) := by decide +kernel
theorem dX1_lookAhead_37 : decode cX1_lookAhead 37 = .ok (.iadd, 1) := by decide +kernel
theorem dX1_lookAhead_38 : decode cX1_lookAhead 38 = .ok (.iload 5, 2) := by decide +kernel
theorem dX1_lookAhead_40 : decode cX1_lookAhead 40 = .ok (.isub, 1) := by decide +kernel
theorem dX1_lookAhead_41 : decode cX1_lookAhead 41 = .ok (.invokevirtual 51, 3) := by decide +kernel
theorem dX1_lookAhead_44 : decode cX1_lookAhead 44 = .ok (.aload_n 1, 1) := by decide +kernel
theorem dX1_lookAhead_45 : decode cX1_lookAhead 45 = .ok (.getfield 118, 3) := by decide +kernel
theorem dX1_lookAhead_48 : decode cX1_lookAhead 48 = .ok (.iload_n 2, 1) := by decide +kernel
theorem dX1_lookAhead_49 : decode cX1_lookAhead 49 = .ok (.iadd, 1) := by decide +kernel
theorem dX1_lookAhead_50 : decode cX1_lookAhead 50 = .ok (.iload 5, 2) := by decide +kernel
theorem dX1_lookAhead_52 : decode cX1_lookAhead 52 = .ok (.isub, 1) := by decide +kernel
theorem dX1_lookAhead_53 : decode cX1_lookAhead 53 = .ok (.invokevirtual 55, 3) := by decide +kernel
theorem dX1_lookAhead_56 : decode cX1_lookAhead 56 = .ok (.aload_n 0, 1) := by decide +kernel
theorem dX1_lookAhead_57 : decode cX1_lookAhead 57 = .ok (.iload 5, 2) := by decide +kernel
theorem dX1_lookAhead_59 : decode cX1_lookAhead 59 = .ok (.invokevirtual 121, 3) := by decide +kernel
theorem dX1_lookAhead_62 : decode cX1_lookAhead 62 = .ok (.iinc 5 1, 3) := by decide +kernel
theorem dX1_lookAhead_65 : decode cX1_lookAhead 65 = .ok (.goto (-40), 3) := by decide +kernel
theorem dX1_lookAhead_68 : decode cX1_lookAhead 68 = .ok (.aload_n 0, 1) := by decide +kernel
theorem dX1_lookAhead_69 : decode cX1_lookAhead 69 = .ok (.aload_n 1, 1) := by decide +kernel
theorem dX1_lookAhead_70 : decode cX1_lookAhead 70 = .ok (.aload_n 1, 1) := by decide +kernel
theorem dX1_lookAhead_71 : decode cX1_lookAhead 71 = .ok (.getfield 112, 3) := by decide +kernel
theorem dX1_lookAhead_74 : decode cX1_lookAhead 74 = .ok (.aload_n 1, 1) := by decide +kernel
theorem dX1_lookAhead_75 : decode cX1_lookAhead 75 = .ok (.getfield 118, 3) := by decide +kernel
theorem dX1_lookAhead_78 : decode cX1_lookAhead 78 = .ok (.invokevirtual 55, 3) := by decide +kernel
theorem dX1_lookAhead_81 : decode cX1_lookAhead 81 = .ok (.aload_n 0, 1) := by decide +kernel
theorem dX1_lookAhead_82 : decode cX1_lookAhead 82 = .ok (.iload_n 2, 1) := by decide +kernel
theorem dX1_lookAhead_83 : decode cX1_lookAhead 83 = .ok (.iconst 1, 1) := by decide +kernel
theorem dX1_lookAhead_84 : decode cX1_lookAhead 84 = .ok (.isub, 1) := by decide +kernel
theorem dX1_lookAhead_85 : decode cX1_lookAhead 85 = .ok (.putfield 124, 3) := by decide +kernel
theorem dX1_lookAhead_88 : decode cX1_lookAhead 88 = .ok (.return_, 1) := by decide +kernel
theorem dX1_fillWiseRow_0 : decode cX1_fillWiseRow 0 = .ok (.iload_n 1, 1) := by decide +kernel
theorem dX1_fillWiseRow_1 : decode cX1_fillWiseRow 1 = .ok (.iconst 1, 1) := by decide +kernel
theorem dX1_fillWiseRow_2 : decode cX1_fillWiseRow 2 = .ok (.iconst 5, 1) := by decide +kernel
theorem dX1_fillWiseRow_3 : decode cX1_fillWiseRow 3 = .ok (.invokestatic 32, 3) := by decide +kernel
theorem dX1_fillWiseRow_6 : decode cX1_fillWiseRow 6 = .ok (.ifCond .ne 4, 3) := by decide +kernel
theorem dX1_fillWiseRow_9 : decode cX1_fillWiseRow 9 = .ok (.return_, 1) := by decide +kernel
theorem dX1_fillWiseRow_10 : decode cX1_fillWiseRow 10 = .ok (.iconst 0, 1) := by decide +kernel
theorem dX1_fillWiseRow_11 : decode cX1_fillWiseRow 11 = .ok (.istore_n 2, 1) := by decide +kernel
theorem dX1_fillWiseRow_12 : decode cX1_fillWiseRow 12 = .ok (.iload_n 2, 1) := by decide +kernel
theorem dX1_fillWiseRow_13 : decode cX1_fillWiseRow 13 = .ok (.bipush 24, 2) := by decide +kernel
theorem dX1_fillWiseRow_15 : decode cX1_fillWiseRow 15 = .ok (.if_icmp .ge 23, 3) := by decide +kernel
theorem dX1_fillWiseRow_18 : decode cX1_fillWiseRow 18 = .ok (.aload_n 0, 1) := by decide +kernel
theorem dX1_fillWiseRow_19 : decode cX1_fillWiseRow 19 = .ok (.getfield 29, 3) := by decide +kernel
theorem dX1_fillWiseRow_22 : decode cX1_fillWiseRow 22 = .ok (.iload_n 2, 1) := by decide +kernel
theorem dX1_fillWiseRow_23 : decode cX1_fillWiseRow 23 = .ok (.aload_n 0, 1) := by decide +kernel
theorem dX1_fillWiseRow_24 : decode cX1_fillWiseRow 24 = .ok (.iload_n 1, 1) := by decide +kernel
theorem dX1_fillWiseRow_25 : decode cX1_fillWiseRow 25 = .ok (.iconst 1, 1) := by decide +kernel
theorem dX1_fillWiseRow_26 : decode cX1_fillWiseRow 26 = .ok (.isub, 1) := by decide +kernel
theorem dX1_fillWiseRow_27 : decode cX1_fillWiseRow 27 = .ok (.iload_n 2, 1) := by decide +kernel
theorem dX1_fillWiseRow_28 : decode cX1_fillWiseRow 28 = .ok (.invokevirtual 127, 3) := by decide +kernel
theorem dX1_fillWiseRow_31 : decode cX1_fillWiseRow 31 = .ok (.lastore, 1) := by decide +kernel
theorem dX1_fillWiseRow_32 : decode cX1_fillWiseRow 32 = .ok (.iinc 2 1, 3) := by decide +kernel
theorem dX1_fillWiseRow_35 : decode cX1_fillWiseRow 35 = .ok (.goto (-23), 3) := by decide +kernel
theorem dX1_fillWiseRow_38 : decode cX1_fillWiseRow 38 = .ok (.iconst 0, 1) := by decide +kernel
theorem dX1_fillWiseRow_39 : decode cX1_fillWiseRow 39 = .ok (.istore_n 2, 1) := by decide +kernel
theorem dX1_fillWiseRow_40 : decode cX1_fillWiseRow 40 = .ok (.iload_n 2, 1) := by decide +kernel
theorem dX1_fillWiseRow_41 : decode cX1_fillWiseRow 41 = .ok (.bipush 24, 2) := by decide +kernel
theorem dX1_fillWiseRow_43 : decode cX1_fillWiseRow 43 = .ok (.if_icmp .ge 90, 3) := by decide +kernel
theorem dX1_fillWiseRow_46 : decode cX1_fillWiseRow 46 = .ok (.ldc2_w 45, 3) := by decide +kernel
theorem dX1_fillWiseRow_49 : decode cX1_fillWiseRow 49 = .ok (.aload_n 0, 1) := by decide +kernel
theorem dX1_fillWiseRow_50 : decode cX1_fillWiseRow 50 = .ok (.getfield 29, 3) := by decide +kernel
theorem dX1_fillWiseRow_53 : decode cX1_fillWiseRow 53 = .ok (.iload_n 2, 1) := by decide +kernel
theorem dX1_fillWiseRow_54 : decode cX1_fillWiseRow 54 = .ok (.laload, 1) := by decide +kernel
theorem dX1_fillWiseRow_55 : decode cX1_fillWiseRow 55 = .ok (.lmul, 1) := by decide +kernel
theorem dX1_fillWiseRow_56 : decode cX1_fillWiseRow 56 = .ok (.lstore_n 3, 1) := by decide +kernel
theorem dX1_fillWiseRow_57 : decode cX1_fillWiseRow 57 = .ok (.aload_n 0, 1) := by decide +kernel
theorem dX1_fillWiseRow_58 : decode cX1_fillWiseRow 58 = .ok (.getfield 12, 3) := by decide +kernel
theorem dX1_fillWiseRow_61 : decode cX1_fillWiseRow 61 = .ok (.bipush 7, 2) := by decide +kernel
theorem dX1_fillWiseRow_63 : decode cX1_fillWiseRow 63 = .ok (.iload_n 2, 1) := by decide +kernel
theorem dX1_fillWiseRow_64 : decode cX1_fillWiseRow 64 = .ok (.invokevirtual 130, 3) := by decide +kernel
theorem dX1_fillWiseRow_67 : decode cX1_fillWiseRow 67 = .ok (.ifCond .eq 48, 3) := by decide +kernel
theorem dX1_fillWiseRow_70 : decode cX1_fillWiseRow 70 = .ok (.aload_n 0, 1) := by decide +kernel
theorem dX1_fillWiseRow_71 : decode cX1_fillWiseRow 71 = .ok (.aload_n 0, 1) := by decide +kernel
theorem dX1_fillWiseRow_72 : decode cX1_fillWiseRow 72 = .ok (.getfield 12, 3) := by decide +kernel
theorem dX1_fillWiseRow_75 : decode cX1_fillWiseRow 75 = .ok (.bipush 7, 2) := by decide +kernel
theorem dX1_fillWiseRow_77 : decode cX1_fillWiseRow 77 = .ok (.iload_n 2, 1) := by decide +kernel
theorem dX1_fillWiseRow_78 : decode cX1_fillWiseRow 78 = .ok (.invokevirtual 99, 3) := by decide +kernel
theorem dX1_fillWiseRow_81 : decode cX1_fillWiseRow 81 = .ok (.invokevirtual 134, 3) := by decide +kernel
theorem dX1_fillWiseRow_84 : decode cX1_fillWiseRow 84 = .ok (.lstore 5, 2) := by decide +kernel
theorem dX1_fillWiseRow_86 : decode cX1_fillWiseRow 86 = .ok (.aload_n 0, 1) := by decide +kernel
theorem dX1_fillWiseRow_87 : decode cX1_fillWiseRow 87 = .ok (.aload_n 0, 1) := by decide +kernel
theorem dX1_fillWiseRow_88 : decode cX1_fillWiseRow 88 = .ok (.getfield 12, 3) := by decide +kernel
theorem dX1_fillWiseRow_91 : decode cX1_fillWiseRow 91 = .ok (.bipush 8, 2) := by decide +kernel
theorem dX1_fillWiseRow_93 : decode cX1_fillWiseRow 93 = .ok (.iload_n 2, 1) := by decide +kernel
theorem dX1_fillWiseRow_94 : decode cX1_fillWiseRow 94 = .ok (.invokevirtual 99, 3) := by decide +kernel
theorem dX1_fillWiseRow_97 : decode cX1_fillWiseRow 97 = .ok (.invokevirtual 134, 3) := by decide +kernel
theorem dX1_fillWiseRow_100 : decode cX1_fillWiseRow 100 = .ok (.lstore 7, 2) := by decide +kernel
theorem dX1_fillWiseRow_102 : decode cX1_fillWiseRow 102 = .ok (.lload_n 3, 1) := by decide +kernel
theorem dX1_fillWiseRow_103 : decode cX1_fillWiseRow 103 = .ok (.aload_n 0, 1) := by decide +kernel
theorem dX1_fillWiseRow_104 : decode cX1_fillWiseRow 104 = .ok (.lload 5, 2) := by decide +kernel
theorem dX1_fillWiseRow_106 : decode cX1_fillWiseRow 106 = .ok (.lload 7, 2) := by decide +kernel
theorem dX1_fillWiseRow_108 : decode cX1_fillWiseRow 108 = .ok (.invokevirtual 137, 3) := by decide +kernel
theorem dX1_fillWiseRow_111 : decode cX1_fillWiseRow 111 = .ok (.invokestatic 141, 3) := by decide +kernel
theorem dX1_fillWiseRow_114 : decode cX1_fillWiseRow 114 = .ok (.lstore_n 3, 1) := by decide +kernel
theorem dX1_fillWiseRow_115 : decode cX1_fillWiseRow 115 = .ok (.aload_n 0, 1) := by decide +kernel
theorem dX1_fillWiseRow_116 : decode cX1_fillWiseRow 116 = .ok (.getfield 18, 3) := by decide +kernel
theorem dX1_fillWiseRow_119 : decode cX1_fillWiseRow 119 = .ok (.iload_n 1, 1) := by decide +kernel
theorem dX1_fillWiseRow_120 : decode cX1_fillWiseRow 120 = .ok (.bipush 25, 2) := by decide +kernel
theorem dX1_fillWiseRow_122 : decode cX1_fillWiseRow 122 = .ok (.imul, 1) := by decide +kernel
theorem dX1_fillWiseRow_123 : decode cX1_fillWiseRow 123 = .ok (.iload_n 2, 1) := by decide +kernel
theorem dX1_fillWiseRow_124 : decode cX1_fillWiseRow 124 = .ok (.iadd, 1) := by decide +kernel
theorem dX1_fillWiseRow_125 : decode cX1_fillWiseRow 125 = .ok (.lload_n 3, 1) := by decide +kernel
theorem dX1_fillWiseRow_126 : decode cX1_fillWiseRow 126 = .ok (.lastore, 1) := by decide +kernel
theorem dX1_fillWiseRow_127 : decode cX1_fillWiseRow 127 = .ok (.iinc 2 1, 3) := by decide +kernel
theorem dX1_fillWiseRow_130 : decode cX1_fillWiseRow 130 = .ok (.goto (-90), 3) := by decide +kernel
theorem dX1_fillWiseRow_133 : decode cX1_fillWiseRow 133 = .ok (.return_, 1) := by decide +kernel
theorem dX1_swingAt_0 : decode cX1_swingAt 0 = .ok (.iload_n 1, 1) := by decide +kernel
theorem dX1_swingAt_1 : decode cX1_swingAt 1 = .ok (.ifCond .lt 18, 3) := by decide +kernel
theorem dX1_swingAt_4 : decode cX1_swingAt 4 = .ok (.iload_n 1, 1) := by decide +kernel
theorem dX1_swingAt_5 : decode cX1_swingAt 5 = .ok (.bipush 24, 2) := by decide +kernel
theorem dX1_swingAt_7 : decode cX1_swingAt 7 = .ok (.if_icmp .gt 12, 3) := by decide +kernel
theorem dX1_swingAt_10 : decode cX1_swingAt 10 = .ok (.aload_n 0, 1) := by decide +kernel
theorem dX1_swingAt_11 : decode cX1_swingAt 11 = .ok (.getfield 29, 3) := by decide +kernel
theorem dX1_swingAt_14 : decode cX1_swingAt 14 = .ok (.iload_n 1, 1) := by decide +kernel
theorem dX1_swingAt_15 : decode cX1_swingAt 15 = .ok (.laload, 1) := by decide +kernel
theorem dX1_swingAt_16 : decode cX1_swingAt 16 = .ok (.goto 4, 3) := by decide +kernel
theorem dX1_swingAt_19 : decode cX1_swingAt 19 = .ok (.lconst 0, 1) := by decide +kernel
theorem dX1_swingAt_20 : decode cX1_swingAt 20 = .ok (.lreturn, 1) := by decide +kernel
theorem dX1_swingMean_0 : decode cX1_swingMean 0 = .ok (.iload_n 2, 1) := by decide +kernel
theorem dX1_swingMean_1 : decode cX1_swingMean 1 = .ok (.bipush 24, 2) := by decide +kernel
theorem dX1_swingMean_3 : decode cX1_swingMean 3 = .ok (.if_icmp .ne 7, 3) := by decide +kernel
theorem dX1_swingMean_6 : decode cX1_swingMean 6 = .ok (.lconst 0, 1) := by decide +kernel
theorem dX1_swingMean_7 : decode cX1_swingMean 7 = .ok (.goto 18, 3) := by decide +kernel
theorem dX1_swingMean_10 : decode cX1_swingMean 10 = .ok (.aload_n 0, 1) := by decide +kernel
theorem dX1_swingMean_11 : decode cX1_swingMean 11 = .ok (.iload_n 1, 1) := by decide +kernel
theorem dX1_swingMean_12 : decode cX1_swingMean 12 = .ok (.iload_n 2, 1) := by decide +kernel
theorem dX1_swingMean_13 : decode cX1_swingMean 13 = .ok (.invokevirtual 63, 3) := by decide +kernel
theorem dX1_swingMean_16 : decode cX1_swingMean 16 = .ok (.aload_n 0, 1) := by decide +kernel
theorem dX1_swingMean_17 : decode cX1_swingMean 17 = .ok (.iload_n 1, 1) := by decide +kernel
theorem dX1_swingMean_18 : decode cX1_swingMean 18 = .ok (.iload_n 2, 1) := by decide +kernel
theorem dX1_swingMean_19 : decode cX1_swingMean 19 = .ok (.invokevirtual 146, 3) := by decide +kernel
theorem dX1_swingMean_22 : decode cX1_swingMean 22 = .ok (.invokestatic 141, 3) := by decide +kernel
theorem dX1_swingMean_25 : decode cX1_swingMean 25 = .ok (.lreturn, 1) := by decide +kernel
theorem dX1_stealMean_0 : decode cX1_stealMean 0 = .ok (.aload_n 0, 1) := by decide +kernel
theorem dX1_stealMean_1 : decode cX1_stealMean 1 = .ok (.getfield 109, 3) := by decide +kernel
theorem dX1_stealMean_4 : decode cX1_stealMean 4 = .ok (.i2l, 1) := by decide +kernel
theorem dX1_stealMean_5 : decode cX1_stealMean 5 = .ok (.lload_n 1, 1) := by decide +kernel
theorem dX1_stealMean_6 : decode cX1_stealMean 6 = .ok (.lmul, 1) := by decide +kernel
theorem dX1_stealMean_7 : decode cX1_stealMean 7 = .ok (.bipush 20, 2) := by decide +kernel
theorem dX1_stealMean_9 : decode cX1_stealMean 9 = .ok (.aload_n 0, 1) := by decide +kernel
theorem dX1_stealMean_10 : decode cX1_stealMean 10 = .ok (.getfield 109, 3) := by decide +kernel
theorem dX1_stealMean_13 : decode cX1_stealMean 13 = .ok (.isub, 1) := by decide +kernel
theorem dX1_stealMean_14 : decode cX1_stealMean 14 = .ok (.i2l, 1) := by decide +kernel
theorem dX1_stealMean_15 : decode cX1_stealMean 15 = .ok (.lload_n 3, 1) := by decide +kernel
theorem dX1_stealMean_16 : decode cX1_stealMean 16 = .ok (.lmul, 1) := by decide +kernel
theorem dX1_stealMean_17 : decode cX1_stealMean 17 = .ok (.ladd, 1) := by decide +kernel
theorem dX1_stealMean_18 : decode cX1_stealMean 18 = .ok (.lreturn, 1) := by decide +kernel
theorem dX1_meanBy_0 : decode cX1_meanBy 0 = .ok (.iload_n 1, 1) := by decide +kernel
theorem dX1_meanBy_1 : decode cX1_meanBy 1 = .ok (.ifCond .ne 17, 3) := by decide +kernel
theorem dX1_meanBy_4 : decode cX1_meanBy 4 = .ok (.ldc2_w 45, 3) := by decide +kernel
theorem dX1_meanBy_7 : decode cX1_meanBy 7 = .ok (.aload_n 0, 1) := by decide +kernel
theorem dX1_meanBy_8 : decode cX1_meanBy 8 = .ok (.aload_n 0, 1) := by decide +kernel
theorem dX1_meanBy_9 : decode cX1_meanBy 9 = .ok (.getfield 124, 3) := by decide +kernel
theorem dX1_meanBy_12 : decode cX1_meanBy 12 = .ok (.iload_n 2, 1) := by decide +kernel
theorem dX1_meanBy_13 : decode cX1_meanBy 13 = .ok (.invokevirtual 63, 3) := by decide +kernel
theorem dX1_meanBy_16 : decode cX1_meanBy 16 = .ok (.lmul, 1) := by decide +kernel
theorem dX1_meanBy_17 : decode cX1_meanBy 17 = .ok (.lreturn, 1) := by decide +kernel
theorem dX1_meanBy_18 : decode cX1_meanBy 18 = .ok (.iload_n 1, 1) := by decide +kernel
theorem dX1_meanBy_19 : decode cX1_meanBy 19 = .ok (.iconst 1, 1) := by decide +kernel
theorem dX1_meanBy_20 : decode cX1_meanBy 20 = .ok (.if_icmp .ne 17, 3) := by decide +kernel
theorem dX1_meanBy_23 : decode cX1_meanBy 23 = .ok (.ldc2_w 45, 3) := by decide +kernel
theorem dX1_meanBy_26 : decode cX1_meanBy 26 = .ok (.aload_n 0, 1) := by decide +kernel
theorem dX1_meanBy_27 : decode cX1_meanBy 27 = .ok (.aload_n 0, 1) := by decide +kernel
theorem dX1_meanBy_28 : decode cX1_meanBy 28 = .ok (.getfield 124, 3) := by decide +kernel
theorem dX1_meanBy_31 : decode cX1_meanBy 31 = .ok (.iload_n 2, 1) := by decide +kernel
theorem dX1_meanBy_32 : decode cX1_meanBy 32 = .ok (.invokevirtual 146, 3) := by decide +kernel
theorem dX1_meanBy_35 : decode cX1_meanBy 35 = .ok (.lmul, 1) := by decide +kernel
theorem dX1_meanBy_36 : decode cX1_meanBy 36 = .ok (.lreturn, 1) := by decide +kernel
theorem dX1_meanBy_37 : decode cX1_meanBy 37 = .ok (.aload_n 0, 1) := by decide +kernel
theorem dX1_meanBy_38 : decode cX1_meanBy 38 = .ok (.getfield 12, 3) := by decide +kernel
theorem dX1_meanBy_41 : decode cX1_meanBy 41 = .ok (.bipush 7, 2) := by decide +kernel
theorem dX1_meanBy_43 : decode cX1_meanBy 43 = .ok (.iload_n 2, 1) := by decide +kernel
theorem dX1_meanBy_44 : decode cX1_meanBy 44 = .ok (.invokevirtual 130, 3) := by decide +kernel
theorem dX1_meanBy_47 : decode cX1_meanBy 47 = .ok (.ifCond .ne 7, 3) := by decide +kernel
theorem dX1_meanBy_50 : decode cX1_meanBy 50 = .ok (.ldc2_w 102, 3) := by decide +kernel
theorem dX1_meanBy_53 : decode cX1_meanBy 53 = .ok (.lreturn, 1) := by decide +kernel
theorem dX1_meanBy_54 : decode cX1_meanBy 54 = .ok (.aload_n 0, 1) := by decide +kernel
theorem dX1_meanBy_55 : decode cX1_meanBy 55 = .ok (.aload_n 0, 1) := by decide +kernel
theorem dX1_meanBy_56 : decode cX1_meanBy 56 = .ok (.getfield 124, 3) := by decide +kernel
theorem dX1_meanBy_59 : decode cX1_meanBy 59 = .ok (.aload_n 0, 1) := by decide +kernel
theorem dX1_meanBy_60 : decode cX1_meanBy 60 = .ok (.getfield 12, 3) := by decide +kernel
theorem dX1_meanBy_63 : decode cX1_meanBy 63 = .ok (.bipush 7, 2) := by decide +kernel
theorem dX1_meanBy_65 : decode cX1_meanBy 65 = .ok (.iload_n 2, 1) := by decide +kernel
theorem dX1_meanBy_66 : decode cX1_meanBy 66 = .ok (.invokevirtual 99, 3) := by decide +kernel
theorem dX1_meanBy_69 : decode cX1_meanBy 69 = .ok (.invokevirtual 127, 3) := by decide +kernel
theorem dX1_meanBy_72 : decode cX1_meanBy 72 = .ok (.lstore_n 3, 1) := by decide +kernel
theorem dX1_meanBy_73 : decode cX1_meanBy 73 = .ok (.aload_n 0, 1) := by decide +kernel
theorem dX1_meanBy_74 : decode cX1_meanBy 74 = .ok (.lload_n 3, 1) := by decide +kernel
theorem dX1_meanBy_75 : decode cX1_meanBy 75 = .ok (.aload_n 0, 1) := by decide +kernel
theorem dX1_meanBy_76 : decode cX1_meanBy 76 = .ok (.aload_n 0, 1) := by decide +kernel
theorem dX1_meanBy_77 : decode cX1_meanBy 77 = .ok (.getfield 124, 3) := by decide +kernel
theorem dX1_meanBy_80 : decode cX1_meanBy 80 = .ok (.aload_n 0, 1) := by decide +kernel
theorem dX1_meanBy_81 : decode cX1_meanBy 81 = .ok (.getfield 12, 3) := by decide +kernel
theorem dX1_meanBy_84 : decode cX1_meanBy 84 = .ok (.bipush 8, 2) := by decide +kernel
theorem dX1_meanBy_86 : decode cX1_meanBy 86 = .ok (.iload_n 2, 1) := by decide +kernel
theorem dX1_meanBy_87 : decode cX1_meanBy 87 = .ok (.invokevirtual 99, 3) := by decide +kernel
theorem dX1_meanBy_90 : decode cX1_meanBy 90 = .ok (.invokevirtual 127, 3) := by decide +kernel
theorem dX1_meanBy_93 : decode cX1_meanBy 93 = .ok (.invokevirtual 137, 3) := by decide +kernel
theorem dX1_meanBy_96 : decode cX1_meanBy 96 = .ok (.lreturn, 1) := by decide +kernel
theorem dX1_choiceIn_0 : decode cX1_choiceIn 0 = .ok (.aload_n 0, 1) := by decide +kernel
theorem dX1_choiceIn_1 : decode cX1_choiceIn 1 = .ok (.iload_n 1, 1) := by decide +kernel
theorem dX1_choiceIn_2 : decode cX1_choiceIn 2 = .ok (.invokevirtual 149, 3) := by decide +kernel
theorem dX1_choiceIn_5 : decode cX1_choiceIn 5 = .ok (.istore_n 2, 1) := by decide +kernel
theorem dX1_choiceIn_6 : decode cX1_choiceIn 6 = .ok (.aload_n 0, 1) := by decide +kernel
theorem dX1_choiceIn_7 : decode cX1_choiceIn 7 = .ok (.iconst 2, 1) := by decide +kernel
theorem dX1_choiceIn_8 : decode cX1_choiceIn 8 = .ok (.iload_n 1, 1) := by decide +kernel
theorem dX1_choiceIn_9 : decode cX1_choiceIn 9 = .ok (.invokevirtual 152, 3) := by decide +kernel
theorem dX1_choiceIn_12 : decode cX1_choiceIn 12 = .ok (.aload_n 0, 1) := by decide +kernel
theorem dX1_choiceIn_13 : decode cX1_choiceIn 13 = .ok (.iload_n 2, 1) := by decide +kernel
theorem dX1_choiceIn_14 : decode cX1_choiceIn 14 = .ok (.iload_n 1, 1) := by decide +kernel
theorem dX1_choiceIn_15 : decode cX1_choiceIn 15 = .ok (.invokevirtual 152, 3) := by decide +kernel
theorem dX1_choiceIn_18 : decode cX1_choiceIn 18 = .ok (.lcmp, 1) := by decide +kernel
theorem dX1_choiceIn_19 : decode cX1_choiceIn 19 = .ok (.ifCond .le 7, 3) := by decide +kernel
theorem dX1_choiceIn_22 : decode cX1_choiceIn 22 = .ok (.iconst 2, 1) := by decide +kernel
theorem dX1_choiceIn_23 : decode cX1_choiceIn 23 = .ok (.goto 4, 3) := by decide +kernel
theorem dX1_choiceIn_26 : decode cX1_choiceIn 26 = .ok (.iload_n 2, 1) := by decide +kernel
theorem dX1_choiceIn_27 : decode cX1_choiceIn 27 = .ok (.ireturn, 1) := by decide +kernel
theorem dX1_swingIn_0 : decode cX1_swingIn 0 = .ok (.aload_n 0, 1) := by decide +kernel
theorem dX1_swingIn_1 : decode cX1_swingIn 1 = .ok (.iconst 1, 1) := by decide +kernel
theorem dX1_swingIn_2 : decode cX1_swingIn 2 = .ok (.iload_n 1, 1) := by decide +kernel
theorem dX1_swingIn_3 : decode cX1_swingIn 3 = .ok (.invokevirtual 152, 3) := by decide +kernel
theorem dX1_swingIn_6 : decode cX1_swingIn 6 = .ok (.aload_n 0, 1) := by decide +kernel
theorem dX1_swingIn_7 : decode cX1_swingIn 7 = .ok (.iconst 0, 1) := by decide +kernel
theorem dX1_swingIn_8 : decode cX1_swingIn 8 = .ok (.iload_n 1, 1) := by decide +kernel
theorem dX1_swingIn_9 : decode cX1_swingIn 9 = .ok (.invokevirtual 152, 3) := by decide +kernel
theorem dX1_swingIn_12 : decode cX1_swingIn 12 = .ok (.lcmp, 1) := by decide +kernel
theorem dX1_swingIn_13 : decode cX1_swingIn 13 = .ok (.ifCond .le 7, 3) := by decide +kernel
theorem dX1_swingIn_16 : decode cX1_swingIn 16 = .ok (.iconst 1, 1) := by decide +kernel
theorem dX1_swingIn_17 : decode cX1_swingIn 17 = .ok (.goto 4, 3) := by decide +kernel
theorem dX1_swingIn_20 : decode cX1_swingIn 20 = .ok (.iconst 0, 1) := by decide +kernel
theorem dX1_swingIn_21 : decode cX1_swingIn 21 = .ok (.ireturn, 1) := by decide +kernel
theorem dX2_init_0 : decode cX2_init 0 = .ok (.aload_n 0, 1) := by decide +kernel
theorem dX2_init_1 : decode cX2_init 1 = .ok (.invokespecial 3, 3) := by decide +kernel
theorem dX2_init_4 : decode cX2_init 4 = .ok (.aload_n 0, 1) := by decide +kernel
theorem dX2_init_5 : decode cX2_init 5 = .ok (.sipush 216, 3) := by decide +kernel
theorem dX2_init_8 : decode cX2_init 8 = .ok (.newarray .int, 2) := by decide +kernel
theorem dX2_init_10 : decode cX2_init 10 = .ok (.putfield 9, 3) := by decide +kernel
theorem dX2_init_13 : decode cX2_init 13 = .ok (.aload_n 0, 1) := by decide +kernel
theorem dX2_init_14 : decode cX2_init 14 = .ok (.sipush 216, 3) := by decide +kernel
theorem dX2_init_17 : decode cX2_init 17 = .ok (.newarray .int, 2) := by decide +kernel
theorem dX2_init_19 : decode cX2_init 19 = .ok (.putfield 15, 3) := by decide +kernel
theorem dX2_init_22 : decode cX2_init 22 = .ok (.return_, 1) := by decide +kernel
theorem dX2_fit_0 : decode cX2_fit 0 = .ok (.iconst 0, 1) := by decide +kernel
theorem dX2_fit_1 : decode cX2_fit 1 = .ok (.istore 4, 2) := by decide +kernel
theorem dX2_fit_3 : decode cX2_fit 3 = .ok (.iload 4, 2) := by decide +kernel
theorem dX2_fit_5 : decode cX2_fit 5 = .ok (.bipush 9, 2) := by decide +kernel
theorem dX2_fit_7 : decode cX2_fit 7 = .ok (.if_icmp .ge 133, 3) := by decide +kernel
theorem dX2_fit_10 : decode cX2_fit 10 = .ok (.iconst 0, 1) := by decide +kernel
theorem dX2_fit_11 : decode cX2_fit 11 = .ok (.istore 5, 2) := by decide +kernel
theorem dX2_fit_13 : decode cX2_fit 13 = .ok (.iload 5, 2) := by decide +kernel
theorem dX2_fit_15 : decode cX2_fit 15 = .ok (.bipush 24, 2) := by decide +kernel
theorem dX2_fit_17 : decode cX2_fit 17 = .ok (.if_icmp .ge 117, 3) := by decide +kernel
theorem dX2_fit_20 : decode cX2_fit 20 = .ok (.aload_n 0, 1) := by decide +kernel
theorem dX2_fit_21 : decode cX2_fit 21 = .ok (.iload 5, 2) := by decide +kernel
theorem dX2_fit_23 : decode cX2_fit 23 = .ok (.invokestatic 18, 3) := by decide +kernel
theorem dX2_fit_26 : decode cX2_fit 26 = .ok (.putfield 22, 3) := by decide +kernel
theorem dX2_fit_29 : decode cX2_fit 29 = .ok (.aload_n 0, 1) := by decide +kernel
theorem dX2_fit_30 : decode cX2_fit 30 = .ok (.iload 5, 2) := by decide +kernel
theorem dX2_fit_32 : decode cX2_fit 32 = .ok (.invokestatic 26, 3) := by decide +kernel
theorem dX2_fit_35 : decode cX2_fit 35 = .ok (.putfield 29, 3) := by decide +kernel
theorem dX2_fit_38 : decode cX2_fit 38 = .ok (.aload_n 0, 1) := by decide +kernel
theorem dX2_fit_39 : decode cX2_fit 39 = .ok (.iconst 0, 1) := by decide +kernel
theorem dX2_fit_40 : decode cX2_fit 40 = .ok (.putfield 32, 3) := by decide +kernel
theorem dX2_fit_43 : decode cX2_fit 43 = .ok (.aload_n 0, 1) := by decide +kernel
theorem dX2_fit_44 : decode cX2_fit 44 = .ok (.iload 4, 2) := by decide +kernel
theorem dX2_fit_46 : decode cX2_fit 46 = .ok (.invokevirtual 35, 3) := by decide +kernel
theorem dX2_fit_49 : decode cX2_fit 49 = .ok (.istore 6, 2) := by decide +kernel
theorem dX2_fit_51 : decode cX2_fit 51 = .ok (.iload 6, 2) := by decide +kernel
theorem dX2_fit_53 : decode cX2_fit 53 = .ok (.ifCond .eq 12, 3) := by decide +kernel
theorem dX2_fit_56 : decode cX2_fit 56 = .ok (.aload_n 0, 1) := by decide +kernel
theorem dX2_fit_57 : decode cX2_fit 57 = .ok (.iload 4, 2) := by decide +kernel
theorem dX2_fit_59 : decode cX2_fit 59 = .ok (.iload_n 1, 1) := by decide +kernel
theorem dX2_fit_60 : decode cX2_fit 60 = .ok (.iload_n 2, 1) := by decide +kernel
theorem dX2_fit_61 : decode cX2_fit 61 = .ok (.iload_n 3, 1) := by decide +kernel
theorem dX2_fit_62 : decode cX2_fit 62 = .ok (.invokevirtual 39, 3) := by decide +kernel
theorem dX2_fit_65 : decode cX2_fit 65 = .ok (.aload_n 0, 1) := by decide +kernel
theorem dX2_fit_66 : decode cX2_fit 66 = .ok (.getfield 9, 3) := by decide +kernel
theorem dX2_fit_69 : decode cX2_fit 69 = .ok (.iload 4, 2) := by decide +kernel
theorem dX2_fit_71 : decode cX2_fit 71 = .ok (.bipush 24, 2) := by decide +kernel
theorem dX2_fit_73 : decode cX2_fit 73 = .ok (.imul, 1) := by decide +kernel
theorem dX2_fit_74 : decode cX2_fit 74 = .ok (.iload 5, 2) := by decide +kernel
theorem dX2_fit_76 : decode cX2_fit 76 = .ok (.iadd, 1) := by decide +kernel
theorem dX2_fit_77 : decode cX2_fit 77 = .ok (.iload 6, 2) := by decide +kernel
theorem dX2_fit_79 : decode cX2_fit 79 = .ok (.ifCond .ne 7, 3) := by decide +kernel
theorem dX2_fit_82 : decode cX2_fit 82 = .ok (.iconst (-1), 1) := by decide +kernel
theorem dX2_fit_83 : decode cX2_fit 83 = .ok (.goto 27, 3) := by decide +kernel
theorem dX2_fit_86 : decode cX2_fit 86 = .ok (.aload_n 0, 1) := by decide +kernel
theorem dX2_fit_87 : decode cX2_fit 87 = .ok (.getfield 29, 3) := by decide +kernel
theorem dX2_fit_90 : decode cX2_fit 90 = .ok (.iconst 2, 1) := by decide +kernel
theorem dX2_fit_91 : decode cX2_fit 91 = .ok (.if_icmp .le 8, 3) := by decide +kernel
theorem dX2_fit_94 : decode cX2_fit 94 = .ok (.bipush 24, 2) := by decide +kernel
theorem dX2_fit_96 : decode cX2_fit 96 = .ok (.goto 14, 3) := by decide +kernel
theorem dX2_fit_99 : decode cX2_fit 99 = .ok (.aload_n 0, 1) := by decide +kernel
theorem dX2_fit_100 : decode cX2_fit 100 = .ok (.getfield 22, 3) := by decide +kernel
theorem dX2_fit_103 : decode cX2_fit 103 = .ok (.aload_n 0, 1) := by decide +kernel
theorem dX2_fit_104 : decode cX2_fit 104 = .ok (.getfield 29, 3) := by decide +kernel
theorem dX2_fit_107 : decode cX2_fit 107 = .ok (.invokestatic 43, 3) := by decide +kernel
theorem dX2_fit_110 : decode cX2_fit 110 = .ok (.iastore, 1) := by decide +kernel
theorem dX2_fit_111 : decode cX2_fit 111 = .ok (.aload_n 0, 1) := by decide +kernel
theorem dX2_fit_112 : decode cX2_fit 112 = .ok (.getfield 15, 3) := by decide +kernel
theorem dX2_fit_115 : decode cX2_fit 115 = .ok (.iload 4, 2) := by decide +kernel
theorem dX2_fit_117 : decode cX2_fit 117 = .ok (.bipush 24, 2) := by decide +kernel
theorem dX2_fit_119 : decode cX2_fit 119 = .ok (.imul, 1) := by decide +kernel
theorem dX2_fit_120 : decode cX2_fit 120 = .ok (.iload 5, 2) := by decide +kernel
theorem dX2_fit_122 : decode cX2_fit 122 = .ok (.iadd, 1) := by decide +kernel
theorem dX2_fit_123 : decode cX2_fit 123 = .ok (.aload_n 0, 1) := by decide +kernel
theorem dX2_fit_124 : decode cX2_fit 124 = .ok (.getfield 32, 3) := by decide +kernel
theorem dX2_fit_127 : decode cX2_fit 127 = .ok (.iastore, 1) := by decide +kernel
theorem dX2_fit_128 : decode cX2_fit 128 = .ok (.iinc 5 1, 3) := by decide +kernel
theorem dX2_fit_131 : decode cX2_fit 131 = .ok (.goto (-118), 3) := by decide +kernel
theorem dX2_fit_134 : decode cX2_fit 134 = .ok (.iinc 4 1, 3) := by decide +kernel
theorem dX2_fit_137 : decode cX2_fit 137 = .ok (.goto (-134), 3) := by decide +kernel
theorem dX2_fit_140 : decode cX2_fit 140 = .ok (.return_, 1) := by decide +kernel
theorem dX2_canBe_0 : decode cX2_canBe 0 = .ok (.iload_n 1, 1) := by decide +kernel
theorem dX2_canBe_1 : decode cX2_canBe 1 = .ok (.bipush 6, 2) := by decide +kernel
theorem dX2_canBe_3 : decode cX2_canBe 3 = .ok (.if_icmp .ne 24, 3) := by decide +kernel
theorem dX2_canBe_6 : decode cX2_canBe 6 = .ok (.aload_n 0, 1) := by decide +kernel
theorem dX2_canBe_7 : decode cX2_canBe 7 = .ok (.getfield 22, 3) := by decide +kernel
theorem dX2_canBe_10 : decode cX2_canBe 10 = .ok (.ifCond .eq 15, 3) := by decide +kernel
theorem dX2_canBe_13 : decode cX2_canBe 13 = .ok (.aload_n 0, 1) := by decide +kernel
theorem dX2_canBe_14 : decode cX2_canBe 14 = .ok (.getfield 29, 3) := by decide +kernel
theorem dX2_canBe_17 : decode cX2_canBe 17 = .ok (.iconst 2, 1) := by decide +kernel
theorem dX2_canBe_18 : decode cX2_canBe 18 = .ok (.if_icmp .ge 7, 3) := by decide +kernel
theorem dX2_canBe_21 : decode cX2_canBe 21 = .ok (.iconst 1, 1) := by decide +kernel
theorem dX2_canBe_22 : decode cX2_canBe 22 = .ok (.goto 4, 3) := by decide +kernel
theorem dX2_canBe_25 : decode cX2_canBe 25 = .ok (.iconst 0, 1) := by decide +kernel
theorem dX2_canBe_26 : decode cX2_canBe 26 = .ok (.ireturn, 1) := by decide +kernel
theorem dX2_canBe_27 : decode cX2_canBe 27 = .ok (.iload_n 1, 1) := by decide +kernel
theorem dX2_canBe_28 : decode cX2_canBe 28 = .ok (.bipush 6, 2) := by decide +kernel
theorem dX2_canBe_30 : decode cX2_canBe 30 = .ok (.if_icmp .lt 13, 3) := by decide +kernel
theorem dX2_canBe_33 : decode cX2_canBe 33 = .ok (.aload_n 0, 1) := by decide +kernel
theorem dX2_canBe_34 : decode cX2_canBe 34 = .ok (.getfield 22, 3) := by decide +kernel
theorem dX2_canBe_37 : decode cX2_canBe 37 = .ok (.iconst 3, 1) := by decide +kernel
theorem dX2_canBe_38 : decode cX2_canBe 38 = .ok (.iand, 1) := by decide +kernel
theorem dX2_canBe_39 : decode cX2_canBe 39 = .ok (.iconst 1, 1) := by decide +kernel
theorem dX2_canBe_40 : decode cX2_canBe 40 = .ok (.if_icmp .ne 7, 3) := by decide +kernel
theorem dX2_canBe_43 : decode cX2_canBe 43 = .ok (.iconst 1, 1) := by decide +kernel
theorem dX2_canBe_44 : decode cX2_canBe 44 = .ok (.goto 4, 3) := by decide +kernel
theorem dX2_canBe_47 : decode cX2_canBe 47 = .ok (.iconst 0, 1) := by decide +kernel
theorem dX2_canBe_48 : decode cX2_canBe 48 = .ok (.ireturn, 1) := by decide +kernel
theorem dX2_move_0 : decode cX2_move 0 = .ok (.iload_n 1, 1) := by decide +kernel
theorem dX2_move_1 : decode cX2_move 1 = .ok (.tableswitch 166 0 7 #[47, 56, 63, 81, 99, 117, 135, 153], 47) := by decide +kernel
theorem dX2_move_48 : decode cX2_move 48 = .ok (.aload_n 0, 1) := by decide +kernel
theorem dX2_move_49 : decode cX2_move 49 = .ok (.iload 4, 2) := by decide +kernel
theorem dX2_move_51 : decode cX2_move 51 = .ok (.invokevirtual 47, 3) := by decide +kernel
theorem dX2_move_54 : decode cX2_move 54 = .ok (.goto 133, 3) := by decide +kernel
theorem dX2_move_57 : decode cX2_move 57 = .ok (.aload_n 0, 1) := by decide +kernel
theorem dX2_move_58 : decode cX2_move 58 = .ok (.invokevirtual 51, 3) := by decide +kernel
theorem dX2_move_61 : decode cX2_move 61 = .ok (.goto 126, 3) := by decide +kernel
theorem dX2_move_64 : decode cX2_move 64 = .ok (.aload_n 0, 1) := by decide +kernel
theorem dX2_move_65 : decode cX2_move 65 = .ok (.iload_n 2, 1) := by decide +kernel
theorem dX2_move_66 : decode cX2_move 66 = .ok (.invokevirtual 54, 3) := by decide +kernel
theorem dX2_move_69 : decode cX2_move 69 = .ok (.aload_n 0, 1) := by decide +kernel
theorem dX2_move_70 : decode cX2_move 70 = .ok (.dup, 1) := by decide +kernel
theorem dX2_move_71 : decode cX2_move 71 = .ok (.getfield 22, 3) := by decide +kernel
theorem dX2_move_74 : decode cX2_move 74 = .ok (.iconst 1, 1) := by decide +kernel
theorem dX2_move_75 : decode cX2_move 75 = .ok (.ior, 1) := by decide +kernel
theorem dX2_move_76 : decode cX2_move 76 = .ok (.putfield 22, 3) := by decide +kernel
theorem dX2_move_79 : decode cX2_move 79 = .ok (.goto 108, 3) := by decide +kernel
theorem dX2_move_82 : decode cX2_move 82 = .ok (.aload_n 0, 1) := by decide +kernel
theorem dX2_move_83 : decode cX2_move 83 = .ok (.iload_n 3, 1) := by decide +kernel
theorem dX2_move_84 : decode cX2_move 84 = .ok (.invokevirtual 54, 3) := by decide +kernel
theorem dX2_move_87 : decode cX2_move 87 = .ok (.aload_n 0, 1) := by decide +kernel
theorem dX2_move_88 : decode cX2_move 88 = .ok (.dup, 1) := by decide +kernel
theorem dX2_move_89 : decode cX2_move 89 = .ok (.getfield 22, 3) := by decide +kernel
theorem dX2_move_92 : decode cX2_move 92 = .ok (.iconst 2, 1) := by decide +kernel
theorem dX2_move_93 : decode cX2_move 93 = .ok (.ior, 1) := by decide +kernel
theorem dX2_move_94 : decode cX2_move 94 = .ok (.putfield 22, 3) := by decide +kernel
theorem dX2_move_97 : decode cX2_move 97 = .ok (.goto 90, 3) := by decide +kernel
theorem dX2_move_100 : decode cX2_move 100 = .ok (.aload_n 0, 1) := by decide +kernel
theorem dX2_move_101 : decode cX2_move 101 = .ok (.iconst 3, 1) := by decide +kernel
theorem dX2_move_102 : decode cX2_move 102 = .ok (.invokevirtual 54, 3) := by decide +kernel
theorem dX2_move_105 : decode cX2_move 105 = .ok (.aload_n 0, 1) := by decide +kernel
theorem dX2_move_106 : decode cX2_move 106 = .ok (.dup, 1) := by decide +kernel
theorem dX2_move_107 : decode cX2_move 107 = .ok (.getfield 22, 3) := by decide +kernel
theorem dX2_move_110 : decode cX2_move 110 = .ok (.iconst 4, 1) := by decide +kernel
theorem dX2_move_111 : decode cX2_move 111 = .ok (.ior, 1) := by decide +kernel
theorem dX2_move_112 : decode cX2_move 112 = .ok (.putfield 22, 3) := by decide +kernel
theorem dX2_move_115 : decode cX2_move 115 = .ok (.goto 72, 3) := by decide +kernel
theorem dX2_move_118 : decode cX2_move 118 = .ok (.aload_n 0, 1) := by decide +kernel
theorem dX2_move_119 : decode cX2_move 119 = .ok (.iconst 3, 1) := by decide +kernel
theorem dX2_move_120 : decode cX2_move 120 = .ok (.invokevirtual 54, 3) := by decide +kernel
theorem dX2_move_123 : decode cX2_move 123 = .ok (.aload_n 0, 1) := by decide +kernel
theorem dX2_move_124 : decode cX2_move 124 = .ok (.dup, 1) := by decide +kernel
theorem dX2_move_125 : decode cX2_move 125 = .ok (.getfield 32, 3) := by decide +kernel
theorem dX2_move_128 : decode cX2_move 128 = .ok (.iconst 1, 1) := by decide +kernel
theorem dX2_move_129 : decode cX2_move 129 = .ok (.iadd, 1) := by decide +kernel
theorem dX2_move_130 : decode cX2_move 130 = .ok (.putfield 32, 3) := by decide +kernel
theorem dX2_move_133 : decode cX2_move 133 = .ok (.goto 54, 3) := by decide +kernel
theorem dX2_move_136 : decode cX2_move 136 = .ok (.aload_n 0, 1) := by decide +kernel
theorem dX2_move_137 : decode cX2_move 137 = .ok (.dup, 1) := by decide +kernel
theorem dX2_move_138 : decode cX2_move 138 = .ok (.getfield 29, 3) := by decide +kernel
theorem dX2_move_141 : decode cX2_move 141 = .ok (.iconst 1, 1) := by decide +kernel
theorem dX2_move_142 : decode cX2_move 142 = .ok (.iadd, 1) := by decide +kernel
theorem dX2_move_143 : decode cX2_move 143 = .ok (.putfield 29, 3) := by decide +kernel
theorem dX2_move_146 : decode cX2_move 146 = .ok (.aload_n 0, 1) := by decide +kernel
theorem dX2_move_147 : decode cX2_move 147 = .ok (.iconst 1, 1) := by decide +kernel
theorem dX2_move_148 : decode cX2_move 148 = .ok (.invokevirtual 54, 3) := by decide +kernel
theorem dX2_move_151 : decode cX2_move 151 = .ok (.goto 36, 3) := by decide +kernel
theorem dX2_move_154 : decode cX2_move 154 = .ok (.aload_n 0, 1) := by decide +kernel
theorem dX2_move_155 : decode cX2_move 155 = .ok (.dup, 1) := by decide +kernel
theorem dX2_move_156 : decode cX2_move 156 = .ok (.getfield 22, 3) := by decide +kernel
theorem dX2_move_159 : decode cX2_move 159 = .ok (.iconst 1, 1) := by decide +kernel
theorem dX2_move_160 : decode cX2_move 160 = .ok (.iadd, 1) := by decide +kernel
theorem dX2_move_161 : decode cX2_move 161 = .ok (.putfield 22, 3) := by decide +kernel
theorem dX2_move_164 : decode cX2_move 164 = .ok (.goto 23, 3) := by decide +kernel
theorem dX2_move_167 : decode cX2_move 167 = .ok (.aload_n 0, 1) := by decide +kernel
theorem dX2_move_168 : decode cX2_move 168 = .ok (.dup, 1) := by decide +kernel
theorem dX2_move_169 : decode cX2_move 169 = .ok (.getfield 29, 3) := by decide +kernel
theorem dX2_move_172 : decode cX2_move 172 = .ok (.iconst 1, 1) := by decide +kernel
theorem dX2_move_173 : decode cX2_move 173 = .ok (.iadd, 1) := by decide +kernel
theorem dX2_move_174 : decode cX2_move 174 = .ok (.putfield 29, 3) := by decide +kernel
theorem dX2_move_177 : decode cX2_move 177 = .ok (.aload_n 0, 1) := by decide +kernel
theorem dX2_move_178 : decode cX2_move 178 = .ok (.dup, 1) := by decide +kernel
theorem dX2_move_179 : decode cX2_move 179 = .ok (.getfield 22, 3) := by decide +kernel
theorem dX2_move_182 : decode cX2_move 182 = .ok (.iconst 1, 1) := by decide +kernel
theorem dX2_move_183 : decode cX2_move 183 = .ok (.isub, 1) := by decide +kernel
theorem dX2_move_184 : decode cX2_move 184 = .ok (.putfield 22, 3) := by decide +kernel
theorem dX2_move_187 : decode cX2_move 187 = .ok (.return_, 1) := by decide +kernel
theorem dX2_putOut_0 : decode cX2_putOut 0 = .ok (.aload_n 0, 1) := by decide +kernel
theorem dX2_putOut_1 : decode cX2_putOut 1 = .ok (.dup, 1) := by decide +kernel
theorem dX2_putOut_2 : decode cX2_putOut 2 = .ok (.getfield 29, 3) := by decide +kernel
theorem dX2_putOut_5 : decode cX2_putOut 5 = .ok (.iconst 1, 1) := by decide +kernel
theorem dX2_putOut_6 : decode cX2_putOut 6 = .ok (.iadd, 1) := by decide +kernel
theorem dX2_putOut_7 : decode cX2_putOut 7 = .ok (.putfield 29, 3) := by decide +kernel
theorem dX2_putOut_10 : decode cX2_putOut 10 = .ok (.iload_n 1, 1) := by decide +kernel
theorem dX2_putOut_11 : decode cX2_putOut 11 = .ok (.iconst 1, 1) := by decide +kernel
theorem dX2_putOut_12 : decode cX2_putOut 12 = .ok (.if_icmp .ne 35, 3) := by decide +kernel
theorem dX2_putOut_15 : decode cX2_putOut 15 = .ok (.aload_n 0, 1) := by decide +kernel
theorem dX2_putOut_16 : decode cX2_putOut 16 = .ok (.getfield 29, 3) := by decide +kernel
theorem dX2_putOut_19 : decode cX2_putOut 19 = .ok (.iconst 3, 1) := by decide +kernel
theorem dX2_putOut_20 : decode cX2_putOut 20 = .ok (.if_icmp .ge 27, 3) := by decide +kernel
theorem dX2_putOut_23 : decode cX2_putOut 23 = .ok (.aload_n 0, 1) := by decide +kernel
theorem dX2_putOut_24 : decode cX2_putOut 24 = .ok (.getfield 22, 3) := by decide +kernel
theorem dX2_putOut_27 : decode cX2_putOut 27 = .ok (.iconst 4, 1) := by decide +kernel
theorem dX2_putOut_28 : decode cX2_putOut 28 = .ok (.iand, 1) := by decide +kernel
theorem dX2_putOut_29 : decode cX2_putOut 29 = .ok (.ifCond .eq 18, 3) := by decide +kernel
theorem dX2_putOut_32 : decode cX2_putOut 32 = .ok (.aload_n 0, 1) := by decide +kernel
theorem dX2_putOut_33 : decode cX2_putOut 33 = .ok (.dup, 1) := by decide +kernel
theorem dX2_putOut_34 : decode cX2_putOut 34 = .ok (.getfield 22, 3) := by decide +kernel
theorem dX2_putOut_37 : decode cX2_putOut 37 = .ok (.iconst 4, 1) := by decide +kernel
theorem dX2_putOut_38 : decode cX2_putOut 38 = .ok (.isub, 1) := by decide +kernel
theorem dX2_putOut_39 : decode cX2_putOut 39 = .ok (.putfield 22, 3) := by decide +kernel
theorem dX2_putOut_42 : decode cX2_putOut 42 = .ok (.aload_n 0, 1) := by decide +kernel
theorem dX2_putOut_43 : decode cX2_putOut 43 = .ok (.iconst 1, 1) := by decide +kernel
theorem dX2_putOut_44 : decode cX2_putOut 44 = .ok (.putfield 32, 3) := by decide +kernel
theorem dX2_putOut_47 : decode cX2_putOut 47 = .ok (.return_, 1) := by decide +kernel
theorem dX2_walk_0 : decode cX2_walk 0 = .ok (.aload_n 0, 1) := by decide +kernel
theorem dX2_walk_1 : decode cX2_walk 1 = .ok (.getfield 22, 3) := by decide +kernel
theorem dX2_walk_4 : decode cX2_walk 4 = .ok (.iconst 1, 1) := by decide +kernel
theorem dX2_walk_5 : decode cX2_walk 5 = .ok (.iand, 1) := by decide +kernel
theorem dX2_walk_6 : decode cX2_walk 6 = .ok (.ifCond .ne 16, 3) := by decide +kernel
theorem dX2_walk_9 : decode cX2_walk 9 = .ok (.aload_n 0, 1) := by decide +kernel
theorem dX2_walk_10 : decode cX2_walk 10 = .ok (.dup, 1) := by decide +kernel
theorem dX2_walk_11 : decode cX2_walk 11 = .ok (.getfield 22, 3) := by decide +kernel
theorem dX2_walk_14 : decode cX2_walk 14 = .ok (.iconst 1, 1) := by decide +kernel
theorem dX2_walk_15 : decode cX2_walk 15 = .ok (.ior, 1) := by decide +kernel
theorem dX2_walk_16 : decode cX2_walk 16 = .ok (.putfield 22, 3) := by decide +kernel
theorem dX2_walk_19 : decode cX2_walk 19 = .ok (.goto 52, 3) := by decide +kernel
theorem dX2_walk_22 : decode cX2_walk 22 = .ok (.aload_n 0, 1) := by decide +kernel
theorem dX2_walk_23 : decode cX2_walk 23 = .ok (.getfield 22, 3) := by decide +kernel
theorem dX2_walk_26 : decode cX2_walk 26 = .ok (.iconst 2, 1) := by decide +kernel
theorem dX2_walk_27 : decode cX2_walk 27 = .ok (.iand, 1) := by decide +kernel
theorem dX2_walk_28 : decode cX2_walk 28 = .ok (.ifCond .ne 16, 3) := by decide +kernel
theorem dX2_walk_31 : decode cX2_walk 31 = .ok (.aload_n 0, 1) := by decide +kernel
theorem dX2_walk_32 : decode cX2_walk 32 = .ok (.dup, 1) := by decide +kernel
theorem dX2_walk_33 : decode cX2_walk 33 = .ok (.getfield 22, 3) := by decide +kernel
theorem dX2_walk_36 : decode cX2_walk 36 = .ok (.iconst 2, 1) := by decide +kernel
theorem dX2_walk_37 : decode cX2_walk 37 = .ok (.ior, 1) := by decide +kernel
theorem dX2_walk_38 : decode cX2_walk 38 = .ok (.putfield 22, 3) := by decide +kernel
theorem dX2_walk_41 : decode cX2_walk 41 = .ok (.goto 30, 3) := by decide +kernel
theorem dX2_walk_44 : decode cX2_walk 44 = .ok (.aload_n 0, 1) := by decide +kernel
theorem dX2_walk_45 : decode cX2_walk 45 = .ok (.getfield 22, 3) := by decide +kernel
theorem dX2_walk_48 : decode cX2_walk 48 = .ok (.iconst 4, 1) := by decide +kernel
theorem dX2_walk_49 : decode cX2_walk 49 = .ok (.iand, 1) := by decide +kernel
theorem dX2_walk_50 : decode cX2_walk 50 = .ok (.ifCond .ne 16, 3) := by decide +kernel
theorem dX2_walk_53 : decode cX2_walk 53 = .ok (.aload_n 0, 1) := by decide +kernel
theorem dX2_walk_54 : decode cX2_walk 54 = .ok (.dup, 1) := by decide +kernel
theorem dX2_walk_55 : decode cX2_walk 55 = .ok (.getfield 22, 3) := by decide +kernel
theorem dX2_walk_58 : decode cX2_walk 58 = .ok (.iconst 4, 1) := by decide +kernel
theorem dX2_walk_59 : decode cX2_walk 59 = .ok (.ior, 1) := by decide +kernel
theorem dX2_walk_60 : decode cX2_walk 60 = .ok (.putfield 22, 3) := by decide +kernel
theorem dX2_walk_63 : decode cX2_walk 63 = .ok (.goto 8, 3) := by decide +kernel
theorem dX2_walk_66 : decode cX2_walk 66 = .ok (.aload_n 0, 1) := by decide +kernel
theorem dX2_walk_67 : decode cX2_walk 67 = .ok (.iconst 1, 1) := by decide +kernel
theorem dX2_walk_68 : decode cX2_walk 68 = .ok (.putfield 32, 3) := by decide +kernel
theorem dX2_walk_71 : decode cX2_walk 71 = .ok (.return_, 1) := by decide +kernel
theorem dX2_comeOn_0 : decode cX2_comeOn 0 = .ok (.aload_n 0, 1) := by decide +kernel
theorem dX2_comeOn_1 : decode cX2_comeOn 1 = .ok (.getfield 22, 3) := by decide +kernel
theorem dX2_comeOn_4 : decode cX2_comeOn 4 = .ok (.iload_n 1, 1) := by decide +kernel
theorem dX2_comeOn_5 : decode cX2_comeOn 5 = .ok (.ishl, 1) := by decide +kernel
theorem dX2_comeOn_6 : decode cX2_comeOn 6 = .ok (.istore_n 2, 1) := by decide +kernel
theorem dX2_comeOn_7 : decode cX2_comeOn 7 = .ok (.aload_n 0, 1) := by decide +kernel
theorem dX2_comeOn_8 : decode cX2_comeOn 8 = .ok (.iload_n 2, 1) := by decide +kernel
theorem dX2_comeOn_9 : decode cX2_comeOn 9 = .ok (.iconst 3, 1) := by decide +kernel
theorem dX2_comeOn_10 : decode cX2_comeOn 10 = .ok (.ishr, 1) := by decide +kernel
theorem dX2_comeOn_11 : decode cX2_comeOn 11 = .ok (.invokestatic 57, 3) := by decide +kernel
theorem dX2_comeOn_14 : decode cX2_comeOn 14 = .ok (.putfield 32, 3) := by decide +kernel
theorem dX2_comeOn_17 : decode cX2_comeOn 17 = .ok (.aload_n 0, 1) := by decide +kernel
theorem dX2_comeOn_18 : decode cX2_comeOn 18 = .ok (.iload_n 2, 1) := by decide +kernel
theorem dX2_comeOn_19 : decode cX2_comeOn 19 = .ok (.bipush 7, 2) := by decide +kernel
theorem dX2_comeOn_21 : decode cX2_comeOn 21 = .ok (.iand, 1) := by decide +kernel
theorem dX2_comeOn_22 : decode cX2_comeOn 22 = .ok (.putfield 22, 3) := by decide +kernel
theorem dX2_comeOn_25 : decode cX2_comeOn 25 = .ok (.return_, 1) := by decide +kernel
theorem dX2_can_0 : decode cX2_can 0 = .ok (.aload_n 0, 1) := by decide +kernel
theorem dX2_can_1 : decode cX2_can 1 = .ok (.iload_n 1, 1) := by decide +kernel
theorem dX2_can_2 : decode cX2_can 2 = .ok (.iload_n 2, 1) := by decide +kernel
theorem dX2_can_3 : decode cX2_can 3 = .ok (.invokevirtual 62, 3) := by decide +kernel
theorem dX2_can_6 : decode cX2_can 6 = .ok (.iconst (-1), 1) := by decide +kernel
theorem dX2_can_7 : decode cX2_can 7 = .ok (.if_icmp .eq 7, 3) := by decide +kernel
theorem dX2_can_10 : decode cX2_can 10 = .ok (.iconst 1, 1) := by decide +kernel
theorem dX2_can_11 : decode cX2_can 11 = .ok (.goto 4, 3) := by decide +kernel
theorem dX2_can_14 : decode cX2_can 14 = .ok (.iconst 0, 1) := by decide +kernel
theorem dX2_can_15 : decode cX2_can 15 = .ok (.ireturn, 1) := by decide +kernel
theorem dX2_canChoose_0 : decode cX2_canChoose 0 = .ok (.iload_n 1, 1) := by decide +kernel
theorem dX2_canChoose_1 : decode cX2_canChoose 1 = .ok (.ifCond .eq 23, 3) := by decide +kernel
theorem dX2_canChoose_4 : decode cX2_canChoose 4 = .ok (.aload_n 0, 1) := by decide +kernel
theorem dX2_canChoose_5 : decode cX2_canChoose 5 = .ok (.iload_n 1, 1) := by decide +kernel
theorem dX2_canChoose_6 : decode cX2_canChoose 6 = .ok (.iconst 1, 1) := by decide +kernel
theorem dX2_canChoose_7 : decode cX2_canChoose 7 = .ok (.if_icmp .ne 8, 3) := by decide +kernel
theorem dX2_canChoose_10 : decode cX2_canChoose 10 = .ok (.bipush 6, 2) := by decide +kernel
theorem dX2_canChoose_12 : decode cX2_canChoose 12 = .ok (.goto 5, 3) := by decide +kernel
theorem dX2_canChoose_15 : decode cX2_canChoose 15 = .ok (.bipush 7, 2) := by decide +kernel
theorem dX2_canChoose_17 : decode cX2_canChoose 17 = .ok (.iload_n 2, 1) := by decide +kernel
theorem dX2_canChoose_18 : decode cX2_canChoose 18 = .ok (.invokevirtual 65, 3) := by decide +kernel
theorem dX2_canChoose_21 : decode cX2_canChoose 21 = .ok (.ifCond .eq 7, 3) := by decide +kernel
theorem dX2_canChoose_24 : decode cX2_canChoose 24 = .ok (.iconst 1, 1) := by decide +kernel
theorem dX2_canChoose_25 : decode cX2_canChoose 25 = .ok (.goto 4, 3) := by decide +kernel
theorem dX2_canChoose_28 : decode cX2_canChoose 28 = .ok (.iconst 0, 1) := by decide +kernel
theorem dX2_canChoose_29 : decode cX2_canChoose 29 = .ok (.ireturn, 1) := by decide +kernel
theorem dX2_behind_0 : decode cX2_behind 0 = .ok (.iload_n 1, 1) := by decide +kernel
theorem dX2_behind_1 : decode cX2_behind 1 = .ok (.ifCond .lt 33, 3) := by decide +kernel
theorem dX2_behind_4 : decode cX2_behind 4 = .ok (.iload_n 1, 1) := by decide +kernel
theorem dX2_behind_5 : decode cX2_behind 5 = .ok (.bipush 9, 2) := by decide +kernel
theorem dX2_behind_7 : decode cX2_behind 7 = .ok (.if_icmp .ge 27, 3) := by decide +kernel
theorem dX2_behind_10 : decode cX2_behind 10 = .ok (.iload_n 2, 1) := by decide +kernel
theorem dX2_behind_11 : decode cX2_behind 11 = .ok (.ifCond .lt 23, 3) := by decide +kernel
theorem dX2_behind_14 : decode cX2_behind 14 = .ok (.iload_n 2, 1) := by decide +kernel
theorem dX2_behind_15 : decode cX2_behind 15 = .ok (.bipush 24, 2) := by decide +kernel
theorem dX2_behind_17 : decode cX2_behind 17 = .ok (.if_icmp .ge 17, 3) := by decide +kernel
theorem dX2_behind_20 : decode cX2_behind 20 = .ok (.aload_n 0, 1) := by decide +kernel
theorem dX2_behind_21 : decode cX2_behind 21 = .ok (.getfield 9, 3) := by decide +kernel
theorem dX2_behind_24 : decode cX2_behind 24 = .ok (.iload_n 1, 1) := by decide +kernel
theorem dX2_behind_25 : decode cX2_behind 25 = .ok (.bipush 24, 2) := by decide +kernel
theorem dX2_behind_27 : decode cX2_behind 27 = .ok (.imul, 1) := by decide +kernel
theorem dX2_behind_28 : decode cX2_behind 28 = .ok (.iload_n 2, 1) := by decide +kernel
theorem dX2_behind_29 : decode cX2_behind 29 = .ok (.iadd, 1) := by decide +kernel
theorem dX2_behind_30 : decode cX2_behind 30 = .ok (.iaload, 1) := by decide +kernel
theorem dX2_behind_31 : decode cX2_behind 31 = .ok (.goto 4, 3) := by decide +kernel
theorem dX2_behind_34 : decode cX2_behind 34 = .ok (.iconst (-1), 1) := by decide +kernel
theorem dX2_behind_35 : decode cX2_behind 35 = .ok (.ireturn, 1) := by decide +kernel
theorem dX2_runsBy_0 : decode cX2_runsBy 0 = .ok (.iload_n 1, 1) := by decide +kernel
theorem dX2_runsBy_1 : decode cX2_runsBy 1 = .ok (.ifCond .lt 33, 3) := by decide +kernel
theorem dX2_runsBy_4 : decode cX2_runsBy 4 = .ok (.iload_n 1, 1) := by decide +kernel
theorem dX2_runsBy_5 : decode cX2_runsBy 5 = .ok (.bipush 9, 2) := by decide +kernel
theorem dX2_runsBy_7 : decode cX2_runsBy 7 = .ok (.if_icmp .ge 27, 3) := by decide +kernel
theorem dX2_runsBy_10 : decode cX2_runsBy 10 = .ok (.iload_n 2, 1) := by decide +kernel
theorem dX2_runsBy_11 : decode cX2_runsBy 11 = .ok (.ifCond .lt 23, 3) := by decide +kernel
theorem dX2_runsBy_14 : decode cX2_runsBy 14 = .ok (.iload_n 2, 1) := by decide +kernel
theorem dX2_runsBy_15 : decode cX2_runsBy 15 = .ok (.bipush 24, 2) := by decide +kernel
theorem dX2_runsBy_17 : decode cX2_runsBy 17 = .ok (.if_icmp .ge 17, 3) := by decide +kernel
theorem dX2_runsBy_20 : decode cX2_runsBy 20 = .ok (.aload_n 0, 1) := by decide +kernel
theorem dX2_runsBy_21 : decode cX2_runsBy 21 = .ok (.getfield 15, 3) := by decide +kernel
theorem dX2_runsBy_24 : decode cX2_runsBy 24 = .ok (.iload_n 1, 1) := by decide +kernel
theorem dX2_runsBy_25 : decode cX2_runsBy 25 = .ok (.bipush 24, 2) := by decide +kernel
theorem dX2_runsBy_27 : decode cX2_runsBy 27 = .ok (.imul, 1) := by decide +kernel
theorem dX2_runsBy_28 : decode cX2_runsBy 28 = .ok (.iload_n 2, 1) := by decide +kernel
theorem dX2_runsBy_29 : decode cX2_runsBy 29 = .ok (.iadd, 1) := by decide +kernel
theorem dX2_runsBy_30 : decode cX2_runsBy 30 = .ok (.iaload, 1) := by decide +kernel
theorem dX2_runsBy_31 : decode cX2_runsBy 31 = .ok (.goto 4, 3) := by decide +kernel
theorem dX2_runsBy_34 : decode cX2_runsBy 34 = .ok (.iconst 0, 1) := by decide +kernel
theorem dX2_runsBy_35 : decode cX2_runsBy 35 = .ok (.ireturn, 1) := by decide +kernel
theorem dX3_init_0 : decode cX3_init 0 = .ok (.aload_n 0, 1) := by decide +kernel
theorem dX3_init_1 : decode cX3_init 1 = .ok (.invokespecial 3, 3) := by decide +kernel
theorem dX3_init_4 : decode cX3_init 4 = .ok (.aload_n 0, 1) := by decide +kernel
theorem dX3_init_5 : decode cX3_init 5 = .ok (.iconst 3, 1) := by decide +kernel
theorem dX3_init_6 : decode cX3_init 6 = .ok (.newarray .int, 2) := by decide +kernel
theorem dX3_init_8 : decode cX3_init 8 = .ok (.putfield 9, 3) := by decide +kernel
theorem dX3_init_11 : decode cX3_init 11 = .ok (.aload_n 0, 1) := by decide +kernel
theorem dX3_init_12 : decode cX3_init 12 = .ok (.bipush 9, 2) := by decide +kernel
theorem dX3_init_14 : decode cX3_init 14 = .ok (.newarray .int, 2) := by decide +kernel
theorem dX3_init_16 : decode cX3_init 16 = .ok (.putfield 15, 3) := by decide +kernel
theorem dX3_init_19 : decode cX3_init 19 = .ok (.return_, 1) := by decide +kernel
theorem dX3_worthNow_0 : decode cX3_worthNow 0 = .ok (.aload_n 1, 1) := by decide +kernel
theorem dX3_worthNow_1 : decode cX3_worthNow 1 = .ok (.aload_n 2, 1) := by decide +kernel
theorem dX3_worthNow_2 : decode cX3_worthNow 2 = .ok (.iconst 0, 1) := by decide +kernel
theorem dX3_worthNow_3 : decode cX3_worthNow 3 = .ok (.iconst 0, 1) := by decide +kernel
theorem dX3_worthNow_4 : decode cX3_worthNow 4 = .ok (.iload_n 3, 1) := by decide +kernel
theorem dX3_worthNow_5 : decode cX3_worthNow 5 = .ok (.iconst 0, 1) := by decide +kernel
theorem dX3_worthNow_6 : decode cX3_worthNow 6 = .ok (.invokevirtual 18, 3) := by decide +kernel
theorem dX3_worthNow_9 : decode cX3_worthNow 9 = .ok (.lreturn, 1) := by decide +kernel
theorem dX3_worthExchanged_0 : decode cX3_worthExchanged 0 = .ok (.aload_n 2, 1) := by decide +kernel
theorem dX3_worthExchanged_1 : decode cX3_worthExchanged 1 = .ok (.iload_n 3, 1) := by decide +kernel
theorem dX3_worthExchanged_2 : decode cX3_worthExchanged 2 = .ok (.iload 4, 2) := by decide +kernel
theorem dX3_worthExchanged_4 : decode cX3_worthExchanged 4 = .ok (.invokevirtual 24, 3) := by decide +kernel
theorem dX3_worthExchanged_7 : decode cX3_worthExchanged 7 = .ok (.aload_n 1, 1) := by decide +kernel
theorem dX3_worthExchanged_8 : decode cX3_worthExchanged 8 = .ok (.aload_n 2, 1) := by decide +kernel
theorem dX3_worthExchanged_9 : decode cX3_worthExchanged 9 = .ok (.iconst 0, 1) := by decide +kernel
theorem dX3_worthExchanged_10 : decode cX3_worthExchanged 10 = .ok (.iconst 0, 1) := by decide +kernel
theorem dX3_worthExchanged_11 : decode cX3_worthExchanged 11 = .ok (.iload 5, 2) := by decide +kernel
theorem dX3_worthExchanged_13 : decode cX3_worthExchanged 13 = .ok (.iconst 0, 1) := by decide +kernel
theorem dX3_worthExchanged_14 : decode cX3_worthExchanged 14 = .ok (.invokevirtual 18, 3) := by decide +kernel
theorem dX3_worthExchanged_17 : decode cX3_worthExchanged 17 = .ok (.lstore 6, 2) := by decide +kernel
theorem dX3_worthExchanged_19 : decode cX3_worthExchanged 19 = .ok (.aload_n 2, 1) := by decide +kernel
theorem dX3_worthExchanged_20 : decode cX3_worthExchanged 20 = .ok (.iload_n 3, 1) := by decide +kernel
theorem dX3_worthExchanged_21 : decode cX3_worthExchanged 21 = .ok (.iload 4, 2) := by decide +kernel
theorem dX3_worthExchanged_23 : decode cX3_worthExchanged 23 = .ok (.invokevirtual 24, 3) := by decide +kernel
theorem dX3_worthExchanged_26 : decode cX3_worthExchanged 26 = .ok (.lload 6, 2) := by decide +kernel
theorem dX3_worthExchanged_28 : decode cX3_worthExchanged 28 = .ok (.lreturn, 1) := by decide +kernel
theorem dX3_improve_0 : decode cX3_improve 0 = .ok (.aload_n 0, 1) := by decide +kernel
theorem dX3_improve_1 : decode cX3_improve 1 = .ok (.aload_n 1, 1) := by decide +kernel
theorem dX3_improve_2 : decode cX3_improve 2 = .ok (.aload_n 2, 1) := by decide +kernel
theorem dX3_improve_3 : decode cX3_improve 3 = .ok (.iload_n 3, 1) := by decide +kernel
theorem dX3_improve_4 : decode cX3_improve 4 = .ok (.invokevirtual 30, 3) := by decide +kernel
theorem dX3_improve_7 : decode cX3_improve 7 = .ok (.lstore 4, 2) := by decide +kernel
theorem dX3_improve_9 : decode cX3_improve 9 = .ok (.iconst (-1), 1) := by decide +kernel
theorem dX3_improve_10 : decode cX3_improve 10 = .ok (.istore 6, 2) := by decide +kernel
theorem dX3_improve_12 : decode cX3_improve 12 = .ok (.iconst (-1), 1) := by decide +kernel
theorem dX3_improve_13 : decode cX3_improve 13 = .ok (.istore 7, 2) := by decide +kernel
theorem dX3_improve_15 : decode cX3_improve 15 = .ok (.iconst 0, 1) := by decide +kernel
theorem dX3_improve_16 : decode cX3_improve 16 = .ok (.istore 8, 2) := by decide +kernel
theorem dX3_improve_18 : decode cX3_improve 18 = .ok (.iload 8, 2) := by decide +kernel
theorem dX3_improve_20 : decode cX3_improve 20 = .ok (.aload_n 2, 1) := by decide +kernel
theorem dX3_improve_21 : decode cX3_improve 21 = .ok (.getfield 34, 3) := by decide +kernel
theorem dX3_improve_24 : decode cX3_improve 24 = .ok (.if_icmp .ge 69, 3) := by decide +kernel
theorem dX3_improve_27 : decode cX3_improve 27 = .ok (.iload 8, 2) := by decide +kernel
theorem dX3_improve_29 : decode cX3_improve 29 = .ok (.iload_n 3, 1) := by decide +kernel
theorem dX3_improve_30 : decode cX3_improve 30 = .ok (.if_icmp .ge 63, 3) := by decide +kernel
theorem dX3_improve_33 : decode cX3_improve 33 = .ok (.iload 8, 2) := by decide +kernel
theorem dX3_improve_35 : decode cX3_improve 35 = .ok (.iconst 1, 1) := by decide +kernel
theorem dX3_improve_36 : decode cX3_improve 36 = .ok (.iadd, 1) := by decide +kernel
theorem dX3_improve_37 : decode cX3_improve 37 = .ok (.istore 9, 2) := by decide +kernel
theorem dX3_improve_39 : decode cX3_improve 39 = .ok (.iload 9, 2) := by decide +kernel
theorem dX3_improve_41 : decode cX3_improve 41 = .ok (.aload_n 2, 1) := by decide +kernel
theorem dX3_improve_42 : decode cX3_improve 42 = .ok (.getfield 34, 3) := by decide +kernel
theorem dX3_improve_45 : decode cX3_improve 45 = .ok (.if_icmp .ge 42, 3) := by decide +kernel
theorem dX3_improve_48 : decode cX3_improve 48 = .ok (.aload_n 0, 1) := by decide +kernel
theorem dX3_improve_49 : decode cX3_improve 49 = .ok (.aload_n 1, 1) := by decide +kernel
theorem dX3_improve_50 : decode cX3_improve 50 = .ok (.aload_n 2, 1) := by decide +kernel
theorem dX3_improve_51 : decode cX3_improve 51 = .ok (.iload 8, 2) := by decide +kernel
theorem dX3_improve_53 : decode cX3_improve 53 = .ok (.iload 9, 2) := by decide +kernel
theorem dX3_improve_55 : decode cX3_improve 55 = .ok (.iload_n 3, 1) := by decide +kernel
theorem dX3_improve_56 : decode cX3_improve 56 = .ok (.invokevirtual 38, 3) := by decide +kernel
theorem dX3_improve_59 : decode cX3_improve 59 = .ok (.lstore 10, 2) := by decide +kernel
theorem dX3_improve_61 : decode cX3_improve 61 = .ok (.lload 10, 2) := by decide +kernel
theorem dX3_improve_63 : decode cX3_improve 63 = .ok (.lload 4, 2) := by decide +kernel
theorem dX3_improve_65 : decode cX3_improve 65 = .ok (.lcmp, 1) := by decide +kernel
theorem dX3_improve_66 : decode cX3_improve 66 = .ok (.ifCond .le 15, 3) := by decide +kernel
theorem dX3_improve_69 : decode cX3_improve 69 = .ok (.lload 10, 2) := by decide +kernel
theorem dX3_improve_71 : decode cX3_improve 71 = .ok (.lstore 4, 2) := by decide +kernel
theorem dX3_improve_73 : decode cX3_improve 73 = .ok (.iload 8, 2) := by decide +kernel
theorem dX3_improve_75 : decode cX3_improve 75 = .ok (.istore 6, 2) := by decide +kernel
theorem dX3_improve_77 : decode cX3_improve 77 = .ok (.iload 9, 2) := by decide +kernel
theorem dX3_improve_79 : decode cX3_improve 79 = .ok (.istore 7, 2) := by decide +kernel
theorem dX3_improve_81 : decode cX3_improve 81 = .ok (.iinc 9 1, 3) := by decide +kernel
theorem dX3_improve_84 : decode cX3_improve 84 = .ok (.goto (-45), 3) := by decide +kernel
theorem dX3_improve_87 : decode cX3_improve 87 = .ok (.iinc 8 1, 3) := by decide +kernel
theorem dX3_improve_90 : decode cX3_improve 90 = .ok (.goto (-72), 3) := by decide +kernel
theorem dX3_improve_93 : decode cX3_improve 93 = .ok (.iload 6, 2) := by decide +kernel
theorem dX3_improve_95 : decode cX3_improve 95 = .ok (.iconst (-1), 1) := by decide +kernel
theorem dX3_improve_96 : decode cX3_improve 96 = .ok (.if_icmp .ne 5, 3) := by decide +kernel
theorem dX3_improve_99 : decode cX3_improve 99 = .ok (.iconst 0, 1) := by decide +kernel
theorem dX3_improve_100 : decode cX3_improve 100 = .ok (.ireturn, 1) := by decide +kernel
theorem dX3_improve_101 : decode cX3_improve 101 = .ok (.aload_n 2, 1) := by decide +kernel
theorem dX3_improve_102 : decode cX3_improve 102 = .ok (.iload 6, 2) := by decide +kernel
theorem dX3_improve_104 : decode cX3_improve 104 = .ok (.iload 7, 2) := by decide +kernel
theorem dX3_improve_106 : decode cX3_improve 106 = .ok (.invokevirtual 24, 3) := by decide +kernel
theorem dX3_improve_109 : decode cX3_improve 109 = .ok (.iconst 1, 1) := by decide +kernel
theorem dX3_improve_110 : decode cX3_improve 110 = .ok (.ireturn, 1) := by decide +kernel
theorem dX3_foundAt_0 : decode cX3_foundAt 0 = .ok (.iload_n 1, 1) := by decide +kernel
theorem dX3_foundAt_1 : decode cX3_foundAt 1 = .ok (.iconst 0, 1) := by decide +kernel
theorem dX3_foundAt_2 : decode cX3_foundAt 2 = .ok (.bipush 8, 2) := by decide +kernel
theorem dX3_foundAt_4 : decode cX3_foundAt 4 = .ok (.invokestatic 42, 3) := by decide +kernel
theorem dX3_foundAt_7 : decode cX3_foundAt 7 = .ok (.ifCond .eq 12, 3) := by decide +kernel
theorem dX3_foundAt_10 : decode cX3_foundAt 10 = .ok (.aload_n 0, 1) := by decide +kernel
theorem dX3_foundAt_11 : decode cX3_foundAt 11 = .ok (.getfield 15, 3) := by decide +kernel
theorem dX3_foundAt_14 : decode cX3_foundAt 14 = .ok (.iload_n 1, 1) := by decide +kernel
theorem dX3_foundAt_15 : decode cX3_foundAt 15 = .ok (.iaload, 1) := by decide +kernel
theorem dX3_foundAt_16 : decode cX3_foundAt 16 = .ok (.goto 4, 3) := by decide +kernel
theorem dX3_foundAt_19 : decode cX3_foundAt 19 = .ok (.iconst (-1), 1) := by decide +kernel
theorem dX3_foundAt_20 : decode cX3_foundAt 20 = .ok (.ireturn, 1) := by decide +kernel
theorem dX3_seek_0 : decode cX3_seek 0 = .ok (.aload_n 2, 1) := by decide +kernel
theorem dX3_seek_1 : decode cX3_seek 1 = .ok (.getfield 34, 3) := by decide +kernel
theorem dX3_seek_4 : decode cX3_seek 4 = .ok (.istore 4, 2) := by decide +kernel
theorem dX3_seek_6 : decode cX3_seek 6 = .ok (.aload_n 0, 1) := by decide +kernel
theorem dX3_seek_7 : decode cX3_seek 7 = .ok (.ldc2_w 46, 3) := by decide +kernel
theorem dX3_seek_10 : decode cX3_seek 10 = .ok (.putfield 48, 3) := by decide +kernel
theorem dX3_seek_13 : decode cX3_seek 13 = .ok (.aload_n 0, 1) := by decide +kernel
theorem dX3_seek_14 : decode cX3_seek 14 = .ok (.iconst 0, 1) := by decide +kernel
theorem dX3_seek_15 : decode cX3_seek 15 = .ok (.putfield 52, 3) := by decide +kernel
theorem dX3_seek_18 : decode cX3_seek 18 = .ok (.aload_n 1, 1) := by decide +kernel
theorem dX3_seek_19 : decode cX3_seek 19 = .ok (.ldc2_w 55, 3) := by decide +kernel
theorem dX3_seek_22 : decode cX3_seek 22 = .ok (.invokevirtual 57, 3) := by decide +kernel
theorem dX3_seek_25 : decode cX3_seek 25 = .ok (.iconst 0, 1) := by decide +kernel
theorem dX3_seek_26 : decode cX3_seek 26 = .ok (.istore 5, 2) := by decide +kernel
theorem dX3_seek_28 : decode cX3_seek 28 = .ok (.iload 5, 2) := by decide +kernel
theorem dX3_seek_30 : decode cX3_seek 30 = .ok (.iload_n 3, 1) := by decide +kernel
theorem dX3_seek_31 : decode cX3_seek 31 = .ok (.iconst 2, 1) := by decide +kernel
theorem dX3_seek_32 : decode cX3_seek 32 = .ok (.if_icmp .le 8, 3) := by decide +kernel
theorem dX3_seek_35 : decode cX3_seek 35 = .ok (.iload 4, 2) := by decide +kernel
theorem dX3_seek_37 : decode cX3_seek 37 = .ok (.goto 4, 3) := by decide +kernel
theorem dX3_seek_40 : decode cX3_seek 40 = .ok (.iconst 1, 1) := by decide +kernel
theorem dX3_seek_41 : decode cX3_seek 41 = .ok (.if_icmp .ge 156, 3) := by decide +kernel
theorem dX3_seek_44 : decode cX3_seek 44 = .ok (.aload_n 0, 1) := by decide +kernel
theorem dX3_seek_45 : decode cX3_seek 45 = .ok (.aload_n 1, 1) := by decide +kernel
theorem dX3_seek_46 : decode cX3_seek 46 = .ok (.aload_n 2, 1) := by decide +kernel
theorem dX3_seek_47 : decode cX3_seek 47 = .ok (.iload 5, 2) := by decide +kernel
theorem dX3_seek_49 : decode cX3_seek 49 = .ok (.iconst 2, 1) := by decide +kernel
theorem dX3_seek_50 : decode cX3_seek 50 = .ok (.iload_n 3, 1) := by decide +kernel
theorem dX3_seek_51 : decode cX3_seek 51 = .ok (.invokevirtual 61, 3) := by decide +kernel
theorem dX3_seek_54 : decode cX3_seek 54 = .ok (.iconst 0, 1) := by decide +kernel
theorem dX3_seek_55 : decode cX3_seek 55 = .ok (.istore 6, 2) := by decide +kernel
theorem dX3_seek_57 : decode cX3_seek 57 = .ok (.iload 6, 2) := by decide +kernel
theorem dX3_seek_59 : decode cX3_seek 59 = .ok (.iload_n 3, 1) := by decide +kernel
theorem dX3_seek_60 : decode cX3_seek 60 = .ok (.iconst 1, 1) := by decide +kernel
theorem dX3_seek_61 : decode cX3_seek 61 = .ok (.if_icmp .le 8, 3) := by decide +kernel
theorem dX3_seek_64 : decode cX3_seek 64 = .ok (.iload 4, 2) := by decide +kernel
theorem dX3_seek_66 : decode cX3_seek 66 = .ok (.goto 4, 3) := by decide +kernel
theorem dX3_seek_69 : decode cX3_seek 69 = .ok (.iconst 1, 1) := by decide +kernel
theorem dX3_seek_70 : decode cX3_seek 70 = .ok (.if_icmp .ge 121, 3) := by decide +kernel
theorem dX3_seek_73 : decode cX3_seek 73 = .ok (.iload_n 3, 1) := by decide +kernel
theorem dX3_seek_74 : decode cX3_seek 74 = .ok (.iconst 2, 1) := by decide +kernel
theorem dX3_seek_75 : decode cX3_seek 75 = .ok (.if_icmp .le 20, 3) := by decide +kernel
theorem dX3_seek_78 : decode cX3_seek 78 = .ok (.aload_n 0, 1) := by decide +kernel
theorem dX3_seek_79 : decode cX3_seek 79 = .ok (.iload 4, 2) := by decide +kernel
theorem dX3_seek_81 : decode cX3_seek 81 = .ok (.iconst 1, 1) := by decide +kernel
theorem dX3_seek_82 : decode cX3_seek 82 = .ok (.iload 6, 2) := by decide +kernel
theorem dX3_seek_84 : decode cX3_seek 84 = .ok (.iload 5, 2) := by decide +kernel
theorem dX3_seek_86 : decode cX3_seek 86 = .ok (.invokevirtual 65, 3) := by decide +kernel
theorem dX3_seek_89 : decode cX3_seek 89 = .ok (.ifCond .ne 6, 3) := by decide +kernel
theorem dX3_seek_92 : decode cX3_seek 92 = .ok (.goto 93, 3) := by decide +kernel
theorem dX3_seek_95 : decode cX3_seek 95 = .ok (.aload_n 0, 1) := by decide +kernel
theorem dX3_seek_96 : decode cX3_seek 96 = .ok (.aload_n 1, 1) := by decide +kernel
theorem dX3_seek_97 : decode cX3_seek 97 = .ok (.aload_n 2, 1) := by decide +kernel
theorem dX3_seek_98 : decode cX3_seek 98 = .ok (.iload 6, 2) := by decide +kernel
theorem dX3_seek_100 : decode cX3_seek 100 = .ok (.iconst 1, 1) := by decide +kernel
theorem dX3_seek_101 : decode cX3_seek 101 = .ok (.iload_n 3, 1) := by decide +kernel
theorem dX3_seek_102 : decode cX3_seek 102 = .ok (.invokevirtual 61, 3) := by decide +kernel
theorem dX3_seek_105 : decode cX3_seek 105 = .ok (.iconst 0, 1) := by decide +kernel
theorem dX3_seek_106 : decode cX3_seek 106 = .ok (.istore 7, 2) := by decide +kernel
theorem dX3_seek_108 : decode cX3_seek 108 = .ok (.iload 7, 2) := by decide +kernel
theorem dX3_seek_110 : decode cX3_seek 110 = .ok (.iload 4, 2) := by decide +kernel
theorem dX3_seek_112 : decode cX3_seek 112 = .ok (.if_icmp .ge 73, 3) := by decide +kernel
theorem dX3_seek_115 : decode cX3_seek 115 = .ok (.iload_n 3, 1) := by decide +kernel
theorem dX3_seek_116 : decode cX3_seek 116 = .ok (.iconst 2, 1) := by decide +kernel
theorem dX3_seek_117 : decode cX3_seek 117 = .ok (.if_icmp .lt 17, 3) := by decide +kernel
theorem dX3_seek_120 : decode cX3_seek 120 = .ok (.aload_n 0, 1) := by decide +kernel
theorem dX3_seek_121 : decode cX3_seek 121 = .ok (.iload 4, 2) := by decide +kernel
theorem dX3_seek_123 : decode cX3_seek 123 = .ok (.iconst 1, 1) := by decide +kernel
theorem dX3_seek_124 : decode cX3_seek 124 = .ok (.iload 7, 2) := by decide +kernel
theorem dX3_seek_126 : decode cX3_seek 126 = .ok (.iload 6, 2) := by decide +kernel
theorem dX3_seek_128 : decode cX3_seek 128 = .ok (.invokevirtual 65, 3) := by decide +kernel
theorem dX3_seek_131 : decode cX3_seek 131 = .ok (.ifCond .eq 48, 3) := by decide +kernel
theorem dX3_seek_134 : decode cX3_seek 134 = .ok (.iload_n 3, 1) := by decide +kernel
theorem dX3_seek_135 : decode cX3_seek 135 = .ok (.iconst 3, 1) := by decide +kernel
theorem dX3_seek_136 : decode cX3_seek 136 = .ok (.if_icmp .lt 17, 3) := by decide +kernel
theorem dX3_seek_139 : decode cX3_seek 139 = .ok (.aload_n 0, 1) := by decide +kernel
theorem dX3_seek_140 : decode cX3_seek 140 = .ok (.iload 4, 2) := by decide +kernel
theorem dX3_seek_142 : decode cX3_seek 142 = .ok (.iconst 2, 1) := by decide +kernel
theorem dX3_seek_143 : decode cX3_seek 143 = .ok (.iload 7, 2) := by decide +kernel
theorem dX3_seek_145 : decode cX3_seek 145 = .ok (.iload 5, 2) := by decide +kernel
theorem dX3_seek_147 : decode cX3_seek 147 = .ok (.invokevirtual 65, 3) := by decide +kernel
theorem dX3_seek_150 : decode cX3_seek 150 = .ok (.ifCond .eq 29, 3) := by decide +kernel
theorem dX3_seek_153 : decode cX3_seek 153 = .ok (.aload_n 1, 1) := by decide +kernel
theorem dX3_seek_154 : decode cX3_seek 154 = .ok (.aload_n 2, 1) := by decide +kernel
theorem dX3_seek_155 : decode cX3_seek 155 = .ok (.iload 7, 2) := by decide +kernel
theorem dX3_seek_157 : decode cX3_seek 157 = .ok (.iconst 0, 1) := by decide +kernel
theorem dX3_seek_158 : decode cX3_seek 158 = .ok (.invokevirtual 69, 3) := by decide +kernel
theorem dX3_seek_161 : decode cX3_seek 161 = .ok (.aload_n 0, 1) := by decide +kernel
theorem dX3_seek_162 : decode cX3_seek 162 = .ok (.aload_n 1, 1) := by decide +kernel
theorem dX3_seek_163 : decode cX3_seek 163 = .ok (.iload_n 3, 1) := by decide +kernel
theorem dX3_seek_164 : decode cX3_seek 164 = .ok (.iconst 1, 1) := by decide +kernel
theorem dX3_seek_165 : decode cX3_seek 165 = .ok (.isub, 1) := by decide +kernel
theorem dX3_seek_166 : decode cX3_seek 166 = .ok (.iconst 0, 1) := by decide +kernel
theorem dX3_seek_167 : decode cX3_seek 167 = .ok (.invokevirtual 73, 3) := by decide +kernel
theorem dX3_seek_170 : decode cX3_seek 170 = .ok (.iload 7, 2) := by decide +kernel
theorem dX3_seek_172 : decode cX3_seek 172 = .ok (.iload 6, 2) := by decide +kernel
theorem dX3_seek_174 : decode cX3_seek 174 = .ok (.iload 5, 2) := by decide +kernel
theorem dX3_seek_176 : decode cX3_seek 176 = .ok (.invokevirtual 77, 3) := by decide +kernel
theorem dX3_seek_179 : decode cX3_seek 179 = .ok (.iinc 7 1, 3) := by decide +kernel
theorem dX3_seek_182 : decode cX3_seek 182 = .ok (.goto (-74), 3) := by decide +kernel
theorem dX3_seek_185 : decode cX3_seek 185 = .ok (.iinc 6 1, 3) := by decide +kernel
theorem dX3_seek_188 : decode cX3_seek 188 = .ok (.goto (-131), 3) := by decide +kernel
theorem dX3_seek_191 : decode cX3_seek 191 = .ok (.iinc 5 1, 3) := by decide +kernel
theorem dX3_seek_194 : decode cX3_seek 194 = .ok (.goto (-166), 3) := by decide +kernel
theorem dX3_seek_197 : decode cX3_seek 197 = .ok (.aload_n 0, 1) := by decide +kernel
theorem dX3_seek_198 : decode cX3_seek 198 = .ok (.iload 4, 2) := by decide +kernel
theorem dX3_seek_200 : decode cX3_seek 200 = .ok (.iload_n 3, 1) := by decide +kernel
theorem dX3_seek_201 : decode cX3_seek 201 = .ok (.invokevirtual 81, 3) := by decide +kernel
theorem dX3_seek_204 : decode cX3_seek 204 = .ok (.return_, 1) := by decide +kernel
theorem dX3_reckon_0 : decode cX3_reckon 0 = .ok (.iload 4, 2) := by decide +kernel
theorem dX3_reckon_2 : decode cX3_reckon 2 = .ok (.iload 5, 2) := by decide +kernel
theorem dX3_reckon_4 : decode cX3_reckon 4 = .ok (.if_icmp .ge 20, 3) := by decide +kernel
theorem dX3_reckon_7 : decode cX3_reckon 7 = .ok (.aload_n 1, 1) := by decide +kernel
theorem dX3_reckon_8 : decode cX3_reckon 8 = .ok (.aload_n 2, 1) := by decide +kernel
theorem dX3_reckon_9 : decode cX3_reckon 9 = .ok (.iload_n 3, 1) := by decide +kernel
theorem dX3_reckon_10 : decode cX3_reckon 10 = .ok (.iload 4, 2) := by decide +kernel
theorem dX3_reckon_12 : decode cX3_reckon 12 = .ok (.invokevirtual 69, 3) := by decide +kernel
theorem dX3_reckon_15 : decode cX3_reckon 15 = .ok (.aload_n 1, 1) := by decide +kernel
theorem dX3_reckon_16 : decode cX3_reckon 16 = .ok (.iload 5, 2) := by decide +kernel
theorem dX3_reckon_18 : decode cX3_reckon 18 = .ok (.iload 4, 2) := by decide +kernel
theorem dX3_reckon_20 : decode cX3_reckon 20 = .ok (.isub, 1) := by decide +kernel
theorem dX3_reckon_21 : decode cX3_reckon 21 = .ok (.invokevirtual 84, 3) := by decide +kernel
theorem dX3_reckon_24 : decode cX3_reckon 24 = .ok (.return_, 1) := by decide +kernel
theorem dX3_fit_0 : decode cX3_fit 0 = .ok (.iload_n 1, 1) := by decide +kernel
theorem dX3_fit_1 : decode cX3_fit 1 = .ok (.ifCond .le 32, 3) := by decide +kernel
theorem dX3_fit_4 : decode cX3_fit 4 = .ok (.iload_n 3, 1) := by decide +kernel
theorem dX3_fit_5 : decode cX3_fit 5 = .ok (.iload 4, 2) := by decide +kernel
theorem dX3_fit_7 : decode cX3_fit 7 = .ok (.if_icmp .ne 7, 3) := by decide +kernel
theorem dX3_fit_10 : decode cX3_fit 10 = .ok (.iconst 1, 1) := by decide +kernel
theorem dX3_fit_11 : decode cX3_fit 11 = .ok (.goto 4, 3) := by decide +kernel
theorem dX3_fit_14 : decode cX3_fit 14 = .ok (.iconst 0, 1) := by decide +kernel
theorem dX3_fit_15 : decode cX3_fit 15 = .ok (.iload_n 2, 1) := by decide +kernel
theorem dX3_fit_16 : decode cX3_fit 16 = .ok (.iload_n 1, 1) := by decide +kernel
theorem dX3_fit_17 : decode cX3_fit 17 = .ok (.irem, 1) := by decide +kernel
theorem dX3_fit_18 : decode cX3_fit 18 = .ok (.ifCond .ne 7, 3) := by decide +kernel
theorem dX3_fit_21 : decode cX3_fit 21 = .ok (.iconst 1, 1) := by decide +kernel
theorem dX3_fit_22 : decode cX3_fit 22 = .ok (.goto 4, 3) := by decide +kernel
theorem dX3_fit_25 : decode cX3_fit 25 = .ok (.iconst 0, 1) := by decide +kernel
theorem dX3_fit_26 : decode cX3_fit 26 = .ok (.if_icmp .ne 7, 3) := by decide +kernel
theorem dX3_fit_29 : decode cX3_fit 29 = .ok (.iconst 1, 1) := by decide +kernel
theorem dX3_fit_30 : decode cX3_fit 30 = .ok (.goto 4, 3) := by decide +kernel
theorem dX3_fit_33 : decode cX3_fit 33 = .ok (.iconst 0, 1) := by decide +kernel
theorem dX3_fit_34 : decode cX3_fit 34 = .ok (.ireturn, 1) := by decide +kernel
theorem dX3_compare_0 : decode cX3_compare 0 = .ok (.iload_n 3, 1) := by decide +kernel
theorem dX3_compare_1 : decode cX3_compare 1 = .ok (.bipush 9, 2) := by decide +kernel
theorem dX3_compare_3 : decode cX3_compare 3 = .ok (.imul, 1) := by decide +kernel
theorem dX3_compare_4 : decode cX3_compare 4 = .ok (.iload 4, 2) := by decide +kernel
theorem dX3_compare_6 : decode cX3_compare 6 = .ok (.iadd, 1) := by decide +kernel
theorem dX3_compare_7 : decode cX3_compare 7 = .ok (.bipush 9, 2) := by decide +kernel
theorem dX3_compare_9 : decode cX3_compare 9 = .ok (.imul, 1) := by decide +kernel
theorem dX3_compare_10 : decode cX3_compare 10 = .ok (.iload 5, 2) := by decide +kernel
theorem dX3_compare_12 : decode cX3_compare 12 = .ok (.iadd, 1) := by decide +kernel
theorem dX3_compare_13 : decode cX3_compare 13 = .ok (.istore 6, 2) := by decide +kernel
theorem dX3_compare_15 : decode cX3_compare 15 = .ok (.lload_n 1, 1) := by decide +kernel
theorem dX3_compare_16 : decode cX3_compare 16 = .ok (.aload_n 0, 1) := by decide +kernel
theorem dX3_compare_17 : decode cX3_compare 17 = .ok (.getfield 48, 3) := by decide +kernel
theorem dX3_compare_20 : decode cX3_compare 20 = .ok (.lcmp, 1) := by decide +kernel
theorem dX3_compare_21 : decode cX3_compare 21 = .ok (.ifCond .gt 21, 3) := by decide +kernel
theorem dX3_compare_24 : decode cX3_compare 24 = .ok (.lload_n 1, 1) := by decide +kernel
theorem dX3_compare_25 : decode cX3_compare 25 = .ok (.aload_n 0, 1) := by decide +kernel
theorem dX3_compare_26 : decode cX3_compare 26 = .ok (.getfield 48, 3) := by decide +kernel
theorem dX3_compare_29 : decode cX3_compare 29 = .ok (.lcmp, 1) := by decide +kernel
theorem dX3_compare_30 : decode cX3_compare 30 = .ok (.ifCond .ne 23, 3) := by decide +kernel
theorem dX3_compare_33 : decode cX3_compare 33 = .ok (.iload 6, 2) := by decide +kernel
theorem dX3_compare_35 : decode cX3_compare 35 = .ok (.aload_n 0, 1) := by decide +kernel
theorem dX3_compare_36 : decode cX3_compare 36 = .ok (.getfield 52, 3) := by decide +kernel
theorem dX3_compare_39 : decode cX3_compare 39 = .ok (.if_icmp .ge 14, 3) := by decide +kernel
theorem dX3_compare_42 : decode cX3_compare 42 = .ok (.aload_n 0, 1) := by decide +kernel
theorem dX3_compare_43 : decode cX3_compare 43 = .ok (.lload_n 1, 1) := by decide +kernel
theorem dX3_compare_44 : decode cX3_compare 44 = .ok (.putfield 48, 3) := by decide +kernel
theorem dX3_compare_47 : decode cX3_compare 47 = .ok (.aload_n 0, 1) := by decide +kernel
theorem dX3_compare_48 : decode cX3_compare 48 = .ok (.iload 6, 2) := by decide +kernel
theorem dX3_compare_50 : decode cX3_compare 50 = .ok (.putfield 52, 3) := by decide +kernel
theorem dX3_compare_53 : decode cX3_compare 53 = .ok (.return_, 1) := by decide +kernel
theorem dX3_layFound_0 : decode cX3_layFound 0 = .ok (.aload_n 0, 1) := by decide +kernel
theorem dX3_layFound_1 : decode cX3_layFound 1 = .ok (.getfield 52, 3) := by decide +kernel
theorem dX3_layFound_4 : decode cX3_layFound 4 = .ok (.istore_n 3, 1) := by decide +kernel
theorem dX3_layFound_5 : decode cX3_layFound 5 = .ok (.iconst 2, 1) := by decide +kernel
theorem dX3_layFound_6 : decode cX3_layFound 6 = .ok (.istore 4, 2) := by decide +kernel
theorem dX3_layFound_8 : decode cX3_layFound 8 = .ok (.iload 4, 2) := by decide +kernel
theorem dX3_layFound_10 : decode cX3_layFound 10 = .ok (.ifCond .lt 25, 3) := by decide +kernel
theorem dX3_layFound_13 : decode cX3_layFound 13 = .ok (.aload_n 0, 1) := by decide +kernel
theorem dX3_layFound_14 : decode cX3_layFound 14 = .ok (.getfield 9, 3) := by decide +kernel
theorem dX3_layFound_17 : decode cX3_layFound 17 = .ok (.iload 4, 2) := by decide +kernel
theorem dX3_layFound_19 : decode cX3_layFound 19 = .ok (.iload_n 3, 1) := by decide +kernel
theorem dX3_layFound_20 : decode cX3_layFound 20 = .ok (.bipush 9, 2) := by decide +kernel
theorem dX3_layFound_22 : decode cX3_layFound 22 = .ok (.irem, 1) := by decide +kernel
theorem dX3_layFound_23 : decode cX3_layFound 23 = .ok (.iastore, 1) := by decide +kernel
theorem dX3_layFound_24 : decode cX3_layFound 24 = .ok (.iload_n 3, 1) := by decide +kernel
theorem dX3_layFound_25 : decode cX3_layFound 25 = .ok (.bipush 9, 2) := by decide +kernel
theorem dX3_layFound_27 : decode cX3_layFound 27 = .ok (.idiv, 1) := by decide +kernel
theorem dX3_layFound_28 : decode cX3_layFound 28 = .ok (.istore_n 3, 1) := by decide +kernel
theorem dX3_layFound_29 : decode cX3_layFound 29 = .ok (.iinc 4 (-1), 3) := by decide +kernel
theorem dX3_layFound_32 : decode cX3_layFound 32 = .ok (.goto (-24), 3) := by decide +kernel
theorem dX3_layFound_35 : decode cX3_layFound 35 = .ok (.iload_n 2, 1) := by decide +kernel
theorem dX3_layFound_36 : decode cX3_layFound 36 = .ok (.iload_n 1, 1) := by decide +kernel
theorem dX3_layFound_37 : decode cX3_layFound 37 = .ok (.invokestatic 88, 3) := by decide +kernel
theorem dX3_layFound_40 : decode cX3_layFound 40 = .ok (.istore 4, 2) := by decide +kernel
theorem dX3_layFound_42 : decode cX3_layFound 42 = .ok (.iconst 0, 1) := by decide +kernel
theorem dX3_layFound_43 : decode cX3_layFound 43 = .ok (.istore 5, 2) := by decide +kernel
theorem dX3_layFound_45 : decode cX3_layFound 45 = .ok (.iload 5, 2) := by decide +kernel
theorem dX3_layFound_47 : decode cX3_layFound 47 = .ok (.iload 4, 2) := by decide +kernel
theorem dX3_layFound_49 : decode cX3_layFound 49 = .ok (.if_icmp .ge 29, 3) := by decide +kernel
theorem dX3_layFound_52 : decode cX3_layFound 52 = .ok (.iload 5, 2) := by decide +kernel
theorem dX3_layFound_54 : decode cX3_layFound 54 = .ok (.iconst 3, 1) := by decide +kernel
theorem dX3_layFound_55 : decode cX3_layFound 55 = .ok (.if_icmp .ge 23, 3) := by decide +kernel
theorem dX3_layFound_58 : decode cX3_layFound 58 = .ok (.aload_n 0, 1) := by decide +kernel
theorem dX3_layFound_59 : decode cX3_layFound 59 = .ok (.getfield 15, 3) := by decide +kernel
theorem dX3_layFound_62 : decode cX3_layFound 62 = .ok (.iload 5, 2) := by decide +kernel
theorem dX3_layFound_64 : decode cX3_layFound 64 = .ok (.aload_n 0, 1) := by decide +kernel
theorem dX3_layFound_65 : decode cX3_layFound 65 = .ok (.getfield 9, 3) := by decide +kernel
theorem dX3_layFound_68 : decode cX3_layFound 68 = .ok (.iload 5, 2) := by decide +kernel
theorem dX3_layFound_70 : decode cX3_layFound 70 = .ok (.iaload, 1) := by decide +kernel
theorem dX3_layFound_71 : decode cX3_layFound 71 = .ok (.iastore, 1) := by decide +kernel
theorem dX3_layFound_72 : decode cX3_layFound 72 = .ok (.iinc 5 1, 3) := by decide +kernel
theorem dX3_layFound_75 : decode cX3_layFound 75 = .ok (.goto (-30), 3) := by decide +kernel
theorem dX3_layFound_78 : decode cX3_layFound 78 = .ok (.iload 4, 2) := by decide +kernel
theorem dX3_layFound_80 : decode cX3_layFound 80 = .ok (.istore 5, 2) := by decide +kernel
theorem dX3_layFound_82 : decode cX3_layFound 82 = .ok (.iconst 0, 1) := by decide +kernel
theorem dX3_layFound_83 : decode cX3_layFound 83 = .ok (.istore 6, 2) := by decide +kernel
theorem dX3_layFound_85 : decode cX3_layFound 85 = .ok (.iload 6, 2) := by decide +kernel
theorem dX3_layFound_87 : decode cX3_layFound 87 = .ok (.iload_n 1, 1) := by decide +kernel
theorem dX3_layFound_88 : decode cX3_layFound 88 = .ok (.if_icmp .ge 39, 3) := by decide +kernel
theorem dX3_layFound_91 : decode cX3_layFound 91 = .ok (.iload 5, 2) := by decide +kernel
theorem dX3_layFound_93 : decode cX3_layFound 93 = .ok (.bipush 9, 2) := by decide +kernel
theorem dX3_layFound_95 : decode cX3_layFound 95 = .ok (.if_icmp .ge 32, 3) := by decide +kernel
theorem dX3_layFound_98 : decode cX3_layFound 98 = .ok (.aload_n 0, 1) := by decide +kernel
theorem dX3_layFound_99 : decode cX3_layFound 99 = .ok (.iload 4, 2) := by decide +kernel
theorem dX3_layFound_101 : decode cX3_layFound 101 = .ok (.iload 6, 2) := by decide +kernel
theorem dX3_layFound_103 : decode cX3_layFound 103 = .ok (.invokevirtual 94, 3) := by decide +kernel
theorem dX3_layFound_106 : decode cX3_layFound 106 = .ok (.ifCond .ne 15, 3) := by decide +kernel
theorem dX3_layFound_109 : decode cX3_layFound 109 = .ok (.aload_n 0, 1) := by decide +kernel
theorem dX3_layFound_110 : decode cX3_layFound 110 = .ok (.getfield 15, 3) := by decide +kernel
theorem dX3_layFound_113 : decode cX3_layFound 113 = .ok (.iload 5, 2) := by decide +kernel
theorem dX3_layFound_115 : decode cX3_layFound 115 = .ok (.iload 6, 2) := by decide +kernel
theorem dX3_layFound_117 : decode cX3_layFound 117 = .ok (.iastore, 1) := by decide +kernel
theorem dX3_layFound_118 : decode cX3_layFound 118 = .ok (.iinc 5 1, 3) := by decide +kernel
theorem dX3_layFound_121 : decode cX3_layFound 121 = .ok (.iinc 6 1, 3) := by decide +kernel
theorem dX3_layFound_124 : decode cX3_layFound 124 = .ok (.goto (-39), 3) := by decide +kernel
theorem dX3_layFound_127 : decode cX3_layFound 127 = .ok (.return_, 1) := by decide +kernel
theorem dX3_isPicked_0 : decode cX3_isPicked 0 = .ok (.iconst 0, 1) := by decide +kernel
theorem dX3_isPicked_1 : decode cX3_isPicked 1 = .ok (.istore_n 3, 1) := by decide +kernel
theorem dX3_isPicked_2 : decode cX3_isPicked 2 = .ok (.iload_n 3, 1) := by decide +kernel
theorem dX3_isPicked_3 : decode cX3_isPicked 3 = .ok (.iload_n 1, 1) := by decide +kernel
theorem dX3_isPicked_4 : decode cX3_isPicked 4 = .ok (.if_icmp .ge 26, 3) := by decide +kernel
theorem dX3_isPicked_7 : decode cX3_isPicked 7 = .ok (.iload_n 3, 1) := by decide +kernel
theorem dX3_isPicked_8 : decode cX3_isPicked 8 = .ok (.iconst 3, 1) := by decide +kernel
theorem dX3_isPicked_9 : decode cX3_isPicked 9 = .ok (.if_icmp .ge 21, 3) := by decide +kernel
theorem dX3_isPicked_12 : decode cX3_isPicked 12 = .ok (.aload_n 0, 1) := by decide +kernel
theorem dX3_isPicked_13 : decode cX3_isPicked 13 = .ok (.getfield 9, 3) := by decide +kernel
theorem dX3_isPicked_16 : decode cX3_isPicked 16 = .ok (.iload_n 3, 1) := by decide +kernel
theorem dX3_isPicked_17 : decode cX3_isPicked 17 = .ok (.iaload, 1) := by decide +kernel
theorem dX3_isPicked_18 : decode cX3_isPicked 18 = .ok (.iload_n 2, 1) := by decide +kernel
theorem dX3_isPicked_19 : decode cX3_isPicked 19 = .ok (.if_icmp .ne 5, 3) := by decide +kernel
theorem dX3_isPicked_22 : decode cX3_isPicked 22 = .ok (.iconst 1, 1) := by decide +kernel
theorem dX3_isPicked_23 : decode cX3_isPicked 23 = .ok (.ireturn, 1) := by decide +kernel
theorem dX3_isPicked_24 : decode cX3_isPicked 24 = .ok (.iinc 3 1, 3) := by decide +kernel
theorem dX3_isPicked_27 : decode cX3_isPicked 27 = .ok (.goto (-25), 3) := by decide +kernel
theorem dX3_isPicked_30 : decode cX3_isPicked 30 = .ok (.iconst 0, 1) := by decide +kernel
theorem dX3_isPicked_31 : decode cX3_isPicked 31 = .ok (.ireturn, 1) := by decide +kernel
theorem dX4_init_0 : decode cX4_init 0 = .ok (.aload_n 0, 1) := by decide +kernel
theorem dX4_init_1 : decode cX4_init 1 = .ok (.invokespecial 3, 3) := by decide +kernel
theorem dX4_init_4 : decode cX4_init 4 = .ok (.aload_n 0, 1) := by decide +kernel
theorem dX4_init_5 : decode cX4_init 5 = .ok (.bipush 10, 2) := by decide +kernel
theorem dX4_init_7 : decode cX4_init 7 = .ok (.anewarray 9, 3) := by decide +kernel
theorem dX4_init_10 : decode cX4_init 10 = .ok (.putfield 11, 3) := by decide +kernel
theorem dX4_init_13 : decode cX4_init 13 = .ok (.iconst 0, 1) := by decide +kernel
theorem dX4_init_14 : decode cX4_init 14 = .ok (.istore_n 1, 1) := by decide +kernel
theorem dX4_init_15 : decode cX4_init 15 = .ok (.iload_n 1, 1) := by decide +kernel
theorem dX4_init_16 : decode cX4_init 16 = .ok (.bipush 10, 2) := by decide +kernel
theorem dX4_init_18 : decode cX4_init 18 = .ok (.if_icmp .ge 22, 3) := by decide +kernel
theorem dX4_init_21 : decode cX4_init 21 = .ok (.aload_n 0, 1) := by decide +kernel
theorem dX4_init_22 : decode cX4_init 22 = .ok (.getfield 11, 3) := by decide +kernel
theorem dX4_init_25 : decode cX4_init 25 = .ok (.iload_n 1, 1) := by decide +kernel
theorem dX4_init_26 : decode cX4_init 26 = .ok (.new 9, 3) := by decide +kernel
theorem dX4_init_29 : decode cX4_init 29 = .ok (.dup, 1) := by decide +kernel
theorem dX4_init_30 : decode cX4_init 30 = .ok (.invokespecial 17, 3) := by decide +kernel
theorem dX4_init_33 : decode cX4_init 33 = .ok (.aastore, 1) := by decide +kernel
theorem dX4_init_34 : decode cX4_init 34 = .ok (.iinc 1 1, 3) := by decide +kernel
theorem dX4_init_37 : decode cX4_init 37 = .ok (.goto (-22), 3) := by decide +kernel
theorem dX4_init_40 : decode cX4_init 40 = .ok (.return_, 1) := by decide +kernel
theorem dX4_forget_0 : decode cX4_forget 0 = .ok (.aload_n 0, 1) := by decide +kernel
theorem dX4_forget_1 : decode cX4_forget 1 = .ok (.iconst 0, 1) := by decide +kernel
theorem dX4_forget_2 : decode cX4_forget 2 = .ok (.putfield 18, 3) := by decide +kernel
theorem dX4_forget_5 : decode cX4_forget 5 = .ok (.return_, 1) := by decide +kernel
theorem dX4_keep_0 : decode cX4_keep 0 = .ok (.aload_n 0, 1) := by decide +kernel
theorem dX4_keep_1 : decode cX4_keep 1 = .ok (.getfield 11, 3) := by decide +kernel
theorem dX4_keep_4 : decode cX4_keep 4 = .ok (.aload_n 0, 1) := by decide +kernel
theorem dX4_keep_5 : decode cX4_keep 5 = .ok (.getfield 22, 3) := by decide +kernel
theorem dX4_keep_8 : decode cX4_keep 8 = .ok (.aaload, 1) := by decide +kernel
theorem dX4_keep_9 : decode cX4_keep 9 = .ok (.astore_n 2, 1) := by decide +kernel
theorem dX4_keep_10 : decode cX4_keep 10 = .ok (.aload_n 2, 1) := by decide +kernel
theorem dX4_keep_11 : decode cX4_keep 11 = .ok (.ifnull 8, 3) := by decide +kernel
theorem dX4_keep_14 : decode cX4_keep 14 = .ok (.aload_n 2, 1) := by decide +kernel
theorem dX4_keep_15 : decode cX4_keep 15 = .ok (.aload_n 1, 1) := by decide +kernel
theorem dX4_keep_16 : decode cX4_keep 16 = .ok (.invokevirtual 25, 3) := by decide +kernel
theorem dX4_keep_19 : decode cX4_keep 19 = .ok (.aload_n 0, 1) := by decide +kernel
theorem dX4_keep_20 : decode cX4_keep 20 = .ok (.aload_n 0, 1) := by decide +kernel
theorem dX4_keep_21 : decode cX4_keep 21 = .ok (.getfield 22, 3) := by decide +kernel
theorem dX4_keep_24 : decode cX4_keep 24 = .ok (.iconst 1, 1) := by decide +kernel
theorem dX4_keep_25 : decode cX4_keep 25 = .ok (.iadd, 1) := by decide +kernel
theorem dX4_keep_26 : decode cX4_keep 26 = .ok (.bipush 10, 2) := by decide +kernel
theorem dX4_keep_28 : decode cX4_keep 28 = .ok (.if_icmp .ge 12, 3) := by decide +kernel
theorem dX4_keep_31 : decode cX4_keep 31 = .ok (.aload_n 0, 1) := by decide +kernel
theorem dX4_keep_32 : decode cX4_keep 32 = .ok (.getfield 22, 3) := by decide +kernel
theorem dX4_keep_35 : decode cX4_keep 35 = .ok (.iconst 1, 1) := by decide +kernel
theorem dX4_keep_36 : decode cX4_keep 36 = .ok (.iadd, 1) := by decide +kernel
theorem dX4_keep_37 : decode cX4_keep 37 = .ok (.goto 4, 3) := by decide +kernel
theorem dX4_keep_40 : decode cX4_keep 40 = .ok (.iconst 0, 1) := by decide +kernel
theorem dX4_keep_41 : decode cX4_keep 41 = .ok (.putfield 22, 3) := by decide +kernel
theorem dX4_keep_44 : decode cX4_keep 44 = .ok (.aload_n 0, 1) := by decide +kernel
theorem dX4_keep_45 : decode cX4_keep 45 = .ok (.aload_n 0, 1) := by decide +kernel
theorem dX4_keep_46 : decode cX4_keep 46 = .ok (.getfield 18, 3) := by decide +kernel
theorem dX4_keep_49 : decode cX4_keep 49 = .ok (.iconst 1, 1) := by decide +kernel
theorem dX4_keep_50 : decode cX4_keep 50 = .ok (.iadd, 1) := by decide +kernel
theorem dX4_keep_51 : decode cX4_keep 51 = .ok (.bipush 10, 2) := by decide +kernel
theorem dX4_keep_53 : decode cX4_keep 53 = .ok (.invokestatic 29, 3) := by decide +kernel
theorem dX4_keep_56 : decode cX4_keep 56 = .ok (.putfield 18, 3) := by decide +kernel
theorem dX4_keep_59 : decode cX4_keep 59 = .ok (.return_, 1) := by decide +kernel
theorem dX4_bringBack_0 : decode cX4_bringBack 0 = .ok (.aload_n 0, 1) := by decide +kernel
theorem dX4_bringBack_1 : decode cX4_bringBack 1 = .ok (.getfield 18, 3) := by decide +kernel
theorem dX4_bringBack_4 : decode cX4_bringBack 4 = .ok (.ifCond .ne 4, 3) := by decide +kernel
theorem dX4_bringBack_7 : decode cX4_bringBack 7 = .ok (.return_, 1) := by decide +kernel
theorem dX4_bringBack_8 : decode cX4_bringBack 8 = .ok (.aload_n 0, 1) := by decide +kernel
theorem dX4_bringBack_9 : decode cX4_bringBack 9 = .ok (.aload_n 0, 1) := by decide +kernel
theorem dX4_bringBack_10 : decode cX4_bringBack 10 = .ok (.getfield 22, 3) := by decide +kernel
theorem dX4_bringBack_13 : decode cX4_bringBack 13 = .ok (.ifCond .le 12, 3) := by decide +kernel
theorem dX4_bringBack_16 : decode cX4_bringBack 16 = .ok (.aload_n 0, 1) := by decide +kernel
theorem dX4_bringBack_17 : decode cX4_bringBack 17 = .ok (.getfield 22, 3) := by decide +kernel
theorem dX4_bringBack_20 : decode cX4_bringBack 20 = .ok (.iconst 1, 1) := by decide +kernel
theorem dX4_bringBack_21 : decode cX4_bringBack 21 = .ok (.isub, 1) := by decide +kernel
theorem dX4_bringBack_22 : decode cX4_bringBack 22 = .ok (.goto 5, 3) := by decide +kernel
theorem dX4_bringBack_25 : decode cX4_bringBack 25 = .ok (.bipush 9, 2) := by decide +kernel
theorem dX4_bringBack_27 : decode cX4_bringBack 27 = .ok (.putfield 22, 3) := by decide +kernel
theorem dX4_bringBack_30 : decode cX4_bringBack 30 = .ok (.aload_n 0, 1) := by decide +kernel
theorem dX4_bringBack_31 : decode cX4_bringBack 31 = .ok (.dup, 1) := by decide +kernel
theorem dX4_bringBack_32 : decode cX4_bringBack 32 = .ok (.getfield 18, 3) := by decide +kernel
theorem dX4_bringBack_35 : decode cX4_bringBack 35 = .ok (.iconst 1, 1) := by decide +kernel
theorem dX4_bringBack_36 : decode cX4_bringBack 36 = .ok (.isub, 1) := by decide +kernel
theorem dX4_bringBack_37 : decode cX4_bringBack 37 = .ok (.putfield 18, 3) := by decide +kernel
theorem dX4_bringBack_40 : decode cX4_bringBack 40 = .ok (.aload_n 0, 1) := by decide +kernel
theorem dX4_bringBack_41 : decode cX4_bringBack 41 = .ok (.getfield 11, 3) := by decide +kernel
theorem dX4_bringBack_44 : decode cX4_bringBack 44 = .ok (.aload_n 0, 1) := by decide +kernel
theorem dX4_bringBack_45 : decode cX4_bringBack 45 = .ok (.getfield 22, 3) := by decide +kernel
theorem dX4_bringBack_48 : decode cX4_bringBack 48 = .ok (.aaload, 1) := by decide +kernel
theorem dX4_bringBack_49 : decode cX4_bringBack 49 = .ok (.astore_n 2, 1) := by decide +kernel
theorem dX4_bringBack_50 : decode cX4_bringBack 50 = .ok (.aload_n 2, 1) := by decide +kernel
theorem dX4_bringBack_51 : decode cX4_bringBack 51 = .ok (.ifnull 8, 3) := by decide +kernel
theorem dX4_bringBack_54 : decode cX4_bringBack 54 = .ok (.aload_n 1, 1) := by decide +kernel
theorem dX4_bringBack_55 : decode cX4_bringBack 55 = .ok (.aload_n 2, 1) := by decide +kernel
theorem dX4_bringBack_56 : decode cX4_bringBack 56 = .ok (.invokevirtual 25, 3) := by decide +kernel
theorem dX4_bringBack_59 : decode cX4_bringBack 59 = .ok (.return_, 1) := by decide +kernel
theorem dX5_init_0 : decode cX5_init 0 = .ok (.aload_n 0, 1) := by decide +kernel
theorem dX5_init_1 : decode cX5_init 1 = .ok (.invokespecial 3, 3) := by decide +kernel
theorem dX5_init_4 : decode cX5_init 4 = .ok (.return_, 1) := by decide +kernel
theorem dX5_seedWith_0 : decode cX5_seedWith 0 = .ok (.aload_n 0, 1) := by decide +kernel
theorem dX5_seedWith_1 : decode cX5_seedWith 1 = .ok (.iload_n 1, 1) := by decide +kernel
theorem dX5_seedWith_2 : decode cX5_seedWith 2 = .ok (.i2l, 1) := by decide +kernel
theorem dX5_seedWith_3 : decode cX5_seedWith 3 = .ok (.putfield 9, 3) := by decide +kernel
theorem dX5_seedWith_6 : decode cX5_seedWith 6 = .ok (.return_, 1) := by decide +kernel
theorem dX5_drawTwentieth_0 : decode cX5_drawTwentieth 0 = .ok (.aload_n 0, 1) := by decide +kernel
theorem dX5_drawTwentieth_1 : decode cX5_drawTwentieth 1 = .ok (.ldc2_w 15, 3) := by decide +kernel
theorem dX5_drawTwentieth_4 : decode cX5_drawTwentieth 4 = .ok (.aload_n 0, 1) := by decide +kernel
theorem dX5_drawTwentieth_5 : decode cX5_drawTwentieth 5 = .ok (.getfield 9, 3) := by decide +kernel
theorem dX5_drawTwentieth_8 : decode cX5_drawTwentieth 8 = .ok (.lmul, 1) := by decide +kernel
theorem dX5_drawTwentieth_9 : decode cX5_drawTwentieth 9 = .ok (.ldc2_w 17, 3) := by decide +kernel
theorem dX5_drawTwentieth_12 : decode cX5_drawTwentieth 12 = .ok (.lrem, 1) := by decide +kernel
theorem dX5_drawTwentieth_13 : decode cX5_drawTwentieth 13 = .ok (.putfield 9, 3) := by decide +kernel
theorem dX5_drawTwentieth_16 : decode cX5_drawTwentieth 16 = .ok (.aload_n 0, 1) := by decide +kernel
theorem dX5_drawTwentieth_17 : decode cX5_drawTwentieth 17 = .ok (.getfield 9, 3) := by decide +kernel
theorem dX5_drawTwentieth_20 : decode cX5_drawTwentieth 20 = .ok (.ldc2_w 19, 3) := by decide +kernel
theorem dX5_drawTwentieth_23 : decode cX5_drawTwentieth 23 = .ok (.lrem, 1) := by decide +kernel
theorem dX5_drawTwentieth_24 : decode cX5_drawTwentieth 24 = .ok (.l2i, 1) := by decide +kernel
theorem dX5_drawTwentieth_25 : decode cX5_drawTwentieth 25 = .ok (.ireturn, 1) := by decide +kernel
theorem dX5_playOne_0 : decode cX5_playOne 0 = .ok (.iconst 0, 1) := by decide +kernel
theorem dX5_playOne_1 : decode cX5_playOne 1 = .ok (.istore 4, 2) := by decide +kernel
theorem dX5_playOne_3 : decode cX5_playOne 3 = .ok (.iload_n 3, 1) := by decide +kernel
theorem dX5_playOne_4 : decode cX5_playOne 4 = .ok (.ifCond .eq 24, 3) := by decide +kernel
theorem dX5_playOne_7 : decode cX5_playOne 7 = .ok (.aload_n 1, 1) := by decide +kernel
theorem dX5_playOne_8 : decode cX5_playOne 8 = .ok (.aload_n 2, 1) := by decide +kernel
theorem dX5_playOne_9 : decode cX5_playOne 9 = .ok (.iconst 2, 1) := by decide +kernel
theorem dX5_playOne_10 : decode cX5_playOne 10 = .ok (.aload_n 2, 1) := by decide +kernel
theorem dX5_playOne_11 : decode cX5_playOne 11 = .ok (.iconst 3, 1) := by decide +kernel
theorem dX5_playOne_12 : decode cX5_playOne 12 = .ok (.invokevirtual 21, 3) := by decide +kernel
theorem dX5_playOne_15 : decode cX5_playOne 15 = .ok (.invokevirtual 27, 3) := by decide +kernel
theorem dX5_playOne_18 : decode cX5_playOne 18 = .ok (.aload_n 1, 1) := by decide +kernel
theorem dX5_playOne_19 : decode cX5_playOne 19 = .ok (.aload_n 2, 1) := by decide +kernel
theorem dX5_playOne_20 : decode cX5_playOne 20 = .ok (.getfield 33, 3) := by decide +kernel
theorem dX5_playOne_23 : decode cX5_playOne 23 = .ok (.invokevirtual 37, 3) := by decide +kernel
theorem dX5_playOne_26 : decode cX5_playOne 26 = .ok (.istore 4, 2) := by decide +kernel
theorem dX5_playOne_28 : decode cX5_playOne 28 = .ok (.iload 4, 2) := by decide +kernel
theorem dX5_playOne_30 : decode cX5_playOne 30 = .ok (.iconst 2, 1) := by decide +kernel
theorem dX5_playOne_31 : decode cX5_playOne 31 = .ok (.if_icmp .ne 58, 3) := by decide +kernel
theorem dX5_playOne_34 : decode cX5_playOne 34 = .ok (.aload_n 2, 1) := by decide +kernel
theorem dX5_playOne_35 : decode cX5_playOne 35 = .ok (.getfield 40, 3) := by decide +kernel
theorem dX5_playOne_38 : decode cX5_playOne 38 = .ok (.istore 5, 2) := by decide +kernel
theorem dX5_playOne_40 : decode cX5_playOne 40 = .ok (.aload_n 2, 1) := by decide +kernel
theorem dX5_playOne_41 : decode cX5_playOne 41 = .ok (.aload_n 1, 1) := by decide +kernel
theorem dX5_playOne_42 : decode cX5_playOne 42 = .ok (.getfield 43, 3) := by decide +kernel
theorem dX5_playOne_45 : decode cX5_playOne 45 = .ok (.aload_n 0, 1) := by decide +kernel
theorem dX5_playOne_46 : decode cX5_playOne 46 = .ok (.invokevirtual 47, 3) := by decide +kernel
theorem dX5_playOne_49 : decode cX5_playOne 49 = .ok (.aload_n 2, 1) := by decide +kernel
theorem dX5_playOne_50 : decode cX5_playOne 50 = .ok (.iconst 3, 1) := by decide +kernel
theorem dX5_playOne_51 : decode cX5_playOne 51 = .ok (.invokevirtual 21, 3) := by decide +kernel
theorem dX5_playOne_54 : decode cX5_playOne 54 = .ok (.if_icmp .ge 8, 3) := by decide +kernel
theorem dX5_playOne_57 : decode cX5_playOne 57 = .ok (.bipush 7, 2) := by decide +kernel
theorem dX5_playOne_59 : decode cX5_playOne 59 = .ok (.goto 5, 3) := by decide +kernel
theorem dX5_playOne_62 : decode cX5_playOne 62 = .ok (.bipush 8, 2) := by decide +kernel
theorem dX5_playOne_64 : decode cX5_playOne 64 = .ok (.invokevirtual 51, 3) := by decide +kernel
theorem dX5_playOne_67 : decode cX5_playOne 67 = .ok (.pop, 1) := by decide +kernel
theorem dX5_playOne_68 : decode cX5_playOne 68 = .ok (.aload_n 2, 1) := by decide +kernel
theorem dX5_playOne_69 : decode cX5_playOne 69 = .ok (.getfield 40, 3) := by decide +kernel
theorem dX5_playOne_72 : decode cX5_playOne 72 = .ok (.iload 5, 2) := by decide +kernel
theorem dX5_playOne_74 : decode cX5_playOne 74 = .ok (.if_icmp .eq 5, 3) := by decide +kernel
theorem dX5_playOne_77 : decode cX5_playOne 77 = .ok (.iconst 0, 1) := by decide +kernel
theorem dX5_playOne_78 : decode cX5_playOne 78 = .ok (.ireturn, 1) := by decide +kernel
theorem dX5_playOne_79 : decode cX5_playOne 79 = .ok (.aload_n 1, 1) := by decide +kernel
theorem dX5_playOne_80 : decode cX5_playOne 80 = .ok (.aload_n 2, 1) := by decide +kernel
theorem dX5_playOne_81 : decode cX5_playOne 81 = .ok (.getfield 33, 3) := by decide +kernel
theorem dX5_playOne_84 : decode cX5_playOne 84 = .ok (.invokevirtual 55, 3) := by decide +kernel
theorem dX5_playOne_87 : decode cX5_playOne 87 = .ok (.istore 4, 2) := by decide +kernel
theorem dX5_playOne_89 : decode cX5_playOne 89 = .ok (.aload_n 2, 1) := by decide +kernel
theorem dX5_playOne_90 : decode cX5_playOne 90 = .ok (.aload_n 1, 1) := by decide +kernel
theorem dX5_playOne_91 : decode cX5_playOne 91 = .ok (.getfield 43, 3) := by decide +kernel
theorem dX5_playOne_94 : decode cX5_playOne 94 = .ok (.iload 4, 2) := by decide +kernel
theorem dX5_playOne_96 : decode cX5_playOne 96 = .ok (.iconst 1, 1) := by decide +kernel
theorem dX5_playOne_97 : decode cX5_playOne 97 = .ok (.if_icmp .ne 8, 3) := by decide +kernel
theorem dX5_playOne_100 : decode cX5_playOne 100 = .ok (.bipush 6, 2) := by decide +kernel
theorem dX5_playOne_102 : decode cX5_playOne 102 = .ok (.goto 8, 3) := by decide +kernel
theorem dX5_playOne_105 : decode cX5_playOne 105 = .ok (.aload_n 0, 1) := by decide +kernel
theorem dX5_playOne_106 : decode cX5_playOne 106 = .ok (.aload_n 2, 1) := by decide +kernel
theorem dX5_playOne_107 : decode cX5_playOne 107 = .ok (.invokevirtual 58, 3) := by decide +kernel
theorem dX5_playOne_110 : decode cX5_playOne 110 = .ok (.invokevirtual 51, 3) := by decide +kernel
theorem dX5_playOne_113 : decode cX5_playOne 113 = .ok (.ireturn, 1) := by decide +kernel
theorem dX5_drawHit_0 : decode cX5_drawHit 0 = .ok (.aload_n 0, 1) := by decide +kernel
theorem dX5_drawHit_1 : decode cX5_drawHit 1 = .ok (.invokevirtual 47, 3) := by decide +kernel
theorem dX5_drawHit_4 : decode cX5_drawHit 4 = .ok (.istore_n 2, 1) := by decide +kernel
theorem dX5_drawHit_5 : decode cX5_drawHit 5 = .ok (.iconst 0, 1) := by decide +kernel
theorem dX5_drawHit_6 : decode cX5_drawHit 6 = .ok (.istore_n 3, 1) := by decide +kernel
theorem dX5_drawHit_7 : decode cX5_drawHit 7 = .ok (.iload_n 3, 1) := by decide +kernel
theorem dX5_drawHit_8 : decode cX5_drawHit 8 = .ok (.iconst 5, 1) := by decide +kernel
theorem dX5_drawHit_9 : decode cX5_drawHit 9 = .ok (.if_icmp .ge 31, 3) := by decide +kernel
theorem dX5_drawHit_12 : decode cX5_drawHit 12 = .ok (.iload_n 2, 1) := by decide +kernel
theorem dX5_drawHit_13 : decode cX5_drawHit 13 = .ok (.aload_n 1, 1) := by decide +kernel
theorem dX5_drawHit_14 : decode cX5_drawHit 14 = .ok (.aload_n 1, 1) := by decide +kernel
theorem dX5_drawHit_15 : decode cX5_drawHit 15 = .ok (.getfield 62, 3) := by decide +kernel
theorem dX5_drawHit_18 : decode cX5_drawHit 18 = .ok (.iload_n 3, 1) := by decide +kernel
theorem dX5_drawHit_19 : decode cX5_drawHit 19 = .ok (.aload_n 1, 1) := by decide +kernel
theorem dX5_drawHit_20 : decode cX5_drawHit 20 = .ok (.getfield 65, 3) := by decide +kernel
theorem dX5_drawHit_23 : decode cX5_drawHit 23 = .ok (.invokevirtual 68, 3) := by decide +kernel
theorem dX5_drawHit_26 : decode cX5_drawHit 26 = .ok (.isub, 1) := by decide +kernel
theorem dX5_drawHit_27 : decode cX5_drawHit 27 = .ok (.istore_n 2, 1) := by decide +kernel
theorem dX5_drawHit_28 : decode cX5_drawHit 28 = .ok (.iload_n 2, 1) := by decide +kernel
theorem dX5_drawHit_29 : decode cX5_drawHit 29 = .ok (.ifCond .ge 5, 3) := by decide +kernel
theorem dX5_drawHit_32 : decode cX5_drawHit 32 = .ok (.iload_n 3, 1) := by decide +kernel
theorem dX5_drawHit_33 : decode cX5_drawHit 33 = .ok (.ireturn, 1) := by decide +kernel
theorem dX5_drawHit_34 : decode cX5_drawHit 34 = .ok (.iinc 3 1, 3) := by decide +kernel
theorem dX5_drawHit_37 : decode cX5_drawHit 37 = .ok (.goto (-30), 3) := by decide +kernel
theorem dX5_drawHit_40 : decode cX5_drawHit 40 = .ok (.iconst 5, 1) := by decide +kernel
theorem dX5_drawHit_41 : decode cX5_drawHit 41 = .ok (.ireturn, 1) := by decide +kernel
theorem dX6_init_0 : decode cX6_init 0 = .ok (.aload_n 0, 1) := by decide +kernel
theorem dX6_init_1 : decode cX6_init 1 = .ok (.invokespecial 3, 3) := by decide +kernel
theorem dX6_init_4 : decode cX6_init 4 = .ok (.aload_n 0, 1) := by decide +kernel
theorem dX6_init_5 : decode cX6_init 5 = .ok (.bipush 9, 2) := by decide +kernel
theorem dX6_init_7 : decode cX6_init 7 = .ok (.newarray .int, 2) := by decide +kernel
theorem dX6_init_9 : decode cX6_init 9 = .ok (.putfield 9, 3) := by decide +kernel
theorem dX6_init_12 : decode cX6_init 12 = .ok (.aload_n 0, 1) := by decide +kernel
theorem dX6_init_13 : decode cX6_init 13 = .ok (.bipush 54, 2) := by decide +kernel
theorem dX6_init_15 : decode cX6_init 15 = .ok (.newarray .int, 2) := by decide +kernel
theorem dX6_init_17 : decode cX6_init 17 = .ok (.putfield 15, 3) := by decide +kernel
theorem dX6_init_20 : decode cX6_init 20 = .ok (.aload_n 0, 1) := by decide +kernel
theorem dX6_init_21 : decode cX6_init 21 = .ok (.iconst 5, 1) := by decide +kernel
theorem dX6_init_22 : decode cX6_init 22 = .ok (.newarray .int, 2) := by decide +kernel
theorem dX6_init_24 : decode cX6_init 24 = .ok (.putfield 18, 3) := by decide +kernel
theorem dX6_init_27 : decode cX6_init 27 = .ok (.aload_n 0, 1) := by decide +kernel
theorem dX6_init_28 : decode cX6_init 28 = .ok (.sipush 500, 3) := by decide +kernel
theorem dX6_init_31 : decode cX6_init 31 = .ok (.newarray .byte, 2) := by decide +kernel
theorem dX6_init_33 : decode cX6_init 33 = .ok (.putfield 21, 3) := by decide +kernel
theorem dX6_init_36 : decode cX6_init 36 = .ok (.aload_n 0, 1) := by decide +kernel
theorem dX6_init_37 : decode cX6_init 37 = .ok (.bipush 6, 2) := by decide +kernel
theorem dX6_init_39 : decode cX6_init 39 = .ok (.newarray .int, 2) := by decide +kernel
theorem dX6_init_41 : decode cX6_init 41 = .ok (.dup, 1) := by decide +kernel
theorem dX6_init_42 : decode cX6_init 42 = .ok (.iconst 0, 1) := by decide +kernel
theorem dX6_init_43 : decode cX6_init 43 = .ok (.ldc 25, 2) := by decide +kernel
theorem dX6_init_45 : decode cX6_init 45 = .ok (.invokestatic 27, 3) := by decide +kernel
theorem dX6_init_48 : decode cX6_init 48 = .ok (.iastore, 1) := by decide +kernel
theorem dX6_init_49 : decode cX6_init 49 = .ok (.dup, 1) := by decide +kernel
theorem dX6_init_50 : decode cX6_init 50 = .ok (.iconst 1, 1) := by decide +kernel
theorem dX6_init_51 : decode cX6_init 51 = .ok (.ldc 31, 2) := by decide +kernel
theorem dX6_init_53 : decode cX6_init 53 = .ok (.invokestatic 27, 3) := by decide +kernel
theorem dX6_init_56 : decode cX6_init 56 = .ok (.iastore, 1) := by decide +kernel
theorem dX6_init_57 : decode cX6_init 57 = .ok (.dup, 1) := by decide +kernel
theorem dX6_init_58 : decode cX6_init 58 = .ok (.iconst 2, 1) := by decide +kernel
theorem dX6_init_59 : decode cX6_init 59 = .ok (.ldc 33, 2) := by decide +kernel
theorem dX6_init_61 : decode cX6_init 61 = .ok (.invokestatic 27, 3) := by decide +kernel
theorem dX6_init_64 : decode cX6_init 64 = .ok (.iastore, 1) := by decide +kernel
theorem dX6_init_65 : decode cX6_init 65 = .ok (.dup, 1) := by decide +kernel
theorem dX6_init_66 : decode cX6_init 66 = .ok (.iconst 3, 1) := by decide +kernel
theorem dX6_init_67 : decode cX6_init 67 = .ok (.ldc 35, 2) := by decide +kernel
theorem dX6_init_69 : decode cX6_init 69 = .ok (.invokestatic 27, 3) := by decide +kernel
theorem dX6_init_72 : decode cX6_init 72 = .ok (.iastore, 1) := by decide +kernel
theorem dX6_init_73 : decode cX6_init 73 = .ok (.dup, 1) := by decide +kernel
theorem dX6_init_74 : decode cX6_init 74 = .ok (.iconst 4, 1) := by decide +kernel
theorem dX6_init_75 : decode cX6_init 75 = .ok (.ldc 37, 2) := by decide +kernel
theorem dX6_init_77 : decode cX6_init 77 = .ok (.invokestatic 27, 3) := by decide +kernel
theorem dX6_init_80 : decode cX6_init 80 = .ok (.iastore, 1) := by decide +kernel
theorem dX6_init_81 : decode cX6_init 81 = .ok (.dup, 1) := by decide +kernel
theorem dX6_init_82 : decode cX6_init 82 = .ok (.iconst 5, 1) := by decide +kernel
theorem dX6_init_83 : decode cX6_init 83 = .ok (.ldc 39, 2) := by decide +kernel
theorem dX6_init_85 : decode cX6_init 85 = .ok (.invokestatic 27, 3) := by decide +kernel
theorem dX6_init_88 : decode cX6_init 88 = .ok (.iastore, 1) := by decide +kernel
theorem dX6_init_89 : decode cX6_init 89 = .ok (.putfield 41, 3) := by decide +kernel
theorem dX6_init_92 : decode cX6_init 92 = .ok (.aload_n 0, 1) := by decide +kernel
theorem dX6_init_93 : decode cX6_init 93 = .ok (.iconst 5, 1) := by decide +kernel
theorem dX6_init_94 : decode cX6_init 94 = .ok (.newarray .boolean, 2) := by decide +kernel
theorem dX6_init_96 : decode cX6_init 96 = .ok (.putfield 44, 3) := by decide +kernel
theorem dX6_init_99 : decode cX6_init 99 = .ok (.return_, 1) := by decide +kernel
theorem dX6_put_0 : decode cX6_put 0 = .ok (.bipush 24, 2) := by decide +kernel
theorem dX6_put_2 : decode cX6_put 2 = .ok (.istore_n 2, 1) := by decide +kernel
theorem dX6_put_3 : decode cX6_put 3 = .ok (.iload_n 2, 1) := by decide +kernel
theorem dX6_put_4 : decode cX6_put 4 = .ok (.ifCond .lt 42, 3) := by decide +kernel
theorem dX6_put_7 : decode cX6_put 7 = .ok (.aload_n 0, 1) := by decide +kernel
theorem dX6_put_8 : decode cX6_put 8 = .ok (.getfield 48, 3) := by decide +kernel
theorem dX6_put_11 : decode cX6_put 11 = .ok (.sipush 500, 3) := by decide +kernel
theorem dX6_put_14 : decode cX6_put 14 = .ok (.if_icmp .ge 32, 3) := by decide +kernel
theorem dX6_put_17 : decode cX6_put 17 = .ok (.aload_n 0, 1) := by decide +kernel
theorem dX6_put_18 : decode cX6_put 18 = .ok (.getfield 21, 3) := by decide +kernel
theorem dX6_put_21 : decode cX6_put 21 = .ok (.aload_n 0, 1) := by decide +kernel
theorem dX6_put_22 : decode cX6_put 22 = .ok (.getfield 48, 3) := by decide +kernel
theorem dX6_put_25 : decode cX6_put 25 = .ok (.iload_n 1, 1) := by decide +kernel
theorem dX6_put_26 : decode cX6_put 26 = .ok (.iload_n 2, 1) := by decide +kernel
theorem dX6_put_27 : decode cX6_put 27 = .ok (.ishr, 1) := by decide +kernel
theorem dX6_put_28 : decode cX6_put 28 = .ok (.i2b, 1) := by decide +kernel
theorem dX6_put_29 : decode cX6_put 29 = .ok (.bastore, 1) := by decide +kernel
theorem dX6_put_30 : decode cX6_put 30 = .ok (.aload_n 0, 1) := by decide +kernel
theorem dX6_put_31 : decode cX6_put 31 = .ok (.dup, 1) := by decide +kernel
theorem dX6_put_32 : decode cX6_put 32 = .ok (.getfield 48, 3) := by decide +kernel
theorem dX6_put_35 : decode cX6_put 35 = .ok (.iconst 1, 1) := by decide +kernel
theorem dX6_put_36 : decode cX6_put 36 = .ok (.iadd, 1) := by decide +kernel
theorem dX6_put_37 : decode cX6_put 37 = .ok (.putfield 48, 3) := by decide +kernel
theorem dX6_put_40 : decode cX6_put 40 = .ok (.iinc 2 (-8), 3) := by decide +kernel
theorem dX6_put_43 : decode cX6_put 43 = .ok (.goto (-40), 3) := by decide +kernel
theorem dX6_put_46 : decode cX6_put 46 = .ok (.return_, 1) := by decide +kernel
theorem dX6_read_0 : decode cX6_read 0 = .ok (.aload_n 0, 1) := by decide +kernel
theorem dX6_read_1 : decode cX6_read 1 = .ok (.iload_n 1, 1) := by decide +kernel
theorem dX6_read_2 : decode cX6_read 2 = .ok (.invokevirtual 52, 3) := by decide +kernel
theorem dX6_read_5 : decode cX6_read 5 = .ok (.aload_n 0, 1) := by decide +kernel
theorem dX6_read_6 : decode cX6_read 6 = .ok (.invokevirtual 56, 3) := by decide +kernel
theorem dX6_read_9 : decode cX6_read 9 = .ok (.iconst 1, 1) := by decide +kernel
theorem dX6_read_10 : decode cX6_read 10 = .ok (.istore_n 2, 1) := by decide +kernel
theorem dX6_read_11 : decode cX6_read 11 = .ok (.iconst 0, 1) := by decide +kernel
theorem dX6_read_12 : decode cX6_read 12 = .ok (.istore_n 3, 1) := by decide +kernel
theorem dX6_read_13 : decode cX6_read 13 = .ok (.iload_n 2, 1) := by decide +kernel
theorem dX6_read_14 : decode cX6_read 14 = .ok (.ifCond .eq 34, 3) := by decide +kernel
theorem dX6_read_17 : decode cX6_read 17 = .ok (.iload_n 3, 1) := by decide +kernel
theorem dX6_read_18 : decode cX6_read 18 = .ok (.iload_n 1, 1) := by decide +kernel
theorem dX6_read_19 : decode cX6_read 19 = .ok (.if_icmp .gt 29, 3) := by decide +kernel
theorem dX6_read_22 : decode cX6_read 22 = .ok (.aload_n 0, 1) := by decide +kernel
theorem dX6_read_23 : decode cX6_read 23 = .ok (.invokevirtual 59, 3) := by decide +kernel
theorem dX6_read_26 : decode cX6_read 26 = .ok (.ifCond .eq 14, 3) := by decide +kernel
theorem dX6_read_29 : decode cX6_read 29 = .ok (.aload_n 0, 1) := by decide +kernel
theorem dX6_read_30 : decode cX6_read 30 = .ok (.invokevirtual 63, 3) := by decide +kernel
theorem dX6_read_33 : decode cX6_read 33 = .ok (.ifCond .eq 7, 3) := by decide +kernel
theorem dX6_read_36 : decode cX6_read 36 = .ok (.iconst 1, 1) := by decide +kernel
theorem dX6_read_37 : decode cX6_read 37 = .ok (.goto 4, 3) := by decide +kernel
theorem dX6_read_40 : decode cX6_read 40 = .ok (.iconst 0, 1) := by decide +kernel
theorem dX6_read_41 : decode cX6_read 41 = .ok (.istore_n 2, 1) := by decide +kernel
theorem dX6_read_42 : decode cX6_read 42 = .ok (.iinc 3 1, 3) := by decide +kernel
theorem dX6_read_45 : decode cX6_read 45 = .ok (.goto (-32), 3) := by decide +kernel
theorem dX6_read_48 : decode cX6_read 48 = .ok (.aload_n 0, 1) := by decide +kernel
theorem dX6_read_49 : decode cX6_read 49 = .ok (.getfield 66, 3) := by decide +kernel
theorem dX6_read_52 : decode cX6_read 52 = .ok (.ifCond .ne 16, 3) := by decide +kernel
theorem dX6_read_55 : decode cX6_read 55 = .ok (.aload_n 0, 1) := by decide +kernel
theorem dX6_read_56 : decode cX6_read 56 = .ok (.getfield 69, 3) := by decide +kernel
theorem dX6_read_59 : decode cX6_read 59 = .ok (.ifCond .ne 9, 3) := by decide +kernel
theorem dX6_read_62 : decode cX6_read 62 = .ok (.aload_n 0, 1) := by decide +kernel
theorem dX6_read_63 : decode cX6_read 63 = .ok (.iconst 5, 1) := by decide +kernel
theorem dX6_read_64 : decode cX6_read 64 = .ok (.invokevirtual 72, 3) := by decide +kernel
theorem dX6_read_67 : decode cX6_read 67 = .ok (.pop, 1) := by decide +kernel
theorem dX6_read_68 : decode cX6_read 68 = .ok (.aload_n 0, 1) := by decide +kernel
theorem dX6_read_69 : decode cX6_read 69 = .ok (.getfield 66, 3) := by decide +kernel
theorem dX6_read_72 : decode cX6_read 72 = .ok (.ireturn, 1) := by decide +kernel
theorem dX6_onlyWord_0 : decode cX6_onlyWord 0 = .ok (.aload_n 0, 1) := by decide +kernel
theorem dX6_onlyWord_1 : decode cX6_onlyWord 1 = .ok (.iload_n 1, 1) := by decide +kernel
theorem dX6_onlyWord_2 : decode cX6_onlyWord 2 = .ok (.invokevirtual 52, 3) := by decide +kernel
theorem dX6_onlyWord_5 : decode cX6_onlyWord 5 = .ok (.aload_n 0, 1) := by decide +kernel
theorem dX6_onlyWord_6 : decode cX6_onlyWord 6 = .ok (.invokevirtual 76, 3) := by decide +kernel
theorem dX6_onlyWord_9 : decode cX6_onlyWord 9 = .ok (.aload_n 0, 1) := by decide +kernel
theorem dX6_onlyWord_10 : decode cX6_onlyWord 10 = .ok (.getfield 79, 3) := by decide +kernel
theorem dX6_onlyWord_13 : decode cX6_onlyWord 13 = .ok (.ifCond .ne 10, 3) := by decide +kernel
theorem dX6_onlyWord_16 : decode cX6_onlyWord 16 = .ok (.aload_n 0, 1) := by decide +kernel
theorem dX6_onlyWord_17 : decode cX6_onlyWord 17 = .ok (.getfield 82, 3) := by decide +kernel
theorem dX6_onlyWord_20 : decode cX6_onlyWord 20 = .ok (.goto 4, 3) := by decide +kernel
theorem dX6_onlyWord_23 : decode cX6_onlyWord 23 = .ok (.iconst (-1), 1) := by decide +kernel
theorem dX6_onlyWord_24 : decode cX6_onlyWord 24 = .ok (.istore_n 2, 1) := by decide +kernel
theorem dX6_onlyWord_25 : decode cX6_onlyWord 25 = .ok (.aload_n 0, 1) := by decide +kernel
theorem dX6_onlyWord_26 : decode cX6_onlyWord 26 = .ok (.invokevirtual 76, 3) := by decide +kernel
theorem dX6_onlyWord_29 : decode cX6_onlyWord 29 = .ok (.aload_n 0, 1) := by decide +kernel
theorem dX6_onlyWord_30 : decode cX6_onlyWord 30 = .ok (.getfield 79, 3) := by decide +kernel
theorem dX6_onlyWord_33 : decode cX6_onlyWord 33 = .ok (.iconst 3, 1) := by decide +kernel
theorem dX6_onlyWord_34 : decode cX6_onlyWord 34 = .ok (.if_icmp .ne 7, 3) := by decide +kernel
theorem dX6_onlyWord_37 : decode cX6_onlyWord 37 = .ok (.iload_n 2, 1) := by decide +kernel
theorem dX6_onlyWord_38 : decode cX6_onlyWord 38 = .ok (.goto 4, 3) := by decide +kernel
theorem dX6_onlyWord_41 : decode cX6_onlyWord 41 = .ok (.iconst (-1), 1) := by decide +kernel
theorem dX6_onlyWord_42 : decode cX6_onlyWord 42 = .ok (.ireturn, 1) := by decide +kernel
theorem dX6_startAt_0 : decode cX6_startAt 0 = .ok (.aload_n 0, 1) := by decide +kernel
theorem dX6_startAt_1 : decode cX6_startAt 1 = .ok (.iconst 0, 1) := by decide +kernel
theorem dX6_startAt_2 : decode cX6_startAt 2 = .ok (.iload_n 1, 1) := by decide +kernel
theorem dX6_startAt_3 : decode cX6_startAt 3 = .ok (.aload_n 0, 1) := by decide +kernel
theorem dX6_startAt_4 : decode cX6_startAt 4 = .ok (.getfield 48, 3) := by decide +kernel
theorem dX6_startAt_7 : decode cX6_startAt 7 = .ok (.invokestatic 85, 3) := by decide +kernel
theorem dX6_startAt_10 : decode cX6_startAt 10 = .ok (.invokestatic 91, 3) := by decide +kernel
theorem dX6_startAt_13 : decode cX6_startAt 13 = .ok (.putfield 94, 3) := by decide +kernel
theorem dX6_startAt_16 : decode cX6_startAt 16 = .ok (.aload_n 0, 1) := by decide +kernel
theorem dX6_startAt_17 : decode cX6_startAt 17 = .ok (.iconst 0, 1) := by decide +kernel
theorem dX6_startAt_18 : decode cX6_startAt 18 = .ok (.putfield 97, 3) := by decide +kernel
theorem dX6_startAt_21 : decode cX6_startAt 21 = .ok (.aload_n 0, 1) := by decide +kernel
theorem dX6_startAt_22 : decode cX6_startAt 22 = .ok (.iconst 0, 1) := by decide +kernel
theorem dX6_startAt_23 : decode cX6_startAt 23 = .ok (.putfield 66, 3) := by decide +kernel
theorem dX6_startAt_26 : decode cX6_startAt 26 = .ok (.return_, 1) := by decide +kernel
theorem dX6_clearSheet_0 : decode cX6_clearSheet 0 = .ok (.aload_n 0, 1) := by decide +kernel
theorem dX6_clearSheet_1 : decode cX6_clearSheet 1 = .ok (.iconst 0, 1) := by decide +kernel
theorem dX6_clearSheet_2 : decode cX6_clearSheet 2 = .ok (.putfield 69, 3) := by decide +kernel
theorem dX6_clearSheet_5 : decode cX6_clearSheet 5 = .ok (.iconst 0, 1) := by decide +kernel
theorem dX6_clearSheet_6 : decode cX6_clearSheet 6 = .ok (.istore_n 1, 1) := by decide +kernel
theorem dX6_clearSheet_7 : decode cX6_clearSheet 7 = .ok (.iload_n 1, 1) := by decide +kernel
theorem dX6_clearSheet_8 : decode cX6_clearSheet 8 = .ok (.iconst 5, 1) := by decide +kernel
theorem dX6_clearSheet_9 : decode cX6_clearSheet 9 = .ok (.if_icmp .ge 16, 3) := by decide +kernel
theorem dX6_clearSheet_12 : decode cX6_clearSheet 12 = .ok (.aload_n 0, 1) := by decide +kernel
theorem dX6_clearSheet_13 : decode cX6_clearSheet 13 = .ok (.getfield 44, 3) := by decide +kernel
theorem dX6_clearSheet_16 : decode cX6_clearSheet 16 = .ok (.iload_n 1, 1) := by decide +kernel
theorem dX6_clearSheet_17 : decode cX6_clearSheet 17 = .ok (.iconst 0, 1) := by decide +kernel
theorem dX6_clearSheet_18 : decode cX6_clearSheet 18 = .ok (.bastore, 1) := by decide +kernel
theorem dX6_clearSheet_19 : decode cX6_clearSheet 19 = .ok (.iinc 1 1, 3) := by decide +kernel
theorem dX6_clearSheet_22 : decode cX6_clearSheet 22 = .ok (.goto (-15), 3) := by decide +kernel
theorem dX6_clearSheet_25 : decode cX6_clearSheet 25 = .ok (.aload_n 0, 1) := by decide +kernel
theorem dX6_clearSheet_26 : decode cX6_clearSheet 26 = .ok (.getfield 18, 3) := by decide +kernel
theorem dX6_clearSheet_29 : decode cX6_clearSheet 29 = .ok (.iconst 0, 1) := by decide +kernel
theorem dX6_clearSheet_30 : decode cX6_clearSheet 30 = .ok (.iconst 1, 1) := by decide +kernel
theorem dX6_clearSheet_31 : decode cX6_clearSheet 31 = .ok (.iastore, 1) := by decide +kernel
theorem dX6_clearSheet_32 : decode cX6_clearSheet 32 = .ok (.aload_n 0, 1) := by decide +kernel
theorem dX6_clearSheet_33 : decode cX6_clearSheet 33 = .ok (.getfield 18, 3) := by decide +kernel
theorem dX6_clearSheet_36 : decode cX6_clearSheet 36 = .ok (.iconst 1, 1) := by decide +kernel
theorem dX6_clearSheet_37 : decode cX6_clearSheet 37 = .ok (.iconst 2, 1) := by decide +kernel
theorem dX6_clearSheet_38 : decode cX6_clearSheet 38 = .ok (.iastore, 1) := by decide +kernel
theorem dX6_clearSheet_39 : decode cX6_clearSheet 39 = .ok (.aload_n 0, 1) := by decide +kernel
theorem dX6_clearSheet_40 : decode cX6_clearSheet 40 = .ok (.getfield 18, 3) := by decide +kernel
theorem dX6_clearSheet_43 : decode cX6_clearSheet 43 = .ok (.iconst 2, 1) := by decide +kernel
theorem dX6_clearSheet_44 : decode cX6_clearSheet 44 = .ok (.iconst 0, 1) := by decide +kernel
theorem dX6_clearSheet_45 : decode cX6_clearSheet 45 = .ok (.iastore, 1) := by decide +kernel
theorem dX6_clearSheet_46 : decode cX6_clearSheet 46 = .ok (.aload_n 0, 1) := by decide +kernel
theorem dX6_clearSheet_47 : decode cX6_clearSheet 47 = .ok (.getfield 18, 3) := by decide +kernel
theorem dX6_clearSheet_50 : decode cX6_clearSheet 50 = .ok (.iconst 3, 1) := by decide +kernel
theorem dX6_clearSheet_51 : decode cX6_clearSheet 51 = .ok (.bipush 14, 2) := by decide +kernel
theorem dX6_clearSheet_53 : decode cX6_clearSheet 53 = .ok (.iastore, 1) := by decide +kernel
theorem dX6_clearSheet_54 : decode cX6_clearSheet 54 = .ok (.aload_n 0, 1) := by decide +kernel
theorem dX6_clearSheet_55 : decode cX6_clearSheet 55 = .ok (.getfield 18, 3) := by decide +kernel
theorem dX6_clearSheet_58 : decode cX6_clearSheet 58 = .ok (.iconst 4, 1) := by decide +kernel
theorem dX6_clearSheet_59 : decode cX6_clearSheet 59 = .ok (.bipush 30, 2) := by decide +kernel
theorem dX6_clearSheet_61 : decode cX6_clearSheet 61 = .ok (.iastore, 1) := by decide +kernel
theorem dX6_clearSheet_62 : decode cX6_clearSheet 62 = .ok (.return_, 1) := by decide +kernel
theorem dX6_readLine_0 : decode cX6_readLine 0 = .ok (.aload_n 0, 1) := by decide +kernel
theorem dX6_readLine_1 : decode cX6_readLine 1 = .ok (.invokevirtual 76, 3) := by decide +kernel
theorem dX6_readLine_4 : decode cX6_readLine 4 = .ok (.aload_n 0, 1) := by decide +kernel
theorem dX6_readLine_5 : decode cX6_readLine 5 = .ok (.getfield 79, 3) := by decide +kernel
theorem dX6_readLine_8 : decode cX6_readLine 8 = .ok (.ifCond .ne 14, 3) := by decide +kernel
theorem dX6_readLine_11 : decode cX6_readLine 11 = .ok (.aload_n 0, 1) := by decide +kernel
theorem dX6_readLine_12 : decode cX6_readLine 12 = .ok (.aload_n 0, 1) := by decide +kernel
theorem dX6_readLine_13 : decode cX6_readLine 13 = .ok (.getfield 82, 3) := by decide +kernel
theorem dX6_readLine_16 : decode cX6_readLine 16 = .ok (.invokevirtual 100, 3) := by decide +kernel
theorem dX6_readLine_19 : decode cX6_readLine 19 = .ok (.goto 4, 3) := by decide +kernel
theorem dX6_readLine_22 : decode cX6_readLine 22 = .ok (.iconst (-1), 1) := by decide +kernel
theorem dX6_readLine_23 : decode cX6_readLine 23 = .ok (.istore_n 1, 1) := by decide +kernel
theorem dX6_readLine_24 : decode cX6_readLine 24 = .ok (.iload_n 1, 1) := by decide +kernel
theorem dX6_readLine_25 : decode cX6_readLine 25 = .ok (.iconst 5, 1) := by decide +kernel
theorem dX6_readLine_26 : decode cX6_readLine 26 = .ok (.if_icmp .ne 23, 3) := by decide +kernel
theorem dX6_readLine_29 : decode cX6_readLine 29 = .ok (.aload_n 0, 1) := by decide +kernel
theorem dX6_readLine_30 : decode cX6_readLine 30 = .ok (.invokevirtual 104, 3) := by decide +kernel
theorem dX6_readLine_33 : decode cX6_readLine 33 = .ok (.ifCond .eq 14, 3) := by decide +kernel
theorem dX6_readLine_36 : decode cX6_readLine 36 = .ok (.aload_n 0, 1) := by decide +kernel
theorem dX6_readLine_37 : decode cX6_readLine 37 = .ok (.invokevirtual 107, 3) := by decide +kernel
theorem dX6_readLine_40 : decode cX6_readLine 40 = .ok (.ifCond .eq 7, 3) := by decide +kernel
theorem dX6_readLine_43 : decode cX6_readLine 43 = .ok (.iconst 1, 1) := by decide +kernel
theorem dX6_readLine_44 : decode cX6_readLine 44 = .ok (.goto 4, 3) := by decide +kernel
theorem dX6_readLine_47 : decode cX6_readLine 47 = .ok (.iconst 0, 1) := by decide +kernel
theorem dX6_readLine_48 : decode cX6_readLine 48 = .ok (.ireturn, 1) := by decide +kernel
theorem dX6_readLine_49 : decode cX6_readLine 49 = .ok (.iload_n 1, 1) := by decide +kernel
theorem dX6_readLine_50 : decode cX6_readLine 50 = .ok (.ifCond .lt 16, 3) := by decide +kernel
theorem dX6_readLine_53 : decode cX6_readLine 53 = .ok (.iload_n 1, 1) := by decide +kernel
theorem dX6_readLine_54 : decode cX6_readLine 54 = .ok (.iconst 5, 1) := by decide +kernel
theorem dX6_readLine_55 : decode cX6_readLine 55 = .ok (.if_icmp .ge 11, 3) := by decide +kernel
theorem dX6_readLine_58 : decode cX6_readLine 58 = .ok (.aload_n 0, 1) := by decide +kernel
theorem dX6_readLine_59 : decode cX6_readLine 59 = .ok (.iload_n 1, 1) := by decide +kernel
theorem dX6_readLine_60 : decode cX6_readLine 60 = .ok (.invokevirtual 110, 3) := by decide +kernel
theorem dX6_readLine_63 : decode cX6_readLine 63 = .ok (.goto 8, 3) := by decide +kernel
theorem dX6_readLine_66 : decode cX6_readLine 66 = .ok (.aload_n 0, 1) := by decide +kernel
theorem dX6_readLine_67 : decode cX6_readLine 67 = .ok (.iconst 1, 1) := by decide +kernel
theorem dX6_readLine_68 : decode cX6_readLine 68 = .ok (.invokevirtual 72, 3) := by decide +kernel
theorem dX6_readLine_71 : decode cX6_readLine 71 = .ok (.ireturn, 1) := by decide +kernel
theorem dX6_goesOn_0 : decode cX6_goesOn 0 = .ok (.aload_n 0, 1) := by decide +kernel
theorem dX6_goesOn_1 : decode cX6_goesOn 1 = .ok (.invokevirtual 76, 3) := by decide +kernel
theorem dX6_goesOn_4 : decode cX6_goesOn 4 = .ok (.aload_n 0, 1) := by decide +kernel
theorem dX6_goesOn_5 : decode cX6_goesOn 5 = .ok (.getfield 79, 3) := by decide +kernel
theorem dX6_goesOn_8 : decode cX6_goesOn 8 = .ok (.iconst 3, 1) := by decide +kernel
theorem dX6_goesOn_9 : decode cX6_goesOn 9 = .ok (.if_icmp .ne 5, 3) := by decide +kernel
theorem dX6_goesOn_12 : decode cX6_goesOn 12 = .ok (.iconst 0, 1) := by decide +kernel
theorem dX6_goesOn_13 : decode cX6_goesOn 13 = .ok (.ireturn, 1) := by decide +kernel
theorem dX6_goesOn_14 : decode cX6_goesOn 14 = .ok (.aload_n 0, 1) := by decide +kernel
theorem dX6_goesOn_15 : decode cX6_goesOn 15 = .ok (.getfield 79, 3) := by decide +kernel
theorem dX6_goesOn_18 : decode cX6_goesOn 18 = .ok (.iconst 2, 1) := by decide +kernel
theorem dX6_goesOn_19 : decode cX6_goesOn 19 = .ok (.if_icmp .eq 11, 3) := by decide +kernel
theorem dX6_goesOn_22 : decode cX6_goesOn 22 = .ok (.aload_n 0, 1) := by decide +kernel
theorem dX6_goesOn_23 : decode cX6_goesOn 23 = .ok (.iconst 1, 1) := by decide +kernel
theorem dX6_goesOn_24 : decode cX6_goesOn 24 = .ok (.invokevirtual 72, 3) := by decide +kernel
theorem dX6_goesOn_27 : decode cX6_goesOn 27 = .ok (.ifCond .eq 7, 3) := by decide +kernel
theorem dX6_goesOn_30 : decode cX6_goesOn 30 = .ok (.iconst 1, 1) := by decide +kernel
theorem dX6_goesOn_31 : decode cX6_goesOn 31 = .ok (.goto 4, 3) := by decide +kernel
theorem dX6_goesOn_34 : decode cX6_goesOn 34 = .ok (.iconst 0, 1) := by decide +kernel
theorem dX6_goesOn_35 : decode cX6_goesOn 35 = .ok (.ireturn, 1) := by decide +kernel
theorem dX6_readName_0 : decode cX6_readName 0 = .ok (.aload_n 0, 1) := by decide +kernel
theorem dX6_readName_1 : decode cX6_readName 1 = .ok (.getfield 69, 3) := by decide +kernel
theorem dX6_readName_4 : decode cX6_readName 4 = .ok (.bipush 9, 2) := by decide +kernel
theorem dX6_readName_6 : decode cX6_readName 6 = .ok (.if_icmp .lt 9, 3) := by decide +kernel
theorem dX6_readName_9 : decode cX6_readName 9 = .ok (.aload_n 0, 1) := by decide +kernel
theorem dX6_readName_10 : decode cX6_readName 10 = .ok (.iconst 4, 1) := by decide +kernel
theorem dX6_readName_11 : decode cX6_readName 11 = .ok (.invokevirtual 72, 3) := by decide +kernel
theorem dX6_readName_14 : decode cX6_readName 14 = .ok (.ireturn, 1) := by decide +kernel
theorem dX6_readName_15 : decode cX6_readName 15 = .ok (.aload_n 0, 1) := by decide +kernel
theorem dX6_readName_16 : decode cX6_readName 16 = .ok (.invokevirtual 76, 3) := by decide +kernel
theorem dX6_readName_19 : decode cX6_readName 19 = .ok (.aload_n 0, 1) := by decide +kernel
theorem dX6_readName_20 : decode cX6_readName 20 = .ok (.getfield 79, 3) := by decide +kernel
theorem dX6_readName_23 : decode cX6_readName 23 = .ok (.ifCond .ne 15, 3) := by decide +kernel
theorem dX6_readName_26 : decode cX6_readName 26 = .ok (.aload_n 0, 1) := by decide +kernel
theorem dX6_readName_27 : decode cX6_readName 27 = .ok (.aload_n 0, 1) := by decide +kernel
theorem dX6_readName_28 : decode cX6_readName 28 = .ok (.getfield 82, 3) := by decide +kernel
theorem dX6_readName_31 : decode cX6_readName 31 = .ok (.invokevirtual 100, 3) := by decide +kernel
theorem dX6_readName_34 : decode cX6_readName 34 = .ok (.iconst (-1), 1) := by decide +kernel
theorem dX6_readName_35 : decode cX6_readName 35 = .ok (.if_icmp .eq 9, 3) := by decide +kernel
theorem dX6_readName_38 : decode cX6_readName 38 = .ok (.aload_n 0, 1) := by decide +kernel
theorem dX6_readName_39 : decode cX6_readName 39 = .ok (.iconst 1, 1) := by decide +kernel
theorem dX6_readName_40 : decode cX6_readName 40 = .ok (.invokevirtual 72, 3) := by decide +kernel
theorem dX6_readName_43 : decode cX6_readName 43 = .ok (.ireturn, 1) := by decide +kernel
theorem dX6_readName_44 : decode cX6_readName 44 = .ok (.aload_n 0, 1) := by decide +kernel
theorem dX6_readName_45 : decode cX6_readName 45 = .ok (.aload_n 0, 1) := by decide +kernel
theorem dX6_readName_46 : decode cX6_readName 46 = .ok (.getfield 82, 3) := by decide +kernel
theorem dX6_readName_49 : decode cX6_readName 49 = .ok (.invokevirtual 113, 3) := by decide +kernel
theorem dX6_readName_52 : decode cX6_readName 52 = .ok (.ifCond .eq 9, 3) := by decide +kernel
theorem dX6_readName_55 : decode cX6_readName 55 = .ok (.aload_n 0, 1) := by decide +kernel
theorem dX6_readName_56 : decode cX6_readName 56 = .ok (.iconst 3, 1) := by decide +kernel
theorem dX6_readName_57 : decode cX6_readName 57 = .ok (.invokevirtual 72, 3) := by decide +kernel
theorem dX6_readName_60 : decode cX6_readName 60 = .ok (.ireturn, 1) := by decide +kernel
theorem dX6_readName_61 : decode cX6_readName 61 = .ok (.aload_n 0, 1) := by decide +kernel
theorem dX6_readName_62 : decode cX6_readName 62 = .ok (.getfield 9, 3) := by decide +kernel
theorem dX6_readName_65 : decode cX6_readName 65 = .ok (.aload_n 0, 1) := by decide +kernel
theorem dX6_readName_66 : decode cX6_readName 66 = .ok (.getfield 69, 3) := by decide +kernel
theorem dX6_readName_69 : decode cX6_readName 69 = .ok (.aload_n 0, 1) := by decide +kernel
theorem dX6_readName_70 : decode cX6_readName 70 = .ok (.getfield 82, 3) := by decide +kernel
theorem dX6_readName_73 : decode cX6_readName 73 = .ok (.iastore, 1) := by decide +kernel
theorem dX6_readName_74 : decode cX6_readName 74 = .ok (.iconst 1, 1) := by decide +kernel
theorem dX6_readName_75 : decode cX6_readName 75 = .ok (.ireturn, 1) := by decide +kernel
theorem dX6_readChances_0 : decode cX6_readChances 0 = .ok (.iconst 0, 1) := by decide +kernel
theorem dX6_readChances_1 : decode cX6_readChances 1 = .ok (.istore_n 1, 1) := by decide +kernel
theorem dX6_readChances_2 : decode cX6_readChances 2 = .ok (.iconst 0, 1) := by decide +kernel
theorem dX6_readChances_3 : decode cX6_readChances 3 = .ok (.istore_n 2, 1) := by decide +kernel
theorem dX6_readChances_4 : decode cX6_readChances 4 = .ok (.iload_n 2, 1) := by decide +kernel
theorem dX6_readChances_5 : decode cX6_readChances 5 = .ok (.bipush 6, 2) := by decide +kernel
theorem dX6_readChances_7 : decode cX6_readChances 7 = .ok (.if_icmp .ge 78, 3) := by decide +kernel
theorem dX6_readChances_10 : decode cX6_readChances 10 = .ok (.aload_n 0, 1) := by decide +kernel
theorem dX6_readChances_11 : decode cX6_readChances 11 = .ok (.invokevirtual 76, 3) := by decide +kernel
theorem dX6_readChances_14 : decode cX6_readChances 14 = .ok (.aload_n 0, 1) := by decide +kernel
theorem dX6_readChances_15 : decode cX6_readChances 15 = .ok (.getfield 79, 3) := by decide +kernel
theorem dX6_readChances_18 : decode cX6_readChances 18 = .ok (.iconst 1, 1) := by decide +kernel
theorem dX6_readChances_19 : decode cX6_readChances 19 = .ok (.if_icmp .eq 9, 3) := by decide +kernel
theorem dX6_readChances_22 : decode cX6_readChances 22 = .ok (.aload_n 0, 1) := by decide +kernel
theorem dX6_readChances_23 : decode cX6_readChances 23 = .ok (.iconst 1, 1) := by decide +kernel
theorem dX6_readChances_24 : decode cX6_readChances 24 = .ok (.invokevirtual 72, 3) := by decide +kernel
theorem dX6_readChances_27 : decode cX6_readChances 27 = .ok (.ireturn, 1) := by decide +kernel
theorem dX6_readChances_28 : decode cX6_readChances 28 = .ok (.iload_n 1, 1) := by decide +kernel
theorem dX6_readChances_29 : decode cX6_readChances 29 = .ok (.aload_n 0, 1) := by decide +kernel
theorem dX6_readChances_30 : decode cX6_readChances 30 = .ok (.getfield 82, 3) := by decide +kernel
theorem dX6_readChances_33 : decode cX6_readChances 33 = .ok (.iadd, 1) := by decide +kernel
theorem dX6_readChances_34 : decode cX6_readChances 34 = .ok (.istore_n 1, 1) := by decide +kernel
theorem dX6_readChances_35 : decode cX6_readChances 35 = .ok (.aload_n 0, 1) := by decide +kernel
theorem dX6_readChances_36 : decode cX6_readChances 36 = .ok (.getfield 82, 3) := by decide +kernel
theorem dX6_readChances_39 : decode cX6_readChances 39 = .ok (.bipush 20, 2) := by decide +kernel
theorem dX6_readChances_41 : decode cX6_readChances 41 = .ok (.if_icmp .gt 14, 3) := by decide +kernel
theorem dX6_readChances_44 : decode cX6_readChances 44 = .ok (.iload_n 2, 1) := by decide +kernel
theorem dX6_readChances_45 : decode cX6_readChances 45 = .ok (.iconst 5, 1) := by decide +kernel
theorem dX6_readChances_46 : decode cX6_readChances 46 = .ok (.if_icmp .ne 15, 3) := by decide +kernel
theorem dX6_readChances_49 : decode cX6_readChances 49 = .ok (.iload_n 1, 1) := by decide +kernel
theorem dX6_readChances_50 : decode cX6_readChances 50 = .ok (.bipush 20, 2) := by decide +kernel
theorem dX6_readChances_52 : decode cX6_readChances 52 = .ok (.if_icmp .eq 9, 3) := by decide +kernel
theorem dX6_readChances_55 : decode cX6_readChances 55 = .ok (.aload_n 0, 1) := by decide +kernel
theorem dX6_readChances_56 : decode cX6_readChances 56 = .ok (.iconst 2, 1) := by decide +kernel
theorem dX6_readChances_57 : decode cX6_readChances 57 = .ok (.invokevirtual 72, 3) := by decide +kernel
theorem dX6_readChances_60 : decode cX6_readChances 60 = .ok (.ireturn, 1) := by decide +kernel
theorem dX6_readChances_61 : decode cX6_readChances 61 = .ok (.aload_n 0, 1) := by decide +kernel
theorem dX6_readChances_62 : decode cX6_readChances 62 = .ok (.getfield 15, 3) := by decide +kernel
theorem dX6_readChances_65 : decode cX6_readChances 65 = .ok (.aload_n 0, 1) := by decide +kernel
theorem dX6_readChances_66 : decode cX6_readChances 66 = .ok (.getfield 69, 3) := by decide +kernel
theorem dX6_readChances_69 : decode cX6_readChances 69 = .ok (.bipush 6, 2) := by decide +kernel
theorem dX6_readChances_71 : decode cX6_readChances 71 = .ok (.imul, 1) := by decide +kernel
theorem dX6_readChances_72 : decode cX6_readChances 72 = .ok (.iload_n 2, 1) := by decide +kernel
theorem dX6_readChances_73 : decode cX6_readChances 73 = .ok (.iadd, 1) := by decide +kernel
theorem dX6_readChances_74 : decode cX6_readChances 74 = .ok (.aload_n 0, 1) := by decide +kernel
theorem dX6_readChances_75 : decode cX6_readChances 75 = .ok (.getfield 82, 3) := by decide +kernel
theorem dX6_readChances_78 : decode cX6_readChances 78 = .ok (.iastore, 1) := by decide +kernel
theorem dX6_readChances_79 : decode cX6_readChances 79 = .ok (.iinc 2 1, 3) := by decide +kernel
theorem dX6_readChances_82 : decode cX6_readChances 82 = .ok (.goto (-78), 3) := by decide +kernel
theorem dX6_readChances_85 : decode cX6_readChances 85 = .ok (.aload_n 0, 1) := by decide +kernel
theorem dX6_readChances_86 : decode cX6_readChances 86 = .ok (.dup, 1) := by decide +kernel
theorem dX6_readChances_87 : decode cX6_readChances 87 = .ok (.getfield 69, 3) := by decide +kernel
theorem dX6_readChances_90 : decode cX6_readChances 90 = .ok (.iconst 1, 1) := by decide +kernel
theorem dX6_readChances_91 : decode cX6_readChances 91 = .ok (.iadd, 1) := by decide +kernel
theorem dX6_readChances_92 : decode cX6_readChances 92 = .ok (.putfield 69, 3) := by decide +kernel
theorem dX6_readChances_95 : decode cX6_readChances 95 = .ok (.iconst 1, 1) := by decide +kernel
theorem dX6_readChances_96 : decode cX6_readChances 96 = .ok (.ireturn, 1) := by decide +kernel
theorem dX6_readRule_0 : decode cX6_readRule 0 = .ok (.aload_n 0, 1) := by decide +kernel
