theorem dX8_isAt_60 : decode cX8_isAt 60 = .ok (.iaload, 1) := by decide +kernel
theorem dX8_isAt_61 : decode cX8_isAt 61 = .ok (.ifCond .eq 37, 3) := by decide +kernel
theorem dX8_isAt_64 : decode cX8_isAt 64 = .ok (.aload_n 1, 1) := by decide +kernel
theorem dX8_isAt_65 : decode cX8_isAt 65 = .ok (.iload_n 2, 1) := by decide +kernel
theorem dX8_isAt_66 : decode cX8_isAt 66 = .ok (.iload 6, 2) := by decide +kernel
theorem dX8_isAt_68 : decode cX8_isAt 68 = .ok (.iadd, 1) := by decide +kernel
theorem dX8_isAt_69 : decode cX8_isAt 69 = .ok (.iaload, 1) := by decide +kernel
theorem dX8_isAt_70 : decode cX8_isAt 70 = .ok (.aload_n 0, 1) := by decide +kernel
theorem dX8_isAt_71 : decode cX8_isAt 71 = .ok (.getfield 13, 3) := by decide +kernel
theorem dX8_isAt_74 : decode cX8_isAt 74 = .ok (.iload_n 3, 1) := by decide +kernel
theorem dX8_isAt_75 : decode cX8_isAt 75 = .ok (.iload 6, 2) := by decide +kernel
theorem dX8_isAt_77 : decode cX8_isAt 77 = .ok (.iadd, 1) := by decide +kernel
theorem dX8_isAt_78 : decode cX8_isAt 78 = .ok (.iaload, 1) := by decide +kernel
theorem dX8_isAt_79 : decode cX8_isAt 79 = .ok (.if_icmp .ne 19, 3) := by decide +kernel
theorem dX8_isAt_82 : decode cX8_isAt 82 = .ok (.goto 12, 3) := by decide +kernel
theorem dX8_isAt_85 : decode cX8_isAt 85 = .ok (.aload_n 1, 1) := by decide +kernel
theorem dX8_isAt_86 : decode cX8_isAt 86 = .ok (.iload_n 2, 1) := by decide +kernel
theorem dX8_isAt_87 : decode cX8_isAt 87 = .ok (.iload 6, 2) := by decide +kernel
theorem dX8_isAt_89 : decode cX8_isAt 89 = .ok (.iadd, 1) := by decide +kernel
theorem dX8_isAt_90 : decode cX8_isAt 90 = .ok (.iaload, 1) := by decide +kernel
theorem dX8_isAt_91 : decode cX8_isAt 91 = .ok (.ifCond .ne 7, 3) := by decide +kernel
theorem dX8_isAt_94 : decode cX8_isAt 94 = .ok (.iconst 1, 1) := by decide +kernel
theorem dX8_isAt_95 : decode cX8_isAt 95 = .ok (.goto 4, 3) := by decide +kernel
theorem dX8_isAt_98 : decode cX8_isAt 98 = .ok (.iconst 0, 1) := by decide +kernel
theorem dX8_isAt_99 : decode cX8_isAt 99 = .ok (.istore 5, 2) := by decide +kernel
theorem dX8_isAt_101 : decode cX8_isAt 101 = .ok (.iinc 6 1, 3) := by decide +kernel
theorem dX8_isAt_104 : decode cX8_isAt 104 = .ok (.goto (-85), 3) := by decide +kernel
theorem dX8_isAt_107 : decode cX8_isAt 107 = .ok (.iload 5, 2) := by decide +kernel
theorem dX8_isAt_109 : decode cX8_isAt 109 = .ok (.ireturn, 1) := by decide +kernel
theorem dX8_takes_0 : decode cX8_takes 0 = .ok (.aload_n 0, 1) := by decide +kernel
theorem dX8_takes_1 : decode cX8_takes 1 = .ok (.getfield 80, 3) := by decide +kernel
theorem dX8_takes_4 : decode cX8_takes 4 = .ok (.iconst 3, 1) := by decide +kernel
theorem dX8_takes_5 : decode cX8_takes 5 = .ok (.if_icmp .eq 9, 3) := by decide +kernel
theorem dX8_takes_8 : decode cX8_takes 8 = .ok (.aload_n 0, 1) := by decide +kernel
theorem dX8_takes_9 : decode cX8_takes 9 = .ok (.iconst 1, 1) := by decide +kernel
theorem dX8_takes_10 : decode cX8_takes 10 = .ok (.invokevirtual 122, 3) := by decide +kernel
theorem dX8_takes_13 : decode cX8_takes 13 = .ok (.ireturn, 1) := by decide +kernel
theorem dX8_takes_14 : decode cX8_takes 14 = .ok (.aload_n 0, 1) := by decide +kernel
theorem dX8_takes_15 : decode cX8_takes 15 = .ok (.getfield 87, 3) := by decide +kernel
theorem dX8_takes_18 : decode cX8_takes 18 = .ok (.iload_n 2, 1) := by decide +kernel
theorem dX8_takes_19 : decode cX8_takes 19 = .ok (.iload_n 3, 1) := by decide +kernel
theorem dX8_takes_20 : decode cX8_takes 20 = .ok (.invokestatic 83, 3) := by decide +kernel
theorem dX8_takes_23 : decode cX8_takes 23 = .ok (.ifCond .ne 9, 3) := by decide +kernel
theorem dX8_takes_26 : decode cX8_takes 26 = .ok (.aload_n 0, 1) := by decide +kernel
theorem dX8_takes_27 : decode cX8_takes 27 = .ok (.iconst 2, 1) := by decide +kernel
theorem dX8_takes_28 : decode cX8_takes 28 = .ok (.invokevirtual 122, 3) := by decide +kernel
theorem dX8_takes_31 : decode cX8_takes 31 = .ok (.ireturn, 1) := by decide +kernel
theorem dX8_takes_32 : decode cX8_takes 32 = .ok (.aload_n 0, 1) := by decide +kernel
theorem dX8_takes_33 : decode cX8_takes 33 = .ok (.getfield 20, 3) := by decide +kernel
theorem dX8_takes_36 : decode cX8_takes 36 = .ok (.iload_n 1, 1) := by decide +kernel
theorem dX8_takes_37 : decode cX8_takes 37 = .ok (.aload_n 0, 1) := by decide +kernel
theorem dX8_takes_38 : decode cX8_takes 38 = .ok (.getfield 87, 3) := by decide +kernel
theorem dX8_takes_41 : decode cX8_takes 41 = .ok (.iastore, 1) := by decide +kernel
theorem dX8_takes_42 : decode cX8_takes 42 = .ok (.aload_n 0, 1) := by decide +kernel
theorem dX8_takes_43 : decode cX8_takes 43 = .ok (.invokevirtual 126, 3) := by decide +kernel
theorem dX8_takes_46 : decode cX8_takes 46 = .ok (.iconst 1, 1) := by decide +kernel
theorem dX8_takes_47 : decode cX8_takes 47 = .ok (.ireturn, 1) := by decide +kernel
theorem dX8_readBatter_0 : decode cX8_readBatter 0 = .ok (.aload_n 0, 1) := by decide +kernel
theorem dX8_readBatter_1 : decode cX8_readBatter 1 = .ok (.getfield 20, 3) := by decide +kernel
theorem dX8_readBatter_4 : decode cX8_readBatter 4 = .ok (.iconst 0, 1) := by decide +kernel
theorem dX8_readBatter_5 : decode cX8_readBatter 5 = .ok (.iaload, 1) := by decide +kernel
theorem dX8_readBatter_6 : decode cX8_readBatter 6 = .ok (.istore_n 1, 1) := by decide +kernel
theorem dX8_readBatter_7 : decode cX8_readBatter 7 = .ok (.iload_n 1, 1) := by decide +kernel
theorem dX8_readBatter_8 : decode cX8_readBatter 8 = .ok (.bipush 9, 2) := by decide +kernel
theorem dX8_readBatter_10 : decode cX8_readBatter 10 = .ok (.if_icmp .ne 9, 3) := by decide +kernel
theorem dX8_readBatter_13 : decode cX8_readBatter 13 = .ok (.aload_n 0, 1) := by decide +kernel
theorem dX8_readBatter_14 : decode cX8_readBatter 14 = .ok (.iconst 4, 1) := by decide +kernel
theorem dX8_readBatter_15 : decode cX8_readBatter 15 = .ok (.invokevirtual 122, 3) := by decide +kernel
theorem dX8_readBatter_18 : decode cX8_readBatter 18 = .ok (.ireturn, 1) := by decide +kernel
theorem dX8_readBatter_19 : decode cX8_readBatter 19 = .ok (.aload_n 0, 1) := by decide +kernel
theorem dX8_readBatter_20 : decode cX8_readBatter 20 = .ok (.invokevirtual 126, 3) := by decide +kernel
theorem dX8_readBatter_23 : decode cX8_readBatter 23 = .ok (.aload_n 0, 1) := by decide +kernel
theorem dX8_readBatter_24 : decode cX8_readBatter 24 = .ok (.invokevirtual 129, 3) := by decide +kernel
theorem dX8_readBatter_27 : decode cX8_readBatter 27 = .ok (.ifCond .ne 9, 3) := by decide +kernel
theorem dX8_readBatter_30 : decode cX8_readBatter 30 = .ok (.aload_n 0, 1) := by decide +kernel
theorem dX8_readBatter_31 : decode cX8_readBatter 31 = .ok (.iconst 1, 1) := by decide +kernel
theorem dX8_readBatter_32 : decode cX8_readBatter 32 = .ok (.invokevirtual 122, 3) := by decide +kernel
theorem dX8_readBatter_35 : decode cX8_readBatter 35 = .ok (.ireturn, 1) := by decide +kernel
theorem dX8_readBatter_36 : decode cX8_readBatter 36 = .ok (.iconst 0, 1) := by decide +kernel
theorem dX8_readBatter_37 : decode cX8_readBatter 37 = .ok (.istore_n 2, 1) := by decide +kernel
theorem dX8_readBatter_38 : decode cX8_readBatter 38 = .ok (.iload_n 2, 1) := by decide +kernel
theorem dX8_readBatter_39 : decode cX8_readBatter 39 = .ok (.iload_n 1, 1) := by decide +kernel
theorem dX8_readBatter_40 : decode cX8_readBatter 40 = .ok (.if_icmp .ge 38, 3) := by decide +kernel
theorem dX8_readBatter_43 : decode cX8_readBatter 43 = .ok (.aload_n 0, 1) := by decide +kernel
theorem dX8_readBatter_44 : decode cX8_readBatter 44 = .ok (.aload_n 0, 1) := by decide +kernel
theorem dX8_readBatter_45 : decode cX8_readBatter 45 = .ok (.getfield 26, 3) := by decide +kernel
theorem dX8_readBatter_48 : decode cX8_readBatter 48 = .ok (.bipush 6, 2) := by decide +kernel
theorem dX8_readBatter_50 : decode cX8_readBatter 50 = .ok (.iload_n 2, 1) := by decide +kernel
theorem dX8_readBatter_51 : decode cX8_readBatter 51 = .ok (.imul, 1) := by decide +kernel
theorem dX8_readBatter_52 : decode cX8_readBatter 52 = .ok (.aload_n 0, 1) := by decide +kernel
theorem dX8_readBatter_53 : decode cX8_readBatter 53 = .ok (.getfield 77, 3) := by decide +kernel
theorem dX8_readBatter_56 : decode cX8_readBatter 56 = .ok (.aload_n 0, 1) := by decide +kernel
theorem dX8_readBatter_57 : decode cX8_readBatter 57 = .ok (.getfield 70, 3) := by decide +kernel
theorem dX8_readBatter_60 : decode cX8_readBatter 60 = .ok (.invokevirtual 133, 3) := by decide +kernel
theorem dX8_readBatter_63 : decode cX8_readBatter 63 = .ok (.ifCond .eq 9, 3) := by decide +kernel
theorem dX8_readBatter_66 : decode cX8_readBatter 66 = .ok (.aload_n 0, 1) := by decide +kernel
theorem dX8_readBatter_67 : decode cX8_readBatter 67 = .ok (.iconst 3, 1) := by decide +kernel
theorem dX8_readBatter_68 : decode cX8_readBatter 68 = .ok (.invokevirtual 122, 3) := by decide +kernel
theorem dX8_readBatter_71 : decode cX8_readBatter 71 = .ok (.ireturn, 1) := by decide +kernel
theorem dX8_readBatter_72 : decode cX8_readBatter 72 = .ok (.iinc 2 1, 3) := by decide +kernel
theorem dX8_readBatter_75 : decode cX8_readBatter 75 = .ok (.goto (-37), 3) := by decide +kernel
theorem dX8_readBatter_78 : decode cX8_readBatter 78 = .ok (.iconst 0, 1) := by decide +kernel
theorem dX8_readBatter_79 : decode cX8_readBatter 79 = .ok (.istore_n 2, 1) := by decide +kernel
theorem dX8_readBatter_80 : decode cX8_readBatter 80 = .ok (.iload_n 2, 1) := by decide +kernel
theorem dX8_readBatter_81 : decode cX8_readBatter 81 = .ok (.bipush 6, 2) := by decide +kernel
theorem dX8_readBatter_83 : decode cX8_readBatter 83 = .ok (.if_icmp .ge 48, 3) := by decide +kernel
theorem dX8_readBatter_86 : decode cX8_readBatter 86 = .ok (.aload_n 0, 1) := by decide +kernel
theorem dX8_readBatter_87 : decode cX8_readBatter 87 = .ok (.getfield 26, 3) := by decide +kernel
theorem dX8_readBatter_90 : decode cX8_readBatter 90 = .ok (.bipush 6, 2) := by decide +kernel
theorem dX8_readBatter_92 : decode cX8_readBatter 92 = .ok (.iload_n 1, 1) := by decide +kernel
theorem dX8_readBatter_93 : decode cX8_readBatter 93 = .ok (.imul, 1) := by decide +kernel
theorem dX8_readBatter_94 : decode cX8_readBatter 94 = .ok (.iload_n 2, 1) := by decide +kernel
theorem dX8_readBatter_95 : decode cX8_readBatter 95 = .ok (.iadd, 1) := by decide +kernel
theorem dX8_readBatter_96 : decode cX8_readBatter 96 = .ok (.aload_n 0, 1) := by decide +kernel
theorem dX8_readBatter_97 : decode cX8_readBatter 97 = .ok (.getfield 77, 3) := by decide +kernel
theorem dX8_readBatter_100 : decode cX8_readBatter 100 = .ok (.iload_n 2, 1) := by decide +kernel
theorem dX8_readBatter_101 : decode cX8_readBatter 101 = .ok (.iadd, 1) := by decide +kernel
theorem dX8_readBatter_102 : decode cX8_readBatter 102 = .ok (.aload_n 0, 1) := by decide +kernel
theorem dX8_readBatter_103 : decode cX8_readBatter 103 = .ok (.getfield 70, 3) := by decide +kernel
theorem dX8_readBatter_106 : decode cX8_readBatter 106 = .ok (.if_icmp .ge 17, 3) := by decide +kernel
theorem dX8_readBatter_109 : decode cX8_readBatter 109 = .ok (.aload_n 0, 1) := by decide +kernel
theorem dX8_readBatter_110 : decode cX8_readBatter 110 = .ok (.getfield 13, 3) := by decide +kernel
theorem dX8_readBatter_113 : decode cX8_readBatter 113 = .ok (.aload_n 0, 1) := by decide +kernel
theorem dX8_readBatter_114 : decode cX8_readBatter 114 = .ok (.getfield 77, 3) := by decide +kernel
theorem dX8_readBatter_117 : decode cX8_readBatter 117 = .ok (.iload_n 2, 1) := by decide +kernel
theorem dX8_readBatter_118 : decode cX8_readBatter 118 = .ok (.iadd, 1) := by decide +kernel
theorem dX8_readBatter_119 : decode cX8_readBatter 119 = .ok (.iaload, 1) := by decide +kernel
theorem dX8_readBatter_120 : decode cX8_readBatter 120 = .ok (.goto 4, 3) := by decide +kernel
theorem dX8_readBatter_123 : decode cX8_readBatter 123 = .ok (.iconst 0, 1) := by decide +kernel
theorem dX8_readBatter_124 : decode cX8_readBatter 124 = .ok (.iastore, 1) := by decide +kernel
theorem dX8_readBatter_125 : decode cX8_readBatter 125 = .ok (.iinc 2 1, 3) := by decide +kernel
theorem dX8_readBatter_128 : decode cX8_readBatter 128 = .ok (.goto (-48), 3) := by decide +kernel
theorem dX8_readBatter_131 : decode cX8_readBatter 131 = .ok (.aload_n 0, 1) := by decide +kernel
theorem dX8_readBatter_132 : decode cX8_readBatter 132 = .ok (.invokevirtual 126, 3) := by decide +kernel
theorem dX8_readBatter_135 : decode cX8_readBatter 135 = .ok (.bipush 20, 2) := by decide +kernel
theorem dX8_readBatter_137 : decode cX8_readBatter 137 = .ok (.istore_n 2, 1) := by decide +kernel
theorem dX8_readBatter_138 : decode cX8_readBatter 138 = .ok (.iconst 0, 1) := by decide +kernel
theorem dX8_readBatter_139 : decode cX8_readBatter 139 = .ok (.istore_n 3, 1) := by decide +kernel
theorem dX8_readBatter_140 : decode cX8_readBatter 140 = .ok (.iload_n 3, 1) := by decide +kernel
theorem dX8_readBatter_141 : decode cX8_readBatter 141 = .ok (.bipush 6, 2) := by decide +kernel
theorem dX8_readBatter_143 : decode cX8_readBatter 143 = .ok (.if_icmp .ge 86, 3) := by decide +kernel
theorem dX8_readBatter_146 : decode cX8_readBatter 146 = .ok (.iload_n 3, 1) := by decide +kernel
theorem dX8_readBatter_147 : decode cX8_readBatter 147 = .ok (.iconst 5, 1) := by decide +kernel
theorem dX8_readBatter_148 : decode cX8_readBatter 148 = .ok (.if_icmp .ne 23, 3) := by decide +kernel
theorem dX8_readBatter_151 : decode cX8_readBatter 151 = .ok (.aload_n 0, 1) := by decide +kernel
theorem dX8_readBatter_152 : decode cX8_readBatter 152 = .ok (.getfield 80, 3) := by decide +kernel
theorem dX8_readBatter_155 : decode cX8_readBatter 155 = .ok (.iconst 3, 1) := by decide +kernel
theorem dX8_readBatter_156 : decode cX8_readBatter 156 = .ok (.if_icmp .ne 15, 3) := by decide +kernel
theorem dX8_readBatter_159 : decode cX8_readBatter 159 = .ok (.aload_n 0, 1) := by decide +kernel
theorem dX8_readBatter_160 : decode cX8_readBatter 160 = .ok (.getfield 87, 3) := by decide +kernel
theorem dX8_readBatter_163 : decode cX8_readBatter 163 = .ok (.iload_n 2, 1) := by decide +kernel
theorem dX8_readBatter_164 : decode cX8_readBatter 164 = .ok (.if_icmp .eq 7, 3) := by decide +kernel
theorem dX8_readBatter_167 : decode cX8_readBatter 167 = .ok (.iconst 1, 1) := by decide +kernel
theorem dX8_readBatter_168 : decode cX8_readBatter 168 = .ok (.goto 4, 3) := by decide +kernel
theorem dX8_readBatter_171 : decode cX8_readBatter 171 = .ok (.iconst 0, 1) := by decide +kernel
theorem dX8_readBatter_172 : decode cX8_readBatter 172 = .ok (.istore 4, 2) := by decide +kernel
theorem dX8_readBatter_174 : decode cX8_readBatter 174 = .ok (.iload 4, 2) := by decide +kernel
theorem dX8_readBatter_176 : decode cX8_readBatter 176 = .ok (.ifCond .eq 9, 3) := by decide +kernel
theorem dX8_readBatter_179 : decode cX8_readBatter 179 = .ok (.aload_n 0, 1) := by decide +kernel
theorem dX8_readBatter_180 : decode cX8_readBatter 180 = .ok (.iconst 2, 1) := by decide +kernel
theorem dX8_readBatter_181 : decode cX8_readBatter 181 = .ok (.invokevirtual 122, 3) := by decide +kernel
theorem dX8_readBatter_184 : decode cX8_readBatter 184 = .ok (.ireturn, 1) := by decide +kernel
theorem dX8_readBatter_185 : decode cX8_readBatter 185 = .ok (.aload_n 0, 1) := by decide +kernel
theorem dX8_readBatter_186 : decode cX8_readBatter 186 = .ok (.bipush 6, 2) := by decide +kernel
theorem dX8_readBatter_188 : decode cX8_readBatter 188 = .ok (.bipush 6, 2) := by decide +kernel
theorem dX8_readBatter_190 : decode cX8_readBatter 190 = .ok (.iload_n 1, 1) := by decide +kernel
theorem dX8_readBatter_191 : decode cX8_readBatter 191 = .ok (.imul, 1) := by decide +kernel
theorem dX8_readBatter_192 : decode cX8_readBatter 192 = .ok (.iadd, 1) := by decide +kernel
theorem dX8_readBatter_193 : decode cX8_readBatter 193 = .ok (.iload_n 3, 1) := by decide +kernel
theorem dX8_readBatter_194 : decode cX8_readBatter 194 = .ok (.iadd, 1) := by decide +kernel
theorem dX8_readBatter_195 : decode cX8_readBatter 195 = .ok (.iconst 0, 1) := by decide +kernel
theorem dX8_readBatter_196 : decode cX8_readBatter 196 = .ok (.bipush 20, 2) := by decide +kernel
theorem dX8_readBatter_198 : decode cX8_readBatter 198 = .ok (.invokevirtual 137, 3) := by decide +kernel
theorem dX8_readBatter_201 : decode cX8_readBatter 201 = .ok (.ifCond .ne 5, 3) := by decide +kernel
theorem dX8_readBatter_204 : decode cX8_readBatter 204 = .ok (.iconst 0, 1) := by decide +kernel
theorem dX8_readBatter_205 : decode cX8_readBatter 205 = .ok (.ireturn, 1) := by decide +kernel
theorem dX8_readBatter_206 : decode cX8_readBatter 206 = .ok (.iload_n 2, 1) := by decide +kernel
theorem dX8_readBatter_207 : decode cX8_readBatter 207 = .ok (.aload_n 0, 1) := by decide +kernel
theorem dX8_readBatter_208 : decode cX8_readBatter 208 = .ok (.getfield 20, 3) := by decide +kernel
theorem dX8_readBatter_211 : decode cX8_readBatter 211 = .ok (.bipush 6, 2) := by decide +kernel
theorem dX8_readBatter_213 : decode cX8_readBatter 213 = .ok (.bipush 6, 2) := by decide +kernel
theorem dX8_readBatter_215 : decode cX8_readBatter 215 = .ok (.iload_n 1, 1) := by decide +kernel
theorem dX8_readBatter_216 : decode cX8_readBatter 216 = .ok (.imul, 1) := by decide +kernel
theorem dX8_readBatter_217 : decode cX8_readBatter 217 = .ok (.iadd, 1) := by decide +kernel
theorem dX8_readBatter_218 : decode cX8_readBatter 218 = .ok (.iload_n 3, 1) := by decide +kernel
theorem dX8_readBatter_219 : decode cX8_readBatter 219 = .ok (.iadd, 1) := by decide +kernel
theorem dX8_readBatter_220 : decode cX8_readBatter 220 = .ok (.iaload, 1) := by decide +kernel
theorem dX8_readBatter_221 : decode cX8_readBatter 221 = .ok (.isub, 1) := by decide +kernel
theorem dX8_readBatter_222 : decode cX8_readBatter 222 = .ok (.istore_n 2, 1) := by decide +kernel
theorem dX8_readBatter_223 : decode cX8_readBatter 223 = .ok (.iinc 3 1, 3) := by decide +kernel
theorem dX8_readBatter_226 : decode cX8_readBatter 226 = .ok (.goto (-86), 3) := by decide +kernel
theorem dX8_readBatter_229 : decode cX8_readBatter 229 = .ok (.aload_n 0, 1) := by decide +kernel
theorem dX8_readBatter_230 : decode cX8_readBatter 230 = .ok (.getfield 20, 3) := by decide +kernel
theorem dX8_readBatter_233 : decode cX8_readBatter 233 = .ok (.bipush 60, 2) := by decide +kernel
theorem dX8_readBatter_235 : decode cX8_readBatter 235 = .ok (.iload_n 1, 1) := by decide +kernel
theorem dX8_readBatter_236 : decode cX8_readBatter 236 = .ok (.iadd, 1) := by decide +kernel
theorem dX8_readBatter_237 : decode cX8_readBatter 237 = .ok (.iload_n 1, 1) := by decide +kernel
theorem dX8_readBatter_238 : decode cX8_readBatter 238 = .ok (.iastore, 1) := by decide +kernel
theorem dX8_readBatter_239 : decode cX8_readBatter 239 = .ok (.aload_n 0, 1) := by decide +kernel
theorem dX8_readBatter_240 : decode cX8_readBatter 240 = .ok (.getfield 20, 3) := by decide +kernel
theorem dX8_readBatter_243 : decode cX8_readBatter 243 = .ok (.iconst 0, 1) := by decide +kernel
theorem dX8_readBatter_244 : decode cX8_readBatter 244 = .ok (.dup2, 1) := by decide +kernel
theorem dX8_readBatter_245 : decode cX8_readBatter 245 = .ok (.iaload, 1) := by decide +kernel
theorem dX8_readBatter_246 : decode cX8_readBatter 246 = .ok (.iconst 1, 1) := by decide +kernel
theorem dX8_readBatter_247 : decode cX8_readBatter 247 = .ok (.iadd, 1) := by decide +kernel
theorem dX8_readBatter_248 : decode cX8_readBatter 248 = .ok (.iastore, 1) := by decide +kernel
theorem dX8_readBatter_249 : decode cX8_readBatter 249 = .ok (.iconst 1, 1) := by decide +kernel
theorem dX8_readBatter_250 : decode cX8_readBatter 250 = .ok (.ireturn, 1) := by decide +kernel
theorem dX8_lowOf_0 : decode cX8_lowOf 0 = .ok (.iload_n 0, 1) := by decide +kernel
theorem dX8_lowOf_1 : decode cX8_lowOf 1 = .ok (.ifCond .eq 8, 3) := by decide +kernel
theorem dX8_lowOf_4 : decode cX8_lowOf 4 = .ok (.iload_n 0, 1) := by decide +kernel
theorem dX8_lowOf_5 : decode cX8_lowOf 5 = .ok (.iconst 4, 1) := by decide +kernel
theorem dX8_lowOf_6 : decode cX8_lowOf 6 = .ok (.if_icmp .ne 7, 3) := by decide +kernel
theorem dX8_lowOf_9 : decode cX8_lowOf 9 = .ok (.iconst 1, 1) := by decide +kernel
theorem dX8_lowOf_10 : decode cX8_lowOf 10 = .ok (.goto 13, 3) := by decide +kernel
theorem dX8_lowOf_13 : decode cX8_lowOf 13 = .ok (.iload_n 0, 1) := by decide +kernel
theorem dX8_lowOf_14 : decode cX8_lowOf 14 = .ok (.iconst 1, 1) := by decide +kernel
theorem dX8_lowOf_15 : decode cX8_lowOf 15 = .ok (.if_icmp .ne 7, 3) := by decide +kernel
theorem dX8_lowOf_18 : decode cX8_lowOf 18 = .ok (.iconst 2, 1) := by decide +kernel
theorem dX8_lowOf_19 : decode cX8_lowOf 19 = .ok (.goto 4, 3) := by decide +kernel
theorem dX8_lowOf_22 : decode cX8_lowOf 22 = .ok (.iconst 0, 1) := by decide +kernel
theorem dX8_lowOf_23 : decode cX8_lowOf 23 = .ok (.ireturn, 1) := by decide +kernel
theorem dX8_highOf_0 : decode cX8_highOf 0 = .ok (.iload_n 0, 1) := by decide +kernel
theorem dX8_highOf_1 : decode cX8_highOf 1 = .ok (.ifCond .ne 7, 3) := by decide +kernel
theorem dX8_highOf_4 : decode cX8_highOf 4 = .ok (.iconst 2, 1) := by decide +kernel
theorem dX8_highOf_5 : decode cX8_highOf 5 = .ok (.goto 33, 3) := by decide +kernel
theorem dX8_highOf_8 : decode cX8_highOf 8 = .ok (.iload_n 0, 1) := by decide +kernel
theorem dX8_highOf_9 : decode cX8_highOf 9 = .ok (.iconst 1, 1) := by decide +kernel
theorem dX8_highOf_10 : decode cX8_highOf 10 = .ok (.if_icmp .ne 7, 3) := by decide +kernel
theorem dX8_highOf_13 : decode cX8_highOf 13 = .ok (.iconst 3, 1) := by decide +kernel
theorem dX8_highOf_14 : decode cX8_highOf 14 = .ok (.goto 24, 3) := by decide +kernel
theorem dX8_highOf_17 : decode cX8_highOf 17 = .ok (.iload_n 0, 1) := by decide +kernel
theorem dX8_highOf_18 : decode cX8_highOf 18 = .ok (.iconst 2, 1) := by decide +kernel
theorem dX8_highOf_19 : decode cX8_highOf 19 = .ok (.if_icmp .ne 7, 3) := by decide +kernel
theorem dX8_highOf_22 : decode cX8_highOf 22 = .ok (.iconst 1, 1) := by decide +kernel
theorem dX8_highOf_23 : decode cX8_highOf 23 = .ok (.goto 15, 3) := by decide +kernel
theorem dX8_highOf_26 : decode cX8_highOf 26 = .ok (.iload_n 0, 1) := by decide +kernel
theorem dX8_highOf_27 : decode cX8_highOf 27 = .ok (.iconst 3, 1) := by decide +kernel
theorem dX8_highOf_28 : decode cX8_highOf 28 = .ok (.if_icmp .ne 8, 3) := by decide +kernel
theorem dX8_highOf_31 : decode cX8_highOf 31 = .ok (.bipush 20, 2) := by decide +kernel
theorem dX8_highOf_33 : decode cX8_highOf 33 = .ok (.goto 5, 3) := by decide +kernel
theorem dX8_highOf_36 : decode cX8_highOf 36 = .ok (.bipush 99, 2) := by decide +kernel
theorem dX8_highOf_38 : decode cX8_highOf 38 = .ok (.ireturn, 1) := by decide +kernel
theorem dX8_readOnce_0 : decode cX8_readOnce 0 = .ok (.aload_n 0, 1) := by decide +kernel
theorem dX8_readOnce_1 : decode cX8_readOnce 1 = .ok (.getfield 140, 3) := by decide +kernel
theorem dX8_readOnce_4 : decode cX8_readOnce 4 = .ok (.iload_n 1, 1) := by decide +kernel
theorem dX8_readOnce_5 : decode cX8_readOnce 5 = .ok (.ishr, 1) := by decide +kernel
theorem dX8_readOnce_6 : decode cX8_readOnce 6 = .ok (.iconst 1, 1) := by decide +kernel
theorem dX8_readOnce_7 : decode cX8_readOnce 7 = .ok (.iand, 1) := by decide +kernel
theorem dX8_readOnce_8 : decode cX8_readOnce 8 = .ok (.iconst 1, 1) := by decide +kernel
theorem dX8_readOnce_9 : decode cX8_readOnce 9 = .ok (.if_icmp .ne 9, 3) := by decide +kernel
theorem dX8_readOnce_12 : decode cX8_readOnce 12 = .ok (.aload_n 0, 1) := by decide +kernel
theorem dX8_readOnce_13 : decode cX8_readOnce 13 = .ok (.iconst 3, 1) := by decide +kernel
theorem dX8_readOnce_14 : decode cX8_readOnce 14 = .ok (.invokevirtual 122, 3) := by decide +kernel
theorem dX8_readOnce_17 : decode cX8_readOnce 17 = .ok (.ireturn, 1) := by decide +kernel
theorem dX8_readOnce_18 : decode cX8_readOnce 18 = .ok (.aload_n 0, 1) := by decide +kernel
theorem dX8_readOnce_19 : decode cX8_readOnce 19 = .ok (.dup, 1) := by decide +kernel
theorem dX8_readOnce_20 : decode cX8_readOnce 20 = .ok (.getfield 140, 3) := by decide +kernel
theorem dX8_readOnce_23 : decode cX8_readOnce 23 = .ok (.iconst 1, 1) := by decide +kernel
theorem dX8_readOnce_24 : decode cX8_readOnce 24 = .ok (.iload_n 1, 1) := by decide +kernel
theorem dX8_readOnce_25 : decode cX8_readOnce 25 = .ok (.ishl, 1) := by decide +kernel
theorem dX8_readOnce_26 : decode cX8_readOnce 26 = .ok (.ior, 1) := by decide +kernel
theorem dX8_readOnce_27 : decode cX8_readOnce 27 = .ok (.putfield 140, 3) := by decide +kernel
theorem dX8_readOnce_30 : decode cX8_readOnce 30 = .ok (.aload_n 0, 1) := by decide +kernel
theorem dX8_readOnce_31 : decode cX8_readOnce 31 = .ok (.invokevirtual 126, 3) := by decide +kernel
theorem dX8_readOnce_34 : decode cX8_readOnce 34 = .ok (.aload_n 0, 1) := by decide +kernel
theorem dX8_readOnce_35 : decode cX8_readOnce 35 = .ok (.iconst 1, 1) := by decide +kernel
theorem dX8_readOnce_36 : decode cX8_readOnce 36 = .ok (.iload_n 1, 1) := by decide +kernel
theorem dX8_readOnce_37 : decode cX8_readOnce 37 = .ok (.iadd, 1) := by decide +kernel
theorem dX8_readOnce_38 : decode cX8_readOnce 38 = .ok (.iload_n 1, 1) := by decide +kernel
theorem dX8_readOnce_39 : decode cX8_readOnce 39 = .ok (.invokestatic 143, 3) := by decide +kernel
theorem dX8_readOnce_42 : decode cX8_readOnce 42 = .ok (.iload_n 1, 1) := by decide +kernel
theorem dX8_readOnce_43 : decode cX8_readOnce 43 = .ok (.invokestatic 146, 3) := by decide +kernel
theorem dX8_readOnce_46 : decode cX8_readOnce 46 = .ok (.invokevirtual 137, 3) := by decide +kernel
theorem dX8_readOnce_49 : decode cX8_readOnce 49 = .ok (.ireturn, 1) := by decide +kernel
theorem dX8_readLine_0 : decode cX8_readLine 0 = .ok (.aload_n 0, 1) := by decide +kernel
theorem dX8_readLine_1 : decode cX8_readLine 1 = .ok (.ldc 106, 2) := by decide +kernel
theorem dX8_readLine_3 : decode cX8_readLine 3 = .ok (.invokevirtual 108, 3) := by decide +kernel
theorem dX8_readLine_6 : decode cX8_readLine 6 = .ok (.ifCond .eq 8, 3) := by decide +kernel
theorem dX8_readLine_9 : decode cX8_readLine 9 = .ok (.aload_n 0, 1) := by decide +kernel
theorem dX8_readLine_10 : decode cX8_readLine 10 = .ok (.invokevirtual 149, 3) := by decide +kernel
theorem dX8_readLine_13 : decode cX8_readLine 13 = .ok (.ireturn, 1) := by decide +kernel
theorem dX8_readLine_14 : decode cX8_readLine 14 = .ok (.aload_n 0, 1) := by decide +kernel
theorem dX8_readLine_15 : decode cX8_readLine 15 = .ok (.ldc 112, 2) := by decide +kernel
theorem dX8_readLine_17 : decode cX8_readLine 17 = .ok (.invokevirtual 108, 3) := by decide +kernel
theorem dX8_readLine_20 : decode cX8_readLine 20 = .ok (.ifCond .eq 7, 3) := by decide +kernel
theorem dX8_readLine_23 : decode cX8_readLine 23 = .ok (.iconst 0, 1) := by decide +kernel
theorem dX8_readLine_24 : decode cX8_readLine 24 = .ok (.goto 56, 3) := by decide +kernel
theorem dX8_readLine_27 : decode cX8_readLine 27 = .ok (.aload_n 0, 1) := by decide +kernel
theorem dX8_readLine_28 : decode cX8_readLine 28 = .ok (.ldc 114, 2) := by decide +kernel
theorem dX8_readLine_30 : decode cX8_readLine 30 = .ok (.invokevirtual 108, 3) := by decide +kernel
theorem dX8_readLine_33 : decode cX8_readLine 33 = .ok (.ifCond .eq 7, 3) := by decide +kernel
theorem dX8_readLine_36 : decode cX8_readLine 36 = .ok (.iconst 1, 1) := by decide +kernel
theorem dX8_readLine_37 : decode cX8_readLine 37 = .ok (.goto 43, 3) := by decide +kernel
theorem dX8_readLine_40 : decode cX8_readLine 40 = .ok (.aload_n 0, 1) := by decide +kernel
theorem dX8_readLine_41 : decode cX8_readLine 41 = .ok (.ldc 116, 2) := by decide +kernel
theorem dX8_readLine_43 : decode cX8_readLine 43 = .ok (.invokevirtual 108, 3) := by decide +kernel
theorem dX8_readLine_46 : decode cX8_readLine 46 = .ok (.ifCond .eq 7, 3) := by decide +kernel
theorem dX8_readLine_49 : decode cX8_readLine 49 = .ok (.iconst 2, 1) := by decide +kernel
theorem dX8_readLine_50 : decode cX8_readLine 50 = .ok (.goto 30, 3) := by decide +kernel
theorem dX8_readLine_53 : decode cX8_readLine 53 = .ok (.aload_n 0, 1) := by decide +kernel
theorem dX8_readLine_54 : decode cX8_readLine 54 = .ok (.ldc 118, 2) := by decide +kernel
theorem dX8_readLine_56 : decode cX8_readLine 56 = .ok (.invokevirtual 108, 3) := by decide +kernel
theorem dX8_readLine_59 : decode cX8_readLine 59 = .ok (.ifCond .eq 7, 3) := by decide +kernel
theorem dX8_readLine_62 : decode cX8_readLine 62 = .ok (.iconst 3, 1) := by decide +kernel
theorem dX8_readLine_63 : decode cX8_readLine 63 = .ok (.goto 17, 3) := by decide +kernel
theorem dX8_readLine_66 : decode cX8_readLine 66 = .ok (.aload_n 0, 1) := by decide +kernel
theorem dX8_readLine_67 : decode cX8_readLine 67 = .ok (.ldc 120, 2) := by decide +kernel
theorem dX8_readLine_69 : decode cX8_readLine 69 = .ok (.invokevirtual 108, 3) := by decide +kernel
theorem dX8_readLine_72 : decode cX8_readLine 72 = .ok (.ifCond .eq 7, 3) := by decide +kernel
theorem dX8_readLine_75 : decode cX8_readLine 75 = .ok (.iconst 4, 1) := by decide +kernel
theorem dX8_readLine_76 : decode cX8_readLine 76 = .ok (.goto 4, 3) := by decide +kernel
theorem dX8_readLine_79 : decode cX8_readLine 79 = .ok (.iconst (-1), 1) := by decide +kernel
theorem dX8_readLine_80 : decode cX8_readLine 80 = .ok (.istore_n 1, 1) := by decide +kernel
theorem dX8_readLine_81 : decode cX8_readLine 81 = .ok (.iload_n 1, 1) := by decide +kernel
theorem dX8_readLine_82 : decode cX8_readLine 82 = .ok (.iconst (-1), 1) := by decide +kernel
theorem dX8_readLine_83 : decode cX8_readLine 83 = .ok (.if_icmp .ne 11, 3) := by decide +kernel
theorem dX8_readLine_86 : decode cX8_readLine 86 = .ok (.aload_n 0, 1) := by decide +kernel
theorem dX8_readLine_87 : decode cX8_readLine 87 = .ok (.iconst 1, 1) := by decide +kernel
theorem dX8_readLine_88 : decode cX8_readLine 88 = .ok (.invokevirtual 122, 3) := by decide +kernel
theorem dX8_readLine_91 : decode cX8_readLine 91 = .ok (.goto 8, 3) := by decide +kernel
theorem dX8_readLine_94 : decode cX8_readLine 94 = .ok (.aload_n 0, 1) := by decide +kernel
theorem dX8_readLine_95 : decode cX8_readLine 95 = .ok (.iload_n 1, 1) := by decide +kernel
theorem dX8_readLine_96 : decode cX8_readLine 96 = .ok (.invokevirtual 152, 3) := by decide +kernel
theorem dX8_readLine_99 : decode cX8_readLine 99 = .ok (.ireturn, 1) := by decide +kernel
theorem dX8_readAll_0 : decode cX8_readAll 0 = .ok (.aload_n 0, 1) := by decide +kernel
theorem dX8_readAll_1 : decode cX8_readAll 1 = .ok (.iload_n 1, 1) := by decide +kernel
theorem dX8_readAll_2 : decode cX8_readAll 2 = .ok (.putfield 67, 3) := by decide +kernel
theorem dX8_readAll_5 : decode cX8_readAll 5 = .ok (.aload_n 0, 1) := by decide +kernel
theorem dX8_readAll_6 : decode cX8_readAll 6 = .ok (.iconst 0, 1) := by decide +kernel
theorem dX8_readAll_7 : decode cX8_readAll 7 = .ok (.putfield 70, 3) := by decide +kernel
theorem dX8_readAll_10 : decode cX8_readAll 10 = .ok (.aload_n 0, 1) := by decide +kernel
theorem dX8_readAll_11 : decode cX8_readAll 11 = .ok (.iconst 0, 1) := by decide +kernel
theorem dX8_readAll_12 : decode cX8_readAll 12 = .ok (.putfield 140, 3) := by decide +kernel
theorem dX8_readAll_15 : decode cX8_readAll 15 = .ok (.iconst 0, 1) := by decide +kernel
theorem dX8_readAll_16 : decode cX8_readAll 16 = .ok (.istore_n 2, 1) := by decide +kernel
theorem dX8_readAll_17 : decode cX8_readAll 17 = .ok (.iload_n 2, 1) := by decide +kernel
theorem dX8_readAll_18 : decode cX8_readAll 18 = .ok (.sipush 396, 3) := by decide +kernel
theorem dX8_readAll_21 : decode cX8_readAll 21 = .ok (.if_icmp .ge 16, 3) := by decide +kernel
theorem dX8_readAll_24 : decode cX8_readAll 24 = .ok (.aload_n 0, 1) := by decide +kernel
theorem dX8_readAll_25 : decode cX8_readAll 25 = .ok (.getfield 20, 3) := by decide +kernel
theorem dX8_readAll_28 : decode cX8_readAll 28 = .ok (.iload_n 2, 1) := by decide +kernel
theorem dX8_readAll_29 : decode cX8_readAll 29 = .ok (.iconst 0, 1) := by decide +kernel
theorem dX8_readAll_30 : decode cX8_readAll 30 = .ok (.iastore, 1) := by decide +kernel
theorem dX8_readAll_31 : decode cX8_readAll 31 = .ok (.iinc 2 1, 3) := by decide +kernel
theorem dX8_readAll_34 : decode cX8_readAll 34 = .ok (.goto (-17), 3) := by decide +kernel
theorem dX8_readAll_37 : decode cX8_readAll 37 = .ok (.aload_n 0, 1) := by decide +kernel
theorem dX8_readAll_38 : decode cX8_readAll 38 = .ok (.getfield 20, 3) := by decide +kernel
theorem dX8_readAll_41 : decode cX8_readAll 41 = .ok (.iconst 1, 1) := by decide +kernel
theorem dX8_readAll_42 : decode cX8_readAll 42 = .ok (.iconst 1, 1) := by decide +kernel
theorem dX8_readAll_43 : decode cX8_readAll 43 = .ok (.iastore, 1) := by decide +kernel
theorem dX8_readAll_44 : decode cX8_readAll 44 = .ok (.aload_n 0, 1) := by decide +kernel
theorem dX8_readAll_45 : decode cX8_readAll 45 = .ok (.getfield 20, 3) := by decide +kernel
theorem dX8_readAll_48 : decode cX8_readAll 48 = .ok (.iconst 2, 1) := by decide +kernel
theorem dX8_readAll_49 : decode cX8_readAll 49 = .ok (.iconst 2, 1) := by decide +kernel
theorem dX8_readAll_50 : decode cX8_readAll 50 = .ok (.iastore, 1) := by decide +kernel
theorem dX8_readAll_51 : decode cX8_readAll 51 = .ok (.aload_n 0, 1) := by decide +kernel
theorem dX8_readAll_52 : decode cX8_readAll 52 = .ok (.getfield 20, 3) := by decide +kernel
theorem dX8_readAll_55 : decode cX8_readAll 55 = .ok (.iconst 4, 1) := by decide +kernel
theorem dX8_readAll_56 : decode cX8_readAll 56 = .ok (.bipush 14, 2) := by decide +kernel
theorem dX8_readAll_58 : decode cX8_readAll 58 = .ok (.iastore, 1) := by decide +kernel
theorem dX8_readAll_59 : decode cX8_readAll 59 = .ok (.aload_n 0, 1) := by decide +kernel
theorem dX8_readAll_60 : decode cX8_readAll 60 = .ok (.getfield 20, 3) := by decide +kernel
theorem dX8_readAll_63 : decode cX8_readAll 63 = .ok (.iconst 5, 1) := by decide +kernel
theorem dX8_readAll_64 : decode cX8_readAll 64 = .ok (.bipush 30, 2) := by decide +kernel
theorem dX8_readAll_66 : decode cX8_readAll 66 = .ok (.iastore, 1) := by decide +kernel
theorem dX8_readAll_67 : decode cX8_readAll 67 = .ok (.aload_n 0, 1) := by decide +kernel
theorem dX8_readAll_68 : decode cX8_readAll 68 = .ok (.invokevirtual 126, 3) := by decide +kernel
theorem dX8_readAll_71 : decode cX8_readAll 71 = .ok (.aload_n 0, 1) := by decide +kernel
theorem dX8_readAll_72 : decode cX8_readAll 72 = .ok (.invokevirtual 155, 3) := by decide +kernel
theorem dX8_readAll_75 : decode cX8_readAll 75 = .ok (.ifCond .ne 5, 3) := by decide +kernel
theorem dX8_readAll_78 : decode cX8_readAll 78 = .ok (.iconst 0, 1) := by decide +kernel
theorem dX8_readAll_79 : decode cX8_readAll 79 = .ok (.ireturn, 1) := by decide +kernel
theorem dX8_readAll_80 : decode cX8_readAll 80 = .ok (.aload_n 0, 1) := by decide +kernel
theorem dX8_readAll_81 : decode cX8_readAll 81 = .ok (.getfield 80, 3) := by decide +kernel
theorem dX8_readAll_84 : decode cX8_readAll 84 = .ok (.bipush 59, 2) := by decide +kernel
theorem dX8_readAll_86 : decode cX8_readAll 86 = .ok (.if_icmp .ne 16, 3) := by decide +kernel
theorem dX8_readAll_89 : decode cX8_readAll 89 = .ok (.aload_n 0, 1) := by decide +kernel
theorem dX8_readAll_90 : decode cX8_readAll 90 = .ok (.invokevirtual 126, 3) := by decide +kernel
theorem dX8_readAll_93 : decode cX8_readAll 93 = .ok (.aload_n 0, 1) := by decide +kernel
theorem dX8_readAll_94 : decode cX8_readAll 94 = .ok (.invokevirtual 155, 3) := by decide +kernel
theorem dX8_readAll_97 : decode cX8_readAll 97 = .ok (.ifCond .ne (-17), 3) := by decide +kernel
theorem dX8_readAll_100 : decode cX8_readAll 100 = .ok (.iconst 0, 1) := by decide +kernel
theorem dX8_readAll_101 : decode cX8_readAll 101 = .ok (.ireturn, 1) := by decide +kernel
theorem dX8_readAll_102 : decode cX8_readAll 102 = .ok (.aload_n 0, 1) := by decide +kernel
theorem dX8_readAll_103 : decode cX8_readAll 103 = .ok (.getfield 80, 3) := by decide +kernel
theorem dX8_readAll_106 : decode cX8_readAll 106 = .ok (.ifCond .eq 9, 3) := by decide +kernel
theorem dX8_readAll_109 : decode cX8_readAll 109 = .ok (.aload_n 0, 1) := by decide +kernel
theorem dX8_readAll_110 : decode cX8_readAll 110 = .ok (.iconst 1, 1) := by decide +kernel
theorem dX8_readAll_111 : decode cX8_readAll 111 = .ok (.invokevirtual 122, 3) := by decide +kernel
theorem dX8_readAll_114 : decode cX8_readAll 114 = .ok (.ireturn, 1) := by decide +kernel
theorem dX8_readAll_115 : decode cX8_readAll 115 = .ok (.aload_n 0, 1) := by decide +kernel
theorem dX8_readAll_116 : decode cX8_readAll 116 = .ok (.getfield 20, 3) := by decide +kernel
theorem dX8_readAll_119 : decode cX8_readAll 119 = .ok (.iconst 0, 1) := by decide +kernel
theorem dX8_readAll_120 : decode cX8_readAll 120 = .ok (.iaload, 1) := by decide +kernel
theorem dX8_readAll_121 : decode cX8_readAll 121 = .ok (.ifCond .gt 11, 3) := by decide +kernel
theorem dX8_readAll_124 : decode cX8_readAll 124 = .ok (.aload_n 0, 1) := by decide +kernel
theorem dX8_readAll_125 : decode cX8_readAll 125 = .ok (.iconst 5, 1) := by decide +kernel
theorem dX8_readAll_126 : decode cX8_readAll 126 = .ok (.invokevirtual 122, 3) := by decide +kernel
theorem dX8_readAll_129 : decode cX8_readAll 129 = .ok (.ifCond .eq 7, 3) := by decide +kernel
theorem dX8_readAll_132 : decode cX8_readAll 132 = .ok (.iconst 1, 1) := by decide +kernel
theorem dX8_readAll_133 : decode cX8_readAll 133 = .ok (.goto 4, 3) := by decide +kernel
theorem dX8_readAll_136 : decode cX8_readAll 136 = .ok (.iconst 0, 1) := by decide +kernel
theorem dX8_readAll_137 : decode cX8_readAll 137 = .ok (.ireturn, 1) := by decide +kernel
theorem dX8_lays_0 : decode cX8_lays 0 = .ok (.iconst 0, 1) := by decide +kernel
theorem dX8_lays_1 : decode cX8_lays 1 = .ok (.istore 5, 2) := by decide +kernel
theorem dX8_lays_3 : decode cX8_lays 3 = .ok (.iload 5, 2) := by decide +kernel
theorem dX8_lays_5 : decode cX8_lays 5 = .ok (.iload 4, 2) := by decide +kernel
theorem dX8_lays_7 : decode cX8_lays 7 = .ok (.if_icmp .ge 21, 3) := by decide +kernel
theorem dX8_lays_10 : decode cX8_lays 10 = .ok (.aload_n 0, 1) := by decide +kernel
theorem dX8_lays_11 : decode cX8_lays 11 = .ok (.iload_n 1, 1) := by decide +kernel
theorem dX8_lays_12 : decode cX8_lays 12 = .ok (.iload 5, 2) := by decide +kernel
theorem dX8_lays_14 : decode cX8_lays 14 = .ok (.iadd, 1) := by decide +kernel
theorem dX8_lays_15 : decode cX8_lays 15 = .ok (.aload_n 2, 1) := by decide +kernel
theorem dX8_lays_16 : decode cX8_lays 16 = .ok (.iload_n 3, 1) := by decide +kernel
theorem dX8_lays_17 : decode cX8_lays 17 = .ok (.iload 5, 2) := by decide +kernel
theorem dX8_lays_19 : decode cX8_lays 19 = .ok (.iadd, 1) := by decide +kernel
theorem dX8_lays_20 : decode cX8_lays 20 = .ok (.iaload, 1) := by decide +kernel
theorem dX8_lays_21 : decode cX8_lays 21 = .ok (.iastore, 1) := by decide +kernel
theorem dX8_lays_22 : decode cX8_lays 22 = .ok (.iinc 5 1, 3) := by decide +kernel
theorem dX8_lays_25 : decode cX8_lays 25 = .ok (.goto (-22), 3) := by decide +kernel
theorem dX8_lays_28 : decode cX8_lays 28 = .ok (.return_, 1) := by decide +kernel
theorem dX8_begins_0 : decode cX8_begins 0 = .ok (.aload_n 0, 1) := by decide +kernel
theorem dX8_begins_1 : decode cX8_begins 1 = .ok (.bipush 69, 2) := by decide +kernel
theorem dX8_begins_3 : decode cX8_begins 3 = .ok (.iconst 1, 1) := by decide +kernel
theorem dX8_begins_4 : decode cX8_begins 4 = .ok (.iastore, 1) := by decide +kernel
theorem dX8_begins_5 : decode cX8_begins 5 = .ok (.aload_n 0, 1) := by decide +kernel
theorem dX8_begins_6 : decode cX8_begins 6 = .ok (.bipush 70, 2) := by decide +kernel
theorem dX8_begins_8 : decode cX8_begins 8 = .ok (.iconst 0, 1) := by decide +kernel
theorem dX8_begins_9 : decode cX8_begins 9 = .ok (.iastore, 1) := by decide +kernel
theorem dX8_begins_10 : decode cX8_begins 10 = .ok (.aload_n 0, 1) := by decide +kernel
theorem dX8_begins_11 : decode cX8_begins 11 = .ok (.bipush 71, 2) := by decide +kernel
theorem dX8_begins_13 : decode cX8_begins 13 = .ok (.iconst 0, 1) := by decide +kernel
theorem dX8_begins_14 : decode cX8_begins 14 = .ok (.iastore, 1) := by decide +kernel
theorem dX8_begins_15 : decode cX8_begins 15 = .ok (.aload_n 0, 1) := by decide +kernel
theorem dX8_begins_16 : decode cX8_begins 16 = .ok (.bipush 72, 2) := by decide +kernel
theorem dX8_begins_18 : decode cX8_begins 18 = .ok (.aload_n 0, 1) := by decide +kernel
theorem dX8_begins_19 : decode cX8_begins 19 = .ok (.bipush 60, 2) := by decide +kernel
theorem dX8_begins_21 : decode cX8_begins 21 = .ok (.iaload, 1) := by decide +kernel
theorem dX8_begins_22 : decode cX8_begins 22 = .ok (.iastore, 1) := by decide +kernel
theorem dX8_begins_23 : decode cX8_begins 23 = .ok (.aload_n 0, 1) := by decide +kernel
theorem dX8_begins_24 : decode cX8_begins 24 = .ok (.bipush 73, 2) := by decide +kernel
theorem dX8_begins_26 : decode cX8_begins 26 = .ok (.iconst 0, 1) := by decide +kernel
theorem dX8_begins_27 : decode cX8_begins 27 = .ok (.iastore, 1) := by decide +kernel
theorem dX8_begins_28 : decode cX8_begins 28 = .ok (.aload_n 0, 1) := by decide +kernel
theorem dX8_begins_29 : decode cX8_begins 29 = .ok (.bipush 74, 2) := by decide +kernel
theorem dX8_begins_31 : decode cX8_begins 31 = .ok (.iconst 0, 1) := by decide +kernel
theorem dX8_begins_32 : decode cX8_begins 32 = .ok (.iastore, 1) := by decide +kernel
theorem dX8_begins_33 : decode cX8_begins 33 = .ok (.aload_n 0, 1) := by decide +kernel
theorem dX8_begins_34 : decode cX8_begins 34 = .ok (.bipush 75, 2) := by decide +kernel
theorem dX8_begins_36 : decode cX8_begins 36 = .ok (.iconst 0, 1) := by decide +kernel
theorem dX8_begins_37 : decode cX8_begins 37 = .ok (.iastore, 1) := by decide +kernel
theorem dX8_begins_38 : decode cX8_begins 38 = .ok (.return_, 1) := by decide +kernel
theorem dX8_text_0 : decode cX8_text 0 = .ok (.aload_n 0, 1) := by decide +kernel
theorem dX8_text_1 : decode cX8_text 1 = .ok (.iconst 1, 1) := by decide +kernel
theorem dX8_text_2 : decode cX8_text 2 = .ok (.iload_n 1, 1) := by decide +kernel
theorem dX8_text_3 : decode cX8_text 3 = .ok (.iconst 0, 1) := by decide +kernel
theorem dX8_text_4 : decode cX8_text 4 = .ok (.aload_n 0, 1) := by decide +kernel
theorem dX8_text_5 : decode cX8_text 5 = .ok (.getfield 60, 3) := by decide +kernel
theorem dX8_text_8 : decode cX8_text 8 = .ok (.invokestatic 83, 3) := by decide +kernel
theorem dX8_text_11 : decode cX8_text 11 = .ok (.invokestatic 158, 3) := by decide +kernel
theorem dX8_text_14 : decode cX8_text 14 = .ok (.invokevirtual 162, 3) := by decide +kernel
theorem dX8_text_17 : decode cX8_text 17 = .ok (.ifCond .eq 5, 3) := by decide +kernel
theorem dX8_text_20 : decode cX8_text 20 = .ok (.iconst (-1), 1) := by decide +kernel
theorem dX8_text_21 : decode cX8_text 21 = .ok (.ireturn, 1) := by decide +kernel
theorem dX8_text_22 : decode cX8_text 22 = .ok (.aload_n 0, 1) := by decide +kernel
theorem dX8_text_23 : decode cX8_text 23 = .ok (.iconst 0, 1) := by decide +kernel
theorem dX8_text_24 : decode cX8_text 24 = .ok (.putfield 60, 3) := by decide +kernel
theorem dX8_text_27 : decode cX8_text 27 = .ok (.aload_n 0, 1) := by decide +kernel
theorem dX8_text_28 : decode cX8_text 28 = .ok (.iconst 0, 1) := by decide +kernel
theorem dX8_text_29 : decode cX8_text 29 = .ok (.putfield 165, 3) := by decide +kernel
theorem dX8_text_32 : decode cX8_text 32 = .ok (.aload_n 0, 1) := by decide +kernel
theorem dX8_text_33 : decode cX8_text 33 = .ok (.iload_n 1, 1) := by decide +kernel
theorem dX8_text_34 : decode cX8_text 34 = .ok (.invokevirtual 168, 3) := by decide +kernel
theorem dX8_text_37 : decode cX8_text 37 = .ok (.ifCond .ne 25, 3) := by decide +kernel
theorem dX8_text_40 : decode cX8_text 40 = .ok (.aload_n 0, 1) := by decide +kernel
theorem dX8_text_41 : decode cX8_text 41 = .ok (.aload_n 0, 1) := by decide +kernel
theorem dX8_text_42 : decode cX8_text 42 = .ok (.getfield 100, 3) := by decide +kernel
theorem dX8_text_45 : decode cX8_text 45 = .ok (.putfield 165, 3) := by decide +kernel
theorem dX8_text_48 : decode cX8_text 48 = .ok (.aload_n 0, 1) := by decide +kernel
theorem dX8_text_49 : decode cX8_text 49 = .ok (.aload_n 0, 1) := by decide +kernel
theorem dX8_text_50 : decode cX8_text 50 = .ok (.getfield 103, 3) := by decide +kernel
theorem dX8_text_53 : decode cX8_text 53 = .ok (.putfield 9, 3) := by decide +kernel
theorem dX8_text_56 : decode cX8_text 56 = .ok (.aload_n 0, 1) := by decide +kernel
theorem dX8_text_57 : decode cX8_text 57 = .ok (.iconst 4, 1) := by decide +kernel
theorem dX8_text_58 : decode cX8_text 58 = .ok (.invokevirtual 171, 3) := by decide +kernel
theorem dX8_text_61 : decode cX8_text 61 = .ok (.ireturn, 1) := by decide +kernel
theorem dX8_text_62 : decode cX8_text 62 = .ok (.aload_n 0, 1) := by decide +kernel
theorem dX8_text_63 : decode cX8_text 63 = .ok (.iconst 1, 1) := by decide +kernel
theorem dX8_text_64 : decode cX8_text 64 = .ok (.putfield 174, 3) := by decide +kernel
theorem dX8_text_67 : decode cX8_text 67 = .ok (.aload_n 0, 1) := by decide +kernel
theorem dX8_text_68 : decode cX8_text 68 = .ok (.iconst 0, 1) := by decide +kernel
theorem dX8_text_69 : decode cX8_text 69 = .ok (.putfield 178, 3) := by decide +kernel
theorem dX8_text_72 : decode cX8_text 72 = .ok (.aload_n 0, 1) := by decide +kernel
theorem dX8_text_73 : decode cX8_text 73 = .ok (.getfield 17, 3) := by decide +kernel
theorem dX8_text_76 : decode cX8_text 76 = .ok (.iconst 0, 1) := by decide +kernel
theorem dX8_text_77 : decode cX8_text 77 = .ok (.aload_n 0, 1) := by decide +kernel
theorem dX8_text_78 : decode cX8_text 78 = .ok (.getfield 20, 3) := by decide +kernel
theorem dX8_text_81 : decode cX8_text 81 = .ok (.iconst 0, 1) := by decide +kernel
theorem dX8_text_82 : decode cX8_text 82 = .ok (.sipush 396, 3) := by decide +kernel
theorem dX8_text_85 : decode cX8_text 85 = .ok (.invokestatic 181, 3) := by decide +kernel
theorem dX8_text_88 : decode cX8_text 88 = .ok (.aload_n 0, 1) := by decide +kernel
theorem dX8_text_89 : decode cX8_text 89 = .ok (.getfield 23, 3) := by decide +kernel
theorem dX8_text_92 : decode cX8_text 92 = .ok (.iconst 0, 1) := by decide +kernel
theorem dX8_text_93 : decode cX8_text 93 = .ok (.aload_n 0, 1) := by decide +kernel
theorem dX8_text_94 : decode cX8_text 94 = .ok (.getfield 26, 3) := by decide +kernel
theorem dX8_text_97 : decode cX8_text 97 = .ok (.iconst 0, 1) := by decide +kernel
theorem dX8_text_98 : decode cX8_text 98 = .ok (.bipush 54, 2) := by decide +kernel
theorem dX8_text_100 : decode cX8_text 100 = .ok (.invokestatic 181, 3) := by decide +kernel
theorem dX8_text_103 : decode cX8_text 103 = .ok (.aload_n 0, 1) := by decide +kernel
theorem dX8_text_104 : decode cX8_text 104 = .ok (.getfield 17, 3) := by decide +kernel
theorem dX8_text_107 : decode cX8_text 107 = .ok (.invokestatic 185, 3) := by decide +kernel
theorem dX8_text_110 : decode cX8_text 110 = .ok (.aload_n 0, 1) := by decide +kernel
theorem dX8_text_111 : decode cX8_text 111 = .ok (.getfield 17, 3) := by decide +kernel
theorem dX8_text_114 : decode cX8_text 114 = .ok (.iconst 0, 1) := by decide +kernel
theorem dX8_text_115 : decode cX8_text 115 = .ok (.iaload, 1) := by decide +kernel
theorem dX8_text_116 : decode cX8_text 116 = .ok (.ireturn, 1) := by decide +kernel
theorem dX8_fault_0 : decode cX8_fault 0 = .ok (.aload_n 0, 1) := by decide +kernel
theorem dX8_fault_1 : decode cX8_fault 1 = .ok (.iconst 0, 1) := by decide +kernel
theorem dX8_fault_2 : decode cX8_fault 2 = .ok (.putfield 54, 3) := by decide +kernel
theorem dX8_fault_5 : decode cX8_fault 5 = .ok (.aload_n 0, 1) := by decide +kernel
theorem dX8_fault_6 : decode cX8_fault 6 = .ok (.getfield 165, 3) := by decide +kernel
theorem dX8_fault_9 : decode cX8_fault 9 = .ok (.ireturn, 1) := by decide +kernel
theorem dX8_where_0 : decode cX8_where 0 = .ok (.aload_n 0, 1) := by decide +kernel
theorem dX8_where_1 : decode cX8_where 1 = .ok (.iconst 0, 1) := by decide +kernel
theorem dX8_where_2 : decode cX8_where 2 = .ok (.putfield 54, 3) := by decide +kernel
theorem dX8_where_5 : decode cX8_where 5 = .ok (.aload_n 0, 1) := by decide +kernel
theorem dX8_where_6 : decode cX8_where 6 = .ok (.getfield 57, 3) := by decide +kernel
theorem dX8_where_9 : decode cX8_where 9 = .ok (.iconst 4, 1) := by decide +kernel
theorem dX8_where_10 : decode cX8_where 10 = .ok (.if_icmp .ne 10, 3) := by decide +kernel
theorem dX8_where_13 : decode cX8_where 13 = .ok (.aload_n 0, 1) := by decide +kernel
theorem dX8_where_14 : decode cX8_where 14 = .ok (.getfield 9, 3) := by decide +kernel
theorem dX8_where_17 : decode cX8_where 17 = .ok (.goto 4, 3) := by decide +kernel
theorem dX8_where_20 : decode cX8_where 20 = .ok (.iconst (-1), 1) := by decide +kernel
theorem dX8_where_21 : decode cX8_where 21 = .ok (.ireturn, 1) := by decide +kernel
theorem dX8_isBatter_0 : decode cX8_isBatter 0 = .ok (.iload_n 1, 1) := by decide +kernel
theorem dX8_isBatter_1 : decode cX8_isBatter 1 = .ok (.iconst 0, 1) := by decide +kernel
theorem dX8_isBatter_2 : decode cX8_isBatter 2 = .ok (.aload_n 0, 1) := by decide +kernel
theorem dX8_isBatter_3 : decode cX8_isBatter 3 = .ok (.getfield 17, 3) := by decide +kernel
theorem dX8_isBatter_6 : decode cX8_isBatter 6 = .ok (.iconst 0, 1) := by decide +kernel
theorem dX8_isBatter_7 : decode cX8_isBatter 7 = .ok (.iaload, 1) := by decide +kernel
theorem dX8_isBatter_8 : decode cX8_isBatter 8 = .ok (.iconst 1, 1) := by decide +kernel
theorem dX8_isBatter_9 : decode cX8_isBatter 9 = .ok (.isub, 1) := by decide +kernel
theorem dX8_isBatter_10 : decode cX8_isBatter 10 = .ok (.invokestatic 83, 3) := by decide +kernel
theorem dX8_isBatter_13 : decode cX8_isBatter 13 = .ok (.ireturn, 1) := by decide +kernel
theorem dX8_about_0 : decode cX8_about 0 = .ok (.aload_n 0, 1) := by decide +kernel
theorem dX8_about_1 : decode cX8_about 1 = .ok (.aload_n 0, 1) := by decide +kernel
theorem dX8_about_2 : decode cX8_about 2 = .ok (.getfield 174, 3) := by decide +kernel
theorem dX8_about_5 : decode cX8_about 5 = .ok (.ifCond .eq 17, 3) := by decide +kernel
theorem dX8_about_8 : decode cX8_about 8 = .ok (.iload_n 1, 1) := by decide +kernel
theorem dX8_about_9 : decode cX8_about 9 = .ok (.iconst 0, 1) := by decide +kernel
theorem dX8_about_10 : decode cX8_about 10 = .ok (.bipush 8, 2) := by decide +kernel
theorem dX8_about_12 : decode cX8_about 12 = .ok (.invokestatic 83, 3) := by decide +kernel
theorem dX8_about_15 : decode cX8_about 15 = .ok (.ifCond .eq 7, 3) := by decide +kernel
theorem dX8_about_18 : decode cX8_about 18 = .ok (.iconst 1, 1) := by decide +kernel
theorem dX8_about_19 : decode cX8_about 19 = .ok (.goto 4, 3) := by decide +kernel
theorem dX8_about_22 : decode cX8_about 22 = .ok (.iconst 0, 1) := by decide +kernel
theorem dX8_about_23 : decode cX8_about 23 = .ok (.invokestatic 189, 3) := by decide +kernel
theorem dX8_about_26 : decode cX8_about 26 = .ok (.invokevirtual 162, 3) := by decide +kernel
theorem dX8_about_29 : decode cX8_about 29 = .ok (.ifCond .eq 5, 3) := by decide +kernel
theorem dX8_about_32 : decode cX8_about 32 = .ok (.iconst (-1), 1) := by decide +kernel
theorem dX8_about_33 : decode cX8_about 33 = .ok (.ireturn, 1) := by decide +kernel
theorem dX8_about_34 : decode cX8_about 34 = .ok (.iload_n 1, 1) := by decide +kernel
theorem dX8_about_35 : decode cX8_about 35 = .ok (.tableswitch 108 0 7 #[45, 52, 60, 68, 76, 84, 92, 100], 45) := by decide +kernel
theorem dX8_about_80 : decode cX8_about 80 = .ok (.aload_n 0, 1) := by decide +kernel
theorem dX8_about_81 : decode cX8_about 81 = .ok (.getfield 17, 3) := by decide +kernel
theorem dX8_about_84 : decode cX8_about 84 = .ok (.iconst 0, 1) := by decide +kernel
theorem dX8_about_85 : decode cX8_about 85 = .ok (.iaload, 1) := by decide +kernel
theorem dX8_about_86 : decode cX8_about 86 = .ok (.ireturn, 1) := by decide +kernel
theorem dX8_about_87 : decode cX8_about 87 = .ok (.aload_n 0, 1) := by decide +kernel
theorem dX8_about_88 : decode cX8_about 88 = .ok (.getfield 17, 3) := by decide +kernel
theorem dX8_about_91 : decode cX8_about 91 = .ok (.bipush 69, 2) := by decide +kernel
theorem dX8_about_93 : decode cX8_about 93 = .ok (.iaload, 1) := by decide +kernel
theorem dX8_about_94 : decode cX8_about 94 = .ok (.ireturn, 1) := by decide +kernel
theorem dX8_about_95 : decode cX8_about 95 = .ok (.aload_n 0, 1) := by decide +kernel
theorem dX8_about_96 : decode cX8_about 96 = .ok (.getfield 17, 3) := by decide +kernel
theorem dX8_about_99 : decode cX8_about 99 = .ok (.bipush 70, 2) := by decide +kernel
theorem dX8_about_101 : decode cX8_about 101 = .ok (.iaload, 1) := by decide +kernel
theorem dX8_about_102 : decode cX8_about 102 = .ok (.ireturn, 1) := by decide +kernel
theorem dX8_about_103 : decode cX8_about 103 = .ok (.aload_n 0, 1) := by decide +kernel
theorem dX8_about_104 : decode cX8_about 104 = .ok (.getfield 17, 3) := by decide +kernel
theorem dX8_about_107 : decode cX8_about 107 = .ok (.bipush 71, 2) := by decide +kernel
theorem dX8_about_109 : decode cX8_about 109 = .ok (.iaload, 1) := by decide +kernel
theorem dX8_about_110 : decode cX8_about 110 = .ok (.ireturn, 1) := by decide +kernel
theorem dX8_about_111 : decode cX8_about 111 = .ok (.aload_n 0, 1) := by decide +kernel
theorem dX8_about_112 : decode cX8_about 112 = .ok (.getfield 17, 3) := by decide +kernel
theorem dX8_about_115 : decode cX8_about 115 = .ok (.bipush 74, 2) := by decide +kernel
theorem dX8_about_117 : decode cX8_about 117 = .ok (.iaload, 1) := by decide +kernel
theorem dX8_about_118 : decode cX8_about 118 = .ok (.ireturn, 1) := by decide +kernel
theorem dX8_about_119 : decode cX8_about 119 = .ok (.aload_n 0, 1) := by decide +kernel
theorem dX8_about_120 : decode cX8_about 120 = .ok (.getfield 17, 3) := by decide +kernel
theorem dX8_about_123 : decode cX8_about 123 = .ok (.bipush 72, 2) := by decide +kernel
theorem dX8_about_125 : decode cX8_about 125 = .ok (.iaload, 1) := by decide +kernel
theorem dX8_about_126 : decode cX8_about 126 = .ok (.ireturn, 1) := by decide +kernel
theorem dX8_about_127 : decode cX8_about 127 = .ok (.aload_n 0, 1) := by decide +kernel
theorem dX8_about_128 : decode cX8_about 128 = .ok (.getfield 17, 3) := by decide +kernel
theorem dX8_about_131 : decode cX8_about 131 = .ok (.bipush 73, 2) := by decide +kernel
theorem dX8_about_133 : decode cX8_about 133 = .ok (.iaload, 1) := by decide +kernel
theorem dX8_about_134 : decode cX8_about 134 = .ok (.ireturn, 1) := by decide +kernel
theorem dX8_about_135 : decode cX8_about 135 = .ok (.aload_n 0, 1) := by decide +kernel
theorem dX8_about_136 : decode cX8_about 136 = .ok (.getfield 17, 3) := by decide +kernel
theorem dX8_about_139 : decode cX8_about 139 = .ok (.bipush 75, 2) := by decide +kernel
theorem dX8_about_141 : decode cX8_about 141 = .ok (.iaload, 1) := by decide +kernel
theorem dX8_about_142 : decode cX8_about 142 = .ok (.ireturn, 1) := by decide +kernel
theorem dX8_about_143 : decode cX8_about 143 = .ok (.aload_n 0, 1) := by decide +kernel
theorem dX8_about_144 : decode cX8_about 144 = .ok (.getfield 178, 3) := by decide +kernel
theorem dX8_about_147 : decode cX8_about 147 = .ok (.ireturn, 1) := by decide +kernel
theorem dX8_rule_0 : decode cX8_rule 0 = .ok (.aload_n 0, 1) := by decide +kernel
theorem dX8_rule_1 : decode cX8_rule 1 = .ok (.aload_n 0, 1) := by decide +kernel
theorem dX8_rule_2 : decode cX8_rule 2 = .ok (.getfield 174, 3) := by decide +kernel
theorem dX8_rule_5 : decode cX8_rule 5 = .ok (.ifCond .eq 16, 3) := by decide +kernel
theorem dX8_rule_8 : decode cX8_rule 8 = .ok (.iload_n 1, 1) := by decide +kernel
theorem dX8_rule_9 : decode cX8_rule 9 = .ok (.iconst 0, 1) := by decide +kernel
theorem dX8_rule_10 : decode cX8_rule 10 = .ok (.iconst 4, 1) := by decide +kernel
theorem dX8_rule_11 : decode cX8_rule 11 = .ok (.invokestatic 83, 3) := by decide +kernel
theorem dX8_rule_14 : decode cX8_rule 14 = .ok (.ifCond .eq 7, 3) := by decide +kernel
theorem dX8_rule_17 : decode cX8_rule 17 = .ok (.iconst 1, 1) := by decide +kernel
theorem dX8_rule_18 : decode cX8_rule 18 = .ok (.goto 4, 3) := by decide +kernel
theorem dX8_rule_21 : decode cX8_rule 21 = .ok (.iconst 0, 1) := by decide +kernel
theorem dX8_rule_22 : decode cX8_rule 22 = .ok (.invokestatic 189, 3) := by decide +kernel
theorem dX8_rule_25 : decode cX8_rule 25 = .ok (.invokevirtual 162, 3) := by decide +kernel
theorem dX8_rule_28 : decode cX8_rule 28 = .ok (.ifCond .eq 7, 3) := by decide +kernel
theorem dX8_rule_31 : decode cX8_rule 31 = .ok (.iconst (-1), 1) := by decide +kernel
theorem dX8_rule_32 : decode cX8_rule 32 = .ok (.goto 11, 3) := by decide +kernel
theorem dX8_rule_35 : decode cX8_rule 35 = .ok (.aload_n 0, 1) := by decide +kernel
theorem dX8_rule_36 : decode cX8_rule 36 = .ok (.getfield 17, 3) := by decide +kernel
theorem dX8_rule_39 : decode cX8_rule 39 = .ok (.iconst 1, 1) := by decide +kernel
theorem dX8_rule_40 : decode cX8_rule 40 = .ok (.iload_n 1, 1) := by decide +kernel
theorem dX8_rule_41 : decode cX8_rule 41 = .ok (.iadd, 1) := by decide +kernel
theorem dX8_rule_42 : decode cX8_rule 42 = .ok (.iaload, 1) := by decide +kernel
theorem dX8_rule_43 : decode cX8_rule 43 = .ok (.ireturn, 1) := by decide +kernel
theorem dX8_placeOf_0 : decode cX8_placeOf 0 = .ok (.iconst 0, 1) := by decide +kernel
theorem dX8_placeOf_1 : decode cX8_placeOf 1 = .ok (.istore_n 2, 1) := by decide +kernel
theorem dX8_placeOf_2 : decode cX8_placeOf 2 = .ok (.aload_n 0, 1) := by decide +kernel
theorem dX8_placeOf_3 : decode cX8_placeOf 3 = .ok (.getfield 17, 3) := by decide +kernel
theorem dX8_placeOf_6 : decode cX8_placeOf 6 = .ok (.bipush 60, 2) := by decide +kernel
theorem dX8_placeOf_8 : decode cX8_placeOf 8 = .ok (.iload_n 2, 1) := by decide +kernel
theorem dX8_placeOf_9 : decode cX8_placeOf 9 = .ok (.iadd, 1) := by decide +kernel
theorem dX8_placeOf_10 : decode cX8_placeOf 10 = .ok (.iaload, 1) := by decide +kernel
theorem dX8_placeOf_11 : decode cX8_placeOf 11 = .ok (.iload_n 1, 1) := by decide +kernel
theorem dX8_placeOf_12 : decode cX8_placeOf 12 = .ok (.if_icmp .eq 9, 3) := by decide +kernel
theorem dX8_placeOf_15 : decode cX8_placeOf 15 = .ok (.iinc 2 1, 3) := by decide +kernel
theorem dX8_placeOf_18 : decode cX8_placeOf 18 = .ok (.goto (-16), 3) := by decide +kernel
theorem dX8_placeOf_21 : decode cX8_placeOf 21 = .ok (.iload_n 2, 1) := by decide +kernel
theorem dX8_placeOf_22 : decode cX8_placeOf 22 = .ok (.ireturn, 1) := by decide +kernel
theorem dX8_logged_0 : decode cX8_logged 0 = .ok (.aload_n 0, 1) := by decide +kernel
theorem dX8_logged_1 : decode cX8_logged 1 = .ok (.getfield 17, 3) := by decide +kernel
theorem dX8_logged_4 : decode cX8_logged 4 = .ok (.bipush 76, 2) := by decide +kernel
theorem dX8_logged_6 : decode cX8_logged 6 = .ok (.bipush 8, 2) := by decide +kernel
theorem dX8_logged_8 : decode cX8_logged 8 = .ok (.aload_n 0, 1) := by decide +kernel
theorem dX8_logged_9 : decode cX8_logged 9 = .ok (.getfield 17, 3) := by decide +kernel
theorem dX8_logged_12 : decode cX8_logged 12 = .ok (.bipush 75, 2) := by decide +kernel
theorem dX8_logged_14 : decode cX8_logged 14 = .ok (.iaload, 1) := by decide +kernel
theorem dX8_logged_15 : decode cX8_logged 15 = .ok (.iconst 1, 1) := by decide +kernel
theorem dX8_logged_16 : decode cX8_logged 16 = .ok (.isub, 1) := by decide +kernel
theorem dX8_logged_17 : decode cX8_logged 17 = .ok (.iload_n 1, 1) := by decide +kernel
theorem dX8_logged_18 : decode cX8_logged 18 = .ok (.isub, 1) := by decide +kernel
theorem dX8_logged_19 : decode cX8_logged 19 = .ok (.imul, 1) := by decide +kernel
theorem dX8_logged_20 : decode cX8_logged 20 = .ok (.iadd, 1) := by decide +kernel
theorem dX8_logged_21 : decode cX8_logged 21 = .ok (.iload_n 2, 1) := by decide +kernel
theorem dX8_logged_22 : decode cX8_logged 22 = .ok (.iadd, 1) := by decide +kernel
theorem dX8_logged_23 : decode cX8_logged 23 = .ok (.iaload, 1) := by decide +kernel
theorem dX8_logged_24 : decode cX8_logged 24 = .ok (.ireturn, 1) := by decide +kernel
theorem dX8_batter_0 : decode cX8_batter 0 = .ok (.aload_n 0, 1) := by decide +kernel
theorem dX8_batter_1 : decode cX8_batter 1 = .ok (.aload_n 0, 1) := by decide +kernel
theorem dX8_batter_2 : decode cX8_batter 2 = .ok (.iload_n 1, 1) := by decide +kernel
theorem dX8_batter_3 : decode cX8_batter 3 = .ok (.invokevirtual 192, 3) := by decide +kernel
theorem dX8_batter_6 : decode cX8_batter 6 = .ok (.ifCond .eq 17, 3) := by decide +kernel
theorem dX8_batter_9 : decode cX8_batter 9 = .ok (.iload_n 2, 1) := by decide +kernel
theorem dX8_batter_10 : decode cX8_batter 10 = .ok (.iconst 0, 1) := by decide +kernel
theorem dX8_batter_11 : decode cX8_batter 11 = .ok (.bipush 8, 2) := by decide +kernel
theorem dX8_batter_13 : decode cX8_batter 13 = .ok (.invokestatic 83, 3) := by decide +kernel
theorem dX8_batter_16 : decode cX8_batter 16 = .ok (.ifCond .eq 7, 3) := by decide +kernel
theorem dX8_batter_19 : decode cX8_batter 19 = .ok (.iconst 1, 1) := by decide +kernel
theorem dX8_batter_20 : decode cX8_batter 20 = .ok (.goto 4, 3) := by decide +kernel
theorem dX8_batter_23 : decode cX8_batter 23 = .ok (.iconst 0, 1) := by decide +kernel
theorem dX8_batter_24 : decode cX8_batter 24 = .ok (.invokestatic 189, 3) := by decide +kernel
theorem dX8_batter_27 : decode cX8_batter 27 = .ok (.invokevirtual 162, 3) := by decide +kernel
theorem dX8_batter_30 : decode cX8_batter 30 = .ok (.ifCond .eq 5, 3) := by decide +kernel
theorem dX8_batter_33 : decode cX8_batter 33 = .ok (.iconst (-1), 1) := by decide +kernel
theorem dX8_batter_34 : decode cX8_batter 34 = .ok (.ireturn, 1) := by decide +kernel
theorem dX8_batter_35 : decode cX8_batter 35 = .ok (.iload_n 2, 1) := by decide +kernel
theorem dX8_batter_36 : decode cX8_batter 36 = .ok (.bipush 6, 2) := by decide +kernel
theorem dX8_batter_38 : decode cX8_batter 38 = .ok (.if_icmp .ge 18, 3) := by decide +kernel
theorem dX8_batter_41 : decode cX8_batter 41 = .ok (.aload_n 0, 1) := by decide +kernel
theorem dX8_batter_42 : decode cX8_batter 42 = .ok (.getfield 17, 3) := by decide +kernel
theorem dX8_batter_45 : decode cX8_batter 45 = .ok (.bipush 6, 2) := by decide +kernel
theorem dX8_batter_47 : decode cX8_batter 47 = .ok (.bipush 6, 2) := by decide +kernel
theorem dX8_batter_49 : decode cX8_batter 49 = .ok (.iload_n 1, 1) := by decide +kernel
theorem dX8_batter_50 : decode cX8_batter 50 = .ok (.imul, 1) := by decide +kernel
theorem dX8_batter_51 : decode cX8_batter 51 = .ok (.iadd, 1) := by decide +kernel
theorem dX8_batter_52 : decode cX8_batter 52 = .ok (.iload_n 2, 1) := by decide +kernel
theorem dX8_batter_53 : decode cX8_batter 53 = .ok (.iadd, 1) := by decide +kernel
theorem dX8_batter_54 : decode cX8_batter 54 = .ok (.iaload, 1) := by decide +kernel
theorem dX8_batter_55 : decode cX8_batter 55 = .ok (.ireturn, 1) := by decide +kernel
theorem dX8_batter_56 : decode cX8_batter 56 = .ok (.iload_n 2, 1) := by decide +kernel
theorem dX8_batter_57 : decode cX8_batter 57 = .ok (.bipush 6, 2) := by decide +kernel
theorem dX8_batter_59 : decode cX8_batter 59 = .ok (.if_icmp .ne 9, 3) := by decide +kernel
theorem dX8_batter_62 : decode cX8_batter 62 = .ok (.aload_n 0, 1) := by decide +kernel
theorem dX8_batter_63 : decode cX8_batter 63 = .ok (.iload_n 1, 1) := by decide +kernel
theorem dX8_batter_64 : decode cX8_batter 64 = .ok (.invokevirtual 195, 3) := by decide +kernel
theorem dX8_batter_67 : decode cX8_batter 67 = .ok (.ireturn, 1) := by decide +kernel
theorem dX8_batter_68 : decode cX8_batter 68 = .ok (.iconst 0, 1) := by decide +kernel
theorem dX8_batter_69 : decode cX8_batter 69 = .ok (.istore_n 3, 1) := by decide +kernel
theorem dX8_batter_70 : decode cX8_batter 70 = .ok (.iconst 0, 1) := by decide +kernel
theorem dX8_batter_71 : decode cX8_batter 71 = .ok (.istore 4, 2) := by decide +kernel
theorem dX8_batter_73 : decode cX8_batter 73 = .ok (.iload 4, 2) := by decide +kernel
theorem dX8_batter_75 : decode cX8_batter 75 = .ok (.aload_n 0, 1) := by decide +kernel
theorem dX8_batter_76 : decode cX8_batter 76 = .ok (.getfield 17, 3) := by decide +kernel
theorem dX8_batter_79 : decode cX8_batter 79 = .ok (.bipush 75, 2) := by decide +kernel
theorem dX8_batter_81 : decode cX8_batter 81 = .ok (.iaload, 1) := by decide +kernel
theorem dX8_batter_82 : decode cX8_batter 82 = .ok (.if_icmp .ge 44, 3) := by decide +kernel
theorem dX8_batter_85 : decode cX8_batter 85 = .ok (.iload_n 3, 1) := by decide +kernel
theorem dX8_batter_86 : decode cX8_batter 86 = .ok (.aload_n 0, 1) := by decide +kernel
theorem dX8_batter_87 : decode cX8_batter 87 = .ok (.iload 4, 2) := by decide +kernel
theorem dX8_batter_89 : decode cX8_batter 89 = .ok (.iconst 0, 1) := by decide +kernel
theorem dX8_batter_90 : decode cX8_batter 90 = .ok (.invokevirtual 198, 3) := by decide +kernel
theorem dX8_batter_93 : decode cX8_batter 93 = .ok (.iload_n 1, 1) := by decide +kernel
theorem dX8_batter_94 : decode cX8_batter 94 = .ok (.if_icmp .eq 7, 3) := by decide +kernel
theorem dX8_batter_97 : decode cX8_batter 97 = .ok (.iconst 0, 1) := by decide +kernel
theorem dX8_batter_98 : decode cX8_batter 98 = .ok (.goto 20, 3) := by decide +kernel
theorem dX8_batter_101 : decode cX8_batter 101 = .ok (.iload_n 2, 1) := by decide +kernel
theorem dX8_batter_102 : decode cX8_batter 102 = .ok (.bipush 7, 2) := by decide +kernel
theorem dX8_batter_104 : decode cX8_batter 104 = .ok (.if_icmp .ne 7, 3) := by decide +kernel
theorem dX8_batter_107 : decode cX8_batter 107 = .ok (.iconst 1, 1) := by decide +kernel
theorem dX8_batter_108 : decode cX8_batter 108 = .ok (.goto 10, 3) := by decide +kernel
theorem dX8_batter_111 : decode cX8_batter 111 = .ok (.aload_n 0, 1) := by decide +kernel
theorem dX8_batter_112 : decode cX8_batter 112 = .ok (.iload 4, 2) := by decide +kernel
theorem dX8_batter_114 : decode cX8_batter 114 = .ok (.iconst 2, 1) := by decide +kernel
theorem dX8_batter_115 : decode cX8_batter 115 = .ok (.invokevirtual 198, 3) := by decide +kernel
theorem dX8_batter_118 : decode cX8_batter 118 = .ok (.iadd, 1) := by decide +kernel
theorem dX8_batter_119 : decode cX8_batter 119 = .ok (.istore_n 3, 1) := by decide +kernel
theorem dX8_batter_120 : decode cX8_batter 120 = .ok (.iinc 4 1, 3) := by decide +kernel
theorem dX8_batter_123 : decode cX8_batter 123 = .ok (.goto (-50), 3) := by decide +kernel
theorem dX8_batter_126 : decode cX8_batter 126 = .ok (.iload_n 3, 1) := by decide +kernel
theorem dX8_batter_127 : decode cX8_batter 127 = .ok (.ireturn, 1) := by decide +kernel
theorem dX8_place_0 : decode cX8_place 0 = .ok (.aload_n 0, 1) := by decide +kernel
theorem dX8_place_1 : decode cX8_place 1 = .ok (.aload_n 0, 1) := by decide +kernel
theorem dX8_place_2 : decode cX8_place 2 = .ok (.iload_n 1, 1) := by decide +kernel
theorem dX8_place_3 : decode cX8_place 3 = .ok (.invokevirtual 192, 3) := by decide +kernel
theorem dX8_place_6 : decode cX8_place 6 = .ok (.invokestatic 189, 3) := by decide +kernel
theorem dX8_place_9 : decode cX8_place 9 = .ok (.invokevirtual 162, 3) := by decide +kernel
theorem dX8_place_12 : decode cX8_place 12 = .ok (.ifCond .eq 7, 3) := by decide +kernel
theorem dX8_place_15 : decode cX8_place 15 = .ok (.iconst (-1), 1) := by decide +kernel
theorem dX8_place_16 : decode cX8_place 16 = .ok (.goto 12, 3) := by decide +kernel
theorem dX8_place_19 : decode cX8_place 19 = .ok (.aload_n 0, 1) := by decide +kernel
theorem dX8_place_20 : decode cX8_place 20 = .ok (.getfield 17, 3) := by decide +kernel
theorem dX8_place_23 : decode cX8_place 23 = .ok (.bipush 60, 2) := by decide +kernel
theorem dX8_place_25 : decode cX8_place 25 = .ok (.iload_n 1, 1) := by decide +kernel
theorem dX8_place_26 : decode cX8_place 26 = .ok (.iadd, 1) := by decide +kernel
theorem dX8_place_27 : decode cX8_place 27 = .ok (.iaload, 1) := by decide +kernel
theorem dX8_place_28 : decode cX8_place 28 = .ok (.ireturn, 1) := by decide +kernel
theorem dX8_coming_0 : decode cX8_coming 0 = .ok (.aload_n 0, 1) := by decide +kernel
theorem dX8_coming_1 : decode cX8_coming 1 = .ok (.aload_n 0, 1) := by decide +kernel
theorem dX8_coming_2 : decode cX8_coming 2 = .ok (.getfield 174, 3) := by decide +kernel
theorem dX8_coming_5 : decode cX8_coming 5 = .ok (.ifCond .eq 11, 3) := by decide +kernel
theorem dX8_coming_8 : decode cX8_coming 8 = .ok (.iload_n 1, 1) := by decide +kernel
theorem dX8_coming_9 : decode cX8_coming 9 = .ok (.ifCond .lt 7, 3) := by decide +kernel
theorem dX8_coming_12 : decode cX8_coming 12 = .ok (.iconst 1, 1) := by decide +kernel
theorem dX8_coming_13 : decode cX8_coming 13 = .ok (.goto 4, 3) := by decide +kernel
theorem dX8_coming_16 : decode cX8_coming 16 = .ok (.iconst 0, 1) := by decide +kernel
theorem dX8_coming_17 : decode cX8_coming 17 = .ok (.invokestatic 189, 3) := by decide +kernel
theorem dX8_coming_20 : decode cX8_coming 20 = .ok (.invokevirtual 162, 3) := by decide +kernel
theorem dX8_coming_23 : decode cX8_coming 23 = .ok (.ifCond .eq 7, 3) := by decide +kernel
theorem dX8_coming_26 : decode cX8_coming 26 = .ok (.iconst (-1), 1) := by decide +kernel
theorem dX8_coming_27 : decode cX8_coming 27 = .ok (.goto 38, 3) := by decide +kernel
theorem dX8_coming_30 : decode cX8_coming 30 = .ok (.aload_n 0, 1) := by decide +kernel
theorem dX8_coming_31 : decode cX8_coming 31 = .ok (.getfield 17, 3) := by decide +kernel
theorem dX8_coming_34 : decode cX8_coming 34 = .ok (.bipush 60, 2) := by decide +kernel
theorem dX8_coming_36 : decode cX8_coming 36 = .ok (.aload_n 0, 1) := by decide +kernel
theorem dX8_coming_37 : decode cX8_coming 37 = .ok (.aload_n 0, 1) := by decide +kernel
theorem dX8_coming_38 : decode cX8_coming 38 = .ok (.getfield 17, 3) := by decide +kernel
theorem dX8_coming_41 : decode cX8_coming 41 = .ok (.bipush 72, 2) := by decide +kernel
theorem dX8_coming_43 : decode cX8_coming 43 = .ok (.iaload, 1) := by decide +kernel
theorem dX8_coming_44 : decode cX8_coming 44 = .ok (.invokevirtual 195, 3) := by decide +kernel
theorem dX8_coming_47 : decode cX8_coming 47 = .ok (.iload_n 1, 1) := by decide +kernel
theorem dX8_coming_48 : decode cX8_coming 48 = .ok (.aload_n 0, 1) := by decide +kernel
theorem dX8_coming_49 : decode cX8_coming 49 = .ok (.getfield 17, 3) := by decide +kernel
theorem dX8_coming_52 : decode cX8_coming 52 = .ok (.iconst 0, 1) := by decide +kernel
theorem dX8_coming_53 : decode cX8_coming 53 = .ok (.iaload, 1) := by decide +kernel
theorem dX8_coming_54 : decode cX8_coming 54 = .ok (.irem, 1) := by decide +kernel
theorem dX8_coming_55 : decode cX8_coming 55 = .ok (.iadd, 1) := by decide +kernel
theorem dX8_coming_56 : decode cX8_coming 56 = .ok (.aload_n 0, 1) := by decide +kernel
theorem dX8_coming_57 : decode cX8_coming 57 = .ok (.getfield 17, 3) := by decide +kernel
theorem dX8_coming_60 : decode cX8_coming 60 = .ok (.iconst 0, 1) := by decide +kernel
theorem dX8_coming_61 : decode cX8_coming 61 = .ok (.iaload, 1) := by decide +kernel
theorem dX8_coming_62 : decode cX8_coming 62 = .ok (.irem, 1) := by decide +kernel
theorem dX8_coming_63 : decode cX8_coming 63 = .ok (.iadd, 1) := by decide +kernel
theorem dX8_coming_64 : decode cX8_coming 64 = .ok (.iaload, 1) := by decide +kernel
theorem dX8_coming_65 : decode cX8_coming 65 = .ok (.ireturn, 1) := by decide +kernel
theorem dX8_chanceOf_0 : decode cX8_chanceOf 0 = .ok (.aload_n 0, 1) := by decide +kernel
theorem dX8_chanceOf_1 : decode cX8_chanceOf 1 = .ok (.getfield 17, 3) := by decide +kernel
theorem dX8_chanceOf_4 : decode cX8_chanceOf 4 = .ok (.bipush 6, 2) := by decide +kernel
theorem dX8_chanceOf_6 : decode cX8_chanceOf 6 = .ok (.bipush 6, 2) := by decide +kernel
theorem dX8_chanceOf_8 : decode cX8_chanceOf 8 = .ok (.iload_n 1, 1) := by decide +kernel
theorem dX8_chanceOf_9 : decode cX8_chanceOf 9 = .ok (.imul, 1) := by decide +kernel
theorem dX8_chanceOf_10 : decode cX8_chanceOf 10 = .ok (.iadd, 1) := by decide +kernel
theorem dX8_chanceOf_11 : decode cX8_chanceOf 11 = .ok (.iaload, 1) := by decide +kernel
theorem dX8_chanceOf_12 : decode cX8_chanceOf 12 = .ok (.istore 4, 2) := by decide +kernel
theorem dX8_chanceOf_14 : decode cX8_chanceOf 14 = .ok (.iload_n 3, 1) := by decide +kernel
theorem dX8_chanceOf_15 : decode cX8_chanceOf 15 = .ok (.aload_n 0, 1) := by decide +kernel
theorem dX8_chanceOf_16 : decode cX8_chanceOf 16 = .ok (.getfield 17, 3) := by decide +kernel
theorem dX8_chanceOf_19 : decode cX8_chanceOf 19 = .ok (.iconst 5, 1) := by decide +kernel
theorem dX8_chanceOf_20 : decode cX8_chanceOf 20 = .ok (.iaload, 1) := by decide +kernel
theorem dX8_chanceOf_21 : decode cX8_chanceOf 21 = .ok (.idiv, 1) := by decide +kernel
theorem dX8_chanceOf_22 : decode cX8_chanceOf 22 = .ok (.istore 5, 2) := by decide +kernel
theorem dX8_chanceOf_24 : decode cX8_chanceOf 24 = .ok (.iload 5, 2) := by decide +kernel
theorem dX8_chanceOf_26 : decode cX8_chanceOf 26 = .ok (.iload 4, 2) := by decide +kernel
theorem dX8_chanceOf_28 : decode cX8_chanceOf 28 = .ok (.if_icmp .ge 8, 3) := by decide +kernel
theorem dX8_chanceOf_31 : decode cX8_chanceOf 31 = .ok (.iload 5, 2) := by decide +kernel
theorem dX8_chanceOf_33 : decode cX8_chanceOf 33 = .ok (.goto 5, 3) := by decide +kernel
theorem dX8_chanceOf_36 : decode cX8_chanceOf 36 = .ok (.iload 4, 2) := by decide +kernel
theorem dX8_chanceOf_38 : decode cX8_chanceOf 38 = .ok (.istore 6, 2) := by decide +kernel
theorem dX8_chanceOf_40 : decode cX8_chanceOf 40 = .ok (.aload_n 0, 1) := by decide +kernel
theorem dX8_chanceOf_41 : decode cX8_chanceOf 41 = .ok (.getfield 17, 3) := by decide +kernel
theorem dX8_chanceOf_44 : decode cX8_chanceOf 44 = .ok (.bipush 6, 2) := by decide +kernel
theorem dX8_chanceOf_46 : decode cX8_chanceOf 46 = .ok (.bipush 6, 2) := by decide +kernel
theorem dX8_chanceOf_48 : decode cX8_chanceOf 48 = .ok (.iload_n 1, 1) := by decide +kernel
theorem dX8_chanceOf_49 : decode cX8_chanceOf 49 = .ok (.imul, 1) := by decide +kernel
theorem dX8_chanceOf_50 : decode cX8_chanceOf 50 = .ok (.iadd, 1) := by decide +kernel
theorem dX8_chanceOf_51 : decode cX8_chanceOf 51 = .ok (.iload_n 2, 1) := by decide +kernel
theorem dX8_chanceOf_52 : decode cX8_chanceOf 52 = .ok (.iadd, 1) := by decide +kernel
theorem dX8_chanceOf_53 : decode cX8_chanceOf 53 = .ok (.iaload, 1) := by decide +kernel
theorem dX8_chanceOf_54 : decode cX8_chanceOf 54 = .ok (.iload_n 2, 1) := by decide +kernel
theorem dX8_chanceOf_55 : decode cX8_chanceOf 55 = .ok (.ifCond .ne 9, 3) := by decide +kernel
theorem dX8_chanceOf_58 : decode cX8_chanceOf 58 = .ok (.iload 6, 2) := by decide +kernel
theorem dX8_chanceOf_60 : decode cX8_chanceOf 60 = .ok (.ineg, 1) := by decide +kernel
theorem dX8_chanceOf_61 : decode cX8_chanceOf 61 = .ok (.goto 14, 3) := by decide +kernel
theorem dX8_chanceOf_64 : decode cX8_chanceOf 64 = .ok (.iload_n 2, 1) := by decide +kernel
theorem dX8_chanceOf_65 : decode cX8_chanceOf 65 = .ok (.iconst 2, 1) := by decide +kernel
theorem dX8_chanceOf_66 : decode cX8_chanceOf 66 = .ok (.if_icmp .ne 8, 3) := by decide +kernel
theorem dX8_chanceOf_69 : decode cX8_chanceOf 69 = .ok (.iload 6, 2) := by decide +kernel
theorem dX8_chanceOf_71 : decode cX8_chanceOf 71 = .ok (.goto 4, 3) := by decide +kernel
theorem dX8_chanceOf_74 : decode cX8_chanceOf 74 = .ok (.iconst 0, 1) := by decide +kernel
theorem dX8_chanceOf_75 : decode cX8_chanceOf 75 = .ok (.iadd, 1) := by decide +kernel
theorem dX8_chanceOf_76 : decode cX8_chanceOf 76 = .ok (.ireturn, 1) := by decide +kernel
theorem dX8_chance_0 : decode cX8_chance 0 = .ok (.aload_n 0, 1) := by decide +kernel
theorem dX8_chance_1 : decode cX8_chance 1 = .ok (.aload_n 0, 1) := by decide +kernel
theorem dX8_chance_2 : decode cX8_chance 2 = .ok (.iload_n 1, 1) := by decide +kernel
theorem dX8_chance_3 : decode cX8_chance 3 = .ok (.invokevirtual 192, 3) := by decide +kernel
theorem dX8_chance_6 : decode cX8_chance 6 = .ok (.ifCond .eq 16, 3) := by decide +kernel
theorem dX8_chance_9 : decode cX8_chance 9 = .ok (.iload_n 2, 1) := by decide +kernel
theorem dX8_chance_10 : decode cX8_chance 10 = .ok (.iconst 0, 1) := by decide +kernel
theorem dX8_chance_11 : decode cX8_chance 11 = .ok (.iconst 5, 1) := by decide +kernel
theorem dX8_chance_12 : decode cX8_chance 12 = .ok (.invokestatic 83, 3) := by decide +kernel
theorem dX8_chance_15 : decode cX8_chance 15 = .ok (.ifCond .eq 7, 3) := by decide +kernel
theorem dX8_chance_18 : decode cX8_chance 18 = .ok (.iconst 1, 1) := by decide +kernel
theorem dX8_chance_19 : decode cX8_chance 19 = .ok (.goto 4, 3) := by decide +kernel
theorem dX8_chance_22 : decode cX8_chance 22 = .ok (.iconst 0, 1) := by decide +kernel
theorem dX8_chance_23 : decode cX8_chance 23 = .ok (.iload_n 3, 1) := by decide +kernel
theorem dX8_chance_24 : decode cX8_chance 24 = .ok (.iconst 0, 1) := by decide +kernel
theorem dX8_chance_25 : decode cX8_chance 25 = .ok (.sipush 999, 3) := by decide +kernel
theorem dX8_chance_28 : decode cX8_chance 28 = .ok (.invokestatic 83, 3) := by decide +kernel
theorem dX8_chance_31 : decode cX8_chance 31 = .ok (.invokestatic 158, 3) := by decide +kernel
theorem dX8_chance_34 : decode cX8_chance 34 = .ok (.invokevirtual 162, 3) := by decide +kernel
theorem dX8_chance_37 : decode cX8_chance 37 = .ok (.ifCond .eq 7, 3) := by decide +kernel
theorem dX8_chance_40 : decode cX8_chance 40 = .ok (.iconst (-1), 1) := by decide +kernel
theorem dX8_chance_41 : decode cX8_chance 41 = .ok (.goto 10, 3) := by decide +kernel
theorem dX8_chance_44 : decode cX8_chance 44 = .ok (.aload_n 0, 1) := by decide +kernel
theorem dX8_chance_45 : decode cX8_chance 45 = .ok (.iload_n 1, 1) := by decide +kernel
theorem dX8_chance_46 : decode cX8_chance 46 = .ok (.iload_n 2, 1) := by decide +kernel
theorem dX8_chance_47 : decode cX8_chance 47 = .ok (.iload_n 3, 1) := by decide +kernel
theorem dX8_chance_48 : decode cX8_chance 48 = .ok (.invokevirtual 202, 3) := by decide +kernel
theorem dX8_chance_51 : decode cX8_chance 51 = .ok (.ireturn, 1) := by decide +kernel
theorem dX8_allCome_0 : decode cX8_allCome 0 = .ok (.iconst 0, 1) := by decide +kernel
theorem dX8_allCome_1 : decode cX8_allCome 1 = .ok (.istore_n 3, 1) := by decide +kernel
theorem dX8_allCome_2 : decode cX8_allCome 2 = .ok (.iload_n 3, 1) := by decide +kernel
theorem dX8_allCome_3 : decode cX8_allCome 3 = .ok (.iconst 3, 1) := by decide +kernel
theorem dX8_allCome_4 : decode cX8_allCome 4 = .ok (.if_icmp .ge 52, 3) := by decide +kernel
theorem dX8_allCome_7 : decode cX8_allCome 7 = .ok (.iload_n 1, 1) := by decide +kernel
theorem dX8_allCome_8 : decode cX8_allCome 8 = .ok (.iload_n 3, 1) := by decide +kernel
theorem dX8_allCome_9 : decode cX8_allCome 9 = .ok (.ishr, 1) := by decide +kernel
theorem dX8_allCome_10 : decode cX8_allCome 10 = .ok (.iconst 1, 1) := by decide +kernel
theorem dX8_allCome_11 : decode cX8_allCome 11 = .ok (.iand, 1) := by decide +kernel
theorem dX8_allCome_12 : decode cX8_allCome 12 = .ok (.iconst 1, 1) := by decide +kernel
theorem dX8_allCome_13 : decode cX8_allCome 13 = .ok (.if_icmp .ne 37, 3) := by decide +kernel
theorem dX8_allCome_16 : decode cX8_allCome 16 = .ok (.iload_n 3, 1) := by decide +kernel
theorem dX8_allCome_17 : decode cX8_allCome 17 = .ok (.iload_n 2, 1) := by decide +kernel
theorem dX8_allCome_18 : decode cX8_allCome 18 = .ok (.iadd, 1) := by decide +kernel
theorem dX8_allCome_19 : decode cX8_allCome 19 = .ok (.iconst 3, 1) := by decide +kernel
theorem dX8_allCome_20 : decode cX8_allCome 20 = .ok (.if_icmp .lt 16, 3) := by decide +kernel
theorem dX8_allCome_23 : decode cX8_allCome 23 = .ok (.aload_n 0, 1) := by decide +kernel
theorem dX8_allCome_24 : decode cX8_allCome 24 = .ok (.dup, 1) := by decide +kernel
theorem dX8_allCome_25 : decode cX8_allCome 25 = .ok (.getfield 206, 3) := by decide +kernel
theorem dX8_allCome_28 : decode cX8_allCome 28 = .ok (.iconst 1, 1) := by decide +kernel
theorem dX8_allCome_29 : decode cX8_allCome 29 = .ok (.iadd, 1) := by decide +kernel
theorem dX8_allCome_30 : decode cX8_allCome 30 = .ok (.putfield 206, 3) := by decide +kernel
theorem dX8_allCome_33 : decode cX8_allCome 33 = .ok (.goto 17, 3) := by decide +kernel
theorem dX8_allCome_36 : decode cX8_allCome 36 = .ok (.aload_n 0, 1) := by decide +kernel
theorem dX8_allCome_37 : decode cX8_allCome 37 = .ok (.dup, 1) := by decide +kernel
theorem dX8_allCome_38 : decode cX8_allCome 38 = .ok (.getfield 209, 3) := by decide +kernel
theorem dX8_allCome_41 : decode cX8_allCome 41 = .ok (.iconst 1, 1) := by decide +kernel
theorem dX8_allCome_42 : decode cX8_allCome 42 = .ok (.iload_n 3, 1) := by decide +kernel
theorem dX8_allCome_43 : decode cX8_allCome 43 = .ok (.iload_n 2, 1) := by decide +kernel
theorem dX8_allCome_44 : decode cX8_allCome 44 = .ok (.iadd, 1) := by decide +kernel
theorem dX8_allCome_45 : decode cX8_allCome 45 = .ok (.ishl, 1) := by decide +kernel
theorem dX8_allCome_46 : decode cX8_allCome 46 = .ok (.ior, 1) := by decide +kernel
theorem dX8_allCome_47 : decode cX8_allCome 47 = .ok (.putfield 209, 3) := by decide +kernel
theorem dX8_allCome_50 : decode cX8_allCome 50 = .ok (.iinc 3 1, 3) := by decide +kernel
theorem dX8_allCome_53 : decode cX8_allCome 53 = .ok (.goto (-51), 3) := by decide +kernel
theorem dX8_allCome_56 : decode cX8_allCome 56 = .ok (.return_, 1) := by decide +kernel
theorem dX8_walks_0 : decode cX8_walks 0 = .ok (.iload_n 1, 1) := by decide +kernel
theorem dX8_walks_1 : decode cX8_walks 1 = .ok (.iconst 1, 1) := by decide +kernel
theorem dX8_walks_2 : decode cX8_walks 2 = .ok (.iand, 1) := by decide +kernel
theorem dX8_walks_3 : decode cX8_walks 3 = .ok (.ifCond .ne 7, 3) := by decide +kernel
theorem dX8_walks_6 : decode cX8_walks 6 = .ok (.iconst 0, 1) := by decide +kernel
theorem dX8_walks_7 : decode cX8_walks 7 = .ok (.goto 25, 3) := by decide +kernel
theorem dX8_walks_10 : decode cX8_walks 10 = .ok (.iload_n 1, 1) := by decide +kernel
theorem dX8_walks_11 : decode cX8_walks 11 = .ok (.iconst 2, 1) := by decide +kernel
theorem dX8_walks_12 : decode cX8_walks 12 = .ok (.iand, 1) := by decide +kernel
theorem dX8_walks_13 : decode cX8_walks 13 = .ok (.ifCond .ne 7, 3) := by decide +kernel
theorem dX8_walks_16 : decode cX8_walks 16 = .ok (.iconst 1, 1) := by decide +kernel
theorem dX8_walks_17 : decode cX8_walks 17 = .ok (.goto 15, 3) := by decide +kernel
theorem dX8_walks_20 : decode cX8_walks 20 = .ok (.iload_n 1, 1) := by decide +kernel
theorem dX8_walks_21 : decode cX8_walks 21 = .ok (.iconst 4, 1) := by decide +kernel
theorem dX8_walks_22 : decode cX8_walks 22 = .ok (.iand, 1) := by decide +kernel
theorem dX8_walks_23 : decode cX8_walks 23 = .ok (.ifCond .ne 7, 3) := by decide +kernel
theorem dX8_walks_26 : decode cX8_walks 26 = .ok (.iconst 3, 1) := by decide +kernel
theorem dX8_walks_27 : decode cX8_walks 27 = .ok (.goto 5, 3) := by decide +kernel
theorem dX8_walks_30 : decode cX8_walks 30 = .ok (.bipush 7, 2) := by decide +kernel
theorem dX8_walks_32 : decode cX8_walks 32 = .ok (.istore_n 2, 1) := by decide +kernel
theorem dX8_walks_33 : decode cX8_walks 33 = .ok (.aload_n 0, 1) := by decide +kernel
theorem dX8_walks_34 : decode cX8_walks 34 = .ok (.iload_n 1, 1) := by decide +kernel
theorem dX8_walks_35 : decode cX8_walks 35 = .ok (.iload_n 2, 1) := by decide +kernel
theorem dX8_walks_36 : decode cX8_walks 36 = .ok (.iconst (-1), 1) := by decide +kernel
theorem dX8_walks_37 : decode cX8_walks 37 = .ok (.ixor, 1) := by decide +kernel
theorem dX8_walks_38 : decode cX8_walks 38 = .ok (.iand, 1) := by decide +kernel
theorem dX8_walks_39 : decode cX8_walks 39 = .ok (.putfield 209, 3) := by decide +kernel
theorem dX8_walks_42 : decode cX8_walks 42 = .ok (.aload_n 0, 1) := by decide +kernel
theorem dX8_walks_43 : decode cX8_walks 43 = .ok (.iload_n 2, 1) := by decide +kernel
theorem dX8_walks_44 : decode cX8_walks 44 = .ok (.iconst 1, 1) := by decide +kernel
theorem dX8_walks_45 : decode cX8_walks 45 = .ok (.invokevirtual 212, 3) := by decide +kernel
theorem dX8_walks_48 : decode cX8_walks 48 = .ok (.aload_n 0, 1) := by decide +kernel
theorem dX8_walks_49 : decode cX8_walks 49 = .ok (.dup, 1) := by decide +kernel
theorem dX8_walks_50 : decode cX8_walks 50 = .ok (.getfield 209, 3) := by decide +kernel
theorem dX8_walks_53 : decode cX8_walks 53 = .ok (.iconst 1, 1) := by decide +kernel
theorem dX8_walks_54 : decode cX8_walks 54 = .ok (.ior, 1) := by decide +kernel
theorem dX8_walks_55 : decode cX8_walks 55 = .ok (.putfield 209, 3) := by decide +kernel
theorem dX8_walks_58 : decode cX8_walks 58 = .ok (.return_, 1) := by decide +kernel
theorem dX8_canBe_0 : decode cX8_canBe 0 = .ok (.iload_n 2, 1) := by decide +kernel
theorem dX8_canBe_1 : decode cX8_canBe 1 = .ok (.bipush 6, 2) := by decide +kernel
theorem dX8_canBe_3 : decode cX8_canBe 3 = .ok (.if_icmp .lt 28, 3) := by decide +kernel
theorem dX8_canBe_6 : decode cX8_canBe 6 = .ok (.iload_n 2, 1) := by decide +kernel
theorem dX8_canBe_7 : decode cX8_canBe 7 = .ok (.bipush 6, 2) := by decide +kernel
theorem dX8_canBe_9 : decode cX8_canBe 9 = .ok (.if_icmp .ne 15, 3) := by decide +kernel
theorem dX8_canBe_12 : decode cX8_canBe 12 = .ok (.iload_n 0, 1) := by decide +kernel
theorem dX8_canBe_13 : decode cX8_canBe 13 = .ok (.ifCond .eq 22, 3) := by decide +kernel
theorem dX8_canBe_16 : decode cX8_canBe 16 = .ok (.iload_n 1, 1) := by decide +kernel
theorem dX8_canBe_17 : decode cX8_canBe 17 = .ok (.iconst 2, 1) := by decide +kernel
theorem dX8_canBe_18 : decode cX8_canBe 18 = .ok (.if_icmp .ge 17, 3) := by decide +kernel
theorem dX8_canBe_21 : decode cX8_canBe 21 = .ok (.goto 10, 3) := by decide +kernel
theorem dX8_canBe_24 : decode cX8_canBe 24 = .ok (.iload_n 0, 1) := by decide +kernel
theorem dX8_canBe_25 : decode cX8_canBe 25 = .ok (.iconst 3, 1) := by decide +kernel
theorem dX8_canBe_26 : decode cX8_canBe 26 = .ok (.iand, 1) := by decide +kernel
theorem dX8_canBe_27 : decode cX8_canBe 27 = .ok (.iconst 1, 1) := by decide +kernel
theorem dX8_canBe_28 : decode cX8_canBe 28 = .ok (.if_icmp .ne 7, 3) := by decide +kernel
theorem dX8_canBe_31 : decode cX8_canBe 31 = .ok (.iconst 1, 1) := by decide +kernel
theorem dX8_canBe_32 : decode cX8_canBe 32 = .ok (.goto 4, 3) := by decide +kernel
theorem dX8_canBe_35 : decode cX8_canBe 35 = .ok (.iconst 0, 1) := by decide +kernel
theorem dX8_canBe_36 : decode cX8_canBe 36 = .ok (.ireturn, 1) := by decide +kernel
theorem dX8_comes_0 : decode cX8_comes 0 = .ok (.aload_n 0, 1) := by decide +kernel
theorem dX8_comes_1 : decode cX8_comes 1 = .ok (.iconst 0, 1) := by decide +kernel
theorem dX8_comes_2 : decode cX8_comes 2 = .ok (.putfield 209, 3) := by decide +kernel
theorem dX8_comes_5 : decode cX8_comes 5 = .ok (.aload_n 0, 1) := by decide +kernel
theorem dX8_comes_6 : decode cX8_comes 6 = .ok (.iconst 0, 1) := by decide +kernel
theorem dX8_comes_7 : decode cX8_comes 7 = .ok (.putfield 206, 3) := by decide +kernel
theorem dX8_comes_10 : decode cX8_comes 10 = .ok (.aload_n 0, 1) := by decide +kernel
theorem dX8_comes_11 : decode cX8_comes 11 = .ok (.iload_n 2, 1) := by decide +kernel
theorem dX8_comes_12 : decode cX8_comes 12 = .ok (.iload_n 3, 1) := by decide +kernel
theorem dX8_comes_13 : decode cX8_comes 13 = .ok (.ifCond .eq 15, 3) := by decide +kernel
theorem dX8_comes_16 : decode cX8_comes 16 = .ok (.iload_n 3, 1) := by decide +kernel
theorem dX8_comes_17 : decode cX8_comes 17 = .ok (.bipush 6, 2) := by decide +kernel
theorem dX8_comes_19 : decode cX8_comes 19 = .ok (.if_icmp .eq 9, 3) := by decide +kernel
theorem dX8_comes_22 : decode cX8_comes 22 = .ok (.iload_n 3, 1) := by decide +kernel
theorem dX8_comes_23 : decode cX8_comes 23 = .ok (.bipush 8, 2) := by decide +kernel
theorem dX8_comes_25 : decode cX8_comes 25 = .ok (.if_icmp .ne 7, 3) := by decide +kernel
theorem dX8_comes_28 : decode cX8_comes 28 = .ok (.iconst 1, 1) := by decide +kernel
theorem dX8_comes_29 : decode cX8_comes 29 = .ok (.goto 4, 3) := by decide +kernel
theorem dX8_comes_32 : decode cX8_comes 32 = .ok (.iconst 0, 1) := by decide +kernel
theorem dX8_comes_33 : decode cX8_comes 33 = .ok (.iadd, 1) := by decide +kernel
theorem dX8_comes_34 : decode cX8_comes 34 = .ok (.putfield 216, 3) := by decide +kernel
theorem dX8_comes_37 : decode cX8_comes 37 = .ok (.iload_n 3, 1) := by decide +kernel
theorem dX8_comes_38 : decode cX8_comes 38 = .ok (.iconst 1, 1) := by decide +kernel
theorem dX8_comes_39 : decode cX8_comes 39 = .ok (.if_icmp .ne 11, 3) := by decide +kernel
theorem dX8_comes_42 : decode cX8_comes 42 = .ok (.aload_n 0, 1) := by decide +kernel
theorem dX8_comes_43 : decode cX8_comes 43 = .ok (.iload_n 1, 1) := by decide +kernel
theorem dX8_comes_44 : decode cX8_comes 44 = .ok (.invokevirtual 219, 3) := by decide +kernel
theorem dX8_comes_47 : decode cX8_comes 47 = .ok (.goto 210, 3) := by decide +kernel
theorem dX8_comes_50 : decode cX8_comes 50 = .ok (.iload_n 3, 1) := by decide +kernel
theorem dX8_comes_51 : decode cX8_comes 51 = .ok (.iconst 2, 1) := by decide +kernel
theorem dX8_comes_52 : decode cX8_comes 52 = .ok (.if_icmp .eq 8, 3) := by decide +kernel
theorem dX8_comes_55 : decode cX8_comes 55 = .ok (.iload_n 3, 1) := by decide +kernel
theorem dX8_comes_56 : decode cX8_comes 56 = .ok (.iconst 3, 1) := by decide +kernel
theorem dX8_comes_57 : decode cX8_comes 57 = .ok (.if_icmp .ne 40, 3) := by decide +kernel
theorem dX8_comes_60 : decode cX8_comes 60 = .ok (.aload_n 0, 1) := by decide +kernel
theorem dX8_comes_61 : decode cX8_comes 61 = .ok (.iload_n 1, 1) := by decide +kernel
theorem dX8_comes_62 : decode cX8_comes 62 = .ok (.aload_n 0, 1) := by decide +kernel
theorem dX8_comes_63 : decode cX8_comes 63 = .ok (.getfield 17, 3) := by decide +kernel
theorem dX8_comes_66 : decode cX8_comes 66 = .ok (.iconst 1, 1) := by decide +kernel
theorem dX8_comes_67 : decode cX8_comes 67 = .ok (.iload_n 3, 1) := by decide +kernel
theorem dX8_comes_68 : decode cX8_comes 68 = .ok (.iadd, 1) := by decide +kernel
theorem dX8_comes_69 : decode cX8_comes 69 = .ok (.iconst 2, 1) := by decide +kernel
theorem dX8_comes_70 : decode cX8_comes 70 = .ok (.isub, 1) := by decide +kernel
theorem dX8_comes_71 : decode cX8_comes 71 = .ok (.iaload, 1) := by decide +kernel
theorem dX8_comes_72 : decode cX8_comes 72 = .ok (.invokevirtual 212, 3) := by decide +kernel
theorem dX8_comes_75 : decode cX8_comes 75 = .ok (.aload_n 0, 1) := by decide +kernel
theorem dX8_comes_76 : decode cX8_comes 76 = .ok (.dup, 1) := by decide +kernel
theorem dX8_comes_77 : decode cX8_comes 77 = .ok (.getfield 209, 3) := by decide +kernel
theorem dX8_comes_80 : decode cX8_comes 80 = .ok (.iload_n 3, 1) := by decide +kernel
theorem dX8_comes_81 : decode cX8_comes 81 = .ok (.iconst 2, 1) := by decide +kernel
theorem dX8_comes_82 : decode cX8_comes 82 = .ok (.if_icmp .ne 7, 3) := by decide +kernel
theorem dX8_comes_85 : decode cX8_comes 85 = .ok (.iconst 1, 1) := by decide +kernel
theorem dX8_comes_86 : decode cX8_comes 86 = .ok (.goto 4, 3) := by decide +kernel
theorem dX8_comes_89 : decode cX8_comes 89 = .ok (.iconst 2, 1) := by decide +kernel
theorem dX8_comes_90 : decode cX8_comes 90 = .ok (.ior, 1) := by decide +kernel
theorem dX8_comes_91 : decode cX8_comes 91 = .ok (.putfield 209, 3) := by decide +kernel
theorem dX8_comes_94 : decode cX8_comes 94 = .ok (.goto 163, 3) := by decide +kernel
theorem dX8_comes_97 : decode cX8_comes 97 = .ok (.iload_n 3, 1) := by decide +kernel
theorem dX8_comes_98 : decode cX8_comes 98 = .ok (.iconst 4, 1) := by decide +kernel
theorem dX8_comes_99 : decode cX8_comes 99 = .ok (.if_icmp .eq 8, 3) := by decide +kernel
theorem dX8_comes_102 : decode cX8_comes 102 = .ok (.iload_n 3, 1) := by decide +kernel
theorem dX8_comes_103 : decode cX8_comes 103 = .ok (.iconst 5, 1) := by decide +kernel
theorem dX8_comes_104 : decode cX8_comes 104 = .ok (.if_icmp .ne 50, 3) := by decide +kernel
theorem dX8_comes_107 : decode cX8_comes 107 = .ok (.aload_n 0, 1) := by decide +kernel
theorem dX8_comes_108 : decode cX8_comes 108 = .ok (.iload_n 1, 1) := by decide +kernel
theorem dX8_comes_109 : decode cX8_comes 109 = .ok (.iconst 3, 1) := by decide +kernel
theorem dX8_comes_110 : decode cX8_comes 110 = .ok (.invokevirtual 212, 3) := by decide +kernel
theorem dX8_comes_113 : decode cX8_comes 113 = .ok (.aload_n 0, 1) := by decide +kernel
theorem dX8_comes_114 : decode cX8_comes 114 = .ok (.dup, 1) := by decide +kernel
theorem dX8_comes_115 : decode cX8_comes 115 = .ok (.getfield 209, 3) := by decide +kernel
theorem dX8_comes_118 : decode cX8_comes 118 = .ok (.iload_n 3, 1) := by decide +kernel
theorem dX8_comes_119 : decode cX8_comes 119 = .ok (.iconst 4, 1) := by decide +kernel
theorem dX8_comes_120 : decode cX8_comes 120 = .ok (.if_icmp .ne 7, 3) := by decide +kernel
theorem dX8_comes_123 : decode cX8_comes 123 = .ok (.iconst 4, 1) := by decide +kernel
theorem dX8_comes_124 : decode cX8_comes 124 = .ok (.goto 4, 3) := by decide +kernel
theorem dX8_comes_127 : decode cX8_comes 127 = .ok (.iconst 0, 1) := by decide +kernel
theorem dX8_comes_128 : decode cX8_comes 128 = .ok (.ior, 1) := by decide +kernel
theorem dX8_comes_129 : decode cX8_comes 129 = .ok (.putfield 209, 3) := by decide +kernel
theorem dX8_comes_132 : decode cX8_comes 132 = .ok (.aload_n 0, 1) := by decide +kernel
theorem dX8_comes_133 : decode cX8_comes 133 = .ok (.dup, 1) := by decide +kernel
theorem dX8_comes_134 : decode cX8_comes 134 = .ok (.getfield 206, 3) := by decide +kernel
theorem dX8_comes_137 : decode cX8_comes 137 = .ok (.iload_n 3, 1) := by decide +kernel
theorem dX8_comes_138 : decode cX8_comes 138 = .ok (.iconst 5, 1) := by decide +kernel
theorem dX8_comes_139 : decode cX8_comes 139 = .ok (.if_icmp .ne 7, 3) := by decide +kernel
theorem dX8_comes_142 : decode cX8_comes 142 = .ok (.iconst 1, 1) := by decide +kernel
theorem dX8_comes_143 : decode cX8_comes 143 = .ok (.goto 4, 3) := by decide +kernel
theorem dX8_comes_146 : decode cX8_comes 146 = .ok (.iconst 0, 1) := by decide +kernel
theorem dX8_comes_147 : decode cX8_comes 147 = .ok (.iadd, 1) := by decide +kernel
theorem dX8_comes_148 : decode cX8_comes 148 = .ok (.putfield 206, 3) := by decide +kernel
theorem dX8_comes_151 : decode cX8_comes 151 = .ok (.goto 106, 3) := by decide +kernel
theorem dX8_comes_154 : decode cX8_comes 154 = .ok (.iload_n 3, 1) := by decide +kernel
theorem dX8_comes_155 : decode cX8_comes 155 = .ok (.bipush 6, 2) := by decide +kernel
theorem dX8_comes_157 : decode cX8_comes 157 = .ok (.if_icmp .ne 12, 3) := by decide +kernel
theorem dX8_comes_160 : decode cX8_comes 160 = .ok (.aload_n 0, 1) := by decide +kernel
theorem dX8_comes_161 : decode cX8_comes 161 = .ok (.iload_n 1, 1) := by decide +kernel
theorem dX8_comes_162 : decode cX8_comes 162 = .ok (.iconst 1, 1) := by decide +kernel
theorem dX8_comes_163 : decode cX8_comes 163 = .ok (.invokevirtual 212, 3) := by decide +kernel
theorem dX8_comes_166 : decode cX8_comes 166 = .ok (.goto 91, 3) := by decide +kernel
theorem dX8_comes_169 : decode cX8_comes 169 = .ok (.iload_n 3, 1) := by decide +kernel
theorem dX8_comes_170 : decode cX8_comes 170 = .ok (.ifCond .ne 67, 3) := by decide +kernel
theorem dX8_comes_173 : decode cX8_comes 173 = .ok (.aload_n 0, 1) := by decide +kernel
theorem dX8_comes_174 : decode cX8_comes 174 = .ok (.getfield 17, 3) := by decide +kernel
theorem dX8_comes_177 : decode cX8_comes 177 = .ok (.iconst 3, 1) := by decide +kernel
theorem dX8_comes_178 : decode cX8_comes 178 = .ok (.iaload, 1) := by decide +kernel
theorem dX8_comes_179 : decode cX8_comes 179 = .ok (.iconst 1, 1) := by decide +kernel
theorem dX8_comes_180 : decode cX8_comes 180 = .ok (.if_icmp .ne 21, 3) := by decide +kernel
theorem dX8_comes_183 : decode cX8_comes 183 = .ok (.aload_n 0, 1) := by decide +kernel
theorem dX8_comes_184 : decode cX8_comes 184 = .ok (.getfield 216, 3) := by decide +kernel
theorem dX8_comes_187 : decode cX8_comes 187 = .ok (.iconst 3, 1) := by decide +kernel
theorem dX8_comes_188 : decode cX8_comes 188 = .ok (.if_icmp .ge 13, 3) := by decide +kernel
theorem dX8_comes_191 : decode cX8_comes 191 = .ok (.iload_n 1, 1) := by decide +kernel
theorem dX8_comes_192 : decode cX8_comes 192 = .ok (.iconst 4, 1) := by decide +kernel
theorem dX8_comes_193 : decode cX8_comes 193 = .ok (.iand, 1) := by decide +kernel
theorem dX8_comes_194 : decode cX8_comes 194 = .ok (.ifCond .eq 7, 3) := by decide +kernel
theorem dX8_comes_197 : decode cX8_comes 197 = .ok (.iconst 1, 1) := by decide +kernel
theorem dX8_comes_198 : decode cX8_comes 198 = .ok (.goto 4, 3) := by decide +kernel
theorem dX8_comes_201 : decode cX8_comes 201 = .ok (.iconst 0, 1) := by decide +kernel
theorem dX8_comes_202 : decode cX8_comes 202 = .ok (.istore 4, 2) := by decide +kernel
theorem dX8_comes_204 : decode cX8_comes 204 = .ok (.aload_n 0, 1) := by decide +kernel
theorem dX8_comes_205 : decode cX8_comes 205 = .ok (.iload 4, 2) := by decide +kernel
theorem dX8_comes_207 : decode cX8_comes 207 = .ok (.ifCond .eq 7, 3) := by decide +kernel
theorem dX8_comes_210 : decode cX8_comes 210 = .ok (.iconst 1, 1) := by decide +kernel
theorem dX8_comes_211 : decode cX8_comes 211 = .ok (.goto 4, 3) := by decide +kernel
theorem dX8_comes_214 : decode cX8_comes 214 = .ok (.iconst 0, 1) := by decide +kernel
theorem dX8_comes_215 : decode cX8_comes 215 = .ok (.putfield 206, 3) := by decide +kernel
theorem dX8_comes_218 : decode cX8_comes 218 = .ok (.aload_n 0, 1) := by decide +kernel
theorem dX8_comes_219 : decode cX8_comes 219 = .ok (.iload 4, 2) := by decide +kernel
theorem dX8_comes_221 : decode cX8_comes 221 = .ok (.ifCond .eq 9, 3) := by decide +kernel
theorem dX8_comes_224 : decode cX8_comes 224 = .ok (.iload_n 1, 1) := by decide +kernel
theorem dX8_comes_225 : decode cX8_comes 225 = .ok (.iconst 3, 1) := by decide +kernel
theorem dX8_comes_226 : decode cX8_comes 226 = .ok (.iand, 1) := by decide +kernel
theorem dX8_comes_227 : decode cX8_comes 227 = .ok (.goto 4, 3) := by decide +kernel
theorem dX8_comes_230 : decode cX8_comes 230 = .ok (.iload_n 1, 1) := by decide +kernel
theorem dX8_comes_231 : decode cX8_comes 231 = .ok (.putfield 209, 3) := by decide +kernel
theorem dX8_comes_234 : decode cX8_comes 234 = .ok (.goto 23, 3) := by decide +kernel
theorem dX8_comes_237 : decode cX8_comes 237 = .ok (.aload_n 0, 1) := by decide +kernel
theorem dX8_comes_238 : decode cX8_comes 238 = .ok (.iload_n 1, 1) := by decide +kernel
theorem dX8_comes_239 : decode cX8_comes 239 = .ok (.bipush 6, 2) := by decide +kernel
theorem dX8_comes_241 : decode cX8_comes 241 = .ok (.iand, 1) := by decide +kernel
theorem dX8_comes_242 : decode cX8_comes 242 = .ok (.iload_n 3, 1) := by decide +kernel
theorem dX8_comes_243 : decode cX8_comes 243 = .ok (.bipush 7, 2) := by decide +kernel
theorem dX8_comes_245 : decode cX8_comes 245 = .ok (.if_icmp .ne 7, 3) := by decide +kernel
theorem dX8_comes_248 : decode cX8_comes 248 = .ok (.iconst 2, 1) := by decide +kernel
theorem dX8_comes_249 : decode cX8_comes 249 = .ok (.goto 4, 3) := by decide +kernel
theorem dX8_comes_252 : decode cX8_comes 252 = .ok (.iconst 0, 1) := by decide +kernel
theorem dX8_comes_253 : decode cX8_comes 253 = .ok (.ior, 1) := by decide +kernel
theorem dX8_comes_254 : decode cX8_comes 254 = .ok (.putfield 209, 3) := by decide +kernel
theorem dX8_comes_257 : decode cX8_comes 257 = .ok (.aload_n 0, 1) := by decide +kernel
theorem dX8_comes_258 : decode cX8_comes 258 = .ok (.aload_n 0, 1) := by decide +kernel
theorem dX8_comes_259 : decode cX8_comes 259 = .ok (.getfield 216, 3) := by decide +kernel
theorem dX8_comes_262 : decode cX8_comes 262 = .ok (.iconst 3, 1) := by decide +kernel
theorem dX8_comes_263 : decode cX8_comes 263 = .ok (.if_icmp .ne 7, 3) := by decide +kernel
theorem dX8_comes_266 : decode cX8_comes 266 = .ok (.iconst 0, 1) := by decide +kernel
theorem dX8_comes_267 : decode cX8_comes 267 = .ok (.goto 7, 3) := by decide +kernel
theorem dX8_comes_270 : decode cX8_comes 270 = .ok (.aload_n 0, 1) := by decide +kernel
theorem dX8_comes_271 : decode cX8_comes 271 = .ok (.getfield 209, 3) := by decide +kernel
theorem dX8_comes_274 : decode cX8_comes 274 = .ok (.putfield 209, 3) := by decide +kernel
theorem dX8_comes_277 : decode cX8_comes 277 = .ok (.return_, 1) := by decide +kernel
theorem dX8_isState_0 : decode cX8_isState 0 = .ok (.iload_n 0, 1) := by decide +kernel
theorem dX8_isState_1 : decode cX8_isState 1 = .ok (.iconst 0, 1) := by decide +kernel
theorem dX8_isState_2 : decode cX8_isState 2 = .ok (.bipush 7, 2) := by decide +kernel
theorem dX8_isState_4 : decode cX8_isState 4 = .ok (.invokestatic 83, 3) := by decide +kernel
theorem dX8_isState_7 : decode cX8_isState 7 = .ok (.ifCond .eq 16, 3) := by decide +kernel
theorem dX8_isState_10 : decode cX8_isState 10 = .ok (.iload_n 1, 1) := by decide +kernel
theorem dX8_isState_11 : decode cX8_isState 11 = .ok (.iconst 0, 1) := by decide +kernel
theorem dX8_isState_12 : decode cX8_isState 12 = .ok (.iconst 2, 1) := by decide +kernel
theorem dX8_isState_13 : decode cX8_isState 13 = .ok (.invokestatic 83, 3) := by decide +kernel
theorem dX8_isState_16 : decode cX8_isState 16 = .ok (.ifCond .eq 7, 3) := by decide +kernel
theorem dX8_isState_19 : decode cX8_isState 19 = .ok (.iconst 1, 1) := by decide +kernel
theorem dX8_isState_20 : decode cX8_isState 20 = .ok (.goto 4, 3) := by decide +kernel
theorem dX8_isState_23 : decode cX8_isState 23 = .ok (.iconst 0, 1) := by decide +kernel
theorem dX8_isState_24 : decode cX8_isState 24 = .ok (.ireturn, 1) := by decide +kernel
theorem dX8_after_0 : decode cX8_after 0 = .ok (.aload_n 0, 1) := by decide +kernel
theorem dX8_after_1 : decode cX8_after 1 = .ok (.getfield 174, 3) := by decide +kernel
theorem dX8_after_4 : decode cX8_after 4 = .ok (.ifCond .eq 27, 3) := by decide +kernel
theorem dX8_after_7 : decode cX8_after 7 = .ok (.iload_n 3, 1) := by decide +kernel
theorem dX8_after_8 : decode cX8_after 8 = .ok (.iconst 0, 1) := by decide +kernel
theorem dX8_after_9 : decode cX8_after 9 = .ok (.bipush 8, 2) := by decide +kernel
theorem dX8_after_11 : decode cX8_after 11 = .ok (.invokestatic 83, 3) := by decide +kernel
theorem dX8_after_14 : decode cX8_after 14 = .ok (.ifCond .eq 17, 3) := by decide +kernel
theorem dX8_after_17 : decode cX8_after 17 = .ok (.iload 4, 2) := by decide +kernel
theorem dX8_after_19 : decode cX8_after 19 = .ok (.iconst 0, 1) := by decide +kernel
theorem dX8_after_20 : decode cX8_after 20 = .ok (.iconst 2, 1) := by decide +kernel
theorem dX8_after_21 : decode cX8_after 21 = .ok (.invokestatic 83, 3) := by decide +kernel
theorem dX8_after_24 : decode cX8_after 24 = .ok (.ifCond .eq 7, 3) := by decide +kernel
theorem dX8_after_27 : decode cX8_after 27 = .ok (.iconst 1, 1) := by decide +kernel
theorem dX8_after_28 : decode cX8_after 28 = .ok (.goto 4, 3) := by decide +kernel
theorem dX8_after_31 : decode cX8_after 31 = .ok (.iconst 0, 1) := by decide +kernel
theorem dX8_after_32 : decode cX8_after 32 = .ok (.iload_n 1, 1) := by decide +kernel
theorem dX8_after_33 : decode cX8_after 33 = .ok (.iload_n 2, 1) := by decide +kernel
theorem dX8_after_34 : decode cX8_after 34 = .ok (.invokestatic 222, 3) := by decide +kernel
theorem dX8_after_37 : decode cX8_after 37 = .ok (.invokestatic 158, 3) := by decide +kernel
theorem dX8_after_40 : decode cX8_after 40 = .ok (.istore 5, 2) := by decide +kernel
theorem dX8_after_42 : decode cX8_after 42 = .ok (.aload_n 0, 1) := by decide +kernel
theorem dX8_after_43 : decode cX8_after 43 = .ok (.iload 5, 2) := by decide +kernel
theorem dX8_after_45 : decode cX8_after 45 = .ok (.ifCond .eq 8, 3) := by decide +kernel
theorem dX8_after_48 : decode cX8_after 48 = .ok (.iload 5, 2) := by decide +kernel
theorem dX8_after_50 : decode cX8_after 50 = .ok (.goto 17, 3) := by decide +kernel
theorem dX8_after_53 : decode cX8_after 53 = .ok (.iload_n 1, 1) := by decide +kernel
theorem dX8_after_54 : decode cX8_after 54 = .ok (.iload_n 2, 1) := by decide +kernel
theorem dX8_after_55 : decode cX8_after 55 = .ok (.iload_n 3, 1) := by decide +kernel
theorem dX8_after_56 : decode cX8_after 56 = .ok (.invokestatic 226, 3) := by decide +kernel
theorem dX8_after_59 : decode cX8_after 59 = .ok (.ifCond .eq 7, 3) := by decide +kernel
theorem dX8_after_62 : decode cX8_after 62 = .ok (.iconst 0, 1) := by decide +kernel
theorem dX8_after_63 : decode cX8_after 63 = .ok (.goto 4, 3) := by decide +kernel
theorem dX8_after_66 : decode cX8_after 66 = .ok (.iconst 5, 1) := by decide +kernel
theorem dX8_after_67 : decode cX8_after 67 = .ok (.invokevirtual 162, 3) := by decide +kernel
theorem dX8_after_70 : decode cX8_after 70 = .ok (.ifCond .eq 5, 3) := by decide +kernel
theorem dX8_after_73 : decode cX8_after 73 = .ok (.iconst (-1), 1) := by decide +kernel
theorem dX8_after_74 : decode cX8_after 74 = .ok (.ireturn, 1) := by decide +kernel
theorem dX8_after_75 : decode cX8_after 75 = .ok (.aload_n 0, 1) := by decide +kernel
theorem dX8_after_76 : decode cX8_after 76 = .ok (.iload_n 1, 1) := by decide +kernel
theorem dX8_after_77 : decode cX8_after 77 = .ok (.iload_n 2, 1) := by decide +kernel
theorem dX8_after_78 : decode cX8_after 78 = .ok (.iload_n 3, 1) := by decide +kernel
theorem dX8_after_79 : decode cX8_after 79 = .ok (.invokevirtual 229, 3) := by decide +kernel
theorem dX8_after_82 : decode cX8_after 82 = .ok (.iload 4, 2) := by decide +kernel
theorem dX8_after_84 : decode cX8_after 84 = .ok (.ifCond .ne 10, 3) := by decide +kernel
theorem dX8_after_87 : decode cX8_after 87 = .ok (.aload_n 0, 1) := by decide +kernel
theorem dX8_after_88 : decode cX8_after 88 = .ok (.getfield 209, 3) := by decide +kernel
theorem dX8_after_91 : decode cX8_after 91 = .ok (.goto 20, 3) := by decide +kernel
theorem dX8_after_94 : decode cX8_after 94 = .ok (.iload 4, 2) := by decide +kernel
theorem dX8_after_96 : decode cX8_after 96 = .ok (.iconst 1, 1) := by decide +kernel
theorem dX8_after_97 : decode cX8_after 97 = .ok (.if_icmp .ne 10, 3) := by decide +kernel
theorem dX8_after_100 : decode cX8_after 100 = .ok (.aload_n 0, 1) := by decide +kernel
theorem dX8_after_101 : decode cX8_after 101 = .ok (.getfield 216, 3) := by decide +kernel
theorem dX8_after_104 : decode cX8_after 104 = .ok (.goto 7, 3) := by decide +kernel
theorem dX8_after_107 : decode cX8_after 107 = .ok (.aload_n 0, 1) := by decide +kernel
theorem dX8_after_108 : decode cX8_after 108 = .ok (.getfield 206, 3) := by decide +kernel
theorem dX8_after_111 : decode cX8_after 111 = .ok (.ireturn, 1) := by decide +kernel
theorem dX8_behind_0 : decode cX8_behind 0 = .ok (.aload_n 0, 1) := by decide +kernel
theorem dX8_behind_1 : decode cX8_behind 1 = .ok (.iload_n 1, 1) := by decide +kernel
theorem dX8_behind_2 : decode cX8_behind 2 = .ok (.iload_n 2, 1) := by decide +kernel
theorem dX8_behind_3 : decode cX8_behind 3 = .ok (.iload_n 3, 1) := by decide +kernel
theorem dX8_behind_4 : decode cX8_behind 4 = .ok (.invokevirtual 229, 3) := by decide +kernel
theorem dX8_behind_7 : decode cX8_behind 7 = .ok (.aload_n 0, 1) := by decide +kernel
theorem dX8_behind_8 : decode cX8_behind 8 = .ok (.getfield 216, 3) := by decide +kernel
theorem dX8_behind_11 : decode cX8_behind 11 = .ok (.iconst 3, 1) := by decide +kernel
theorem dX8_behind_12 : decode cX8_behind 12 = .ok (.if_icmp .ne 7, 3) := by decide +kernel
theorem dX8_behind_15 : decode cX8_behind 15 = .ok (.lconst 0, 1) := by decide +kernel
theorem dX8_behind_16 : decode cX8_behind 16 = .ok (.goto 20, 3) := by decide +kernel
theorem dX8_behind_19 : decode cX8_behind 19 = .ok (.aload_n 0, 1) := by decide +kernel
theorem dX8_behind_20 : decode cX8_behind 20 = .ok (.getfield 33, 3) := by decide +kernel
theorem dX8_behind_23 : decode cX8_behind 23 = .ok (.bipush 8, 2) := by decide +kernel
theorem dX8_behind_25 : decode cX8_behind 25 = .ok (.aload_n 0, 1) := by decide +kernel
theorem dX8_behind_26 : decode cX8_behind 26 = .ok (.getfield 216, 3) := by decide +kernel
theorem dX8_behind_29 : decode cX8_behind 29 = .ok (.imul, 1) := by decide +kernel
theorem dX8_behind_30 : decode cX8_behind 30 = .ok (.aload_n 0, 1) := by decide +kernel
theorem dX8_behind_31 : decode cX8_behind 31 = .ok (.getfield 209, 3) := by decide +kernel
theorem dX8_behind_34 : decode cX8_behind 34 = .ok (.iadd, 1) := by decide +kernel
theorem dX8_behind_35 : decode cX8_behind 35 = .ok (.laload, 1) := by decide +kernel
theorem dX8_behind_36 : decode cX8_behind 36 = .ok (.lstore 5, 2) := by decide +kernel
theorem dX8_behind_38 : decode cX8_behind 38 = .ok (.iload 4, 2) := by decide +kernel
theorem dX8_behind_40 : decode cX8_behind 40 = .ok (.iconst 1, 1) := by decide +kernel
theorem dX8_behind_41 : decode cX8_behind 41 = .ok (.if_icmp .ne 20, 3) := by decide +kernel
theorem dX8_behind_44 : decode cX8_behind 44 = .ok (.aload_n 0, 1) := by decide +kernel
theorem dX8_behind_45 : decode cX8_behind 45 = .ok (.getfield 206, 3) := by decide +kernel
theorem dX8_behind_48 : decode cX8_behind 48 = .ok (.ifCond .le 10, 3) := by decide +kernel
theorem dX8_behind_51 : decode cX8_behind 51 = .ok (.aload_n 0, 1) := by decide +kernel
theorem dX8_behind_52 : decode cX8_behind 52 = .ok (.getfield 233, 3) := by decide +kernel
theorem dX8_behind_55 : decode cX8_behind 55 = .ok (.goto 5, 3) := by decide +kernel
theorem dX8_behind_58 : decode cX8_behind 58 = .ok (.lload 5, 2) := by decide +kernel
theorem dX8_behind_60 : decode cX8_behind 60 = .ok (.lreturn, 1) := by decide +kernel
theorem dX8_behind_61 : decode cX8_behind 61 = .ok (.aload_n 0, 1) := by decide +kernel
theorem dX8_behind_62 : decode cX8_behind 62 = .ok (.getfield 206, 3) := by decide +kernel
theorem dX8_behind_65 : decode cX8_behind 65 = .ok (.i2l, 1) := by decide +kernel
theorem dX8_behind_66 : decode cX8_behind 66 = .ok (.aload_n 0, 1) := by decide +kernel
theorem dX8_behind_67 : decode cX8_behind 67 = .ok (.getfield 233, 3) := by decide +kernel
theorem dX8_behind_70 : decode cX8_behind 70 = .ok (.lmul, 1) := by decide +kernel
theorem dX8_behind_71 : decode cX8_behind 71 = .ok (.lload 5, 2) := by decide +kernel
theorem dX8_behind_73 : decode cX8_behind 73 = .ok (.ladd, 1) := by decide +kernel
theorem dX8_behind_74 : decode cX8_behind 74 = .ok (.lreturn, 1) := by decide +kernel
theorem dX8_hits_0 : decode cX8_hits 0 = .ok (.lconst 0, 1) := by decide +kernel
theorem dX8_hits_1 : decode cX8_hits 1 = .ok (.lstore 4, 2) := by decide +kernel
theorem dX8_hits_3 : decode cX8_hits 3 = .ok (.iconst 0, 1) := by decide +kernel
theorem dX8_hits_4 : decode cX8_hits 4 = .ok (.istore 6, 2) := by decide +kernel
theorem dX8_hits_6 : decode cX8_hits 6 = .ok (.iload 6, 2) := by decide +kernel
theorem dX8_hits_8 : decode cX8_hits 8 = .ok (.bipush 6, 2) := by decide +kernel
theorem dX8_hits_10 : decode cX8_hits 10 = .ok (.if_icmp .ge 32, 3) := by decide +kernel
theorem dX8_hits_13 : decode cX8_hits 13 = .ok (.lload 4, 2) := by decide +kernel
theorem dX8_hits_15 : decode cX8_hits 15 = .ok (.aload_n 0, 1) := by decide +kernel
theorem dX8_hits_16 : decode cX8_hits 16 = .ok (.getfield 39, 3) := by decide +kernel
theorem dX8_hits_19 : decode cX8_hits 19 = .ok (.iload 6, 2) := by decide +kernel
theorem dX8_hits_21 : decode cX8_hits 21 = .ok (.iaload, 1) := by decide +kernel
theorem dX8_hits_22 : decode cX8_hits 22 = .ok (.i2l, 1) := by decide +kernel
theorem dX8_hits_23 : decode cX8_hits 23 = .ok (.aload_n 0, 1) := by decide +kernel
theorem dX8_hits_24 : decode cX8_hits 24 = .ok (.iload_n 1, 1) := by decide +kernel
theorem dX8_hits_25 : decode cX8_hits 25 = .ok (.iload_n 2, 1) := by decide +kernel
theorem dX8_hits_26 : decode cX8_hits 26 = .ok (.iload 6, 2) := by decide +kernel
theorem dX8_hits_28 : decode cX8_hits 28 = .ok (.iload_n 3, 1) := by decide +kernel
theorem dX8_hits_29 : decode cX8_hits 29 = .ok (.invokevirtual 237, 3) := by decide +kernel
theorem dX8_hits_32 : decode cX8_hits 32 = .ok (.lmul, 1) := by decide +kernel
theorem dX8_hits_33 : decode cX8_hits 33 = .ok (.ladd, 1) := by decide +kernel
theorem dX8_hits_34 : decode cX8_hits 34 = .ok (.lstore 4, 2) := by decide +kernel
theorem dX8_hits_36 : decode cX8_hits 36 = .ok (.iinc 6 1, 3) := by decide +kernel
theorem dX8_hits_39 : decode cX8_hits 39 = .ok (.goto (-33), 3) := by decide +kernel
theorem dX8_hits_42 : decode cX8_hits 42 = .ok (.lload 4, 2) := by decide +kernel
theorem dX8_hits_44 : decode cX8_hits 44 = .ok (.lreturn, 1) := by decide +kernel
theorem dX8_bunts_0 : decode cX8_bunts 0 = .ok (.ldc2_w 241, 3) := by decide +kernel
theorem dX8_bunts_3 : decode cX8_bunts 3 = .ok (.aload_n 0, 1) := by decide +kernel
theorem dX8_bunts_4 : decode cX8_bunts 4 = .ok (.iload_n 1, 1) := by decide +kernel
theorem dX8_bunts_5 : decode cX8_bunts 5 = .ok (.iload_n 2, 1) := by decide +kernel
theorem dX8_bunts_6 : decode cX8_bunts 6 = .ok (.bipush 6, 2) := by decide +kernel
theorem dX8_bunts_8 : decode cX8_bunts 8 = .ok (.iconst 2, 1) := by decide +kernel
theorem dX8_bunts_9 : decode cX8_bunts 9 = .ok (.invokevirtual 237, 3) := by decide +kernel
theorem dX8_bunts_12 : decode cX8_bunts 12 = .ok (.lmul, 1) := by decide +kernel
theorem dX8_bunts_13 : decode cX8_bunts 13 = .ok (.lreturn, 1) := by decide +kernel
theorem dX8_hitsOrBunts_0 : decode cX8_hitsOrBunts 0 = .ok (.iload_n 2, 1) := by decide +kernel
theorem dX8_hitsOrBunts_1 : decode cX8_hitsOrBunts 1 = .ok (.iconst 3, 1) := by decide +kernel
theorem dX8_hitsOrBunts_2 : decode cX8_hitsOrBunts 2 = .ok (.if_icmp .ne 5, 3) := by decide +kernel
theorem dX8_hitsOrBunts_5 : decode cX8_hitsOrBunts 5 = .ok (.lconst 0, 1) := by decide +kernel
theorem dX8_hitsOrBunts_6 : decode cX8_hitsOrBunts 6 = .ok (.lreturn, 1) := by decide +kernel
theorem dX8_hitsOrBunts_7 : decode cX8_hitsOrBunts 7 = .ok (.aload_n 0, 1) := by decide +kernel
theorem dX8_hitsOrBunts_8 : decode cX8_hitsOrBunts 8 = .ok (.iload_n 1, 1) := by decide +kernel
theorem dX8_hitsOrBunts_9 : decode cX8_hitsOrBunts 9 = .ok (.iload_n 2, 1) := by decide +kernel
theorem dX8_hitsOrBunts_10 : decode cX8_hitsOrBunts 10 = .ok (.iconst 2, 1) := by decide +kernel
theorem dX8_hitsOrBunts_11 : decode cX8_hitsOrBunts 11 = .ok (.invokevirtual 243, 3) := by decide +kernel
theorem dX8_hitsOrBunts_14 : decode cX8_hitsOrBunts 14 = .ok (.lstore_n 3, 1) := by decide +kernel
theorem dX8_hitsOrBunts_15 : decode cX8_hitsOrBunts 15 = .ok (.iload_n 1, 1) := by decide +kernel
theorem dX8_hitsOrBunts_16 : decode cX8_hitsOrBunts 16 = .ok (.iload_n 2, 1) := by decide +kernel
theorem dX8_hitsOrBunts_17 : decode cX8_hitsOrBunts 17 = .ok (.bipush 6, 2) := by decide +kernel
theorem dX8_hitsOrBunts_19 : decode cX8_hitsOrBunts 19 = .ok (.invokestatic 226, 3) := by decide +kernel
theorem dX8_hitsOrBunts_22 : decode cX8_hitsOrBunts 22 = .ok (.ifCond .eq 12, 3) := by decide +kernel
theorem dX8_hitsOrBunts_25 : decode cX8_hitsOrBunts 25 = .ok (.aload_n 0, 1) := by decide +kernel
theorem dX8_hitsOrBunts_26 : decode cX8_hitsOrBunts 26 = .ok (.iload_n 1, 1) := by decide +kernel
theorem dX8_hitsOrBunts_27 : decode cX8_hitsOrBunts 27 = .ok (.iload_n 2, 1) := by decide +kernel
theorem dX8_hitsOrBunts_28 : decode cX8_hitsOrBunts 28 = .ok (.invokevirtual 247, 3) := by decide +kernel
theorem dX8_hitsOrBunts_31 : decode cX8_hitsOrBunts 31 = .ok (.goto 4, 3) := by decide +kernel
theorem dX8_hitsOrBunts_34 : decode cX8_hitsOrBunts 34 = .ok (.lconst 0, 1) := by decide +kernel
theorem dX8_hitsOrBunts_35 : decode cX8_hitsOrBunts 35 = .ok (.lstore 5, 2) := by decide +kernel
theorem dX8_hitsOrBunts_37 : decode cX8_hitsOrBunts 37 = .ok (.lload 5, 2) := by decide +kernel
theorem dX8_hitsOrBunts_39 : decode cX8_hitsOrBunts 39 = .ok (.lload_n 3, 1) := by decide +kernel
theorem dX8_hitsOrBunts_40 : decode cX8_hitsOrBunts 40 = .ok (.lcmp, 1) := by decide +kernel
theorem dX8_hitsOrBunts_41 : decode cX8_hitsOrBunts 41 = .ok (.ifCond .le 8, 3) := by decide +kernel
theorem dX8_hitsOrBunts_44 : decode cX8_hitsOrBunts 44 = .ok (.lload 5, 2) := by decide +kernel
theorem dX8_hitsOrBunts_46 : decode cX8_hitsOrBunts 46 = .ok (.goto 4, 3) := by decide +kernel
theorem dX8_hitsOrBunts_49 : decode cX8_hitsOrBunts 49 = .ok (.lload_n 3, 1) := by decide +kernel
theorem dX8_hitsOrBunts_50 : decode cX8_hitsOrBunts 50 = .ok (.lreturn, 1) := by decide +kernel
theorem dX8_steals_0 : decode cX8_steals 0 = .ok (.aload_n 0, 1) := by decide +kernel
theorem dX8_steals_1 : decode cX8_steals 1 = .ok (.iload_n 1, 1) := by decide +kernel
theorem dX8_steals_2 : decode cX8_steals 2 = .ok (.iload_n 2, 1) := by decide +kernel
theorem dX8_steals_3 : decode cX8_steals 3 = .ok (.bipush 7, 2) := by decide +kernel
theorem dX8_steals_5 : decode cX8_steals 5 = .ok (.invokevirtual 229, 3) := by decide +kernel
theorem dX8_steals_8 : decode cX8_steals 8 = .ok (.aload_n 0, 1) := by decide +kernel
theorem dX8_steals_9 : decode cX8_steals 9 = .ok (.aload_n 0, 1) := by decide +kernel
theorem dX8_steals_10 : decode cX8_steals 10 = .ok (.getfield 209, 3) := by decide +kernel
theorem dX8_steals_13 : decode cX8_steals 13 = .ok (.aload_n 0, 1) := by decide +kernel
theorem dX8_steals_14 : decode cX8_steals 14 = .ok (.getfield 216, 3) := by decide +kernel
theorem dX8_steals_17 : decode cX8_steals 17 = .ok (.invokevirtual 251, 3) := by decide +kernel
theorem dX8_steals_20 : decode cX8_steals 20 = .ok (.lstore_n 3, 1) := by decide +kernel
theorem dX8_steals_21 : decode cX8_steals 21 = .ok (.aload_n 0, 1) := by decide +kernel
theorem dX8_steals_22 : decode cX8_steals 22 = .ok (.iload_n 1, 1) := by decide +kernel
theorem dX8_steals_23 : decode cX8_steals 23 = .ok (.iload_n 2, 1) := by decide +kernel
theorem dX8_steals_24 : decode cX8_steals 24 = .ok (.bipush 8, 2) := by decide +kernel
theorem dX8_steals_26 : decode cX8_steals 26 = .ok (.invokevirtual 229, 3) := by decide +kernel
theorem dX8_steals_29 : decode cX8_steals 29 = .ok (.aload_n 0, 1) := by decide +kernel
theorem dX8_steals_30 : decode cX8_steals 30 = .ok (.aload_n 0, 1) := by decide +kernel
theorem dX8_steals_31 : decode cX8_steals 31 = .ok (.getfield 209, 3) := by decide +kernel
theorem dX8_steals_34 : decode cX8_steals 34 = .ok (.aload_n 0, 1) := by decide +kernel
theorem dX8_steals_35 : decode cX8_steals 35 = .ok (.getfield 216, 3) := by decide +kernel
theorem dX8_steals_38 : decode cX8_steals 38 = .ok (.invokevirtual 251, 3) := by decide +kernel
theorem dX8_steals_41 : decode cX8_steals 41 = .ok (.lstore 5, 2) := by decide +kernel
theorem dX8_steals_43 : decode cX8_steals 43 = .ok (.aload_n 0, 1) := by decide +kernel
theorem dX8_steals_44 : decode cX8_steals 44 = .ok (.getfield 254, 3) := by decide +kernel
theorem dX8_steals_47 : decode cX8_steals 47 = .ok (.i2l, 1) := by decide +kernel
theorem dX8_steals_48 : decode cX8_steals 48 = .ok (.lload_n 3, 1) := by decide +kernel
theorem dX8_steals_49 : decode cX8_steals 49 = .ok (.lmul, 1) := by decide +kernel
theorem dX8_steals_50 : decode cX8_steals 50 = .ok (.bipush 20, 2) := by decide +kernel
theorem dX8_steals_52 : decode cX8_steals 52 = .ok (.aload_n 0, 1) := by decide +kernel
theorem dX8_steals_53 : decode cX8_steals 53 = .ok (.getfield 254, 3) := by decide +kernel
theorem dX8_steals_56 : decode cX8_steals 56 = .ok (.isub, 1) := by decide +kernel
theorem dX8_steals_57 : decode cX8_steals 57 = .ok (.i2l, 1) := by decide +kernel
theorem dX8_steals_58 : decode cX8_steals 58 = .ok (.lload 5, 2) := by decide +kernel
theorem dX8_steals_60 : decode cX8_steals 60 = .ok (.lmul, 1) := by decide +kernel
theorem dX8_steals_61 : decode cX8_steals 61 = .ok (.ladd, 1) := by decide +kernel
theorem dX8_steals_62 : decode cX8_steals 62 = .ok (.lreturn, 1) := by decide +kernel
theorem dX8_by_0 : decode cX8_by 0 = .ok (.iload_n 1, 1) := by decide +kernel
theorem dX8_by_1 : decode cX8_by 1 = .ok (.ifCond .ne 17, 3) := by decide +kernel
theorem dX8_by_4 : decode cX8_by 4 = .ok (.ldc2_w 241, 3) := by decide +kernel
theorem dX8_by_7 : decode cX8_by 7 = .ok (.aload_n 0, 1) := by decide +kernel
theorem dX8_by_8 : decode cX8_by 8 = .ok (.iload_n 2, 1) := by decide +kernel
theorem dX8_by_9 : decode cX8_by 9 = .ok (.iload_n 3, 1) := by decide +kernel
theorem dX8_by_10 : decode cX8_by 10 = .ok (.iconst 2, 1) := by decide +kernel
theorem dX8_by_11 : decode cX8_by 11 = .ok (.invokevirtual 243, 3) := by decide +kernel
theorem dX8_by_14 : decode cX8_by 14 = .ok (.lmul, 1) := by decide +kernel
theorem dX8_by_15 : decode cX8_by 15 = .ok (.goto 27, 3) := by decide +kernel
theorem dX8_by_18 : decode cX8_by 18 = .ok (.iload_n 1, 1) := by decide +kernel
theorem dX8_by_19 : decode cX8_by 19 = .ok (.iconst 1, 1) := by decide +kernel
theorem dX8_by_20 : decode cX8_by 20 = .ok (.if_icmp .ne 16, 3) := by decide +kernel
theorem dX8_by_23 : decode cX8_by 23 = .ok (.ldc2_w 241, 3) := by decide +kernel
theorem dX8_by_26 : decode cX8_by 26 = .ok (.aload_n 0, 1) := by decide +kernel
theorem dX8_by_27 : decode cX8_by 27 = .ok (.iload_n 2, 1) := by decide +kernel
theorem dX8_by_28 : decode cX8_by 28 = .ok (.iload_n 3, 1) := by decide +kernel
theorem dX8_by_29 : decode cX8_by 29 = .ok (.invokevirtual 247, 3) := by decide +kernel
theorem dX8_by_32 : decode cX8_by 32 = .ok (.lmul, 1) := by decide +kernel
theorem dX8_by_33 : decode cX8_by 33 = .ok (.goto 9, 3) := by decide +kernel
theorem dX8_by_36 : decode cX8_by 36 = .ok (.aload_n 0, 1) := by decide +kernel
theorem dX8_by_37 : decode cX8_by 37 = .ok (.iload_n 2, 1) := by decide +kernel
theorem dX8_by_38 : decode cX8_by 38 = .ok (.iload_n 3, 1) := by decide +kernel
theorem dX8_by_39 : decode cX8_by 39 = .ok (.invokevirtual 257, 3) := by decide +kernel
theorem dX8_by_42 : decode cX8_by 42 = .ok (.lreturn, 1) := by decide +kernel
theorem dX8_canChoose_0 : decode cX8_canChoose 0 = .ok (.iload_n 0, 1) := by decide +kernel
theorem dX8_canChoose_1 : decode cX8_canChoose 1 = .ok (.ifCond .eq 31, 3) := by decide +kernel
theorem dX8_canChoose_4 : decode cX8_canChoose 4 = .ok (.iload_n 0, 1) := by decide +kernel
theorem dX8_canChoose_5 : decode cX8_canChoose 5 = .ok (.iconst 1, 1) := by decide +kernel
theorem dX8_canChoose_6 : decode cX8_canChoose 6 = .ok (.if_icmp .ne 16, 3) := by decide +kernel
theorem dX8_canChoose_9 : decode cX8_canChoose 9 = .ok (.iload_n 1, 1) := by decide +kernel
theorem dX8_canChoose_10 : decode cX8_canChoose 10 = .ok (.iload_n 2, 1) := by decide +kernel
theorem dX8_canChoose_11 : decode cX8_canChoose 11 = .ok (.bipush 6, 2) := by decide +kernel
theorem dX8_canChoose_13 : decode cX8_canChoose 13 = .ok (.invokestatic 226, 3) := by decide +kernel
theorem dX8_canChoose_16 : decode cX8_canChoose 16 = .ok (.ifCond .eq 20, 3) := by decide +kernel
theorem dX8_canChoose_19 : decode cX8_canChoose 19 = .ok (.goto 13, 3) := by decide +kernel
theorem dX8_canChoose_22 : decode cX8_canChoose 22 = .ok (.iload_n 1, 1) := by decide +kernel
theorem dX8_canChoose_23 : decode cX8_canChoose 23 = .ok (.iload_n 2, 1) := by decide +kernel
theorem dX8_canChoose_24 : decode cX8_canChoose 24 = .ok (.bipush 7, 2) := by decide +kernel
theorem dX8_canChoose_26 : decode cX8_canChoose 26 = .ok (.invokestatic 226, 3) := by decide +kernel
theorem dX8_canChoose_29 : decode cX8_canChoose 29 = .ok (.ifCond .eq 7, 3) := by decide +kernel
theorem dX8_canChoose_32 : decode cX8_canChoose 32 = .ok (.iconst 1, 1) := by decide +kernel
theorem dX8_canChoose_33 : decode cX8_canChoose 33 = .ok (.goto 4, 3) := by decide +kernel
theorem dX8_canChoose_36 : decode cX8_canChoose 36 = .ok (.iconst 0, 1) := by decide +kernel
theorem dX8_canChoose_37 : decode cX8_canChoose 37 = .ok (.ireturn, 1) := by decide +kernel
theorem dX8_laysState_0 : decode cX8_laysState 0 = .ok (.iload_n 1, 1) := by decide +kernel
theorem dX8_laysState_1 : decode cX8_laysState 1 = .ok (.bipush 8, 2) := by decide +kernel
theorem dX8_laysState_3 : decode cX8_laysState 3 = .ok (.irem, 1) := by decide +kernel
theorem dX8_laysState_4 : decode cX8_laysState 4 = .ok (.istore_n 3, 1) := by decide +kernel
theorem dX8_laysState_5 : decode cX8_laysState 5 = .ok (.iload_n 1, 1) := by decide +kernel
theorem dX8_laysState_6 : decode cX8_laysState 6 = .ok (.bipush 8, 2) := by decide +kernel
theorem dX8_laysState_8 : decode cX8_laysState 8 = .ok (.idiv, 1) := by decide +kernel
theorem dX8_laysState_9 : decode cX8_laysState 9 = .ok (.istore 4, 2) := by decide +kernel
theorem dX8_laysState_11 : decode cX8_laysState 11 = .ok (.iload_n 2, 1) := by decide +kernel
theorem dX8_laysState_12 : decode cX8_laysState 12 = .ok (.iconst 2, 1) := by decide +kernel
theorem dX8_laysState_13 : decode cX8_laysState 13 = .ok (.if_icmp .eq 18, 3) := by decide +kernel
theorem dX8_laysState_16 : decode cX8_laysState 16 = .ok (.aload_n 0, 1) := by decide +kernel
theorem dX8_laysState_17 : decode cX8_laysState 17 = .ok (.getfield 29, 3) := by decide +kernel
theorem dX8_laysState_20 : decode cX8_laysState 20 = .ok (.iload_n 1, 1) := by decide +kernel
theorem dX8_laysState_21 : decode cX8_laysState 21 = .ok (.aload_n 0, 1) := by decide +kernel
theorem dX8_laysState_22 : decode cX8_laysState 22 = .ok (.iload_n 3, 1) := by decide +kernel
theorem dX8_laysState_23 : decode cX8_laysState 23 = .ok (.iload 4, 2) := by decide +kernel
theorem dX8_laysState_25 : decode cX8_laysState 25 = .ok (.iload_n 2, 1) := by decide +kernel
theorem dX8_laysState_26 : decode cX8_laysState 26 = .ok (.invokevirtual 243, 3) := by decide +kernel
theorem dX8_laysState_29 : decode cX8_laysState 29 = .ok (.lastore, 1) := by decide +kernel
theorem dX8_laysState_30 : decode cX8_laysState 30 = .ok (.return_, 1) := by decide +kernel
theorem dX8_laysState_31 : decode cX8_laysState 31 = .ok (.aload_n 0, 1) := by decide +kernel
theorem dX8_laysState_32 : decode cX8_laysState 32 = .ok (.getfield 36, 3) := by decide +kernel
theorem dX8_laysState_35 : decode cX8_laysState 35 = .ok (.iload_n 1, 1) := by decide +kernel
theorem dX8_laysState_36 : decode cX8_laysState 36 = .ok (.iconst (-1), 1) := by decide +kernel
theorem dX8_laysState_37 : decode cX8_laysState 37 = .ok (.iastore, 1) := by decide +kernel
theorem dX8_laysState_38 : decode cX8_laysState 38 = .ok (.iconst 0, 1) := by decide +kernel
theorem dX8_laysState_39 : decode cX8_laysState 39 = .ok (.istore 5, 2) := by decide +kernel
theorem dX8_laysState_41 : decode cX8_laysState 41 = .ok (.iload 5, 2) := by decide +kernel
theorem dX8_laysState_43 : decode cX8_laysState 43 = .ok (.iconst 3, 1) := by decide +kernel
theorem dX8_laysState_44 : decode cX8_laysState 44 = .ok (.if_icmp .ge 69, 3) := by decide +kernel
theorem dX8_laysState_47 : decode cX8_laysState 47 = .ok (.iload 5, 2) := by decide +kernel
theorem dX8_laysState_49 : decode cX8_laysState 49 = .ok (.iload_n 3, 1) := by decide +kernel
theorem dX8_laysState_50 : decode cX8_laysState 50 = .ok (.iload 4, 2) := by decide +kernel
theorem dX8_laysState_52 : decode cX8_laysState 52 = .ok (.invokestatic 260, 3) := by decide +kernel
theorem dX8_laysState_55 : decode cX8_laysState 55 = .ok (.ifCond .eq 52, 3) := by decide +kernel
theorem dX8_laysState_58 : decode cX8_laysState 58 = .ok (.aload_n 0, 1) := by decide +kernel
theorem dX8_laysState_59 : decode cX8_laysState 59 = .ok (.iload 5, 2) := by decide +kernel
theorem dX8_laysState_61 : decode cX8_laysState 61 = .ok (.iload_n 3, 1) := by decide +kernel
theorem dX8_laysState_62 : decode cX8_laysState 62 = .ok (.iload 4, 2) := by decide +kernel
theorem dX8_laysState_64 : decode cX8_laysState 64 = .ok (.invokevirtual 263, 3) := by decide +kernel
theorem dX8_laysState_67 : decode cX8_laysState 67 = .ok (.lstore 6, 2) := by decide +kernel
theorem dX8_laysState_69 : decode cX8_laysState 69 = .ok (.aload_n 0, 1) := by decide +kernel
theorem dX8_laysState_70 : decode cX8_laysState 70 = .ok (.getfield 36, 3) := by decide +kernel
theorem dX8_laysState_73 : decode cX8_laysState 73 = .ok (.iload_n 1, 1) := by decide +kernel
theorem dX8_laysState_74 : decode cX8_laysState 74 = .ok (.iaload, 1) := by decide +kernel
theorem dX8_laysState_75 : decode cX8_laysState 75 = .ok (.iconst (-1), 1) := by decide +kernel
theorem dX8_laysState_76 : decode cX8_laysState 76 = .ok (.if_icmp .eq 15, 3) := by decide +kernel
theorem dX8_laysState_79 : decode cX8_laysState 79 = .ok (.lload 6, 2) := by decide +kernel
theorem dX8_laysState_81 : decode cX8_laysState 81 = .ok (.aload_n 0, 1) := by decide +kernel
theorem dX8_laysState_82 : decode cX8_laysState 82 = .ok (.getfield 29, 3) := by decide +kernel
theorem dX8_laysState_85 : decode cX8_laysState 85 = .ok (.iload_n 1, 1) := by decide +kernel
theorem dX8_laysState_86 : decode cX8_laysState 86 = .ok (.laload, 1) := by decide +kernel
theorem dX8_laysState_87 : decode cX8_laysState 87 = .ok (.lcmp, 1) := by decide +kernel
theorem dX8_laysState_88 : decode cX8_laysState 88 = .ok (.ifCond .le 19, 3) := by decide +kernel
theorem dX8_laysState_91 : decode cX8_laysState 91 = .ok (.aload_n 0, 1) := by decide +kernel
theorem dX8_laysState_92 : decode cX8_laysState 92 = .ok (.getfield 36, 3) := by decide +kernel
theorem dX8_laysState_95 : decode cX8_laysState 95 = .ok (.iload_n 1, 1) := by decide +kernel
theorem dX8_laysState_96 : decode cX8_laysState 96 = .ok (.iload 5, 2) := by decide +kernel
theorem dX8_laysState_98 : decode cX8_laysState 98 = .ok (.iastore, 1) := by decide +kernel
theorem dX8_laysState_99 : decode cX8_laysState 99 = .ok (.aload_n 0, 1) := by decide +kernel
theorem dX8_laysState_100 : decode cX8_laysState 100 = .ok (.getfield 29, 3) := by decide +kernel
theorem dX8_laysState_103 : decode cX8_laysState 103 = .ok (.iload_n 1, 1) := by decide +kernel
theorem dX8_laysState_104 : decode cX8_laysState 104 = .ok (.lload 6, 2) := by decide +kernel
theorem dX8_laysState_106 : decode cX8_laysState 106 = .ok (.lastore, 1) := by decide +kernel
theorem dX8_laysState_107 : decode cX8_laysState 107 = .ok (.iinc 5 1, 3) := by decide +kernel
theorem dX8_laysState_110 : decode cX8_laysState 110 = .ok (.goto (-69), 3) := by decide +kernel
theorem dX8_laysState_113 : decode cX8_laysState 113 = .ok (.return_, 1) := by decide +kernel
theorem dX8_laysShares_0 : decode cX8_laysShares 0 = .ok (.iconst 0, 1) := by decide +kernel
theorem dX8_laysShares_1 : decode cX8_laysShares 1 = .ok (.istore 4, 2) := by decide +kernel
theorem dX8_laysShares_3 : decode cX8_laysShares 3 = .ok (.iload 4, 2) := by decide +kernel
theorem dX8_laysShares_5 : decode cX8_laysShares 5 = .ok (.bipush 6, 2) := by decide +kernel
theorem dX8_laysShares_7 : decode cX8_laysShares 7 = .ok (.if_icmp .ge 89, 3) := by decide +kernel
theorem dX8_laysShares_10 : decode cX8_laysShares 10 = .ok (.aload_n 0, 1) := by decide +kernel
theorem dX8_laysShares_11 : decode cX8_laysShares 11 = .ok (.getfield 39, 3) := by decide +kernel
theorem dX8_laysShares_14 : decode cX8_laysShares 14 = .ok (.iload 4, 2) := by decide +kernel
theorem dX8_laysShares_16 : decode cX8_laysShares 16 = .ok (.iconst 0, 1) := by decide +kernel
theorem dX8_laysShares_17 : decode cX8_laysShares 17 = .ok (.iastore, 1) := by decide +kernel
theorem dX8_laysShares_18 : decode cX8_laysShares 18 = .ok (.iconst 0, 1) := by decide +kernel
theorem dX8_laysShares_19 : decode cX8_laysShares 19 = .ok (.istore 5, 2) := by decide +kernel
theorem dX8_laysShares_21 : decode cX8_laysShares 21 = .ok (.iload 5, 2) := by decide +kernel
theorem dX8_laysShares_23 : decode cX8_laysShares 23 = .ok (.aload_n 0, 1) := by decide +kernel
theorem dX8_laysShares_24 : decode cX8_laysShares 24 = .ok (.getfield 17, 3) := by decide +kernel
theorem dX8_laysShares_27 : decode cX8_laysShares 27 = .ok (.iconst 0, 1) := by decide +kernel
theorem dX8_laysShares_28 : decode cX8_laysShares 28 = .ok (.iaload, 1) := by decide +kernel
theorem dX8_laysShares_29 : decode cX8_laysShares 29 = .ok (.if_icmp .ge 61, 3) := by decide +kernel
theorem dX8_laysShares_32 : decode cX8_laysShares 32 = .ok (.aload_n 0, 1) := by decide +kernel
theorem dX8_laysShares_33 : decode cX8_laysShares 33 = .ok (.getfield 39, 3) := by decide +kernel
theorem dX8_laysShares_36 : decode cX8_laysShares 36 = .ok (.iload 4, 2) := by decide +kernel
theorem dX8_laysShares_38 : decode cX8_laysShares 38 = .ok (.dup2, 1) := by decide +kernel
theorem dX8_laysShares_39 : decode cX8_laysShares 39 = .ok (.iaload, 1) := by decide +kernel
theorem dX8_laysShares_40 : decode cX8_laysShares 40 = .ok (.iload_n 1, 1) := by decide +kernel
theorem dX8_laysShares_41 : decode cX8_laysShares 41 = .ok (.iconst 3, 1) := by decide +kernel
theorem dX8_laysShares_42 : decode cX8_laysShares 42 = .ok (.if_icmp .ne 22, 3) := by decide +kernel
theorem dX8_laysShares_45 : decode cX8_laysShares 45 = .ok (.aload_n 0, 1) := by decide +kernel
theorem dX8_laysShares_46 : decode cX8_laysShares 46 = .ok (.getfield 17, 3) := by decide +kernel
theorem dX8_laysShares_49 : decode cX8_laysShares 49 = .ok (.bipush 6, 2) := by decide +kernel
theorem dX8_laysShares_51 : decode cX8_laysShares 51 = .ok (.bipush 6, 2) := by decide +kernel
theorem dX8_laysShares_53 : decode cX8_laysShares 53 = .ok (.iload 5, 2) := by decide +kernel
theorem dX8_laysShares_55 : decode cX8_laysShares 55 = .ok (.imul, 1) := by decide +kernel
theorem dX8_laysShares_56 : decode cX8_laysShares 56 = .ok (.iadd, 1) := by decide +kernel
theorem dX8_laysShares_57 : decode cX8_laysShares 57 = .ok (.iload 4, 2) := by decide +kernel
theorem dX8_laysShares_59 : decode cX8_laysShares 59 = .ok (.iadd, 1) := by decide +kernel
theorem dX8_laysShares_60 : decode cX8_laysShares 60 = .ok (.iaload, 1) := by decide +kernel
theorem dX8_laysShares_61 : decode cX8_laysShares 61 = .ok (.goto 21, 3) := by decide +kernel
theorem dX8_laysShares_64 : decode cX8_laysShares 64 = .ok (.iload 5, 2) := by decide +kernel
theorem dX8_laysShares_66 : decode cX8_laysShares 66 = .ok (.iload_n 2, 1) := by decide +kernel
theorem dX8_laysShares_67 : decode cX8_laysShares 67 = .ok (.if_icmp .ne 14, 3) := by decide +kernel
theorem dX8_laysShares_70 : decode cX8_laysShares 70 = .ok (.aload_n 0, 1) := by decide +kernel
theorem dX8_laysShares_71 : decode cX8_laysShares 71 = .ok (.iload_n 2, 1) := by decide +kernel
theorem dX8_laysShares_72 : decode cX8_laysShares 72 = .ok (.iload 4, 2) := by decide +kernel
theorem dX8_laysShares_74 : decode cX8_laysShares 74 = .ok (.iload_n 3, 1) := by decide +kernel
theorem dX8_laysShares_75 : decode cX8_laysShares 75 = .ok (.invokevirtual 202, 3) := by decide +kernel
theorem dX8_laysShares_78 : decode cX8_laysShares 78 = .ok (.goto 4, 3) := by decide +kernel
theorem dX8_laysShares_81 : decode cX8_laysShares 81 = .ok (.iconst 0, 1) := by decide +kernel
theorem dX8_laysShares_82 : decode cX8_laysShares 82 = .ok (.iadd, 1) := by decide +kernel
theorem dX8_laysShares_83 : decode cX8_laysShares 83 = .ok (.iastore, 1) := by decide +kernel
theorem dX8_laysShares_84 : decode cX8_laysShares 84 = .ok (.iinc 5 1, 3) := by decide +kernel
theorem dX8_laysShares_87 : decode cX8_laysShares 87 = .ok (.goto (-66), 3) := by decide +kernel
theorem dX8_laysShares_90 : decode cX8_laysShares 90 = .ok (.iinc 4 1, 3) := by decide +kernel
theorem dX8_laysShares_93 : decode cX8_laysShares 93 = .ok (.goto (-90), 3) := by decide +kernel
theorem dX8_laysShares_96 : decode cX8_laysShares 96 = .ok (.return_, 1) := by decide +kernel
theorem dX8_scale_0 : decode cX8_scale 0 = .ok (.iload_n 1, 1) := by decide +kernel
theorem dX8_scale_1 : decode cX8_scale 1 = .ok (.iconst 2, 1) := by decide +kernel
theorem dX8_scale_2 : decode cX8_scale 2 = .ok (.if_icmp .ne 9, 3) := by decide +kernel
theorem dX8_scale_5 : decode cX8_scale 5 = .ok (.ldc2_w 266, 3) := by decide +kernel
theorem dX8_scale_8 : decode cX8_scale 8 = .ok (.goto 25, 3) := by decide +kernel
theorem dX8_scale_11 : decode cX8_scale 11 = .ok (.iload_n 1, 1) := by decide +kernel
theorem dX8_scale_12 : decode cX8_scale 12 = .ok (.iconst 3, 1) := by decide +kernel
theorem dX8_scale_13 : decode cX8_scale 13 = .ok (.if_icmp .ne 17, 3) := by decide +kernel
theorem dX8_scale_16 : decode cX8_scale 16 = .ok (.ldc2_w 241, 3) := by decide +kernel
theorem dX8_scale_19 : decode cX8_scale 19 = .ok (.aload_n 0, 1) := by decide +kernel
theorem dX8_scale_20 : decode cX8_scale 20 = .ok (.getfield 17, 3) := by decide +kernel
theorem dX8_scale_23 : decode cX8_scale 23 = .ok (.iconst 0, 1) := by decide +kernel
theorem dX8_scale_24 : decode cX8_scale 24 = .ok (.iaload, 1) := by decide +kernel
theorem dX8_scale_25 : decode cX8_scale 25 = .ok (.i2l, 1) := by decide +kernel
theorem dX8_scale_26 : decode cX8_scale 26 = .ok (.lmul, 1) := by decide +kernel
theorem dX8_scale_27 : decode cX8_scale 27 = .ok (.goto 6, 3) := by decide +kernel
theorem dX8_scale_30 : decode cX8_scale 30 = .ok (.ldc2_w 241, 3) := by decide +kernel
theorem dX8_scale_33 : decode cX8_scale 33 = .ok (.lreturn, 1) := by decide +kernel
theorem dX8_laysOut_0 : decode cX8_laysOut 0 = .ok (.aload_n 0, 1) := by decide +kernel
theorem dX8_laysOut_1 : decode cX8_laysOut 1 = .ok (.lconst 1, 1) := by decide +kernel
theorem dX8_laysOut_2 : decode cX8_laysOut 2 = .ok (.putfield 233, 3) := by decide +kernel
theorem dX8_laysOut_5 : decode cX8_laysOut 5 = .ok (.iconst 0, 1) := by decide +kernel
theorem dX8_laysOut_6 : decode cX8_laysOut 6 = .ok (.istore 7, 2) := by decide +kernel
theorem dX8_laysOut_8 : decode cX8_laysOut 8 = .ok (.iload 7, 2) := by decide +kernel
theorem dX8_laysOut_10 : decode cX8_laysOut 10 = .ok (.bipush 24, 2) := by decide +kernel
theorem dX8_laysOut_12 : decode cX8_laysOut 12 = .ok (.if_icmp .ge 17, 3) := by decide +kernel
theorem dX8_laysOut_15 : decode cX8_laysOut 15 = .ok (.aload_n 0, 1) := by decide +kernel
theorem dX8_laysOut_16 : decode cX8_laysOut 16 = .ok (.getfield 29, 3) := by decide +kernel
theorem dX8_laysOut_19 : decode cX8_laysOut 19 = .ok (.iload 7, 2) := by decide +kernel
theorem dX8_laysOut_21 : decode cX8_laysOut 21 = .ok (.lconst 0, 1) := by decide +kernel
theorem dX8_laysOut_22 : decode cX8_laysOut 22 = .ok (.lastore, 1) := by decide +kernel
theorem dX8_laysOut_23 : decode cX8_laysOut 23 = .ok (.iinc 7 1, 3) := by decide +kernel
theorem dX8_laysOut_26 : decode cX8_laysOut 26 = .ok (.goto (-18), 3) := by decide +kernel
theorem dX8_laysOut_29 : decode cX8_laysOut 29 = .ok (.iconst 1, 1) := by decide +kernel
theorem dX8_laysOut_30 : decode cX8_laysOut 30 = .ok (.istore 7, 2) := by decide +kernel
theorem dX8_laysOut_32 : decode cX8_laysOut 32 = .ok (.iload 7, 2) := by decide +kernel
theorem dX8_laysOut_34 : decode cX8_laysOut 34 = .ok (.iload_n 2, 1) := by decide +kernel
theorem dX8_laysOut_35 : decode cX8_laysOut 35 = .ok (.if_icmp .gt 109, 3) := by decide +kernel
theorem dX8_laysOut_38 : decode cX8_laysOut 38 = .ok (.iconst 0, 1) := by decide +kernel
theorem dX8_laysOut_39 : decode cX8_laysOut 39 = .ok (.istore 8, 2) := by decide +kernel
theorem dX8_laysOut_41 : decode cX8_laysOut 41 = .ok (.iload 8, 2) := by decide +kernel
theorem dX8_laysOut_43 : decode cX8_laysOut 43 = .ok (.bipush 24, 2) := by decide +kernel
theorem dX8_laysOut_45 : decode cX8_laysOut 45 = .ok (.if_icmp .ge 23, 3) := by decide +kernel
theorem dX8_laysOut_48 : decode cX8_laysOut 48 = .ok (.aload_n 0, 1) := by decide +kernel
theorem dX8_laysOut_49 : decode cX8_laysOut 49 = .ok (.getfield 33, 3) := by decide +kernel
theorem dX8_laysOut_52 : decode cX8_laysOut 52 = .ok (.iload 8, 2) := by decide +kernel
theorem dX8_laysOut_54 : decode cX8_laysOut 54 = .ok (.aload_n 0, 1) := by decide +kernel
theorem dX8_laysOut_55 : decode cX8_laysOut 55 = .ok (.getfield 29, 3) := by decide +kernel
theorem dX8_laysOut_58 : decode cX8_laysOut 58 = .ok (.iload 8, 2) := by decide +kernel
theorem dX8_laysOut_60 : decode cX8_laysOut 60 = .ok (.laload, 1) := by decide +kernel
theorem dX8_laysOut_61 : decode cX8_laysOut 61 = .ok (.lastore, 1) := by decide +kernel
theorem dX8_laysOut_62 : decode cX8_laysOut 62 = .ok (.iinc 8 1, 3) := by decide +kernel
theorem dX8_laysOut_65 : decode cX8_laysOut 65 = .ok (.goto (-24), 3) := by decide +kernel
theorem dX8_laysOut_68 : decode cX8_laysOut 68 = .ok (.iload_n 2, 1) := by decide +kernel
theorem dX8_laysOut_69 : decode cX8_laysOut 69 = .ok (.iload 7, 2) := by decide +kernel
theorem dX8_laysOut_71 : decode cX8_laysOut 71 = .ok (.isub, 1) := by decide +kernel
theorem dX8_laysOut_72 : decode cX8_laysOut 72 = .ok (.istore 8, 2) := by decide +kernel
theorem dX8_laysOut_74 : decode cX8_laysOut 74 = .ok (.aload_n 0, 1) := by decide +kernel
theorem dX8_laysOut_75 : decode cX8_laysOut 75 = .ok (.iload_n 1, 1) := by decide +kernel
theorem dX8_laysOut_76 : decode cX8_laysOut 76 = .ok (.aload_n 3, 1) := by decide +kernel
theorem dX8_laysOut_77 : decode cX8_laysOut 77 = .ok (.iload 4, 2) := by decide +kernel
theorem dX8_laysOut_79 : decode cX8_laysOut 79 = .ok (.iload 5, 2) := by decide +kernel
theorem dX8_laysOut_81 : decode cX8_laysOut 81 = .ok (.iload 8, 2) := by decide +kernel
theorem dX8_laysOut_83 : decode cX8_laysOut 83 = .ok (.iadd, 1) := by decide +kernel
theorem dX8_laysOut_84 : decode cX8_laysOut 84 = .ok (.aload_n 0, 1) := by decide +kernel
theorem dX8_laysOut_85 : decode cX8_laysOut 85 = .ok (.getfield 17, 3) := by decide +kernel
theorem dX8_laysOut_88 : decode cX8_laysOut 88 = .ok (.iconst 0, 1) := by decide +kernel
theorem dX8_laysOut_89 : decode cX8_laysOut 89 = .ok (.iaload, 1) := by decide +kernel
theorem dX8_laysOut_90 : decode cX8_laysOut 90 = .ok (.irem, 1) := by decide +kernel
theorem dX8_laysOut_91 : decode cX8_laysOut 91 = .ok (.iadd, 1) := by decide +kernel
theorem dX8_laysOut_92 : decode cX8_laysOut 92 = .ok (.iaload, 1) := by decide +kernel
theorem dX8_laysOut_93 : decode cX8_laysOut 93 = .ok (.iload 6, 2) := by decide +kernel
theorem dX8_laysOut_95 : decode cX8_laysOut 95 = .ok (.iload 8, 2) := by decide +kernel
theorem dX8_laysOut_97 : decode cX8_laysOut 97 = .ok (.iadd, 1) := by decide +kernel
theorem dX8_laysOut_98 : decode cX8_laysOut 98 = .ok (.invokevirtual 268, 3) := by decide +kernel
theorem dX8_laysOut_101 : decode cX8_laysOut 101 = .ok (.iconst 0, 1) := by decide +kernel
theorem dX8_laysOut_102 : decode cX8_laysOut 102 = .ok (.istore 9, 2) := by decide +kernel
theorem dX8_laysOut_104 : decode cX8_laysOut 104 = .ok (.iload 9, 2) := by decide +kernel
theorem dX8_laysOut_106 : decode cX8_laysOut 106 = .ok (.bipush 24, 2) := by decide +kernel
theorem dX8_laysOut_108 : decode cX8_laysOut 108 = .ok (.if_icmp .ge 16, 3) := by decide +kernel
theorem dX8_laysOut_111 : decode cX8_laysOut 111 = .ok (.aload_n 0, 1) := by decide +kernel
theorem dX8_laysOut_112 : decode cX8_laysOut 112 = .ok (.iload 9, 2) := by decide +kernel
theorem dX8_laysOut_114 : decode cX8_laysOut 114 = .ok (.iload_n 1, 1) := by decide +kernel
theorem dX8_laysOut_115 : decode cX8_laysOut 115 = .ok (.invokevirtual 271, 3) := by decide +kernel
theorem dX8_laysOut_118 : decode cX8_laysOut 118 = .ok (.iinc 9 1, 3) := by decide +kernel
theorem dX8_laysOut_121 : decode cX8_laysOut 121 = .ok (.goto (-17), 3) := by decide +kernel
theorem dX8_laysOut_124 : decode cX8_laysOut 124 = .ok (.aload_n 0, 1) := by decide +kernel
theorem dX8_laysOut_125 : decode cX8_laysOut 125 = .ok (.dup, 1) := by decide +kernel
theorem dX8_laysOut_126 : decode cX8_laysOut 126 = .ok (.getfield 233, 3) := by decide +kernel
theorem dX8_laysOut_129 : decode cX8_laysOut 129 = .ok (.aload_n 0, 1) := by decide +kernel
theorem dX8_laysOut_130 : decode cX8_laysOut 130 = .ok (.iload_n 1, 1) := by decide +kernel
theorem dX8_laysOut_131 : decode cX8_laysOut 131 = .ok (.invokevirtual 274, 3) := by decide +kernel
theorem dX8_laysOut_134 : decode cX8_laysOut 134 = .ok (.lmul, 1) := by decide +kernel
theorem dX8_laysOut_135 : decode cX8_laysOut 135 = .ok (.putfield 233, 3) := by decide +kernel
theorem dX8_laysOut_138 : decode cX8_laysOut 138 = .ok (.iinc 7 1, 3) := by decide +kernel
theorem dX8_laysOut_141 : decode cX8_laysOut 141 = .ok (.goto (-109), 3) := by decide +kernel
theorem dX8_laysOut_144 : decode cX8_laysOut 144 = .ok (.return_, 1) := by decide +kernel
theorem dX8_laysNow_0 : decode cX8_laysNow 0 = .ok (.aload_n 0, 1) := by decide +kernel
theorem dX8_laysNow_1 : decode cX8_laysNow 1 = .ok (.aload_n 0, 1) := by decide +kernel
theorem dX8_laysNow_2 : decode cX8_laysNow 2 = .ok (.getfield 17, 3) := by decide +kernel
theorem dX8_laysNow_5 : decode cX8_laysNow 5 = .ok (.iconst 4, 1) := by decide +kernel
theorem dX8_laysNow_6 : decode cX8_laysNow 6 = .ok (.iaload, 1) := by decide +kernel
theorem dX8_laysNow_7 : decode cX8_laysNow 7 = .ok (.putfield 254, 3) := by decide +kernel
theorem dX8_laysNow_10 : decode cX8_laysNow 10 = .ok (.aload_n 0, 1) := by decide +kernel
theorem dX8_laysNow_11 : decode cX8_laysNow 11 = .ok (.iload_n 1, 1) := by decide +kernel
theorem dX8_laysNow_12 : decode cX8_laysNow 12 = .ok (.iload_n 2, 1) := by decide +kernel
theorem dX8_laysNow_13 : decode cX8_laysNow 13 = .ok (.aload_n 0, 1) := by decide +kernel
theorem dX8_laysNow_14 : decode cX8_laysNow 14 = .ok (.getfield 17, 3) := by decide +kernel
theorem dX8_laysNow_17 : decode cX8_laysNow 17 = .ok (.bipush 60, 2) := by decide +kernel
theorem dX8_laysNow_19 : decode cX8_laysNow 19 = .ok (.aload_n 0, 1) := by decide +kernel
theorem dX8_laysNow_20 : decode cX8_laysNow 20 = .ok (.aload_n 0, 1) := by decide +kernel
theorem dX8_laysNow_21 : decode cX8_laysNow 21 = .ok (.getfield 17, 3) := by decide +kernel
theorem dX8_laysNow_24 : decode cX8_laysNow 24 = .ok (.bipush 72, 2) := by decide +kernel
theorem dX8_laysNow_26 : decode cX8_laysNow 26 = .ok (.iaload, 1) := by decide +kernel
theorem dX8_laysNow_27 : decode cX8_laysNow 27 = .ok (.invokevirtual 195, 3) := by decide +kernel
theorem dX8_laysNow_30 : decode cX8_laysNow 30 = .ok (.aload_n 0, 1) := by decide +kernel
theorem dX8_laysNow_31 : decode cX8_laysNow 31 = .ok (.getfield 17, 3) := by decide +kernel
theorem dX8_laysNow_34 : decode cX8_laysNow 34 = .ok (.bipush 73, 2) := by decide +kernel
theorem dX8_laysNow_36 : decode cX8_laysNow 36 = .ok (.iaload, 1) := by decide +kernel
theorem dX8_laysNow_37 : decode cX8_laysNow 37 = .ok (.invokevirtual 278, 3) := by decide +kernel
theorem dX8_laysNow_40 : decode cX8_laysNow 40 = .ok (.return_, 1) := by decide +kernel
theorem dX8_common_0 : decode cX8_common 0 = .ok (.lload_n 0, 1) := by decide +kernel
theorem dX8_common_1 : decode cX8_common 1 = .ok (.lconst 0, 1) := by decide +kernel
theorem dX8_common_2 : decode cX8_common 2 = .ok (.lcmp, 1) := by decide +kernel
theorem dX8_common_3 : decode cX8_common 3 = .ok (.ifCond .ge 8, 3) := by decide +kernel
theorem dX8_common_6 : decode cX8_common 6 = .ok (.lload_n 0, 1) := by decide +kernel
theorem dX8_common_7 : decode cX8_common 7 = .ok (.lneg, 1) := by decide +kernel
theorem dX8_common_8 : decode cX8_common 8 = .ok (.goto 4, 3) := by decide +kernel
theorem dX8_common_11 : decode cX8_common 11 = .ok (.lload_n 0, 1) := by decide +kernel
theorem dX8_common_12 : decode cX8_common 12 = .ok (.lstore 4, 2) := by decide +kernel
theorem dX8_common_14 : decode cX8_common 14 = .ok (.lload_n 2, 1) := by decide +kernel
theorem dX8_common_15 : decode cX8_common 15 = .ok (.lconst 0, 1) := by decide +kernel
theorem dX8_common_16 : decode cX8_common 16 = .ok (.lcmp, 1) := by decide +kernel
theorem dX8_common_17 : decode cX8_common 17 = .ok (.ifCond .ge 8, 3) := by decide +kernel
theorem dX8_common_20 : decode cX8_common 20 = .ok (.lload_n 2, 1) := by decide +kernel
theorem dX8_common_21 : decode cX8_common 21 = .ok (.lneg, 1) := by decide +kernel
theorem dX8_common_22 : decode cX8_common 22 = .ok (.goto 4, 3) := by decide +kernel
theorem dX8_common_25 : decode cX8_common 25 = .ok (.lload_n 2, 1) := by decide +kernel
theorem dX8_common_26 : decode cX8_common 26 = .ok (.lstore 6, 2) := by decide +kernel
theorem dX8_common_28 : decode cX8_common 28 = .ok (.lload 6, 2) := by decide +kernel
theorem dX8_common_30 : decode cX8_common 30 = .ok (.lconst 0, 1) := by decide +kernel
theorem dX8_common_31 : decode cX8_common 31 = .ok (.lcmp, 1) := by decide +kernel
theorem dX8_common_32 : decode cX8_common 32 = .ok (.ifCond .eq 21, 3) := by decide +kernel
theorem dX8_common_35 : decode cX8_common 35 = .ok (.lload 4, 2) := by decide +kernel
theorem dX8_common_37 : decode cX8_common 37 = .ok (.lload 6, 2) := by decide +kernel
theorem dX8_common_39 : decode cX8_common 39 = .ok (.lrem, 1) := by decide +kernel
theorem dX8_common_40 : decode cX8_common 40 = .ok (.lstore 8, 2) := by decide +kernel
theorem dX8_common_42 : decode cX8_common 42 = .ok (.lload 6, 2) := by decide +kernel
theorem dX8_common_44 : decode cX8_common 44 = .ok (.lstore 4, 2) := by decide +kernel
theorem dX8_common_46 : decode cX8_common 46 = .ok (.lload 8, 2) := by decide +kernel
theorem dX8_common_48 : decode cX8_common 48 = .ok (.lstore 6, 2) := by decide +kernel
theorem dX8_common_50 : decode cX8_common 50 = .ok (.goto (-22), 3) := by decide +kernel
theorem dX8_common_53 : decode cX8_common 53 = .ok (.lload 4, 2) := by decide +kernel
theorem dX8_common_55 : decode cX8_common 55 = .ok (.lreturn, 1) := by decide +kernel
theorem dX8_part_0 : decode cX8_part 0 = .ok (.iload 4, 2) := by decide +kernel
theorem dX8_part_2 : decode cX8_part 2 = .ok (.ifCond .ne 7, 3) := by decide +kernel
theorem dX8_part_5 : decode cX8_part 5 = .ok (.lload_n 0, 1) := by decide +kernel
theorem dX8_part_6 : decode cX8_part 6 = .ok (.goto 4, 3) := by decide +kernel
theorem dX8_part_9 : decode cX8_part 9 = .ok (.lload_n 2, 1) := by decide +kernel
theorem dX8_part_10 : decode cX8_part 10 = .ok (.lload_n 2, 1) := by decide +kernel
theorem dX8_part_11 : decode cX8_part 11 = .ok (.lload_n 0, 1) := by decide +kernel
theorem dX8_part_12 : decode cX8_part 12 = .ok (.invokestatic 282, 3) := by decide +kernel
theorem dX8_part_15 : decode cX8_part 15 = .ok (.ldiv, 1) := by decide +kernel
theorem dX8_part_16 : decode cX8_part 16 = .ok (.lreturn, 1) := by decide +kernel
theorem dX8_whyNot_0 : decode cX8_whyNot 0 = .ok (.aload_n 0, 1) := by decide +kernel
theorem dX8_whyNot_1 : decode cX8_whyNot 1 = .ok (.getfield 174, 3) := by decide +kernel
theorem dX8_whyNot_4 : decode cX8_whyNot 4 = .ok (.ifCond .eq 11, 3) := by decide +kernel
theorem dX8_whyNot_7 : decode cX8_whyNot 7 = .ok (.iload_n 1, 1) := by decide +kernel
theorem dX8_whyNot_8 : decode cX8_whyNot 8 = .ok (.ifCond .eq 7, 3) := by decide +kernel
theorem dX8_whyNot_11 : decode cX8_whyNot 11 = .ok (.iconst 1, 1) := by decide +kernel
theorem dX8_whyNot_12 : decode cX8_whyNot 12 = .ok (.goto 4, 3) := by decide +kernel
theorem dX8_whyNot_15 : decode cX8_whyNot 15 = .ok (.iconst 0, 1) := by decide +kernel
theorem dX8_whyNot_16 : decode cX8_whyNot 16 = .ok (.iload_n 2, 1) := by decide +kernel
theorem dX8_whyNot_17 : decode cX8_whyNot 17 = .ok (.iload_n 3, 1) := by decide +kernel
theorem dX8_whyNot_18 : decode cX8_whyNot 18 = .ok (.invokestatic 222, 3) := by decide +kernel
theorem dX8_whyNot_21 : decode cX8_whyNot 21 = .ok (.ifCond .eq 17, 3) := by decide +kernel
theorem dX8_whyNot_24 : decode cX8_whyNot 24 = .ok (.iload 4, 2) := by decide +kernel
theorem dX8_whyNot_26 : decode cX8_whyNot 26 = .ok (.iconst 1, 1) := by decide +kernel
theorem dX8_whyNot_27 : decode cX8_whyNot 27 = .ok (.iconst 5, 1) := by decide +kernel
theorem dX8_whyNot_28 : decode cX8_whyNot 28 = .ok (.invokestatic 83, 3) := by decide +kernel
theorem dX8_whyNot_31 : decode cX8_whyNot 31 = .ok (.ifCond .eq 7, 3) := by decide +kernel
theorem dX8_whyNot_34 : decode cX8_whyNot 34 = .ok (.iconst 1, 1) := by decide +kernel
theorem dX8_whyNot_35 : decode cX8_whyNot 35 = .ok (.goto 4, 3) := by decide +kernel
theorem dX8_whyNot_38 : decode cX8_whyNot 38 = .ok (.iconst 0, 1) := by decide +kernel
theorem dX8_whyNot_39 : decode cX8_whyNot 39 = .ok (.invokestatic 158, 3) := by decide +kernel
theorem dX8_whyNot_42 : decode cX8_whyNot 42 = .ok (.ireturn, 1) := by decide +kernel
theorem dX8_toCome_0 : decode cX8_toCome 0 = .ok (.aload_n 0, 1) := by decide +kernel
theorem dX8_toCome_1 : decode cX8_toCome 1 = .ok (.aload_n 0, 1) := by decide +kernel
theorem dX8_toCome_2 : decode cX8_toCome 2 = .ok (.iload 5, 2) := by decide +kernel
theorem dX8_toCome_4 : decode cX8_toCome 4 = .ok (.iconst 0, 1) := by decide +kernel
theorem dX8_toCome_5 : decode cX8_toCome 5 = .ok (.iconst 1, 1) := by decide +kernel
theorem dX8_toCome_6 : decode cX8_toCome 6 = .ok (.invokestatic 83, 3) := by decide +kernel
theorem dX8_toCome_9 : decode cX8_toCome 9 = .ok (.iload_n 2, 1) := by decide +kernel
theorem dX8_toCome_10 : decode cX8_toCome 10 = .ok (.iload_n 3, 1) := by decide +kernel
theorem dX8_toCome_11 : decode cX8_toCome 11 = .ok (.iload 4, 2) := by decide +kernel
theorem dX8_toCome_13 : decode cX8_toCome 13 = .ok (.invokevirtual 286, 3) := by decide +kernel
theorem dX8_toCome_16 : decode cX8_toCome 16 = .ok (.invokevirtual 162, 3) := by decide +kernel
theorem dX8_toCome_19 : decode cX8_toCome 19 = .ok (.ifCond .eq 7, 3) := by decide +kernel
theorem dX8_toCome_22 : decode cX8_toCome 22 = .ok (.ldc2_w 290, 3) := by decide +kernel
theorem dX8_toCome_25 : decode cX8_toCome 25 = .ok (.lreturn, 1) := by decide +kernel
theorem dX8_toCome_26 : decode cX8_toCome 26 = .ok (.aload_n 0, 1) := by decide +kernel
theorem dX8_toCome_27 : decode cX8_toCome 27 = .ok (.iload_n 1, 1) := by decide +kernel
theorem dX8_toCome_28 : decode cX8_toCome 28 = .ok (.iload 4, 2) := by decide +kernel
theorem dX8_toCome_30 : decode cX8_toCome 30 = .ok (.invokevirtual 292, 3) := by decide +kernel
theorem dX8_toCome_33 : decode cX8_toCome 33 = .ok (.aload_n 0, 1) := by decide +kernel
theorem dX8_toCome_34 : decode cX8_toCome 34 = .ok (.getfield 29, 3) := by decide +kernel
theorem dX8_toCome_37 : decode cX8_toCome 37 = .ok (.bipush 8, 2) := by decide +kernel
theorem dX8_toCome_39 : decode cX8_toCome 39 = .ok (.iload_n 3, 1) := by decide +kernel
theorem dX8_toCome_40 : decode cX8_toCome 40 = .ok (.imul, 1) := by decide +kernel
theorem dX8_toCome_41 : decode cX8_toCome 41 = .ok (.iload_n 2, 1) := by decide +kernel
theorem dX8_toCome_42 : decode cX8_toCome 42 = .ok (.iadd, 1) := by decide +kernel
theorem dX8_toCome_43 : decode cX8_toCome 43 = .ok (.laload, 1) := by decide +kernel
theorem dX8_toCome_44 : decode cX8_toCome 44 = .ok (.aload_n 0, 1) := by decide +kernel
theorem dX8_toCome_45 : decode cX8_toCome 45 = .ok (.getfield 233, 3) := by decide +kernel
theorem dX8_toCome_48 : decode cX8_toCome 48 = .ok (.iload 5, 2) := by decide +kernel
theorem dX8_toCome_50 : decode cX8_toCome 50 = .ok (.invokestatic 295, 3) := by decide +kernel
theorem dX8_toCome_53 : decode cX8_toCome 53 = .ok (.lreturn, 1) := by decide +kernel
theorem dX8_plain_0 : decode cX8_plain 0 = .ok (.aload_n 0, 1) := by decide +kernel
theorem dX8_plain_1 : decode cX8_plain 1 = .ok (.iconst 0, 1) := by decide +kernel
theorem dX8_plain_2 : decode cX8_plain 2 = .ok (.iload_n 1, 1) := by decide +kernel
theorem dX8_plain_3 : decode cX8_plain 3 = .ok (.iload_n 2, 1) := by decide +kernel
theorem dX8_plain_4 : decode cX8_plain 4 = .ok (.iload_n 3, 1) := by decide +kernel
theorem dX8_plain_5 : decode cX8_plain 5 = .ok (.iload 4, 2) := by decide +kernel
theorem dX8_plain_7 : decode cX8_plain 7 = .ok (.invokevirtual 299, 3) := by decide +kernel
theorem dX8_plain_10 : decode cX8_plain 10 = .ok (.lreturn, 1) := by decide +kernel
theorem dX8_any_0 : decode cX8_any 0 = .ok (.aload_n 0, 1) := by decide +kernel
theorem dX8_any_1 : decode cX8_any 1 = .ok (.iconst 1, 1) := by decide +kernel
theorem dX8_any_2 : decode cX8_any 2 = .ok (.iload_n 1, 1) := by decide +kernel
theorem dX8_any_3 : decode cX8_any 3 = .ok (.iload_n 2, 1) := by decide +kernel
theorem dX8_any_4 : decode cX8_any 4 = .ok (.iload_n 3, 1) := by decide +kernel
theorem dX8_any_5 : decode cX8_any 5 = .ok (.iload 4, 2) := by decide +kernel
theorem dX8_any_7 : decode cX8_any 7 = .ok (.invokevirtual 299, 3) := by decide +kernel
theorem dX8_any_10 : decode cX8_any 10 = .ok (.lreturn, 1) := by decide +kernel
theorem dX8_wise_0 : decode cX8_wise 0 = .ok (.aload_n 0, 1) := by decide +kernel
theorem dX8_wise_1 : decode cX8_wise 1 = .ok (.iconst 2, 1) := by decide +kernel
theorem dX8_wise_2 : decode cX8_wise 2 = .ok (.iload_n 1, 1) := by decide +kernel
theorem dX8_wise_3 : decode cX8_wise 3 = .ok (.iload_n 2, 1) := by decide +kernel
theorem dX8_wise_4 : decode cX8_wise 4 = .ok (.iload_n 3, 1) := by decide +kernel
theorem dX8_wise_5 : decode cX8_wise 5 = .ok (.iload 4, 2) := by decide +kernel
theorem dX8_wise_7 : decode cX8_wise 7 = .ok (.invokevirtual 299, 3) := by decide +kernel
theorem dX8_wise_10 : decode cX8_wise 10 = .ok (.lreturn, 1) := by decide +kernel
theorem dX8_table_0 : decode cX8_table 0 = .ok (.aload_n 0, 1) := by decide +kernel
theorem dX8_table_1 : decode cX8_table 1 = .ok (.iconst 3, 1) := by decide +kernel
theorem dX8_table_2 : decode cX8_table 2 = .ok (.iload_n 1, 1) := by decide +kernel
theorem dX8_table_3 : decode cX8_table 3 = .ok (.iload_n 2, 1) := by decide +kernel
theorem dX8_table_4 : decode cX8_table 4 = .ok (.iload_n 3, 1) := by decide +kernel
theorem dX8_table_5 : decode cX8_table 5 = .ok (.iload 4, 2) := by decide +kernel
theorem dX8_table_7 : decode cX8_table 7 = .ok (.invokevirtual 299, 3) := by decide +kernel
theorem dX8_table_10 : decode cX8_table 10 = .ok (.lreturn, 1) := by decide +kernel
theorem dX8_choice_0 : decode cX8_choice 0 = .ok (.aload_n 0, 1) := by decide +kernel
theorem dX8_choice_1 : decode cX8_choice 1 = .ok (.aload_n 0, 1) := by decide +kernel
theorem dX8_choice_2 : decode cX8_choice 2 = .ok (.iconst 1, 1) := by decide +kernel
theorem dX8_choice_3 : decode cX8_choice 3 = .ok (.iload_n 1, 1) := by decide +kernel
theorem dX8_choice_4 : decode cX8_choice 4 = .ok (.iload_n 2, 1) := by decide +kernel
theorem dX8_choice_5 : decode cX8_choice 5 = .ok (.iload_n 3, 1) := by decide +kernel
theorem dX8_choice_6 : decode cX8_choice 6 = .ok (.invokevirtual 286, 3) := by decide +kernel
theorem dX8_choice_9 : decode cX8_choice 9 = .ok (.invokevirtual 162, 3) := by decide +kernel
theorem dX8_choice_12 : decode cX8_choice 12 = .ok (.ifCond .eq 5, 3) := by decide +kernel
theorem dX8_choice_15 : decode cX8_choice 15 = .ok (.iconst (-1), 1) := by decide +kernel
theorem dX8_choice_16 : decode cX8_choice 16 = .ok (.ireturn, 1) := by decide +kernel
theorem dX8_choice_17 : decode cX8_choice 17 = .ok (.aload_n 0, 1) := by decide +kernel
theorem dX8_choice_18 : decode cX8_choice 18 = .ok (.iconst 2, 1) := by decide +kernel
theorem dX8_choice_19 : decode cX8_choice 19 = .ok (.iload_n 3, 1) := by decide +kernel
theorem dX8_choice_20 : decode cX8_choice 20 = .ok (.invokevirtual 292, 3) := by decide +kernel
theorem dX8_choice_23 : decode cX8_choice 23 = .ok (.aload_n 0, 1) := by decide +kernel
theorem dX8_choice_24 : decode cX8_choice 24 = .ok (.getfield 36, 3) := by decide +kernel
theorem dX8_choice_27 : decode cX8_choice 27 = .ok (.bipush 8, 2) := by decide +kernel
theorem dX8_choice_29 : decode cX8_choice 29 = .ok (.iload_n 2, 1) := by decide +kernel
theorem dX8_choice_30 : decode cX8_choice 30 = .ok (.imul, 1) := by decide +kernel
theorem dX8_choice_31 : decode cX8_choice 31 = .ok (.iload_n 1, 1) := by decide +kernel
theorem dX8_choice_32 : decode cX8_choice 32 = .ok (.iadd, 1) := by decide +kernel
theorem dX8_choice_33 : decode cX8_choice 33 = .ok (.iaload, 1) := by decide +kernel
theorem dX8_choice_34 : decode cX8_choice 34 = .ok (.ireturn, 1) := by decide +kernel
theorem dX8_chosen_0 : decode cX8_chosen 0 = .ok (.aload_n 0, 1) := by decide +kernel
theorem dX8_chosen_1 : decode cX8_chosen 1 = .ok (.iload 4, 2) := by decide +kernel
theorem dX8_chosen_3 : decode cX8_chosen 3 = .ok (.iconst 0, 1) := by decide +kernel
theorem dX8_chosen_4 : decode cX8_chosen 4 = .ok (.iconst 2, 1) := by decide +kernel
theorem dX8_chosen_5 : decode cX8_chosen 5 = .ok (.invokestatic 83, 3) := by decide +kernel
theorem dX8_chosen_8 : decode cX8_chosen 8 = .ok (.ifCond .eq 17, 3) := by decide +kernel
theorem dX8_chosen_11 : decode cX8_chosen 11 = .ok (.iload 5, 2) := by decide +kernel
theorem dX8_chosen_13 : decode cX8_chosen 13 = .ok (.iconst 0, 1) := by decide +kernel
theorem dX8_chosen_14 : decode cX8_chosen 14 = .ok (.iconst 1, 1) := by decide +kernel
theorem dX8_chosen_15 : decode cX8_chosen 15 = .ok (.invokestatic 83, 3) := by decide +kernel
theorem dX8_chosen_18 : decode cX8_chosen 18 = .ok (.ifCond .eq 7, 3) := by decide +kernel
theorem dX8_chosen_21 : decode cX8_chosen 21 = .ok (.iconst 1, 1) := by decide +kernel
theorem dX8_chosen_22 : decode cX8_chosen 22 = .ok (.goto 4, 3) := by decide +kernel
theorem dX8_chosen_25 : decode cX8_chosen 25 = .ok (.iconst 0, 1) := by decide +kernel
theorem dX8_chosen_26 : decode cX8_chosen 26 = .ok (.iload_n 1, 1) := by decide +kernel
theorem dX8_chosen_27 : decode cX8_chosen 27 = .ok (.iload_n 2, 1) := by decide +kernel
theorem dX8_chosen_28 : decode cX8_chosen 28 = .ok (.iload_n 3, 1) := by decide +kernel
theorem dX8_chosen_29 : decode cX8_chosen 29 = .ok (.invokevirtual 286, 3) := by decide +kernel
theorem dX8_chosen_32 : decode cX8_chosen 32 = .ok (.istore 6, 2) := by decide +kernel
theorem dX8_chosen_34 : decode cX8_chosen 34 = .ok (.aload_n 0, 1) := by decide +kernel
theorem dX8_chosen_35 : decode cX8_chosen 35 = .ok (.iload 6, 2) := by decide +kernel
theorem dX8_chosen_37 : decode cX8_chosen 37 = .ok (.ifCond .eq 8, 3) := by decide +kernel
theorem dX8_chosen_40 : decode cX8_chosen 40 = .ok (.iload 6, 2) := by decide +kernel
theorem dX8_chosen_42 : decode cX8_chosen 42 = .ok (.goto 18, 3) := by decide +kernel
theorem dX8_chosen_45 : decode cX8_chosen 45 = .ok (.iload 4, 2) := by decide +kernel
theorem dX8_chosen_47 : decode cX8_chosen 47 = .ok (.iload_n 1, 1) := by decide +kernel
theorem dX8_chosen_48 : decode cX8_chosen 48 = .ok (.iload_n 2, 1) := by decide +kernel
theorem dX8_chosen_49 : decode cX8_chosen 49 = .ok (.invokestatic 260, 3) := by decide +kernel
theorem dX8_chosen_52 : decode cX8_chosen 52 = .ok (.ifCond .eq 7, 3) := by decide +kernel
theorem dX8_chosen_55 : decode cX8_chosen 55 = .ok (.iconst 0, 1) := by decide +kernel
theorem dX8_chosen_56 : decode cX8_chosen 56 = .ok (.goto 4, 3) := by decide +kernel
theorem dX8_chosen_59 : decode cX8_chosen 59 = .ok (.iconst 5, 1) := by decide +kernel
theorem dX8_chosen_60 : decode cX8_chosen 60 = .ok (.invokevirtual 162, 3) := by decide +kernel
theorem dX8_chosen_63 : decode cX8_chosen 63 = .ok (.ifCond .eq 7, 3) := by decide +kernel
theorem dX8_chosen_66 : decode cX8_chosen 66 = .ok (.ldc2_w 290, 3) := by decide +kernel
theorem dX8_chosen_69 : decode cX8_chosen 69 = .ok (.lreturn, 1) := by decide +kernel
theorem dX8_chosen_70 : decode cX8_chosen 70 = .ok (.aload_n 0, 1) := by decide +kernel
theorem dX8_chosen_71 : decode cX8_chosen 71 = .ok (.iconst 2, 1) := by decide +kernel
theorem dX8_chosen_72 : decode cX8_chosen 72 = .ok (.iload_n 3, 1) := by decide +kernel
theorem dX8_chosen_73 : decode cX8_chosen 73 = .ok (.invokevirtual 292, 3) := by decide +kernel
theorem dX8_chosen_76 : decode cX8_chosen 76 = .ok (.aload_n 0, 1) := by decide +kernel
theorem dX8_chosen_77 : decode cX8_chosen 77 = .ok (.dup, 1) := by decide +kernel
theorem dX8_chosen_78 : decode cX8_chosen 78 = .ok (.getfield 233, 3) := by decide +kernel
theorem dX8_chosen_81 : decode cX8_chosen 81 = .ok (.ldc2_w 266, 3) := by decide +kernel
theorem dX8_chosen_84 : decode cX8_chosen 84 = .ok (.ldiv, 1) := by decide +kernel
theorem dX8_chosen_85 : decode cX8_chosen 85 = .ok (.putfield 233, 3) := by decide +kernel
theorem dX8_chosen_88 : decode cX8_chosen 88 = .ok (.aload_n 0, 1) := by decide +kernel
theorem dX8_chosen_89 : decode cX8_chosen 89 = .ok (.iload 4, 2) := by decide +kernel
theorem dX8_chosen_91 : decode cX8_chosen 91 = .ok (.iload_n 1, 1) := by decide +kernel
theorem dX8_chosen_92 : decode cX8_chosen 92 = .ok (.iload_n 2, 1) := by decide +kernel
theorem dX8_chosen_93 : decode cX8_chosen 93 = .ok (.invokevirtual 263, 3) := by decide +kernel
theorem dX8_chosen_96 : decode cX8_chosen 96 = .ok (.ldc2_w 266, 3) := by decide +kernel
theorem dX8_chosen_99 : decode cX8_chosen 99 = .ok (.aload_n 0, 1) := by decide +kernel
theorem dX8_chosen_100 : decode cX8_chosen 100 = .ok (.getfield 233, 3) := by decide +kernel
theorem dX8_chosen_103 : decode cX8_chosen 103 = .ok (.lmul, 1) := by decide +kernel
theorem dX8_chosen_104 : decode cX8_chosen 104 = .ok (.iload 5, 2) := by decide +kernel
theorem dX8_chosen_106 : decode cX8_chosen 106 = .ok (.invokestatic 295, 3) := by decide +kernel
theorem dX8_chosen_109 : decode cX8_chosen 109 = .ok (.lreturn, 1) := by decide +kernel
theorem dX8_breaksEven_0 : decode cX8_breaksEven 0 = .ok (.aload_n 0, 1) := by decide +kernel
theorem dX8_breaksEven_1 : decode cX8_breaksEven 1 = .ok (.iconst 1, 1) := by decide +kernel
theorem dX8_breaksEven_2 : decode cX8_breaksEven 2 = .ok (.iload_n 1, 1) := by decide +kernel
theorem dX8_breaksEven_3 : decode cX8_breaksEven 3 = .ok (.iload_n 2, 1) := by decide +kernel
theorem dX8_breaksEven_4 : decode cX8_breaksEven 4 = .ok (.iload_n 3, 1) := by decide +kernel
theorem dX8_breaksEven_5 : decode cX8_breaksEven 5 = .ok (.invokevirtual 286, 3) := by decide +kernel
theorem dX8_breaksEven_8 : decode cX8_breaksEven 8 = .ok (.istore 4, 2) := by decide +kernel
theorem dX8_breaksEven_10 : decode cX8_breaksEven 10 = .ok (.aload_n 0, 1) := by decide +kernel
theorem dX8_breaksEven_11 : decode cX8_breaksEven 11 = .ok (.iload 4, 2) := by decide +kernel
theorem dX8_breaksEven_13 : decode cX8_breaksEven 13 = .ok (.ifCond .eq 8, 3) := by decide +kernel
theorem dX8_breaksEven_16 : decode cX8_breaksEven 16 = .ok (.iload 4, 2) := by decide +kernel
theorem dX8_breaksEven_18 : decode cX8_breaksEven 18 = .ok (.goto 17, 3) := by decide +kernel
theorem dX8_breaksEven_21 : decode cX8_breaksEven 21 = .ok (.iconst 2, 1) := by decide +kernel
theorem dX8_breaksEven_22 : decode cX8_breaksEven 22 = .ok (.iload_n 1, 1) := by decide +kernel
theorem dX8_breaksEven_23 : decode cX8_breaksEven 23 = .ok (.iload_n 2, 1) := by decide +kernel
theorem dX8_breaksEven_24 : decode cX8_breaksEven 24 = .ok (.invokestatic 260, 3) := by decide +kernel
theorem dX8_breaksEven_27 : decode cX8_breaksEven 27 = .ok (.ifCond .eq 7, 3) := by decide +kernel
theorem dX8_breaksEven_30 : decode cX8_breaksEven 30 = .ok (.iconst 0, 1) := by decide +kernel
theorem dX8_breaksEven_31 : decode cX8_breaksEven 31 = .ok (.goto 4, 3) := by decide +kernel
theorem dX8_breaksEven_34 : decode cX8_breaksEven 34 = .ok (.iconst 5, 1) := by decide +kernel
theorem dX8_breaksEven_35 : decode cX8_breaksEven 35 = .ok (.invokevirtual 162, 3) := by decide +kernel
theorem dX8_breaksEven_38 : decode cX8_breaksEven 38 = .ok (.ifCond .eq 5, 3) := by decide +kernel
theorem dX8_breaksEven_41 : decode cX8_breaksEven 41 = .ok (.iconst (-1), 1) := by decide +kernel
theorem dX8_breaksEven_42 : decode cX8_breaksEven 42 = .ok (.ireturn, 1) := by decide +kernel
theorem dX8_breaksEven_43 : decode cX8_breaksEven 43 = .ok (.iconst 0, 1) := by decide +kernel
theorem dX8_breaksEven_44 : decode cX8_breaksEven 44 = .ok (.istore 5, 2) := by decide +kernel
theorem dX8_breaksEven_46 : decode cX8_breaksEven 46 = .ok (.iload 5, 2) := by decide +kernel
theorem dX8_breaksEven_48 : decode cX8_breaksEven 48 = .ok (.bipush 20, 2) := by decide +kernel
theorem dX8_breaksEven_50 : decode cX8_breaksEven 50 = .ok (.if_icmp .gt 63, 3) := by decide +kernel
theorem dX8_breaksEven_53 : decode cX8_breaksEven 53 = .ok (.aload_n 0, 1) := by decide +kernel
theorem dX8_breaksEven_54 : decode cX8_breaksEven 54 = .ok (.iload 5, 2) := by decide +kernel
theorem dX8_breaksEven_56 : decode cX8_breaksEven 56 = .ok (.putfield 254, 3) := by decide +kernel
theorem dX8_breaksEven_59 : decode cX8_breaksEven 59 = .ok (.aload_n 0, 1) := by decide +kernel
theorem dX8_breaksEven_60 : decode cX8_breaksEven 60 = .ok (.iconst 2, 1) := by decide +kernel
theorem dX8_breaksEven_61 : decode cX8_breaksEven 61 = .ok (.iload_n 3, 1) := by decide +kernel
theorem dX8_breaksEven_62 : decode cX8_breaksEven 62 = .ok (.aload_n 0, 1) := by decide +kernel
theorem dX8_breaksEven_63 : decode cX8_breaksEven 63 = .ok (.getfield 17, 3) := by decide +kernel
theorem dX8_breaksEven_66 : decode cX8_breaksEven 66 = .ok (.bipush 60, 2) := by decide +kernel
theorem dX8_breaksEven_68 : decode cX8_breaksEven 68 = .ok (.aload_n 0, 1) := by decide +kernel
theorem dX8_breaksEven_69 : decode cX8_breaksEven 69 = .ok (.aload_n 0, 1) := by decide +kernel
theorem dX8_breaksEven_70 : decode cX8_breaksEven 70 = .ok (.getfield 17, 3) := by decide +kernel
theorem dX8_breaksEven_73 : decode cX8_breaksEven 73 = .ok (.bipush 72, 2) := by decide +kernel
theorem dX8_breaksEven_75 : decode cX8_breaksEven 75 = .ok (.iaload, 1) := by decide +kernel
theorem dX8_breaksEven_76 : decode cX8_breaksEven 76 = .ok (.invokevirtual 195, 3) := by decide +kernel
theorem dX8_breaksEven_79 : decode cX8_breaksEven 79 = .ok (.aload_n 0, 1) := by decide +kernel
theorem dX8_breaksEven_80 : decode cX8_breaksEven 80 = .ok (.getfield 17, 3) := by decide +kernel
theorem dX8_breaksEven_83 : decode cX8_breaksEven 83 = .ok (.bipush 73, 2) := by decide +kernel
theorem dX8_breaksEven_85 : decode cX8_breaksEven 85 = .ok (.iaload, 1) := by decide +kernel
theorem dX8_breaksEven_86 : decode cX8_breaksEven 86 = .ok (.invokevirtual 278, 3) := by decide +kernel
theorem dX8_breaksEven_89 : decode cX8_breaksEven 89 = .ok (.aload_n 0, 1) := by decide +kernel
theorem dX8_breaksEven_90 : decode cX8_breaksEven 90 = .ok (.getfield 36, 3) := by decide +kernel
theorem dX8_breaksEven_93 : decode cX8_breaksEven 93 = .ok (.bipush 8, 2) := by decide +kernel
theorem dX8_breaksEven_95 : decode cX8_breaksEven 95 = .ok (.iload_n 2, 1) := by decide +kernel
theorem dX8_breaksEven_96 : decode cX8_breaksEven 96 = .ok (.imul, 1) := by decide +kernel
theorem dX8_breaksEven_97 : decode cX8_breaksEven 97 = .ok (.iload_n 1, 1) := by decide +kernel
theorem dX8_breaksEven_98 : decode cX8_breaksEven 98 = .ok (.iadd, 1) := by decide +kernel
theorem dX8_breaksEven_99 : decode cX8_breaksEven 99 = .ok (.iaload, 1) := by decide +kernel
theorem dX8_breaksEven_100 : decode cX8_breaksEven 100 = .ok (.iconst 2, 1) := by decide +kernel
theorem dX8_breaksEven_101 : decode cX8_breaksEven 101 = .ok (.if_icmp .ne 6, 3) := by decide +kernel
theorem dX8_breaksEven_104 : decode cX8_breaksEven 104 = .ok (.iload 5, 2) := by decide +kernel
theorem dX8_breaksEven_106 : decode cX8_breaksEven 106 = .ok (.ireturn, 1) := by decide +kernel
theorem dX8_breaksEven_107 : decode cX8_breaksEven 107 = .ok (.iinc 5 1, 3) := by decide +kernel
theorem dX8_breaksEven_110 : decode cX8_breaksEven 110 = .ok (.goto (-64), 3) := by decide +kernel
theorem dX8_breaksEven_113 : decode cX8_breaksEven 113 = .ok (.bipush (-2), 2) := by decide +kernel
theorem dX8_breaksEven_115 : decode cX8_breaksEven 115 = .ok (.ireturn, 1) := by decide +kernel
theorem dX8_worthOf_0 : decode cX8_worthOf 0 = .ok (.aload_n 0, 1) := by decide +kernel
theorem dX8_worthOf_1 : decode cX8_worthOf 1 = .ok (.iconst 0, 1) := by decide +kernel
theorem dX8_worthOf_2 : decode cX8_worthOf 2 = .ok (.iload_n 3, 1) := by decide +kernel
theorem dX8_worthOf_3 : decode cX8_worthOf 3 = .ok (.aload_n 1, 1) := by decide +kernel
theorem dX8_worthOf_4 : decode cX8_worthOf 4 = .ok (.iload_n 2, 1) := by decide +kernel
theorem dX8_worthOf_5 : decode cX8_worthOf 5 = .ok (.iconst 0, 1) := by decide +kernel
theorem dX8_worthOf_6 : decode cX8_worthOf 6 = .ok (.iconst 0, 1) := by decide +kernel
theorem dX8_worthOf_7 : decode cX8_worthOf 7 = .ok (.invokevirtual 278, 3) := by decide +kernel
theorem dX8_worthOf_10 : decode cX8_worthOf 10 = .ok (.aload_n 0, 1) := by decide +kernel
theorem dX8_worthOf_11 : decode cX8_worthOf 11 = .ok (.getfield 29, 3) := by decide +kernel
theorem dX8_worthOf_14 : decode cX8_worthOf 14 = .ok (.iconst 0, 1) := by decide +kernel
theorem dX8_worthOf_15 : decode cX8_worthOf 15 = .ok (.laload, 1) := by decide +kernel
theorem dX8_worthOf_16 : decode cX8_worthOf 16 = .ok (.lreturn, 1) := by decide +kernel
theorem dX8_worth_0 : decode cX8_worth 0 = .ok (.aload_n 0, 1) := by decide +kernel
theorem dX8_worth_1 : decode cX8_worth 1 = .ok (.aload_n 0, 1) := by decide +kernel
theorem dX8_worth_2 : decode cX8_worth 2 = .ok (.getfield 174, 3) := by decide +kernel
theorem dX8_worth_5 : decode cX8_worth 5 = .ok (.ifCond .eq 16, 3) := by decide +kernel
theorem dX8_worth_8 : decode cX8_worth 8 = .ok (.iload_n 2, 1) := by decide +kernel
theorem dX8_worth_9 : decode cX8_worth 9 = .ok (.iconst 0, 1) := by decide +kernel
theorem dX8_worth_10 : decode cX8_worth 10 = .ok (.iconst 1, 1) := by decide +kernel
theorem dX8_worth_11 : decode cX8_worth 11 = .ok (.invokestatic 83, 3) := by decide +kernel
theorem dX8_worth_14 : decode cX8_worth 14 = .ok (.ifCond .eq 7, 3) := by decide +kernel
theorem dX8_worth_17 : decode cX8_worth 17 = .ok (.iconst 1, 1) := by decide +kernel
theorem dX8_worth_18 : decode cX8_worth 18 = .ok (.goto 4, 3) := by decide +kernel
theorem dX8_worth_21 : decode cX8_worth 21 = .ok (.iconst 0, 1) := by decide +kernel
theorem dX8_worth_22 : decode cX8_worth 22 = .ok (.iload_n 1, 1) := by decide +kernel
theorem dX8_worth_23 : decode cX8_worth 23 = .ok (.iconst 1, 1) := by decide +kernel
theorem dX8_worth_24 : decode cX8_worth 24 = .ok (.iconst 5, 1) := by decide +kernel
theorem dX8_worth_25 : decode cX8_worth 25 = .ok (.invokestatic 83, 3) := by decide +kernel
theorem dX8_worth_28 : decode cX8_worth 28 = .ok (.invokestatic 158, 3) := by decide +kernel
theorem dX8_worth_31 : decode cX8_worth 31 = .ok (.invokevirtual 162, 3) := by decide +kernel
theorem dX8_worth_34 : decode cX8_worth 34 = .ok (.ifCond .eq 7, 3) := by decide +kernel
theorem dX8_worth_37 : decode cX8_worth 37 = .ok (.ldc2_w 290, 3) := by decide +kernel
theorem dX8_worth_40 : decode cX8_worth 40 = .ok (.lreturn, 1) := by decide +kernel
theorem dX8_worth_41 : decode cX8_worth 41 = .ok (.aload_n 0, 1) := by decide +kernel
theorem dX8_worth_42 : decode cX8_worth 42 = .ok (.aload_n 0, 1) := by decide +kernel
theorem dX8_worth_43 : decode cX8_worth 43 = .ok (.getfield 17, 3) := by decide +kernel
theorem dX8_worth_46 : decode cX8_worth 46 = .ok (.bipush 60, 2) := by decide +kernel
theorem dX8_worth_48 : decode cX8_worth 48 = .ok (.iload_n 1, 1) := by decide +kernel
theorem dX8_worth_49 : decode cX8_worth 49 = .ok (.invokevirtual 303, 3) := by decide +kernel
theorem dX8_worth_52 : decode cX8_worth 52 = .ok (.lstore_n 3, 1) := by decide +kernel
theorem dX8_worth_53 : decode cX8_worth 53 = .ok (.lload_n 3, 1) := by decide +kernel
theorem dX8_worth_54 : decode cX8_worth 54 = .ok (.aload_n 0, 1) := by decide +kernel
theorem dX8_worth_55 : decode cX8_worth 55 = .ok (.getfield 233, 3) := by decide +kernel
theorem dX8_worth_58 : decode cX8_worth 58 = .ok (.iload_n 2, 1) := by decide +kernel
theorem dX8_worth_59 : decode cX8_worth 59 = .ok (.invokestatic 295, 3) := by decide +kernel
theorem dX8_worth_62 : decode cX8_worth 62 = .ok (.lreturn, 1) := by decide +kernel
theorem dX8_fillsRow_0 : decode cX8_fillsRow 0 = .ok (.iload_n 1, 1) := by decide +kernel
theorem dX8_fillsRow_1 : decode cX8_fillsRow 1 = .ok (.aload_n 0, 1) := by decide +kernel
theorem dX8_fillsRow_2 : decode cX8_fillsRow 2 = .ok (.getfield 17, 3) := by decide +kernel
theorem dX8_fillsRow_5 : decode cX8_fillsRow 5 = .ok (.iconst 0, 1) := by decide +kernel
theorem dX8_fillsRow_6 : decode cX8_fillsRow 6 = .ok (.iaload, 1) := by decide +kernel
theorem dX8_fillsRow_7 : decode cX8_fillsRow 7 = .ok (.if_icmp .ne 51, 3) := by decide +kernel
theorem dX8_fillsRow_10 : decode cX8_fillsRow 10 = .ok (.aload_n 0, 1) := by decide +kernel
theorem dX8_fillsRow_11 : decode cX8_fillsRow 11 = .ok (.aload_n 0, 1) := by decide +kernel
theorem dX8_fillsRow_12 : decode cX8_fillsRow 12 = .ok (.getfield 42, 3) := by decide +kernel
theorem dX8_fillsRow_15 : decode cX8_fillsRow 15 = .ok (.iconst 0, 1) := by decide +kernel
theorem dX8_fillsRow_16 : decode cX8_fillsRow 16 = .ok (.iload_n 3, 1) := by decide +kernel
theorem dX8_fillsRow_17 : decode cX8_fillsRow 17 = .ok (.invokevirtual 303, 3) := by decide +kernel
theorem dX8_fillsRow_20 : decode cX8_fillsRow 20 = .ok (.lstore 4, 2) := by decide +kernel
theorem dX8_fillsRow_22 : decode cX8_fillsRow 22 = .ok (.lload 4, 2) := by decide +kernel
theorem dX8_fillsRow_24 : decode cX8_fillsRow 24 = .ok (.aload_n 0, 1) := by decide +kernel
theorem dX8_fillsRow_25 : decode cX8_fillsRow 25 = .ok (.getfield 307, 3) := by decide +kernel
theorem dX8_fillsRow_28 : decode cX8_fillsRow 28 = .ok (.lcmp, 1) := by decide +kernel
theorem dX8_fillsRow_29 : decode cX8_fillsRow 29 = .ok (.ifCond .le 28, 3) := by decide +kernel
theorem dX8_fillsRow_32 : decode cX8_fillsRow 32 = .ok (.aload_n 0, 1) := by decide +kernel
theorem dX8_fillsRow_33 : decode cX8_fillsRow 33 = .ok (.lload 4, 2) := by decide +kernel
theorem dX8_fillsRow_35 : decode cX8_fillsRow 35 = .ok (.putfield 307, 3) := by decide +kernel
theorem dX8_fillsRow_38 : decode cX8_fillsRow 38 = .ok (.aload_n 0, 1) := by decide +kernel
theorem dX8_fillsRow_39 : decode cX8_fillsRow 39 = .ok (.getfield 45, 3) := by decide +kernel
theorem dX8_fillsRow_42 : decode cX8_fillsRow 42 = .ok (.iconst 0, 1) := by decide +kernel
theorem dX8_fillsRow_43 : decode cX8_fillsRow 43 = .ok (.aload_n 0, 1) := by decide +kernel
theorem dX8_fillsRow_44 : decode cX8_fillsRow 44 = .ok (.getfield 42, 3) := by decide +kernel
theorem dX8_fillsRow_47 : decode cX8_fillsRow 47 = .ok (.iconst 0, 1) := by decide +kernel
theorem dX8_fillsRow_48 : decode cX8_fillsRow 48 = .ok (.aload_n 0, 1) := by decide +kernel
theorem dX8_fillsRow_49 : decode cX8_fillsRow 49 = .ok (.getfield 17, 3) := by decide +kernel
theorem dX8_fillsRow_52 : decode cX8_fillsRow 52 = .ok (.iconst 0, 1) := by decide +kernel
theorem dX8_fillsRow_53 : decode cX8_fillsRow 53 = .ok (.iaload, 1) := by decide +kernel
theorem dX8_fillsRow_54 : decode cX8_fillsRow 54 = .ok (.invokestatic 181, 3) := by decide +kernel
theorem dX8_fillsRow_57 : decode cX8_fillsRow 57 = .ok (.return_, 1) := by decide +kernel
theorem dX8_fillsRow_58 : decode cX8_fillsRow 58 = .ok (.iconst 1, 1) := by decide +kernel
theorem dX8_fillsRow_59 : decode cX8_fillsRow 59 = .ok (.istore 4, 2) := by decide +kernel
theorem dX8_fillsRow_61 : decode cX8_fillsRow 61 = .ok (.iconst 0, 1) := by decide +kernel
theorem dX8_fillsRow_62 : decode cX8_fillsRow 62 = .ok (.istore 5, 2) := by decide +kernel
theorem dX8_fillsRow_64 : decode cX8_fillsRow 64 = .ok (.iload 5, 2) := by decide +kernel
theorem dX8_fillsRow_66 : decode cX8_fillsRow 66 = .ok (.aload_n 0, 1) := by decide +kernel
theorem dX8_fillsRow_67 : decode cX8_fillsRow 67 = .ok (.getfield 17, 3) := by decide +kernel
theorem dX8_fillsRow_70 : decode cX8_fillsRow 70 = .ok (.iconst 0, 1) := by decide +kernel
theorem dX8_fillsRow_71 : decode cX8_fillsRow 71 = .ok (.iaload, 1) := by decide +kernel
theorem dX8_fillsRow_72 : decode cX8_fillsRow 72 = .ok (.if_icmp .ge 57, 3) := by decide +kernel
theorem dX8_fillsRow_75 : decode cX8_fillsRow 75 = .ok (.iload 4, 2) := by decide +kernel
theorem dX8_fillsRow_77 : decode cX8_fillsRow 77 = .ok (.ifCond .eq 52, 3) := by decide +kernel
theorem dX8_fillsRow_80 : decode cX8_fillsRow 80 = .ok (.iload_n 2, 1) := by decide +kernel
theorem dX8_fillsRow_81 : decode cX8_fillsRow 81 = .ok (.iload 5, 2) := by decide +kernel
theorem dX8_fillsRow_83 : decode cX8_fillsRow 83 = .ok (.ishr, 1) := by decide +kernel
theorem dX8_fillsRow_84 : decode cX8_fillsRow 84 = .ok (.iconst 1, 1) := by decide +kernel
theorem dX8_fillsRow_85 : decode cX8_fillsRow 85 = .ok (.iand, 1) := by decide +kernel
theorem dX8_fillsRow_86 : decode cX8_fillsRow 86 = .ok (.ifCond .ne 37, 3) := by decide +kernel
theorem dX8_fillsRow_89 : decode cX8_fillsRow 89 = .ok (.aload_n 0, 1) := by decide +kernel
theorem dX8_fillsRow_90 : decode cX8_fillsRow 90 = .ok (.getfield 42, 3) := by decide +kernel
theorem dX8_fillsRow_93 : decode cX8_fillsRow 93 = .ok (.iload_n 1, 1) := by decide +kernel
theorem dX8_fillsRow_94 : decode cX8_fillsRow 94 = .ok (.iload 5, 2) := by decide +kernel
theorem dX8_fillsRow_96 : decode cX8_fillsRow 96 = .ok (.iastore, 1) := by decide +kernel
theorem dX8_fillsRow_97 : decode cX8_fillsRow 97 = .ok (.aload_n 0, 1) := by decide +kernel
theorem dX8_fillsRow_98 : decode cX8_fillsRow 98 = .ok (.iload_n 1, 1) := by decide +kernel
theorem dX8_fillsRow_99 : decode cX8_fillsRow 99 = .ok (.iconst 1, 1) := by decide +kernel
theorem dX8_fillsRow_100 : decode cX8_fillsRow 100 = .ok (.iadd, 1) := by decide +kernel
theorem dX8_fillsRow_101 : decode cX8_fillsRow 101 = .ok (.iload_n 2, 1) := by decide +kernel
theorem dX8_fillsRow_102 : decode cX8_fillsRow 102 = .ok (.iconst 1, 1) := by decide +kernel
theorem dX8_fillsRow_103 : decode cX8_fillsRow 103 = .ok (.iload 5, 2) := by decide +kernel
theorem dX8_fillsRow_105 : decode cX8_fillsRow 105 = .ok (.ishl, 1) := by decide +kernel
theorem dX8_fillsRow_106 : decode cX8_fillsRow 106 = .ok (.ior, 1) := by decide +kernel
theorem dX8_fillsRow_107 : decode cX8_fillsRow 107 = .ok (.iload_n 3, 1) := by decide +kernel
theorem dX8_fillsRow_108 : decode cX8_fillsRow 108 = .ok (.invokevirtual 310, 3) := by decide +kernel
theorem dX8_fillsRow_111 : decode cX8_fillsRow 111 = .ok (.iload_n 1, 1) := by decide +kernel
theorem dX8_fillsRow_112 : decode cX8_fillsRow 112 = .ok (.iload_n 3, 1) := by decide +kernel
theorem dX8_fillsRow_113 : decode cX8_fillsRow 113 = .ok (.if_icmp .ge 7, 3) := by decide +kernel
theorem dX8_fillsRow_116 : decode cX8_fillsRow 116 = .ok (.iconst 1, 1) := by decide +kernel
theorem dX8_fillsRow_117 : decode cX8_fillsRow 117 = .ok (.goto 4, 3) := by decide +kernel
theorem dX8_fillsRow_120 : decode cX8_fillsRow 120 = .ok (.iconst 0, 1) := by decide +kernel
theorem dX8_fillsRow_121 : decode cX8_fillsRow 121 = .ok (.istore 4, 2) := by decide +kernel
theorem dX8_fillsRow_123 : decode cX8_fillsRow 123 = .ok (.iinc 5 1, 3) := by decide +kernel
theorem dX8_fillsRow_126 : decode cX8_fillsRow 126 = .ok (.goto (-62), 3) := by decide +kernel
theorem dX8_fillsRow_129 : decode cX8_fillsRow 129 = .ok (.return_, 1) := by decide +kernel
theorem dX8_laysBest_0 : decode cX8_laysBest 0 = .ok (.aload_n 0, 1) := by decide +kernel
theorem dX8_laysBest_1 : decode cX8_laysBest 1 = .ok (.ldc2_w 290, 3) := by decide +kernel
theorem dX8_laysBest_4 : decode cX8_laysBest 4 = .ok (.putfield 307, 3) := by decide +kernel
theorem dX8_laysBest_7 : decode cX8_laysBest 7 = .ok (.aload_n 0, 1) := by decide +kernel
theorem dX8_laysBest_8 : decode cX8_laysBest 8 = .ok (.iconst 0, 1) := by decide +kernel
theorem dX8_laysBest_9 : decode cX8_laysBest 9 = .ok (.iconst 0, 1) := by decide +kernel
theorem dX8_laysBest_10 : decode cX8_laysBest 10 = .ok (.iload_n 1, 1) := by decide +kernel
theorem dX8_laysBest_11 : decode cX8_laysBest 11 = .ok (.invokevirtual 310, 3) := by decide +kernel
theorem dX8_laysBest_14 : decode cX8_laysBest 14 = .ok (.return_, 1) := by decide +kernel
theorem dX8_best_0 : decode cX8_best 0 = .ok (.aload_n 0, 1) := by decide +kernel
theorem dX8_best_1 : decode cX8_best 1 = .ok (.aload_n 0, 1) := by decide +kernel
theorem dX8_best_2 : decode cX8_best 2 = .ok (.getfield 174, 3) := by decide +kernel
theorem dX8_best_5 : decode cX8_best 5 = .ok (.ifCond .eq 16, 3) := by decide +kernel
theorem dX8_best_8 : decode cX8_best 8 = .ok (.iload_n 2, 1) := by decide +kernel
theorem dX8_best_9 : decode cX8_best 9 = .ok (.iconst 0, 1) := by decide +kernel
theorem dX8_best_10 : decode cX8_best 10 = .ok (.iconst 1, 1) := by decide +kernel
theorem dX8_best_11 : decode cX8_best 11 = .ok (.invokestatic 83, 3) := by decide +kernel
theorem dX8_best_14 : decode cX8_best 14 = .ok (.ifCond .eq 7, 3) := by decide +kernel
theorem dX8_best_17 : decode cX8_best 17 = .ok (.iconst 1, 1) := by decide +kernel
theorem dX8_best_18 : decode cX8_best 18 = .ok (.goto 4, 3) := by decide +kernel
theorem dX8_best_21 : decode cX8_best 21 = .ok (.iconst 0, 1) := by decide +kernel
theorem dX8_best_22 : decode cX8_best 22 = .ok (.iload_n 1, 1) := by decide +kernel
theorem dX8_best_23 : decode cX8_best 23 = .ok (.iconst 1, 1) := by decide +kernel
theorem dX8_best_24 : decode cX8_best 24 = .ok (.iconst 3, 1) := by decide +kernel
theorem dX8_best_25 : decode cX8_best 25 = .ok (.invokestatic 83, 3) := by decide +kernel
theorem dX8_best_28 : decode cX8_best 28 = .ok (.invokestatic 158, 3) := by decide +kernel
theorem dX8_best_31 : decode cX8_best 31 = .ok (.invokevirtual 162, 3) := by decide +kernel
theorem dX8_best_34 : decode cX8_best 34 = .ok (.ifCond .eq 7, 3) := by decide +kernel
theorem dX8_best_37 : decode cX8_best 37 = .ok (.ldc2_w 290, 3) := by decide +kernel
theorem dX8_best_40 : decode cX8_best 40 = .ok (.lreturn, 1) := by decide +kernel
theorem dX8_best_41 : decode cX8_best 41 = .ok (.aload_n 0, 1) := by decide +kernel
theorem dX8_best_42 : decode cX8_best 42 = .ok (.iload_n 1, 1) := by decide +kernel
theorem dX8_best_43 : decode cX8_best 43 = .ok (.invokevirtual 313, 3) := by decide +kernel
theorem dX8_best_46 : decode cX8_best 46 = .ok (.aload_n 0, 1) := by decide +kernel
theorem dX8_best_47 : decode cX8_best 47 = .ok (.getfield 307, 3) := by decide +kernel
theorem dX8_best_50 : decode cX8_best 50 = .ok (.aload_n 0, 1) := by decide +kernel
theorem dX8_best_51 : decode cX8_best 51 = .ok (.getfield 233, 3) := by decide +kernel
theorem dX8_best_54 : decode cX8_best 54 = .ok (.iload_n 2, 1) := by decide +kernel
theorem dX8_best_55 : decode cX8_best 55 = .ok (.invokestatic 295, 3) := by decide +kernel
theorem dX8_best_58 : decode cX8_best 58 = .ok (.lreturn, 1) := by decide +kernel
theorem dX8_bestAt_0 : decode cX8_bestAt 0 = .ok (.aload_n 0, 1) := by decide +kernel
theorem dX8_bestAt_1 : decode cX8_bestAt 1 = .ok (.aload_n 0, 1) := by decide +kernel
theorem dX8_bestAt_2 : decode cX8_bestAt 2 = .ok (.iload_n 2, 1) := by decide +kernel
theorem dX8_bestAt_3 : decode cX8_bestAt 3 = .ok (.invokevirtual 192, 3) := by decide +kernel
theorem dX8_bestAt_6 : decode cX8_bestAt 6 = .ok (.iload_n 1, 1) := by decide +kernel
theorem dX8_bestAt_7 : decode cX8_bestAt 7 = .ok (.iconst 1, 1) := by decide +kernel
theorem dX8_bestAt_8 : decode cX8_bestAt 8 = .ok (.iconst 3, 1) := by decide +kernel
theorem dX8_bestAt_9 : decode cX8_bestAt 9 = .ok (.invokestatic 83, 3) := by decide +kernel
theorem dX8_bestAt_12 : decode cX8_bestAt 12 = .ok (.invokestatic 158, 3) := by decide +kernel
theorem dX8_bestAt_15 : decode cX8_bestAt 15 = .ok (.invokevirtual 162, 3) := by decide +kernel
theorem dX8_bestAt_18 : decode cX8_bestAt 18 = .ok (.ifCond .eq 5, 3) := by decide +kernel
theorem dX8_bestAt_21 : decode cX8_bestAt 21 = .ok (.iconst (-1), 1) := by decide +kernel
theorem dX8_bestAt_22 : decode cX8_bestAt 22 = .ok (.ireturn, 1) := by decide +kernel
theorem dX8_bestAt_23 : decode cX8_bestAt 23 = .ok (.aload_n 0, 1) := by decide +kernel
theorem dX8_bestAt_24 : decode cX8_bestAt 24 = .ok (.iload_n 1, 1) := by decide +kernel
theorem dX8_bestAt_25 : decode cX8_bestAt 25 = .ok (.invokevirtual 313, 3) := by decide +kernel
theorem dX8_bestAt_28 : decode cX8_bestAt 28 = .ok (.aload_n 0, 1) := by decide +kernel
theorem dX8_bestAt_29 : decode cX8_bestAt 29 = .ok (.getfield 45, 3) := by decide +kernel
theorem dX8_bestAt_32 : decode cX8_bestAt 32 = .ok (.iload_n 2, 1) := by decide +kernel
theorem dX8_bestAt_33 : decode cX8_bestAt 33 = .ok (.iaload, 1) := by decide +kernel
theorem dX8_bestAt_34 : decode cX8_bestAt 34 = .ok (.ireturn, 1) := by decide +kernel
theorem dX8_changes_0 : decode cX8_changes 0 = .ok (.aload_n 1, 1) := by decide +kernel
theorem dX8_changes_1 : decode cX8_changes 1 = .ok (.iload_n 2, 1) := by decide +kernel
theorem dX8_changes_2 : decode cX8_changes 2 = .ok (.iaload, 1) := by decide +kernel
theorem dX8_changes_3 : decode cX8_changes 3 = .ok (.istore 4, 2) := by decide +kernel
theorem dX8_changes_5 : decode cX8_changes 5 = .ok (.aload_n 1, 1) := by decide +kernel
theorem dX8_changes_6 : decode cX8_changes 6 = .ok (.iload_n 2, 1) := by decide +kernel
theorem dX8_changes_7 : decode cX8_changes 7 = .ok (.aload_n 1, 1) := by decide +kernel
theorem dX8_changes_8 : decode cX8_changes 8 = .ok (.iload_n 3, 1) := by decide +kernel
theorem dX8_changes_9 : decode cX8_changes 9 = .ok (.iaload, 1) := by decide +kernel
theorem dX8_changes_10 : decode cX8_changes 10 = .ok (.iastore, 1) := by decide +kernel
theorem dX8_changes_11 : decode cX8_changes 11 = .ok (.aload_n 1, 1) := by decide +kernel
theorem dX8_changes_12 : decode cX8_changes 12 = .ok (.iload_n 3, 1) := by decide +kernel
theorem dX8_changes_13 : decode cX8_changes 13 = .ok (.iload 4, 2) := by decide +kernel
theorem dX8_changes_15 : decode cX8_changes 15 = .ok (.iastore, 1) := by decide +kernel
theorem dX8_changes_16 : decode cX8_changes 16 = .ok (.return_, 1) := by decide +kernel
theorem dX8_exchanged_0 : decode cX8_exchanged 0 = .ok (.aload_n 0, 1) := by decide +kernel
theorem dX8_exchanged_1 : decode cX8_exchanged 1 = .ok (.aload_n 0, 1) := by decide +kernel
theorem dX8_exchanged_2 : decode cX8_exchanged 2 = .ok (.iload_n 1, 1) := by decide +kernel
theorem dX8_exchanged_3 : decode cX8_exchanged 3 = .ok (.invokevirtual 192, 3) := by decide +kernel
theorem dX8_exchanged_6 : decode cX8_exchanged 6 = .ok (.ifCond .eq 15, 3) := by decide +kernel
theorem dX8_exchanged_9 : decode cX8_exchanged 9 = .ok (.aload_n 0, 1) := by decide +kernel
theorem dX8_exchanged_10 : decode cX8_exchanged 10 = .ok (.iload_n 2, 1) := by decide +kernel
theorem dX8_exchanged_11 : decode cX8_exchanged 11 = .ok (.invokevirtual 192, 3) := by decide +kernel
theorem dX8_exchanged_14 : decode cX8_exchanged 14 = .ok (.ifCond .eq 7, 3) := by decide +kernel
theorem dX8_exchanged_17 : decode cX8_exchanged 17 = .ok (.iconst 1, 1) := by decide +kernel
theorem dX8_exchanged_18 : decode cX8_exchanged 18 = .ok (.goto 4, 3) := by decide +kernel
theorem dX8_exchanged_21 : decode cX8_exchanged 21 = .ok (.iconst 0, 1) := by decide +kernel
theorem dX8_exchanged_22 : decode cX8_exchanged 22 = .ok (.iload_n 3, 1) := by decide +kernel
theorem dX8_exchanged_23 : decode cX8_exchanged 23 = .ok (.iconst 1, 1) := by decide +kernel
theorem dX8_exchanged_24 : decode cX8_exchanged 24 = .ok (.iconst 5, 1) := by decide +kernel
theorem dX8_exchanged_25 : decode cX8_exchanged 25 = .ok (.invokestatic 83, 3) := by decide +kernel
theorem dX8_exchanged_28 : decode cX8_exchanged 28 = .ok (.invokestatic 158, 3) := by decide +kernel
theorem dX8_exchanged_31 : decode cX8_exchanged 31 = .ok (.invokevirtual 162, 3) := by decide +kernel
theorem dX8_exchanged_34 : decode cX8_exchanged 34 = .ok (.ifCond .eq 5, 3) := by decide +kernel
theorem dX8_exchanged_37 : decode cX8_exchanged 37 = .ok (.iconst (-1), 1) := by decide +kernel
theorem dX8_exchanged_38 : decode cX8_exchanged 38 = .ok (.ireturn, 1) := by decide +kernel
theorem dX8_exchanged_39 : decode cX8_exchanged 39 = .ok (.aload_n 0, 1) := by decide +kernel
theorem dX8_exchanged_40 : decode cX8_exchanged 40 = .ok (.aload_n 0, 1) := by decide +kernel
theorem dX8_exchanged_41 : decode cX8_exchanged 41 = .ok (.getfield 17, 3) := by decide +kernel
theorem dX8_exchanged_44 : decode cX8_exchanged 44 = .ok (.bipush 60, 2) := by decide +kernel
theorem dX8_exchanged_46 : decode cX8_exchanged 46 = .ok (.iload_n 3, 1) := by decide +kernel
theorem dX8_exchanged_47 : decode cX8_exchanged 47 = .ok (.invokevirtual 303, 3) := by decide +kernel
theorem dX8_exchanged_50 : decode cX8_exchanged 50 = .ok (.lstore 4, 2) := by decide +kernel
theorem dX8_exchanged_52 : decode cX8_exchanged 52 = .ok (.aload_n 0, 1) := by decide +kernel
theorem dX8_exchanged_53 : decode cX8_exchanged 53 = .ok (.getfield 42, 3) := by decide +kernel
theorem dX8_exchanged_56 : decode cX8_exchanged 56 = .ok (.iconst 0, 1) := by decide +kernel
theorem dX8_exchanged_57 : decode cX8_exchanged 57 = .ok (.aload_n 0, 1) := by decide +kernel
theorem dX8_exchanged_58 : decode cX8_exchanged 58 = .ok (.getfield 17, 3) := by decide +kernel
theorem dX8_exchanged_61 : decode cX8_exchanged 61 = .ok (.bipush 60, 2) := by decide +kernel
theorem dX8_exchanged_63 : decode cX8_exchanged 63 = .ok (.aload_n 0, 1) := by decide +kernel
theorem dX8_exchanged_64 : decode cX8_exchanged 64 = .ok (.getfield 17, 3) := by decide +kernel
theorem dX8_exchanged_67 : decode cX8_exchanged 67 = .ok (.iconst 0, 1) := by decide +kernel
theorem dX8_exchanged_68 : decode cX8_exchanged 68 = .ok (.iaload, 1) := by decide +kernel
theorem dX8_exchanged_69 : decode cX8_exchanged 69 = .ok (.invokestatic 181, 3) := by decide +kernel
theorem dX8_exchanged_72 : decode cX8_exchanged 72 = .ok (.aload_n 0, 1) := by decide +kernel
theorem dX8_exchanged_73 : decode cX8_exchanged 73 = .ok (.aload_n 0, 1) := by decide +kernel
theorem dX8_exchanged_74 : decode cX8_exchanged 74 = .ok (.getfield 42, 3) := by decide +kernel
theorem dX8_exchanged_77 : decode cX8_exchanged 77 = .ok (.iload_n 1, 1) := by decide +kernel
theorem dX8_exchanged_78 : decode cX8_exchanged 78 = .ok (.iload_n 2, 1) := by decide +kernel
theorem dX8_exchanged_79 : decode cX8_exchanged 79 = .ok (.invokevirtual 316, 3) := by decide +kernel
theorem dX8_exchanged_82 : decode cX8_exchanged 82 = .ok (.aload_n 0, 1) := by decide +kernel
theorem dX8_exchanged_83 : decode cX8_exchanged 83 = .ok (.aload_n 0, 1) := by decide +kernel
theorem dX8_exchanged_84 : decode cX8_exchanged 84 = .ok (.getfield 42, 3) := by decide +kernel
theorem dX8_exchanged_87 : decode cX8_exchanged 87 = .ok (.iconst 0, 1) := by decide +kernel
theorem dX8_exchanged_88 : decode cX8_exchanged 88 = .ok (.iload_n 3, 1) := by decide +kernel
theorem dX8_exchanged_89 : decode cX8_exchanged 89 = .ok (.invokevirtual 303, 3) := by decide +kernel
theorem dX8_exchanged_92 : decode cX8_exchanged 92 = .ok (.lstore 6, 2) := by decide +kernel
theorem dX8_exchanged_94 : decode cX8_exchanged 94 = .ok (.lload 6, 2) := by decide +kernel
theorem dX8_exchanged_96 : decode cX8_exchanged 96 = .ok (.lload 4, 2) := by decide +kernel
theorem dX8_exchanged_98 : decode cX8_exchanged 98 = .ok (.lcmp, 1) := by decide +kernel
theorem dX8_exchanged_99 : decode cX8_exchanged 99 = .ok (.ifCond .le 7, 3) := by decide +kernel
theorem dX8_exchanged_102 : decode cX8_exchanged 102 = .ok (.iconst 1, 1) := by decide +kernel
theorem dX8_exchanged_103 : decode cX8_exchanged 103 = .ok (.goto 17, 3) := by decide +kernel
theorem dX8_exchanged_106 : decode cX8_exchanged 106 = .ok (.lload 6, 2) := by decide +kernel
theorem dX8_exchanged_108 : decode cX8_exchanged 108 = .ok (.lload 4, 2) := by decide +kernel
theorem dX8_exchanged_110 : decode cX8_exchanged 110 = .ok (.lcmp, 1) := by decide +kernel
theorem dX8_exchanged_111 : decode cX8_exchanged 111 = .ok (.ifCond .ne 7, 3) := by decide +kernel
theorem dX8_exchanged_114 : decode cX8_exchanged 114 = .ok (.iconst 0, 1) := by decide +kernel
theorem dX8_exchanged_115 : decode cX8_exchanged 115 = .ok (.goto 5, 3) := by decide +kernel
theorem dX8_exchanged_118 : decode cX8_exchanged 118 = .ok (.bipush (-2), 2) := by decide +kernel
theorem dX8_exchanged_120 : decode cX8_exchanged 120 = .ok (.ireturn, 1) := by decide +kernel
theorem dX8_log_0 : decode cX8_log 0 = .ok (.aload_n 0, 1) := by decide +kernel
theorem dX8_log_1 : decode cX8_log 1 = .ok (.aload_n 0, 1) := by decide +kernel
theorem dX8_log_2 : decode cX8_log 2 = .ok (.getfield 174, 3) := by decide +kernel
theorem dX8_log_5 : decode cX8_log 5 = .ok (.ifCond .eq 33, 3) := by decide +kernel
theorem dX8_log_8 : decode cX8_log 8 = .ok (.iload_n 1, 1) := by decide +kernel
theorem dX8_log_9 : decode cX8_log 9 = .ok (.iconst 0, 1) := by decide +kernel
theorem dX8_log_10 : decode cX8_log 10 = .ok (.aload_n 0, 1) := by decide +kernel
theorem dX8_log_11 : decode cX8_log 11 = .ok (.getfield 17, 3) := by decide +kernel
theorem dX8_log_14 : decode cX8_log 14 = .ok (.bipush 75, 2) := by decide +kernel
theorem dX8_log_16 : decode cX8_log 16 = .ok (.iaload, 1) := by decide +kernel
theorem dX8_log_17 : decode cX8_log 17 = .ok (.iconst 1, 1) := by decide +kernel
theorem dX8_log_18 : decode cX8_log 18 = .ok (.isub, 1) := by decide +kernel
theorem dX8_log_19 : decode cX8_log 19 = .ok (.invokestatic 83, 3) := by decide +kernel
theorem dX8_log_22 : decode cX8_log 22 = .ok (.ifCond .eq 16, 3) := by decide +kernel
theorem dX8_log_25 : decode cX8_log 25 = .ok (.iload_n 2, 1) := by decide +kernel
theorem dX8_log_26 : decode cX8_log 26 = .ok (.iconst 0, 1) := by decide +kernel
theorem dX8_log_27 : decode cX8_log 27 = .ok (.iconst 5, 1) := by decide +kernel
theorem dX8_log_28 : decode cX8_log 28 = .ok (.invokestatic 83, 3) := by decide +kernel
theorem dX8_log_31 : decode cX8_log 31 = .ok (.ifCond .eq 7, 3) := by decide +kernel
theorem dX8_log_34 : decode cX8_log 34 = .ok (.iconst 1, 1) := by decide +kernel
theorem dX8_log_35 : decode cX8_log 35 = .ok (.goto 4, 3) := by decide +kernel
theorem dX8_log_38 : decode cX8_log 38 = .ok (.iconst 0, 1) := by decide +kernel
theorem dX8_log_39 : decode cX8_log 39 = .ok (.invokestatic 189, 3) := by decide +kernel
theorem dX8_log_42 : decode cX8_log 42 = .ok (.invokevirtual 162, 3) := by decide +kernel
theorem dX8_log_45 : decode cX8_log 45 = .ok (.ifCond .eq 7, 3) := by decide +kernel
theorem dX8_log_48 : decode cX8_log 48 = .ok (.iconst (-1), 1) := by decide +kernel
theorem dX8_log_49 : decode cX8_log 49 = .ok (.goto 9, 3) := by decide +kernel
theorem dX8_log_52 : decode cX8_log 52 = .ok (.aload_n 0, 1) := by decide +kernel
theorem dX8_log_53 : decode cX8_log 53 = .ok (.iload_n 1, 1) := by decide +kernel
theorem dX8_log_54 : decode cX8_log 54 = .ok (.iload_n 2, 1) := by decide +kernel
theorem dX8_log_55 : decode cX8_log 55 = .ok (.invokevirtual 198, 3) := by decide +kernel
theorem dX8_log_58 : decode cX8_log 58 = .ok (.ireturn, 1) := by decide +kernel
theorem dX8_addedBy_0 : decode cX8_addedBy 0 = .ok (.aload_n 0, 1) := by decide +kernel
theorem dX8_addedBy_1 : decode cX8_addedBy 1 = .ok (.iload_n 1, 1) := by decide +kernel
theorem dX8_addedBy_2 : decode cX8_addedBy 2 = .ok (.bipush 7, 2) := by decide +kernel
theorem dX8_addedBy_4 : decode cX8_addedBy 4 = .ok (.invokevirtual 198, 3) := by decide +kernel
theorem dX8_addedBy_7 : decode cX8_addedBy 7 = .ok (.iconst 3, 1) := by decide +kernel
theorem dX8_addedBy_8 : decode cX8_addedBy 8 = .ok (.if_icmp .ne 7, 3) := by decide +kernel
theorem dX8_addedBy_11 : decode cX8_addedBy 11 = .ok (.lconst 0, 1) := by decide +kernel
theorem dX8_addedBy_12 : decode cX8_addedBy 12 = .ok (.goto 26, 3) := by decide +kernel
theorem dX8_addedBy_15 : decode cX8_addedBy 15 = .ok (.aload_n 0, 1) := by decide +kernel
theorem dX8_addedBy_16 : decode cX8_addedBy 16 = .ok (.getfield 29, 3) := by decide +kernel
theorem dX8_addedBy_19 : decode cX8_addedBy 19 = .ok (.bipush 8, 2) := by decide +kernel
theorem dX8_addedBy_21 : decode cX8_addedBy 21 = .ok (.aload_n 0, 1) := by decide +kernel
theorem dX8_addedBy_22 : decode cX8_addedBy 22 = .ok (.iload_n 1, 1) := by decide +kernel
theorem dX8_addedBy_23 : decode cX8_addedBy 23 = .ok (.bipush 7, 2) := by decide +kernel
theorem dX8_addedBy_25 : decode cX8_addedBy 25 = .ok (.invokevirtual 198, 3) := by decide +kernel
theorem dX8_addedBy_28 : decode cX8_addedBy 28 = .ok (.imul, 1) := by decide +kernel
theorem dX8_addedBy_29 : decode cX8_addedBy 29 = .ok (.aload_n 0, 1) := by decide +kernel
theorem dX8_addedBy_30 : decode cX8_addedBy 30 = .ok (.iload_n 1, 1) := by decide +kernel
theorem dX8_addedBy_31 : decode cX8_addedBy 31 = .ok (.bipush 6, 2) := by decide +kernel
theorem dX8_addedBy_33 : decode cX8_addedBy 33 = .ok (.invokevirtual 198, 3) := by decide +kernel
theorem dX8_addedBy_36 : decode cX8_addedBy 36 = .ok (.iadd, 1) := by decide +kernel
theorem dX8_addedBy_37 : decode cX8_addedBy 37 = .ok (.laload, 1) := by decide +kernel
theorem dX8_addedBy_38 : decode cX8_addedBy 38 = .ok (.lstore_n 2, 1) := by decide +kernel
theorem dX8_addedBy_39 : decode cX8_addedBy 39 = .ok (.aload_n 0, 1) := by decide +kernel
theorem dX8_addedBy_40 : decode cX8_addedBy 40 = .ok (.iload_n 1, 1) := by decide +kernel
theorem dX8_addedBy_41 : decode cX8_addedBy 41 = .ok (.iconst 2, 1) := by decide +kernel
theorem dX8_addedBy_42 : decode cX8_addedBy 42 = .ok (.invokevirtual 198, 3) := by decide +kernel
theorem dX8_addedBy_45 : decode cX8_addedBy 45 = .ok (.i2l, 1) := by decide +kernel
theorem dX8_addedBy_46 : decode cX8_addedBy 46 = .ok (.aload_n 0, 1) := by decide +kernel
theorem dX8_addedBy_47 : decode cX8_addedBy 47 = .ok (.getfield 233, 3) := by decide +kernel
theorem dX8_addedBy_50 : decode cX8_addedBy 50 = .ok (.lmul, 1) := by decide +kernel
theorem dX8_addedBy_51 : decode cX8_addedBy 51 = .ok (.lload_n 2, 1) := by decide +kernel
theorem dX8_addedBy_52 : decode cX8_addedBy 52 = .ok (.ladd, 1) := by decide +kernel
theorem dX8_addedBy_53 : decode cX8_addedBy 53 = .ok (.aload_n 0, 1) := by decide +kernel
theorem dX8_addedBy_54 : decode cX8_addedBy 54 = .ok (.getfield 29, 3) := by decide +kernel
theorem dX8_addedBy_57 : decode cX8_addedBy 57 = .ok (.bipush 8, 2) := by decide +kernel
theorem dX8_addedBy_59 : decode cX8_addedBy 59 = .ok (.aload_n 0, 1) := by decide +kernel
theorem dX8_addedBy_60 : decode cX8_addedBy 60 = .ok (.iload_n 1, 1) := by decide +kernel
theorem dX8_addedBy_61 : decode cX8_addedBy 61 = .ok (.iconst 5, 1) := by decide +kernel
theorem dX8_addedBy_62 : decode cX8_addedBy 62 = .ok (.invokevirtual 198, 3) := by decide +kernel
theorem dX8_addedBy_65 : decode cX8_addedBy 65 = .ok (.imul, 1) := by decide +kernel
theorem dX8_addedBy_66 : decode cX8_addedBy 66 = .ok (.aload_n 0, 1) := by decide +kernel
theorem dX8_addedBy_67 : decode cX8_addedBy 67 = .ok (.iload_n 1, 1) := by decide +kernel
theorem dX8_addedBy_68 : decode cX8_addedBy 68 = .ok (.iconst 4, 1) := by decide +kernel
theorem dX8_addedBy_69 : decode cX8_addedBy 69 = .ok (.invokevirtual 198, 3) := by decide +kernel
theorem dX8_addedBy_72 : decode cX8_addedBy 72 = .ok (.iadd, 1) := by decide +kernel
theorem dX8_addedBy_73 : decode cX8_addedBy 73 = .ok (.laload, 1) := by decide +kernel
theorem dX8_addedBy_74 : decode cX8_addedBy 74 = .ok (.lsub, 1) := by decide +kernel
theorem dX8_addedBy_75 : decode cX8_addedBy 75 = .ok (.lreturn, 1) := by decide +kernel
theorem dX8_added_0 : decode cX8_added 0 = .ok (.aload_n 0, 1) := by decide +kernel
theorem dX8_added_1 : decode cX8_added 1 = .ok (.aload_n 0, 1) := by decide +kernel
theorem dX8_added_2 : decode cX8_added 2 = .ok (.getfield 174, 3) := by decide +kernel
theorem dX8_added_5 : decode cX8_added 5 = .ok (.ifCond .eq 33, 3) := by decide +kernel
theorem dX8_added_8 : decode cX8_added 8 = .ok (.iload_n 1, 1) := by decide +kernel
theorem dX8_added_9 : decode cX8_added 9 = .ok (.iconst 0, 1) := by decide +kernel
theorem dX8_added_10 : decode cX8_added 10 = .ok (.aload_n 0, 1) := by decide +kernel
theorem dX8_added_11 : decode cX8_added 11 = .ok (.getfield 17, 3) := by decide +kernel
theorem dX8_added_14 : decode cX8_added 14 = .ok (.bipush 75, 2) := by decide +kernel
theorem dX8_added_16 : decode cX8_added 16 = .ok (.iaload, 1) := by decide +kernel
theorem dX8_added_17 : decode cX8_added 17 = .ok (.iconst 1, 1) := by decide +kernel
theorem dX8_added_18 : decode cX8_added 18 = .ok (.isub, 1) := by decide +kernel
theorem dX8_added_19 : decode cX8_added 19 = .ok (.invokestatic 83, 3) := by decide +kernel
theorem dX8_added_22 : decode cX8_added 22 = .ok (.ifCond .eq 16, 3) := by decide +kernel
theorem dX8_added_25 : decode cX8_added 25 = .ok (.iload_n 3, 1) := by decide +kernel
theorem dX8_added_26 : decode cX8_added 26 = .ok (.iconst 0, 1) := by decide +kernel
theorem dX8_added_27 : decode cX8_added 27 = .ok (.iconst 1, 1) := by decide +kernel
theorem dX8_added_28 : decode cX8_added 28 = .ok (.invokestatic 83, 3) := by decide +kernel
theorem dX8_added_31 : decode cX8_added 31 = .ok (.ifCond .eq 7, 3) := by decide +kernel
theorem dX8_added_34 : decode cX8_added 34 = .ok (.iconst 1, 1) := by decide +kernel
theorem dX8_added_35 : decode cX8_added 35 = .ok (.goto 4, 3) := by decide +kernel
theorem dX8_added_38 : decode cX8_added 38 = .ok (.iconst 0, 1) := by decide +kernel
theorem dX8_added_39 : decode cX8_added 39 = .ok (.iload_n 2, 1) := by decide +kernel
theorem dX8_added_40 : decode cX8_added 40 = .ok (.iconst 1, 1) := by decide +kernel
theorem dX8_added_41 : decode cX8_added 41 = .ok (.iconst 5, 1) := by decide +kernel
theorem dX8_added_42 : decode cX8_added 42 = .ok (.invokestatic 83, 3) := by decide +kernel
theorem dX8_added_45 : decode cX8_added 45 = .ok (.invokestatic 158, 3) := by decide +kernel
theorem dX8_added_48 : decode cX8_added 48 = .ok (.invokevirtual 162, 3) := by decide +kernel
theorem dX8_added_51 : decode cX8_added 51 = .ok (.ifCond .eq 7, 3) := by decide +kernel
theorem dX8_added_54 : decode cX8_added 54 = .ok (.ldc2_w 290, 3) := by decide +kernel
theorem dX8_added_57 : decode cX8_added 57 = .ok (.lreturn, 1) := by decide +kernel
theorem dX8_added_58 : decode cX8_added 58 = .ok (.aload_n 0, 1) := by decide +kernel
theorem dX8_added_59 : decode cX8_added 59 = .ok (.iconst 3, 1) := by decide +kernel
theorem dX8_added_60 : decode cX8_added 60 = .ok (.iload_n 2, 1) := by decide +kernel
theorem dX8_added_61 : decode cX8_added 61 = .ok (.invokevirtual 292, 3) := by decide +kernel
theorem dX8_added_64 : decode cX8_added 64 = .ok (.aload_n 0, 1) := by decide +kernel
theorem dX8_added_65 : decode cX8_added 65 = .ok (.iload_n 1, 1) := by decide +kernel
theorem dX8_added_66 : decode cX8_added 66 = .ok (.invokevirtual 320, 3) := by decide +kernel
theorem dX8_added_69 : decode cX8_added 69 = .ok (.aload_n 0, 1) := by decide +kernel
theorem dX8_added_70 : decode cX8_added 70 = .ok (.getfield 233, 3) := by decide +kernel
theorem dX8_added_73 : decode cX8_added 73 = .ok (.iload_n 3, 1) := by decide +kernel
theorem dX8_added_74 : decode cX8_added 74 = .ok (.invokestatic 295, 3) := by decide +kernel
theorem dX8_added_77 : decode cX8_added 77 = .ok (.lreturn, 1) := by decide +kernel
theorem dX8_addedByAll_0 : decode cX8_addedByAll 0 = .ok (.aload_n 0, 1) := by decide +kernel
theorem dX8_addedByAll_1 : decode cX8_addedByAll 1 = .ok (.iconst 3, 1) := by decide +kernel
theorem dX8_addedByAll_2 : decode cX8_addedByAll 2 = .ok (.iload_n 2, 1) := by decide +kernel
theorem dX8_addedByAll_3 : decode cX8_addedByAll 3 = .ok (.invokevirtual 292, 3) := by decide +kernel
theorem dX8_addedByAll_6 : decode cX8_addedByAll 6 = .ok (.lconst 0, 1) := by decide +kernel
theorem dX8_addedByAll_7 : decode cX8_addedByAll 7 = .ok (.lstore 4, 2) := by decide +kernel
theorem dX8_addedByAll_9 : decode cX8_addedByAll 9 = .ok (.iconst 0, 1) := by decide +kernel
theorem dX8_addedByAll_10 : decode cX8_addedByAll 10 = .ok (.istore 6, 2) := by decide +kernel
theorem dX8_addedByAll_12 : decode cX8_addedByAll 12 = .ok (.iload 6, 2) := by decide +kernel
theorem dX8_addedByAll_14 : decode cX8_addedByAll 14 = .ok (.aload_n 0, 1) := by decide +kernel
theorem dX8_addedByAll_15 : decode cX8_addedByAll 15 = .ok (.getfield 17, 3) := by decide +kernel
theorem dX8_addedByAll_18 : decode cX8_addedByAll 18 = .ok (.bipush 75, 2) := by decide +kernel
theorem dX8_addedByAll_20 : decode cX8_addedByAll 20 = .ok (.iaload, 1) := by decide +kernel
theorem dX8_addedByAll_21 : decode cX8_addedByAll 21 = .ok (.if_icmp .ge 40, 3) := by decide +kernel
theorem dX8_addedByAll_24 : decode cX8_addedByAll 24 = .ok (.lload 4, 2) := by decide +kernel
theorem dX8_addedByAll_26 : decode cX8_addedByAll 26 = .ok (.iload_n 1, 1) := by decide +kernel
theorem dX8_addedByAll_27 : decode cX8_addedByAll 27 = .ok (.iconst (-1), 1) := by decide +kernel
theorem dX8_addedByAll_28 : decode cX8_addedByAll 28 = .ok (.if_icmp .eq 14, 3) := by decide +kernel
theorem dX8_addedByAll_31 : decode cX8_addedByAll 31 = .ok (.aload_n 0, 1) := by decide +kernel
theorem dX8_addedByAll_32 : decode cX8_addedByAll 32 = .ok (.iload 6, 2) := by decide +kernel
theorem dX8_addedByAll_34 : decode cX8_addedByAll 34 = .ok (.iconst 0, 1) := by decide +kernel
theorem dX8_addedByAll_35 : decode cX8_addedByAll 35 = .ok (.invokevirtual 198, 3) := by decide +kernel
theorem dX8_addedByAll_38 : decode cX8_addedByAll 38 = .ok (.iload_n 1, 1) := by decide +kernel
theorem dX8_addedByAll_39 : decode cX8_addedByAll 39 = .ok (.if_icmp .ne 12, 3) := by decide +kernel
theorem dX8_addedByAll_42 : decode cX8_addedByAll 42 = .ok (.aload_n 0, 1) := by decide +kernel
theorem dX8_addedByAll_43 : decode cX8_addedByAll 43 = .ok (.iload 6, 2) := by decide +kernel
theorem dX8_addedByAll_45 : decode cX8_addedByAll 45 = .ok (.invokevirtual 320, 3) := by decide +kernel
theorem dX8_addedByAll_48 : decode cX8_addedByAll 48 = .ok (.goto 4, 3) := by decide +kernel
theorem dX8_addedByAll_51 : decode cX8_addedByAll 51 = .ok (.lconst 0, 1) := by decide +kernel
theorem dX8_addedByAll_52 : decode cX8_addedByAll 52 = .ok (.ladd, 1) := by decide +kernel
theorem dX8_addedByAll_53 : decode cX8_addedByAll 53 = .ok (.lstore 4, 2) := by decide +kernel
theorem dX8_addedByAll_55 : decode cX8_addedByAll 55 = .ok (.iinc 6 1, 3) := by decide +kernel
theorem dX8_addedByAll_58 : decode cX8_addedByAll 58 = .ok (.goto (-46), 3) := by decide +kernel
theorem dX8_addedByAll_61 : decode cX8_addedByAll 61 = .ok (.lload 4, 2) := by decide +kernel
theorem dX8_addedByAll_63 : decode cX8_addedByAll 63 = .ok (.aload_n 0, 1) := by decide +kernel
theorem dX8_addedByAll_64 : decode cX8_addedByAll 64 = .ok (.getfield 233, 3) := by decide +kernel
theorem dX8_addedByAll_67 : decode cX8_addedByAll 67 = .ok (.iload_n 3, 1) := by decide +kernel
theorem dX8_addedByAll_68 : decode cX8_addedByAll 68 = .ok (.invokestatic 295, 3) := by decide +kernel
theorem dX8_addedByAll_71 : decode cX8_addedByAll 71 = .ok (.lreturn, 1) := by decide +kernel
theorem dX8_credit_0 : decode cX8_credit 0 = .ok (.aload_n 0, 1) := by decide +kernel
theorem dX8_credit_1 : decode cX8_credit 1 = .ok (.aload_n 0, 1) := by decide +kernel
theorem dX8_credit_2 : decode cX8_credit 2 = .ok (.iload_n 1, 1) := by decide +kernel
theorem dX8_credit_3 : decode cX8_credit 3 = .ok (.invokevirtual 192, 3) := by decide +kernel
theorem dX8_credit_6 : decode cX8_credit 6 = .ok (.ifCond .eq 16, 3) := by decide +kernel
theorem dX8_credit_9 : decode cX8_credit 9 = .ok (.iload_n 3, 1) := by decide +kernel
theorem dX8_credit_10 : decode cX8_credit 10 = .ok (.iconst 0, 1) := by decide +kernel
theorem dX8_credit_11 : decode cX8_credit 11 = .ok (.iconst 1, 1) := by decide +kernel
theorem dX8_credit_12 : decode cX8_credit 12 = .ok (.invokestatic 83, 3) := by decide +kernel
theorem dX8_credit_15 : decode cX8_credit 15 = .ok (.ifCond .eq 7, 3) := by decide +kernel
theorem dX8_credit_18 : decode cX8_credit 18 = .ok (.iconst 1, 1) := by decide +kernel
theorem dX8_credit_19 : decode cX8_credit 19 = .ok (.goto 4, 3) := by decide +kernel
theorem dX8_credit_22 : decode cX8_credit 22 = .ok (.iconst 0, 1) := by decide +kernel
theorem dX8_credit_23 : decode cX8_credit 23 = .ok (.iload_n 2, 1) := by decide +kernel
theorem dX8_credit_24 : decode cX8_credit 24 = .ok (.iconst 1, 1) := by decide +kernel
theorem dX8_credit_25 : decode cX8_credit 25 = .ok (.iconst 5, 1) := by decide +kernel
theorem dX8_credit_26 : decode cX8_credit 26 = .ok (.invokestatic 83, 3) := by decide +kernel
theorem dX8_credit_29 : decode cX8_credit 29 = .ok (.invokestatic 158, 3) := by decide +kernel
theorem dX8_credit_32 : decode cX8_credit 32 = .ok (.invokevirtual 162, 3) := by decide +kernel
theorem dX8_credit_35 : decode cX8_credit 35 = .ok (.ifCond .eq 9, 3) := by decide +kernel
theorem dX8_credit_38 : decode cX8_credit 38 = .ok (.ldc2_w 290, 3) := by decide +kernel
theorem dX8_credit_41 : decode cX8_credit 41 = .ok (.goto 10, 3) := by decide +kernel
theorem dX8_credit_44 : decode cX8_credit 44 = .ok (.aload_n 0, 1) := by decide +kernel
theorem dX8_credit_45 : decode cX8_credit 45 = .ok (.iload_n 1, 1) := by decide +kernel
theorem dX8_credit_46 : decode cX8_credit 46 = .ok (.iload_n 2, 1) := by decide +kernel
theorem dX8_credit_47 : decode cX8_credit 47 = .ok (.iload_n 3, 1) := by decide +kernel
theorem dX8_credit_48 : decode cX8_credit 48 = .ok (.invokevirtual 323, 3) := by decide +kernel
theorem dX8_credit_51 : decode cX8_credit 51 = .ok (.lreturn, 1) := by decide +kernel
theorem dX8_all_0 : decode cX8_all 0 = .ok (.aload_n 0, 1) := by decide +kernel
theorem dX8_all_1 : decode cX8_all 1 = .ok (.aload_n 0, 1) := by decide +kernel
theorem dX8_all_2 : decode cX8_all 2 = .ok (.getfield 174, 3) := by decide +kernel
theorem dX8_all_5 : decode cX8_all 5 = .ok (.ifCond .eq 16, 3) := by decide +kernel
theorem dX8_all_8 : decode cX8_all 8 = .ok (.iload_n 2, 1) := by decide +kernel
theorem dX8_all_9 : decode cX8_all 9 = .ok (.iconst 0, 1) := by decide +kernel
theorem dX8_all_10 : decode cX8_all 10 = .ok (.iconst 1, 1) := by decide +kernel
theorem dX8_all_11 : decode cX8_all 11 = .ok (.invokestatic 83, 3) := by decide +kernel
theorem dX8_all_14 : decode cX8_all 14 = .ok (.ifCond .eq 7, 3) := by decide +kernel
theorem dX8_all_17 : decode cX8_all 17 = .ok (.iconst 1, 1) := by decide +kernel
theorem dX8_all_18 : decode cX8_all 18 = .ok (.goto 4, 3) := by decide +kernel
theorem dX8_all_21 : decode cX8_all 21 = .ok (.iconst 0, 1) := by decide +kernel
theorem dX8_all_22 : decode cX8_all 22 = .ok (.iload_n 1, 1) := by decide +kernel
theorem dX8_all_23 : decode cX8_all 23 = .ok (.iconst 1, 1) := by decide +kernel
theorem dX8_all_24 : decode cX8_all 24 = .ok (.iconst 5, 1) := by decide +kernel
theorem dX8_all_25 : decode cX8_all 25 = .ok (.invokestatic 83, 3) := by decide +kernel
theorem dX8_all_28 : decode cX8_all 28 = .ok (.invokestatic 158, 3) := by decide +kernel
theorem dX8_all_31 : decode cX8_all 31 = .ok (.invokevirtual 162, 3) := by decide +kernel
theorem dX8_all_34 : decode cX8_all 34 = .ok (.ifCond .eq 9, 3) := by decide +kernel
theorem dX8_all_37 : decode cX8_all 37 = .ok (.ldc2_w 290, 3) := by decide +kernel
theorem dX8_all_40 : decode cX8_all 40 = .ok (.goto 10, 3) := by decide +kernel
theorem dX8_all_43 : decode cX8_all 43 = .ok (.aload_n 0, 1) := by decide +kernel
theorem dX8_all_44 : decode cX8_all 44 = .ok (.iconst (-1), 1) := by decide +kernel
theorem dX8_all_45 : decode cX8_all 45 = .ok (.iload_n 1, 1) := by decide +kernel
theorem dX8_all_46 : decode cX8_all 46 = .ok (.iload_n 2, 1) := by decide +kernel
theorem dX8_all_47 : decode cX8_all 47 = .ok (.invokevirtual 323, 3) := by decide +kernel
theorem dX8_all_50 : decode cX8_all 50 = .ok (.lreturn, 1) := by decide +kernel
theorem dX8_logs_0 : decode cX8_logs 0 = .ok (.aload_n 0, 1) := by decide +kernel
theorem dX8_logs_1 : decode cX8_logs 1 = .ok (.getfield 17, 3) := by decide +kernel
theorem dX8_logs_4 : decode cX8_logs 4 = .ok (.bipush 75, 2) := by decide +kernel
theorem dX8_logs_6 : decode cX8_logs 6 = .ok (.iaload, 1) := by decide +kernel
theorem dX8_logs_7 : decode cX8_logs 7 = .ok (.bipush 40, 2) := by decide +kernel
theorem dX8_logs_9 : decode cX8_logs 9 = .ok (.if_icmp .ne 47, 3) := by decide +kernel
theorem dX8_logs_12 : decode cX8_logs 12 = .ok (.iconst 0, 1) := by decide +kernel
theorem dX8_logs_13 : decode cX8_logs 13 = .ok (.istore_n 2, 1) := by decide +kernel
theorem dX8_logs_14 : decode cX8_logs 14 = .ok (.iload_n 2, 1) := by decide +kernel
theorem dX8_logs_15 : decode cX8_logs 15 = .ok (.sipush 312, 3) := by decide +kernel
theorem dX8_logs_18 : decode cX8_logs 18 = .ok (.if_icmp .ge 27, 3) := by decide +kernel
theorem dX8_logs_21 : decode cX8_logs 21 = .ok (.aload_n 0, 1) := by decide +kernel
theorem dX8_logs_22 : decode cX8_logs 22 = .ok (.getfield 17, 3) := by decide +kernel
theorem dX8_logs_25 : decode cX8_logs 25 = .ok (.bipush 76, 2) := by decide +kernel
theorem dX8_logs_27 : decode cX8_logs 27 = .ok (.iload_n 2, 1) := by decide +kernel
theorem dX8_logs_28 : decode cX8_logs 28 = .ok (.iadd, 1) := by decide +kernel
theorem dX8_logs_29 : decode cX8_logs 29 = .ok (.aload_n 0, 1) := by decide +kernel
theorem dX8_logs_30 : decode cX8_logs 30 = .ok (.getfield 17, 3) := by decide +kernel
theorem dX8_logs_33 : decode cX8_logs 33 = .ok (.bipush 84, 2) := by decide +kernel
theorem dX8_logs_35 : decode cX8_logs 35 = .ok (.iload_n 2, 1) := by decide +kernel
theorem dX8_logs_36 : decode cX8_logs 36 = .ok (.iadd, 1) := by decide +kernel
theorem dX8_logs_37 : decode cX8_logs 37 = .ok (.iaload, 1) := by decide +kernel
theorem dX8_logs_38 : decode cX8_logs 38 = .ok (.iastore, 1) := by decide +kernel
theorem dX8_logs_39 : decode cX8_logs 39 = .ok (.iinc 2 1, 3) := by decide +kernel
theorem dX8_logs_42 : decode cX8_logs 42 = .ok (.goto (-28), 3) := by decide +kernel
theorem dX8_logs_45 : decode cX8_logs 45 = .ok (.aload_n 0, 1) := by decide +kernel
theorem dX8_logs_46 : decode cX8_logs 46 = .ok (.getfield 17, 3) := by decide +kernel
theorem dX8_logs_49 : decode cX8_logs 49 = .ok (.bipush 75, 2) := by decide +kernel
theorem dX8_logs_51 : decode cX8_logs 51 = .ok (.dup2, 1) := by decide +kernel
theorem dX8_logs_52 : decode cX8_logs 52 = .ok (.iaload, 1) := by decide +kernel
theorem dX8_logs_53 : decode cX8_logs 53 = .ok (.iconst 1, 1) := by decide +kernel
theorem dX8_logs_54 : decode cX8_logs 54 = .ok (.isub, 1) := by decide +kernel
theorem dX8_logs_55 : decode cX8_logs 55 = .ok (.iastore, 1) := by decide +kernel
theorem dX8_logs_56 : decode cX8_logs 56 = .ok (.bipush 76, 2) := by decide +kernel
theorem dX8_logs_58 : decode cX8_logs 58 = .ok (.bipush 8, 2) := by decide +kernel
theorem dX8_logs_60 : decode cX8_logs 60 = .ok (.aload_n 0, 1) := by decide +kernel
theorem dX8_logs_61 : decode cX8_logs 61 = .ok (.getfield 17, 3) := by decide +kernel
theorem dX8_logs_64 : decode cX8_logs 64 = .ok (.bipush 75, 2) := by decide +kernel
theorem dX8_logs_66 : decode cX8_logs 66 = .ok (.iaload, 1) := by decide +kernel
theorem dX8_logs_67 : decode cX8_logs 67 = .ok (.imul, 1) := by decide +kernel
theorem dX8_logs_68 : decode cX8_logs 68 = .ok (.iadd, 1) := by decide +kernel
theorem dX8_logs_69 : decode cX8_logs 69 = .ok (.istore_n 2, 1) := by decide +kernel
theorem dX8_logs_70 : decode cX8_logs 70 = .ok (.aload_n 0, 1) := by decide +kernel
theorem dX8_logs_71 : decode cX8_logs 71 = .ok (.getfield 17, 3) := by decide +kernel
theorem dX8_logs_74 : decode cX8_logs 74 = .ok (.iload_n 2, 1) := by decide +kernel
theorem dX8_logs_75 : decode cX8_logs 75 = .ok (.aload_n 0, 1) := by decide +kernel
theorem dX8_logs_76 : decode cX8_logs 76 = .ok (.getfield 17, 3) := by decide +kernel
theorem dX8_logs_79 : decode cX8_logs 79 = .ok (.bipush 72, 2) := by decide +kernel
theorem dX8_logs_81 : decode cX8_logs 81 = .ok (.iaload, 1) := by decide +kernel
theorem dX8_logs_82 : decode cX8_logs 82 = .ok (.iastore, 1) := by decide +kernel
theorem dX8_logs_83 : decode cX8_logs 83 = .ok (.aload_n 0, 1) := by decide +kernel
theorem dX8_logs_84 : decode cX8_logs 84 = .ok (.getfield 17, 3) := by decide +kernel
theorem dX8_logs_87 : decode cX8_logs 87 = .ok (.iload_n 2, 1) := by decide +kernel
theorem dX8_logs_88 : decode cX8_logs 88 = .ok (.iconst 1, 1) := by decide +kernel
theorem dX8_logs_89 : decode cX8_logs 89 = .ok (.iadd, 1) := by decide +kernel
theorem dX8_logs_90 : decode cX8_logs 90 = .ok (.iload_n 1, 1) := by decide +kernel
theorem dX8_logs_91 : decode cX8_logs 91 = .ok (.iastore, 1) := by decide +kernel
theorem dX8_logs_92 : decode cX8_logs 92 = .ok (.aload_n 0, 1) := by decide +kernel
theorem dX8_logs_93 : decode cX8_logs 93 = .ok (.getfield 17, 3) := by decide +kernel
theorem dX8_logs_96 : decode cX8_logs 96 = .ok (.iload_n 2, 1) := by decide +kernel
theorem dX8_logs_97 : decode cX8_logs 97 = .ok (.iconst 2, 1) := by decide +kernel
theorem dX8_logs_98 : decode cX8_logs 98 = .ok (.iadd, 1) := by decide +kernel
theorem dX8_logs_99 : decode cX8_logs 99 = .ok (.aload_n 0, 1) := by decide +kernel
theorem dX8_logs_100 : decode cX8_logs 100 = .ok (.getfield 206, 3) := by decide +kernel
theorem dX8_logs_103 : decode cX8_logs 103 = .ok (.iastore, 1) := by decide +kernel
theorem dX8_logs_104 : decode cX8_logs 104 = .ok (.aload_n 0, 1) := by decide +kernel
theorem dX8_logs_105 : decode cX8_logs 105 = .ok (.getfield 17, 3) := by decide +kernel
theorem dX8_logs_108 : decode cX8_logs 108 = .ok (.iload_n 2, 1) := by decide +kernel
theorem dX8_logs_109 : decode cX8_logs 109 = .ok (.iconst 3, 1) := by decide +kernel
theorem dX8_logs_110 : decode cX8_logs 110 = .ok (.iadd, 1) := by decide +kernel
theorem dX8_logs_111 : decode cX8_logs 111 = .ok (.aload_n 0, 1) := by decide +kernel
theorem dX8_logs_112 : decode cX8_logs 112 = .ok (.getfield 17, 3) := by decide +kernel
theorem dX8_logs_115 : decode cX8_logs 115 = .ok (.bipush 69, 2) := by decide +kernel
theorem dX8_logs_117 : decode cX8_logs 117 = .ok (.iaload, 1) := by decide +kernel
theorem dX8_logs_118 : decode cX8_logs 118 = .ok (.iastore, 1) := by decide +kernel
theorem dX8_logs_119 : decode cX8_logs 119 = .ok (.aload_n 0, 1) := by decide +kernel
theorem dX8_logs_120 : decode cX8_logs 120 = .ok (.getfield 17, 3) := by decide +kernel
theorem dX8_logs_123 : decode cX8_logs 123 = .ok (.iload_n 2, 1) := by decide +kernel
theorem dX8_logs_124 : decode cX8_logs 124 = .ok (.iconst 4, 1) := by decide +kernel
theorem dX8_logs_125 : decode cX8_logs 125 = .ok (.iadd, 1) := by decide +kernel
theorem dX8_logs_126 : decode cX8_logs 126 = .ok (.aload_n 0, 1) := by decide +kernel
theorem dX8_logs_127 : decode cX8_logs 127 = .ok (.getfield 17, 3) := by decide +kernel
theorem dX8_logs_130 : decode cX8_logs 130 = .ok (.bipush 70, 2) := by decide +kernel
theorem dX8_logs_132 : decode cX8_logs 132 = .ok (.iaload, 1) := by decide +kernel
theorem dX8_logs_133 : decode cX8_logs 133 = .ok (.iastore, 1) := by decide +kernel
theorem dX8_logs_134 : decode cX8_logs 134 = .ok (.aload_n 0, 1) := by decide +kernel
theorem dX8_logs_135 : decode cX8_logs 135 = .ok (.getfield 17, 3) := by decide +kernel
theorem dX8_logs_138 : decode cX8_logs 138 = .ok (.iload_n 2, 1) := by decide +kernel
theorem dX8_logs_139 : decode cX8_logs 139 = .ok (.iconst 5, 1) := by decide +kernel
theorem dX8_logs_140 : decode cX8_logs 140 = .ok (.iadd, 1) := by decide +kernel
theorem dX8_logs_141 : decode cX8_logs 141 = .ok (.aload_n 0, 1) := by decide +kernel
theorem dX8_logs_142 : decode cX8_logs 142 = .ok (.getfield 17, 3) := by decide +kernel
theorem dX8_logs_145 : decode cX8_logs 145 = .ok (.bipush 71, 2) := by decide +kernel
theorem dX8_logs_147 : decode cX8_logs 147 = .ok (.iaload, 1) := by decide +kernel
theorem dX8_logs_148 : decode cX8_logs 148 = .ok (.iastore, 1) := by decide +kernel
theorem dX8_logs_149 : decode cX8_logs 149 = .ok (.aload_n 0, 1) := by decide +kernel
theorem dX8_logs_150 : decode cX8_logs 150 = .ok (.getfield 17, 3) := by decide +kernel
theorem dX8_logs_153 : decode cX8_logs 153 = .ok (.iload_n 2, 1) := by decide +kernel
theorem dX8_logs_154 : decode cX8_logs 154 = .ok (.bipush 6, 2) := by decide +kernel
theorem dX8_logs_156 : decode cX8_logs 156 = .ok (.iadd, 1) := by decide +kernel
theorem dX8_logs_157 : decode cX8_logs 157 = .ok (.aload_n 0, 1) := by decide +kernel
theorem dX8_logs_158 : decode cX8_logs 158 = .ok (.getfield 209, 3) := by decide +kernel
theorem dX8_logs_161 : decode cX8_logs 161 = .ok (.iastore, 1) := by decide +kernel
theorem dX8_logs_162 : decode cX8_logs 162 = .ok (.aload_n 0, 1) := by decide +kernel
theorem dX8_logs_163 : decode cX8_logs 163 = .ok (.getfield 17, 3) := by decide +kernel
theorem dX8_logs_166 : decode cX8_logs 166 = .ok (.iload_n 2, 1) := by decide +kernel
theorem dX8_logs_167 : decode cX8_logs 167 = .ok (.bipush 7, 2) := by decide +kernel
theorem dX8_logs_169 : decode cX8_logs 169 = .ok (.iadd, 1) := by decide +kernel
theorem dX8_logs_170 : decode cX8_logs 170 = .ok (.aload_n 0, 1) := by decide +kernel
theorem dX8_logs_171 : decode cX8_logs 171 = .ok (.getfield 216, 3) := by decide +kernel
theorem dX8_logs_174 : decode cX8_logs 174 = .ok (.iastore, 1) := by decide +kernel
theorem dX8_logs_175 : decode cX8_logs 175 = .ok (.aload_n 0, 1) := by decide +kernel
theorem dX8_logs_176 : decode cX8_logs 176 = .ok (.getfield 17, 3) := by decide +kernel
theorem dX8_logs_179 : decode cX8_logs 179 = .ok (.bipush 75, 2) := by decide +kernel
theorem dX8_logs_181 : decode cX8_logs 181 = .ok (.dup2, 1) := by decide +kernel
theorem dX8_logs_182 : decode cX8_logs 182 = .ok (.iaload, 1) := by decide +kernel
theorem dX8_logs_183 : decode cX8_logs 183 = .ok (.iconst 1, 1) := by decide +kernel
theorem dX8_logs_184 : decode cX8_logs 184 = .ok (.iadd, 1) := by decide +kernel
