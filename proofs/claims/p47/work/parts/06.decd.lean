theorem dL_goes_10 : decode cL_goes 10 = .ok (.iconst 3, 1) := by decide +kernel
theorem dL_goes_11 : decode cL_goes 11 = .ok (.irem, 1) := by decide +kernel
theorem dL_goes_12 : decode cL_goes 12 = .ok (.istore 4, 2) := by decide +kernel
theorem dL_goes_14 : decode cL_goes 14 = .ok (.aload_n 3, 1) := by decide +kernel
theorem dL_goes_15 : decode cL_goes 15 = .ok (.iconst 2, 1) := by decide +kernel
theorem dL_goes_16 : decode cL_goes 16 = .ok (.iaload, 1) := by decide +kernel
theorem dL_goes_17 : decode cL_goes 17 = .ok (.istore 5, 2) := by decide +kernel
theorem dL_goes_19 : decode cL_goes 19 = .ok (.aload_n 3, 1) := by decide +kernel
theorem dL_goes_20 : decode cL_goes 20 = .ok (.iconst 2, 1) := by decide +kernel
theorem dL_goes_21 : decode cL_goes 21 = .ok (.iload 4, 2) := by decide +kernel
theorem dL_goes_23 : decode cL_goes 23 = .ok (.iastore, 1) := by decide +kernel
theorem dL_goes_24 : decode cL_goes 24 = .ok (.aload_n 0, 1) := by decide +kernel
theorem dL_goes_25 : decode cL_goes 25 = .ok (.iload 4, 2) := by decide +kernel
theorem dL_goes_27 : decode cL_goes 27 = .ok (.invokevirtual 91, 3) := by decide +kernel
theorem dL_goes_30 : decode cL_goes 30 = .ok (.iload 5, 2) := by decide +kernel
theorem dL_goes_32 : decode cL_goes 32 = .ok (.iload 4, 2) := by decide +kernel
theorem dL_goes_34 : decode cL_goes 34 = .ok (.if_icmp .ne 8, 3) := by decide +kernel
theorem dL_goes_37 : decode cL_goes 37 = .ok (.bipush (-4), 2) := by decide +kernel
theorem dL_goes_39 : decode cL_goes 39 = .ok (.goto 5, 3) := by decide +kernel
theorem dL_goes_42 : decode cL_goes 42 = .ok (.iload 5, 2) := by decide +kernel
theorem dL_goes_44 : decode cL_goes 44 = .ok (.if_icmp .ne 18, 3) := by decide +kernel
theorem dL_goes_47 : decode cL_goes 47 = .ok (.iload 5, 2) := by decide +kernel
theorem dL_goes_49 : decode cL_goes 49 = .ok (.iload 4, 2) := by decide +kernel
theorem dL_goes_51 : decode cL_goes 51 = .ok (.if_icmp .ne 7, 3) := by decide +kernel
theorem dL_goes_54 : decode cL_goes 54 = .ok (.iconst 0, 1) := by decide +kernel
theorem dL_goes_55 : decode cL_goes 55 = .ok (.goto 8, 3) := by decide +kernel
theorem dL_goes_58 : decode cL_goes 58 = .ok (.iconst 1, 1) := by decide +kernel
theorem dL_goes_59 : decode cL_goes 59 = .ok (.goto 4, 3) := by decide +kernel
theorem dL_goes_62 : decode cL_goes 62 = .ok (.iconst (-1), 1) := by decide +kernel
theorem dL_goes_63 : decode cL_goes 63 = .ok (.ireturn, 1) := by decide +kernel
theorem dL_goes_64 : decode cL_goes 64 = .ok (.iload_n 1, 1) := by decide +kernel
theorem dL_goes_65 : decode cL_goes 65 = .ok (.bipush 8, 2) := by decide +kernel
theorem dL_goes_67 : decode cL_goes 67 = .ok (.idiv, 1) := by decide +kernel
theorem dL_goes_68 : decode cL_goes 68 = .ok (.aload_n 2, 1) := by decide +kernel
theorem dL_goes_69 : decode cL_goes 69 = .ok (.iconst 0, 1) := by decide +kernel
theorem dL_goes_70 : decode cL_goes 70 = .ok (.iaload, 1) := by decide +kernel
theorem dL_goes_71 : decode cL_goes 71 = .ok (.irem, 1) := by decide +kernel
theorem dL_goes_72 : decode cL_goes 72 = .ok (.istore 4, 2) := by decide +kernel
theorem dL_goes_74 : decode cL_goes 74 = .ok (.aload_n 2, 1) := by decide +kernel
theorem dL_goes_75 : decode cL_goes 75 = .ok (.aload_n 3, 1) := by decide +kernel
theorem dL_goes_76 : decode cL_goes 76 = .ok (.iload 4, 2) := by decide +kernel
theorem dL_goes_78 : decode cL_goes 78 = .ok (.invokestatic 94, 3) := by decide +kernel
theorem dL_goes_81 : decode cL_goes 81 = .ok (.aload_n 0, 1) := by decide +kernel
theorem dL_goes_82 : decode cL_goes 82 = .ok (.iload 4, 2) := by decide +kernel
theorem dL_goes_84 : decode cL_goes 84 = .ok (.invokevirtual 98, 3) := by decide +kernel
theorem dL_goes_87 : decode cL_goes 87 = .ok (.aload_n 3, 1) := by decide +kernel
theorem dL_goes_88 : decode cL_goes 88 = .ok (.iconst 0, 1) := by decide +kernel
theorem dL_goes_89 : decode cL_goes 89 = .ok (.iaload, 1) := by decide +kernel
theorem dL_goes_90 : decode cL_goes 90 = .ok (.if_icmp .ne 7, 3) := by decide +kernel
theorem dL_goes_93 : decode cL_goes 93 = .ok (.iconst 1, 1) := by decide +kernel
theorem dL_goes_94 : decode cL_goes 94 = .ok (.goto 4, 3) := by decide +kernel
theorem dL_goes_97 : decode cL_goes 97 = .ok (.iconst (-1), 1) := by decide +kernel
theorem dL_goes_98 : decode cL_goes 98 = .ok (.ireturn, 1) := by decide +kernel
theorem dL_law_0 : decode cL_law 0 = .ok (.new 9, 3) := by decide +kernel
theorem dL_law_3 : decode cL_law 3 = .ok (.dup, 1) := by decide +kernel
theorem dL_law_4 : decode cL_law 4 = .ok (.invokespecial 100, 3) := by decide +kernel
theorem dL_law_7 : decode cL_law 7 = .ok (.astore_n 1, 1) := by decide +kernel
theorem dL_law_8 : decode cL_law 8 = .ok (.bipush 24, 2) := by decide +kernel
theorem dL_law_10 : decode cL_law 10 = .ok (.newarray .int, 2) := by decide +kernel
theorem dL_law_12 : decode cL_law 12 = .ok (.astore_n 2, 1) := by decide +kernel
theorem dL_law_13 : decode cL_law 13 = .ok (.bipush 12, 2) := by decide +kernel
theorem dL_law_15 : decode cL_law 15 = .ok (.newarray .int, 2) := by decide +kernel
theorem dL_law_17 : decode cL_law 17 = .ok (.astore_n 3, 1) := by decide +kernel
theorem dL_law_18 : decode cL_law 18 = .ok (.aload_n 0, 1) := by decide +kernel
theorem dL_law_19 : decode cL_law 19 = .ok (.bipush 10, 2) := by decide +kernel
theorem dL_law_21 : decode cL_law 21 = .ok (.iconst 5, 1) := by decide +kernel
theorem dL_law_22 : decode cL_law 22 = .ok (.bipush 30, 2) := by decide +kernel
theorem dL_law_24 : decode cL_law 24 = .ok (.aload_n 2, 1) := by decide +kernel
theorem dL_law_25 : decode cL_law 25 = .ok (.invokestatic 101, 3) := by decide +kernel
theorem dL_law_28 : decode cL_law 28 = .ok (.aload_n 1, 1) := by decide +kernel
theorem dL_law_29 : decode cL_law 29 = .ok (.aload_n 2, 1) := by decide +kernel
theorem dL_law_30 : decode cL_law 30 = .ok (.invokestatic 105, 3) := by decide +kernel
theorem dL_law_33 : decode cL_law 33 = .ok (.ifCond .eq 11, 3) := by decide +kernel
theorem dL_law_36 : decode cL_law 36 = .ok (.aload_n 1, 1) := by decide +kernel
theorem dL_law_37 : decode cL_law 37 = .ok (.iconst 0, 1) := by decide +kernel
theorem dL_law_38 : decode cL_law 38 = .ok (.invokevirtual 108, 3) := by decide +kernel
theorem dL_law_41 : decode cL_law 41 = .ok (.ifCond .eq 5, 3) := by decide +kernel
theorem dL_law_44 : decode cL_law 44 = .ok (.iconst 0, 1) := by decide +kernel
theorem dL_law_45 : decode cL_law 45 = .ok (.ireturn, 1) := by decide +kernel
theorem dL_law_46 : decode cL_law 46 = .ok (.aload_n 1, 1) := by decide +kernel
theorem dL_law_47 : decode cL_law 47 = .ok (.invokevirtual 111, 3) := by decide +kernel
theorem dL_law_50 : decode cL_law 50 = .ok (.lstore 4, 2) := by decide +kernel
theorem dL_law_52 : decode cL_law 52 = .ok (.aload_n 2, 1) := by decide +kernel
theorem dL_law_53 : decode cL_law 53 = .ok (.iconst 0, 1) := by decide +kernel
theorem dL_law_54 : decode cL_law 54 = .ok (.iaload, 1) := by decide +kernel
theorem dL_law_55 : decode cL_law 55 = .ok (.istore 6, 2) := by decide +kernel
theorem dL_law_57 : decode cL_law 57 = .ok (.iconst 0, 1) := by decide +kernel
theorem dL_law_58 : decode cL_law 58 = .ok (.istore 7, 2) := by decide +kernel
theorem dL_law_60 : decode cL_law 60 = .ok (.iconst 0, 1) := by decide +kernel
theorem dL_law_61 : decode cL_law 61 = .ok (.istore 8, 2) := by decide +kernel
theorem dL_law_63 : decode cL_law 63 = .ok (.iload 8, 2) := by decide +kernel
theorem dL_law_65 : decode cL_law 65 = .ok (.bipush 8, 2) := by decide +kernel
theorem dL_law_67 : decode cL_law 67 = .ok (.if_icmp .ge 59, 3) := by decide +kernel
theorem dL_law_70 : decode cL_law 70 = .ok (.aload_n 1, 1) := by decide +kernel
theorem dL_law_71 : decode cL_law 71 = .ok (.aload_n 0, 1) := by decide +kernel
theorem dL_law_72 : decode cL_law 72 = .ok (.bipush 30, 2) := by decide +kernel
theorem dL_law_74 : decode cL_law 74 = .ok (.iload 8, 2) := by decide +kernel
theorem dL_law_76 : decode cL_law 76 = .ok (.iadd, 1) := by decide +kernel
theorem dL_law_77 : decode cL_law 77 = .ok (.invokestatic 14, 3) := by decide +kernel
theorem dL_law_80 : decode cL_law 80 = .ok (.aload_n 2, 1) := by decide +kernel
theorem dL_law_81 : decode cL_law 81 = .ok (.aload_n 3, 1) := by decide +kernel
theorem dL_law_82 : decode cL_law 82 = .ok (.invokestatic 114, 3) := by decide +kernel
theorem dL_law_85 : decode cL_law 85 = .ok (.istore 9, 2) := by decide +kernel
theorem dL_law_87 : decode cL_law 87 = .ok (.iload 7, 2) := by decide +kernel
theorem dL_law_89 : decode cL_law 89 = .ok (.iload 9, 2) := by decide +kernel
theorem dL_law_91 : decode cL_law 91 = .ok (.iadd, 1) := by decide +kernel
theorem dL_law_92 : decode cL_law 92 = .ok (.istore 7, 2) := by decide +kernel
theorem dL_law_94 : decode cL_law 94 = .ok (.iload 9, 2) := by decide +kernel
theorem dL_law_96 : decode cL_law 96 = .ok (.ifCond .lt 22, 3) := by decide +kernel
theorem dL_law_99 : decode cL_law 99 = .ok (.aload_n 1, 1) := by decide +kernel
theorem dL_law_100 : decode cL_law 100 = .ok (.iconst 4, 1) := by decide +kernel
theorem dL_law_101 : decode cL_law 101 = .ok (.invokevirtual 49, 3) := by decide +kernel
theorem dL_law_104 : decode cL_law 104 = .ok (.iload 7, 2) := by decide +kernel
theorem dL_law_106 : decode cL_law 106 = .ok (.if_icmp .ne 12, 3) := by decide +kernel
theorem dL_law_109 : decode cL_law 109 = .ok (.aload_n 1, 1) := by decide +kernel
theorem dL_law_110 : decode cL_law 110 = .ok (.iload 6, 2) := by decide +kernel
theorem dL_law_112 : decode cL_law 112 = .ok (.invokestatic 118, 3) := by decide +kernel
theorem dL_law_115 : decode cL_law 115 = .ok (.ifCond .ne 5, 3) := by decide +kernel
theorem dL_law_118 : decode cL_law 118 = .ok (.iconst 0, 1) := by decide +kernel
theorem dL_law_119 : decode cL_law 119 = .ok (.ireturn, 1) := by decide +kernel
theorem dL_law_120 : decode cL_law 120 = .ok (.iinc 8 1, 3) := by decide +kernel
theorem dL_law_123 : decode cL_law 123 = .ok (.goto (-60), 3) := by decide +kernel
theorem dL_law_126 : decode cL_law 126 = .ok (.aload_n 1, 1) := by decide +kernel
theorem dL_law_127 : decode cL_law 127 = .ok (.aload_n 0, 1) := by decide +kernel
theorem dL_law_128 : decode cL_law 128 = .ok (.iload 6, 2) := by decide +kernel
theorem dL_law_130 : decode cL_law 130 = .ok (.iload 7, 2) := by decide +kernel
theorem dL_law_132 : decode cL_law 132 = .ok (.invokestatic 122, 3) := by decide +kernel
theorem dL_law_135 : decode cL_law 135 = .ok (.ifCond .eq 91, 3) := by decide +kernel
theorem dL_law_138 : decode cL_law 138 = .ok (.aload_n 1, 1) := by decide +kernel
theorem dL_law_139 : decode cL_law 139 = .ok (.iload 6, 2) := by decide +kernel
theorem dL_law_141 : decode cL_law 141 = .ok (.iload 7, 2) := by decide +kernel
theorem dL_law_143 : decode cL_law 143 = .ok (.invokestatic 126, 3) := by decide +kernel
theorem dL_law_146 : decode cL_law 146 = .ok (.ifCond .eq 80, 3) := by decide +kernel
theorem dL_law_149 : decode cL_law 149 = .ok (.aload_n 1, 1) := by decide +kernel
theorem dL_law_150 : decode cL_law 150 = .ok (.aload_n 0, 1) := by decide +kernel
theorem dL_law_151 : decode cL_law 151 = .ok (.iload 6, 2) := by decide +kernel
theorem dL_law_153 : decode cL_law 153 = .ok (.iload 7, 2) := by decide +kernel
theorem dL_law_155 : decode cL_law 155 = .ok (.invokestatic 130, 3) := by decide +kernel
theorem dL_law_158 : decode cL_law 158 = .ok (.ifCond .eq 68, 3) := by decide +kernel
theorem dL_law_161 : decode cL_law 161 = .ok (.aload_n 1, 1) := by decide +kernel
theorem dL_law_162 : decode cL_law 162 = .ok (.aload_n 0, 1) := by decide +kernel
theorem dL_law_163 : decode cL_law 163 = .ok (.iload 6, 2) := by decide +kernel
theorem dL_law_165 : decode cL_law 165 = .ok (.iload 7, 2) := by decide +kernel
theorem dL_law_167 : decode cL_law 167 = .ok (.invokestatic 133, 3) := by decide +kernel
theorem dL_law_170 : decode cL_law 170 = .ok (.ifCond .eq 56, 3) := by decide +kernel
theorem dL_law_173 : decode cL_law 173 = .ok (.aload_n 1, 1) := by decide +kernel
theorem dL_law_174 : decode cL_law 174 = .ok (.aload_n 0, 1) := by decide +kernel
theorem dL_law_175 : decode cL_law 175 = .ok (.iload 6, 2) := by decide +kernel
theorem dL_law_177 : decode cL_law 177 = .ok (.iload 7, 2) := by decide +kernel
theorem dL_law_179 : decode cL_law 179 = .ok (.invokestatic 136, 3) := by decide +kernel
theorem dL_law_182 : decode cL_law 182 = .ok (.ifCond .eq 44, 3) := by decide +kernel
theorem dL_law_185 : decode cL_law 185 = .ok (.aload_n 1, 1) := by decide +kernel
theorem dL_law_186 : decode cL_law 186 = .ok (.aload_n 0, 1) := by decide +kernel
theorem dL_law_187 : decode cL_law 187 = .ok (.invokestatic 139, 3) := by decide +kernel
theorem dL_law_190 : decode cL_law 190 = .ok (.ifCond .eq 36, 3) := by decide +kernel
theorem dL_law_193 : decode cL_law 193 = .ok (.aload_n 1, 1) := by decide +kernel
theorem dL_law_194 : decode cL_law 194 = .ok (.iconst 1, 1) := by decide +kernel
theorem dL_law_195 : decode cL_law 195 = .ok (.invokevirtual 142, 3) := by decide +kernel
theorem dL_law_198 : decode cL_law 198 = .ok (.iconst (-1), 1) := by decide +kernel
theorem dL_law_199 : decode cL_law 199 = .ok (.if_icmp .eq 27, 3) := by decide +kernel
theorem dL_law_202 : decode cL_law 202 = .ok (.aload_n 1, 1) := by decide +kernel
theorem dL_law_203 : decode cL_law 203 = .ok (.iconst 0, 1) := by decide +kernel
theorem dL_law_204 : decode cL_law 204 = .ok (.invokevirtual 145, 3) := by decide +kernel
theorem dL_law_207 : decode cL_law 207 = .ok (.iload 7, 2) := by decide +kernel
theorem dL_law_209 : decode cL_law 209 = .ok (.if_icmp .ne 17, 3) := by decide +kernel
theorem dL_law_212 : decode cL_law 212 = .ok (.aload_n 1, 1) := by decide +kernel
theorem dL_law_213 : decode cL_law 213 = .ok (.invokevirtual 111, 3) := by decide +kernel
theorem dL_law_216 : decode cL_law 216 = .ok (.lload 4, 2) := by decide +kernel
theorem dL_law_218 : decode cL_law 218 = .ok (.lcmp, 1) := by decide +kernel
theorem dL_law_219 : decode cL_law 219 = .ok (.ifCond .ne 7, 3) := by decide +kernel
theorem dL_law_222 : decode cL_law 222 = .ok (.iconst 1, 1) := by decide +kernel
theorem dL_law_223 : decode cL_law 223 = .ok (.goto 4, 3) := by decide +kernel
theorem dL_law_226 : decode cL_law 226 = .ok (.iconst 0, 1) := by decide +kernel
theorem dL_law_227 : decode cL_law 227 = .ok (.ireturn, 1) := by decide +kernel
theorem dL_paced_0 : decode cL_paced 0 = .ok (.iconst 0, 1) := by decide +kernel
theorem dL_paced_1 : decode cL_paced 1 = .ok (.istore_n 2, 1) := by decide +kernel
theorem dL_paced_2 : decode cL_paced 2 = .ok (.iconst 0, 1) := by decide +kernel
theorem dL_paced_3 : decode cL_paced 3 = .ok (.istore_n 3, 1) := by decide +kernel
theorem dL_paced_4 : decode cL_paced 4 = .ok (.iload_n 3, 1) := by decide +kernel
theorem dL_paced_5 : decode cL_paced 5 = .ok (.iload_n 1, 1) := by decide +kernel
theorem dL_paced_6 : decode cL_paced 6 = .ok (.if_icmp .ge 22, 3) := by decide +kernel
theorem dL_paced_9 : decode cL_paced 9 = .ok (.iload_n 2, 1) := by decide +kernel
theorem dL_paced_10 : decode cL_paced 10 = .ok (.aload_n 0, 1) := by decide +kernel
theorem dL_paced_11 : decode cL_paced 11 = .ok (.aload_n 0, 1) := by decide +kernel
theorem dL_paced_12 : decode cL_paced 12 = .ok (.iload_n 3, 1) := by decide +kernel
theorem dL_paced_13 : decode cL_paced 13 = .ok (.iconst 4, 1) := by decide +kernel
theorem dL_paced_14 : decode cL_paced 14 = .ok (.invokevirtual 52, 3) := by decide +kernel
theorem dL_paced_17 : decode cL_paced 17 = .ok (.invokestatic 55, 3) := by decide +kernel
theorem dL_paced_20 : decode cL_paced 20 = .ok (.iadd, 1) := by decide +kernel
theorem dL_paced_21 : decode cL_paced 21 = .ok (.istore_n 2, 1) := by decide +kernel
theorem dL_paced_22 : decode cL_paced 22 = .ok (.iinc 3 1, 3) := by decide +kernel
theorem dL_paced_25 : decode cL_paced 25 = .ok (.goto (-21), 3) := by decide +kernel
theorem dL_paced_28 : decode cL_paced 28 = .ok (.aload_n 0, 1) := by decide +kernel
theorem dL_paced_29 : decode cL_paced 29 = .ok (.iconst 1, 1) := by decide +kernel
theorem dL_paced_30 : decode cL_paced 30 = .ok (.invokevirtual 49, 3) := by decide +kernel
theorem dL_paced_33 : decode cL_paced 33 = .ok (.istore_n 3, 1) := by decide +kernel
theorem dL_paced_34 : decode cL_paced 34 = .ok (.aload_n 0, 1) := by decide +kernel
theorem dL_paced_35 : decode cL_paced 35 = .ok (.invokevirtual 69, 3) := by decide +kernel
theorem dL_paced_38 : decode cL_paced 38 = .ok (.istore 4, 2) := by decide +kernel
theorem dL_paced_40 : decode cL_paced 40 = .ok (.iload_n 2, 1) := by decide +kernel
theorem dL_paced_41 : decode cL_paced 41 = .ok (.ifCond .ne 34, 3) := by decide +kernel
theorem dL_paced_44 : decode cL_paced 44 = .ok (.iload 4, 2) := by decide +kernel
theorem dL_paced_46 : decode cL_paced 46 = .ok (.bipush (-3), 2) := by decide +kernel
theorem dL_paced_48 : decode cL_paced 48 = .ok (.if_icmp .ne 23, 3) := by decide +kernel
theorem dL_paced_51 : decode cL_paced 51 = .ok (.aload_n 0, 1) := by decide +kernel
theorem dL_paced_52 : decode cL_paced 52 = .ok (.iconst 2, 1) := by decide +kernel
theorem dL_paced_53 : decode cL_paced 53 = .ok (.invokevirtual 49, 3) := by decide +kernel
theorem dL_paced_56 : decode cL_paced 56 = .ok (.ifCond .ne 15, 3) := by decide +kernel
theorem dL_paced_59 : decode cL_paced 59 = .ok (.aload_n 0, 1) := by decide +kernel
theorem dL_paced_60 : decode cL_paced 60 = .ok (.iconst 3, 1) := by decide +kernel
theorem dL_paced_61 : decode cL_paced 61 = .ok (.invokevirtual 49, 3) := by decide +kernel
theorem dL_paced_64 : decode cL_paced 64 = .ok (.ifCond .ne 7, 3) := by decide +kernel
theorem dL_paced_67 : decode cL_paced 67 = .ok (.iconst 1, 1) := by decide +kernel
theorem dL_paced_68 : decode cL_paced 68 = .ok (.goto 91, 3) := by decide +kernel
theorem dL_paced_71 : decode cL_paced 71 = .ok (.iconst 0, 1) := by decide +kernel
theorem dL_paced_72 : decode cL_paced 72 = .ok (.goto 87, 3) := by decide +kernel
theorem dL_paced_75 : decode cL_paced 75 = .ok (.iload 4, 2) := by decide +kernel
theorem dL_paced_77 : decode cL_paced 77 = .ok (.iconst 1, 1) := by decide +kernel
theorem dL_paced_78 : decode cL_paced 78 = .ok (.if_icmp .ne 80, 3) := by decide +kernel
theorem dL_paced_81 : decode cL_paced 81 = .ok (.iload_n 2, 1) := by decide +kernel
theorem dL_paced_82 : decode cL_paced 82 = .ok (.i2l, 1) := by decide +kernel
theorem dL_paced_83 : decode cL_paced 83 = .ok (.aload_n 0, 1) := by decide +kernel
theorem dL_paced_84 : decode cL_paced 84 = .ok (.invokevirtual 75, 3) := by decide +kernel
theorem dL_paced_87 : decode cL_paced 87 = .ok (.lrem, 1) := by decide +kernel
theorem dL_paced_88 : decode cL_paced 88 = .ok (.lconst 0, 1) := by decide +kernel
theorem dL_paced_89 : decode cL_paced 89 = .ok (.lcmp, 1) := by decide +kernel
theorem dL_paced_90 : decode cL_paced 90 = .ok (.ifCond .ne 68, 3) := by decide +kernel
theorem dL_paced_93 : decode cL_paced 93 = .ok (.aload_n 0, 1) := by decide +kernel
theorem dL_paced_94 : decode cL_paced 94 = .ok (.invokevirtual 79, 3) := by decide +kernel
theorem dL_paced_97 : decode cL_paced 97 = .ok (.iload_n 2, 1) := by decide +kernel
theorem dL_paced_98 : decode cL_paced 98 = .ok (.i2l, 1) := by decide +kernel
theorem dL_paced_99 : decode cL_paced 99 = .ok (.aload_n 0, 1) := by decide +kernel
theorem dL_paced_100 : decode cL_paced 100 = .ok (.invokevirtual 75, 3) := by decide +kernel
theorem dL_paced_103 : decode cL_paced 103 = .ok (.ldiv, 1) := by decide +kernel
theorem dL_paced_104 : decode cL_paced 104 = .ok (.lmul, 1) := by decide +kernel
theorem dL_paced_105 : decode cL_paced 105 = .ok (.aload_n 0, 1) := by decide +kernel
theorem dL_paced_106 : decode cL_paced 106 = .ok (.iconst 3, 1) := by decide +kernel
theorem dL_paced_107 : decode cL_paced 107 = .ok (.invokevirtual 49, 3) := by decide +kernel
theorem dL_paced_110 : decode cL_paced 110 = .ok (.i2l, 1) := by decide +kernel
theorem dL_paced_111 : decode cL_paced 111 = .ok (.iload_n 3, 1) := by decide +kernel
theorem dL_paced_112 : decode cL_paced 112 = .ok (.i2l, 1) := by decide +kernel
theorem dL_paced_113 : decode cL_paced 113 = .ok (.lmul, 1) := by decide +kernel
theorem dL_paced_114 : decode cL_paced 114 = .ok (.aload_n 0, 1) := by decide +kernel
theorem dL_paced_115 : decode cL_paced 115 = .ok (.iconst 2, 1) := by decide +kernel
theorem dL_paced_116 : decode cL_paced 116 = .ok (.invokevirtual 49, 3) := by decide +kernel
theorem dL_paced_119 : decode cL_paced 119 = .ok (.i2l, 1) := by decide +kernel
theorem dL_paced_120 : decode cL_paced 120 = .ok (.ladd, 1) := by decide +kernel
theorem dL_paced_121 : decode cL_paced 121 = .ok (.lcmp, 1) := by decide +kernel
theorem dL_paced_122 : decode cL_paced 122 = .ok (.ifCond .ne 36, 3) := by decide +kernel
theorem dL_paced_125 : decode cL_paced 125 = .ok (.aload_n 0, 1) := by decide +kernel
theorem dL_paced_126 : decode cL_paced 126 = .ok (.invokevirtual 66, 3) := by decide +kernel
theorem dL_paced_129 : decode cL_paced 129 = .ok (.bipush 12, 2) := by decide +kernel
theorem dL_paced_131 : decode cL_paced 131 = .ok (.aload_n 0, 1) := by decide +kernel
theorem dL_paced_132 : decode cL_paced 132 = .ok (.iconst 2, 1) := by decide +kernel
theorem dL_paced_133 : decode cL_paced 133 = .ok (.invokevirtual 49, 3) := by decide +kernel
theorem dL_paced_136 : decode cL_paced 136 = .ok (.imul, 1) := by decide +kernel
theorem dL_paced_137 : decode cL_paced 137 = .ok (.iload_n 3, 1) := by decide +kernel
theorem dL_paced_138 : decode cL_paced 138 = .ok (.idiv, 1) := by decide +kernel
theorem dL_paced_139 : decode cL_paced 139 = .ok (.if_icmp .ne 19, 3) := by decide +kernel
theorem dL_paced_142 : decode cL_paced 142 = .ok (.aload_n 0, 1) := by decide +kernel
theorem dL_paced_143 : decode cL_paced 143 = .ok (.invokevirtual 45, 3) := by decide +kernel
theorem dL_paced_146 : decode cL_paced 146 = .ok (.aload_n 0, 1) := by decide +kernel
theorem dL_paced_147 : decode cL_paced 147 = .ok (.iconst 3, 1) := by decide +kernel
theorem dL_paced_148 : decode cL_paced 148 = .ok (.invokevirtual 49, 3) := by decide +kernel
theorem dL_paced_151 : decode cL_paced 151 = .ok (.if_icmp .ne 7, 3) := by decide +kernel
theorem dL_paced_154 : decode cL_paced 154 = .ok (.iconst 1, 1) := by decide +kernel
theorem dL_paced_155 : decode cL_paced 155 = .ok (.goto 4, 3) := by decide +kernel
theorem dL_paced_158 : decode cL_paced 158 = .ok (.iconst 0, 1) := by decide +kernel
theorem dL_paced_159 : decode cL_paced 159 = .ok (.ireturn, 1) := by decide +kernel
theorem dL_ordered_0 : decode cL_ordered 0 = .ok (.aload_n 1, 1) := by decide +kernel
theorem dL_ordered_1 : decode cL_ordered 1 = .ok (.bipush 40, 2) := by decide +kernel
theorem dL_ordered_3 : decode cL_ordered 3 = .ok (.invokestatic 14, 3) := by decide +kernel
theorem dL_ordered_6 : decode cL_ordered 6 = .ok (.iload_n 2, 1) := by decide +kernel
theorem dL_ordered_7 : decode cL_ordered 7 = .ok (.irem, 1) := by decide +kernel
theorem dL_ordered_8 : decode cL_ordered 8 = .ok (.istore 4, 2) := by decide +kernel
theorem dL_ordered_10 : decode cL_ordered 10 = .ok (.aload_n 1, 1) := by decide +kernel
theorem dL_ordered_11 : decode cL_ordered 11 = .ok (.bipush 41, 2) := by decide +kernel
theorem dL_ordered_13 : decode cL_ordered 13 = .ok (.invokestatic 14, 3) := by decide +kernel
theorem dL_ordered_16 : decode cL_ordered 16 = .ok (.aload_n 0, 1) := by decide +kernel
theorem dL_ordered_17 : decode cL_ordered 17 = .ok (.iconst 1, 1) := by decide +kernel
theorem dL_ordered_18 : decode cL_ordered 18 = .ok (.invokevirtual 49, 3) := by decide +kernel
theorem dL_ordered_21 : decode cL_ordered 21 = .ok (.irem, 1) := by decide +kernel
theorem dL_ordered_22 : decode cL_ordered 22 = .ok (.istore 5, 2) := by decide +kernel
theorem dL_ordered_24 : decode cL_ordered 24 = .ok (.aload_n 0, 1) := by decide +kernel
theorem dL_ordered_25 : decode cL_ordered 25 = .ok (.iload 4, 2) := by decide +kernel
theorem dL_ordered_27 : decode cL_ordered 27 = .ok (.iload 5, 2) := by decide +kernel
theorem dL_ordered_29 : decode cL_ordered 29 = .ok (.iconst 1, 1) := by decide +kernel
theorem dL_ordered_30 : decode cL_ordered 30 = .ok (.invokevirtual 148, 3) := by decide +kernel
theorem dL_ordered_33 : decode cL_ordered 33 = .ok (.istore 6, 2) := by decide +kernel
theorem dL_ordered_35 : decode cL_ordered 35 = .ok (.aload_n 0, 1) := by decide +kernel
theorem dL_ordered_36 : decode cL_ordered 36 = .ok (.invokevirtual 151, 3) := by decide +kernel
theorem dL_ordered_39 : decode cL_ordered 39 = .ok (.istore 7, 2) := by decide +kernel
theorem dL_ordered_41 : decode cL_ordered 41 = .ok (.aload_n 0, 1) := by decide +kernel
theorem dL_ordered_42 : decode cL_ordered 42 = .ok (.invokevirtual 79, 3) := by decide +kernel
theorem dL_ordered_45 : decode cL_ordered 45 = .ok (.lstore 8, 2) := by decide +kernel
theorem dL_ordered_47 : decode cL_ordered 47 = .ok (.aload_n 0, 1) := by decide +kernel
theorem dL_ordered_48 : decode cL_ordered 48 = .ok (.invokevirtual 45, 3) := by decide +kernel
theorem dL_ordered_51 : decode cL_ordered 51 = .ok (.istore 10, 2) := by decide +kernel
theorem dL_ordered_53 : decode cL_ordered 53 = .ok (.iload 7, 2) := by decide +kernel
theorem dL_ordered_55 : decode cL_ordered 55 = .ok (.iconst 1, 1) := by decide +kernel
theorem dL_ordered_56 : decode cL_ordered 56 = .ok (.if_icmp .ne 35, 3) := by decide +kernel
theorem dL_ordered_59 : decode cL_ordered 59 = .ok (.lload 8, 2) := by decide +kernel
theorem dL_ordered_61 : decode cL_ordered 61 = .ok (.lconst 0, 1) := by decide +kernel
theorem dL_ordered_62 : decode cL_ordered 62 = .ok (.lcmp, 1) := by decide +kernel
theorem dL_ordered_63 : decode cL_ordered 63 = .ok (.ifCond .lt 28, 3) := by decide +kernel
theorem dL_ordered_66 : decode cL_ordered 66 = .ok (.lload 8, 2) := by decide +kernel
theorem dL_ordered_68 : decode cL_ordered 68 = .ok (.lconst 0, 1) := by decide +kernel
theorem dL_ordered_69 : decode cL_ordered 69 = .ok (.lcmp, 1) := by decide +kernel
theorem dL_ordered_70 : decode cL_ordered 70 = .ok (.ifCond .le 7, 3) := by decide +kernel
theorem dL_ordered_73 : decode cL_ordered 73 = .ok (.iconst 1, 1) := by decide +kernel
theorem dL_ordered_74 : decode cL_ordered 74 = .ok (.goto 4, 3) := by decide +kernel
theorem dL_ordered_77 : decode cL_ordered 77 = .ok (.iconst 0, 1) := by decide +kernel
theorem dL_ordered_78 : decode cL_ordered 78 = .ok (.iload 10, 2) := by decide +kernel
theorem dL_ordered_80 : decode cL_ordered 80 = .ok (.ifCond .le 7, 3) := by decide +kernel
theorem dL_ordered_83 : decode cL_ordered 83 = .ok (.iconst 1, 1) := by decide +kernel
theorem dL_ordered_84 : decode cL_ordered 84 = .ok (.goto 4, 3) := by decide +kernel
theorem dL_ordered_87 : decode cL_ordered 87 = .ok (.iconst 0, 1) := by decide +kernel
theorem dL_ordered_88 : decode cL_ordered 88 = .ok (.if_icmp .eq 5, 3) := by decide +kernel
theorem dL_ordered_91 : decode cL_ordered 91 = .ok (.iconst 0, 1) := by decide +kernel
theorem dL_ordered_92 : decode cL_ordered 92 = .ok (.ireturn, 1) := by decide +kernel
theorem dL_ordered_93 : decode cL_ordered 93 = .ok (.iload 6, 2) := by decide +kernel
theorem dL_ordered_95 : decode cL_ordered 95 = .ok (.ifCond .ge 16, 3) := by decide +kernel
theorem dL_ordered_98 : decode cL_ordered 98 = .ok (.iload 6, 2) := by decide +kernel
theorem dL_ordered_100 : decode cL_ordered 100 = .ok (.bipush (-9), 2) := by decide +kernel
theorem dL_ordered_102 : decode cL_ordered 102 = .ok (.if_icmp .ne 7, 3) := by decide +kernel
theorem dL_ordered_105 : decode cL_ordered 105 = .ok (.iconst 1, 1) := by decide +kernel
theorem dL_ordered_106 : decode cL_ordered 106 = .ok (.goto 4, 3) := by decide +kernel
theorem dL_ordered_109 : decode cL_ordered 109 = .ok (.iconst 0, 1) := by decide +kernel
theorem dL_ordered_110 : decode cL_ordered 110 = .ok (.ireturn, 1) := by decide +kernel
theorem dL_ordered_111 : decode cL_ordered 111 = .ok (.aload_n 0, 1) := by decide +kernel
theorem dL_ordered_112 : decode cL_ordered 112 = .ok (.invokevirtual 59, 3) := by decide +kernel
theorem dL_ordered_115 : decode cL_ordered 115 = .ok (.istore 11, 2) := by decide +kernel
theorem dL_ordered_117 : decode cL_ordered 117 = .ok (.iconst 0, 1) := by decide +kernel
theorem dL_ordered_118 : decode cL_ordered 118 = .ok (.istore 12, 2) := by decide +kernel
theorem dL_ordered_120 : decode cL_ordered 120 = .ok (.iconst 0, 1) := by decide +kernel
theorem dL_ordered_121 : decode cL_ordered 121 = .ok (.istore 13, 2) := by decide +kernel
theorem dL_ordered_123 : decode cL_ordered 123 = .ok (.iload 13, 2) := by decide +kernel
theorem dL_ordered_125 : decode cL_ordered 125 = .ok (.iload_n 2, 1) := by decide +kernel
theorem dL_ordered_126 : decode cL_ordered 126 = .ok (.if_icmp .ge 138, 3) := by decide +kernel
theorem dL_ordered_129 : decode cL_ordered 129 = .ok (.aload_n 0, 1) := by decide +kernel
theorem dL_ordered_130 : decode cL_ordered 130 = .ok (.aload_n 0, 1) := by decide +kernel
theorem dL_ordered_131 : decode cL_ordered 131 = .ok (.iconst 1, 1) := by decide +kernel
theorem dL_ordered_132 : decode cL_ordered 132 = .ok (.iload 13, 2) := by decide +kernel
theorem dL_ordered_134 : decode cL_ordered 134 = .ok (.invokevirtual 88, 3) := by decide +kernel
theorem dL_ordered_137 : decode cL_ordered 137 = .ok (.invokestatic 55, 3) := by decide +kernel
theorem dL_ordered_140 : decode cL_ordered 140 = .ok (.istore 14, 2) := by decide +kernel
theorem dL_ordered_142 : decode cL_ordered 142 = .ok (.iload 14, 2) := by decide +kernel
theorem dL_ordered_144 : decode cL_ordered 144 = .ok (.ifCond .lt 47, 3) := by decide +kernel
theorem dL_ordered_147 : decode cL_ordered 147 = .ok (.iload 14, 2) := by decide +kernel
theorem dL_ordered_149 : decode cL_ordered 149 = .ok (.iload_n 2, 1) := by decide +kernel
theorem dL_ordered_150 : decode cL_ordered 150 = .ok (.if_icmp .ge 41, 3) := by decide +kernel
theorem dL_ordered_153 : decode cL_ordered 153 = .ok (.iload 12, 2) := by decide +kernel
theorem dL_ordered_155 : decode cL_ordered 155 = .ok (.iload 14, 2) := by decide +kernel
theorem dL_ordered_157 : decode cL_ordered 157 = .ok (.ishr, 1) := by decide +kernel
theorem dL_ordered_158 : decode cL_ordered 158 = .ok (.iconst 1, 1) := by decide +kernel
theorem dL_ordered_159 : decode cL_ordered 159 = .ok (.iand, 1) := by decide +kernel
theorem dL_ordered_160 : decode cL_ordered 160 = .ok (.iconst 1, 1) := by decide +kernel
theorem dL_ordered_161 : decode cL_ordered 161 = .ok (.if_icmp .eq 30, 3) := by decide +kernel
theorem dL_ordered_164 : decode cL_ordered 164 = .ok (.iload 14, 2) := by decide +kernel
theorem dL_ordered_166 : decode cL_ordered 166 = .ok (.iload 4, 2) := by decide +kernel
theorem dL_ordered_168 : decode cL_ordered 168 = .ok (.if_icmp .ne 7, 3) := by decide +kernel
theorem dL_ordered_171 : decode cL_ordered 171 = .ok (.iconst 1, 1) := by decide +kernel
theorem dL_ordered_172 : decode cL_ordered 172 = .ok (.goto 4, 3) := by decide +kernel
theorem dL_ordered_175 : decode cL_ordered 175 = .ok (.iconst 0, 1) := by decide +kernel
theorem dL_ordered_176 : decode cL_ordered 176 = .ok (.iload 13, 2) := by decide +kernel
theorem dL_ordered_178 : decode cL_ordered 178 = .ok (.iload 6, 2) := by decide +kernel
theorem dL_ordered_180 : decode cL_ordered 180 = .ok (.if_icmp .ne 7, 3) := by decide +kernel
theorem dL_ordered_183 : decode cL_ordered 183 = .ok (.iconst 1, 1) := by decide +kernel
theorem dL_ordered_184 : decode cL_ordered 184 = .ok (.goto 4, 3) := by decide +kernel
theorem dL_ordered_187 : decode cL_ordered 187 = .ok (.iconst 0, 1) := by decide +kernel
theorem dL_ordered_188 : decode cL_ordered 188 = .ok (.if_icmp .eq 5, 3) := by decide +kernel
theorem dL_ordered_191 : decode cL_ordered 191 = .ok (.iconst 0, 1) := by decide +kernel
theorem dL_ordered_192 : decode cL_ordered 192 = .ok (.ireturn, 1) := by decide +kernel
theorem dL_ordered_193 : decode cL_ordered 193 = .ok (.iload 12, 2) := by decide +kernel
theorem dL_ordered_195 : decode cL_ordered 195 = .ok (.iconst 1, 1) := by decide +kernel
theorem dL_ordered_196 : decode cL_ordered 196 = .ok (.iload 14, 2) := by decide +kernel
theorem dL_ordered_198 : decode cL_ordered 198 = .ok (.ishl, 1) := by decide +kernel
theorem dL_ordered_199 : decode cL_ordered 199 = .ok (.ior, 1) := by decide +kernel
theorem dL_ordered_200 : decode cL_ordered 200 = .ok (.istore 12, 2) := by decide +kernel
theorem dL_ordered_202 : decode cL_ordered 202 = .ok (.aload_n 0, 1) := by decide +kernel
theorem dL_ordered_203 : decode cL_ordered 203 = .ok (.iload 14, 2) := by decide +kernel
theorem dL_ordered_205 : decode cL_ordered 205 = .ok (.invokevirtual 98, 3) := by decide +kernel
theorem dL_ordered_208 : decode cL_ordered 208 = .ok (.istore 15, 2) := by decide +kernel
theorem dL_ordered_210 : decode cL_ordered 210 = .ok (.iload 15, 2) := by decide +kernel
theorem dL_ordered_212 : decode cL_ordered 212 = .ok (.ifCond .lt 44, 3) := by decide +kernel
theorem dL_ordered_215 : decode cL_ordered 215 = .ok (.iload 13, 2) := by decide +kernel
theorem dL_ordered_217 : decode cL_ordered 217 = .ok (.iload 6, 2) := by decide +kernel
theorem dL_ordered_219 : decode cL_ordered 219 = .ok (.if_icmp .ne 10, 3) := by decide +kernel
theorem dL_ordered_222 : decode cL_ordered 222 = .ok (.iload 15, 2) := by decide +kernel
theorem dL_ordered_224 : decode cL_ordered 224 = .ok (.iload 5, 2) := by decide +kernel
theorem dL_ordered_226 : decode cL_ordered 226 = .ok (.if_icmp .ne 30, 3) := by decide +kernel
theorem dL_ordered_229 : decode cL_ordered 229 = .ok (.aload_n 0, 1) := by decide +kernel
theorem dL_ordered_230 : decode cL_ordered 230 = .ok (.invokevirtual 59, 3) := by decide +kernel
theorem dL_ordered_233 : decode cL_ordered 233 = .ok (.iload 11, 2) := by decide +kernel
theorem dL_ordered_235 : decode cL_ordered 235 = .ok (.if_icmp .ne 21, 3) := by decide +kernel
theorem dL_ordered_238 : decode cL_ordered 238 = .ok (.iload 13, 2) := by decide +kernel
theorem dL_ordered_240 : decode cL_ordered 240 = .ok (.iload_n 2, 1) := by decide +kernel
theorem dL_ordered_241 : decode cL_ordered 241 = .ok (.iconst 1, 1) := by decide +kernel
theorem dL_ordered_242 : decode cL_ordered 242 = .ok (.isub, 1) := by decide +kernel
theorem dL_ordered_243 : decode cL_ordered 243 = .ok (.if_icmp .ne 15, 3) := by decide +kernel
theorem dL_ordered_246 : decode cL_ordered 246 = .ok (.iload 10, 2) := by decide +kernel
theorem dL_ordered_248 : decode cL_ordered 248 = .ok (.iload 14, 2) := by decide +kernel
theorem dL_ordered_250 : decode cL_ordered 250 = .ok (.ishr, 1) := by decide +kernel
theorem dL_ordered_251 : decode cL_ordered 251 = .ok (.iconst 1, 1) := by decide +kernel
theorem dL_ordered_252 : decode cL_ordered 252 = .ok (.iand, 1) := by decide +kernel
theorem dL_ordered_253 : decode cL_ordered 253 = .ok (.ifCond .ne 5, 3) := by decide +kernel
theorem dL_ordered_256 : decode cL_ordered 256 = .ok (.iconst 0, 1) := by decide +kernel
theorem dL_ordered_257 : decode cL_ordered 257 = .ok (.ireturn, 1) := by decide +kernel
theorem dL_ordered_258 : decode cL_ordered 258 = .ok (.iinc 13 1, 3) := by decide +kernel
theorem dL_ordered_261 : decode cL_ordered 261 = .ok (.goto (-138), 3) := by decide +kernel
theorem dL_ordered_264 : decode cL_ordered 264 = .ok (.lload 8, 2) := by decide +kernel
theorem dL_ordered_266 : decode cL_ordered 266 = .ok (.lconst 0, 1) := by decide +kernel
theorem dL_ordered_267 : decode cL_ordered 267 = .ok (.lcmp, 1) := by decide +kernel
theorem dL_ordered_268 : decode cL_ordered 268 = .ok (.ifCond .le 27, 3) := by decide +kernel
theorem dL_ordered_271 : decode cL_ordered 271 = .ok (.aload_n 0, 1) := by decide +kernel
theorem dL_ordered_272 : decode cL_ordered 272 = .ok (.iconst 1, 1) := by decide +kernel
theorem dL_ordered_273 : decode cL_ordered 273 = .ok (.iload_n 2, 1) := by decide +kernel
theorem dL_ordered_274 : decode cL_ordered 274 = .ok (.invokevirtual 88, 3) := by decide +kernel
theorem dL_ordered_277 : decode cL_ordered 277 = .ok (.bipush (-3), 2) := by decide +kernel
theorem dL_ordered_279 : decode cL_ordered 279 = .ok (.if_icmp .ne 16, 3) := by decide +kernel
theorem dL_ordered_282 : decode cL_ordered 282 = .ok (.aload_n 0, 1) := by decide +kernel
theorem dL_ordered_283 : decode cL_ordered 283 = .ok (.iload_n 3, 1) := by decide +kernel
theorem dL_ordered_284 : decode cL_ordered 284 = .ok (.invokevirtual 145, 3) := by decide +kernel
theorem dL_ordered_287 : decode cL_ordered 287 = .ok (.iload_n 2, 1) := by decide +kernel
theorem dL_ordered_288 : decode cL_ordered 288 = .ok (.if_icmp .ne 7, 3) := by decide +kernel
theorem dL_ordered_291 : decode cL_ordered 291 = .ok (.iconst 1, 1) := by decide +kernel
theorem dL_ordered_292 : decode cL_ordered 292 = .ok (.goto 4, 3) := by decide +kernel
theorem dL_ordered_295 : decode cL_ordered 295 = .ok (.iconst 0, 1) := by decide +kernel
theorem dL_ordered_296 : decode cL_ordered 296 = .ok (.ireturn, 1) := by decide +kernel
theorem dL_cheapest_0 : decode cL_cheapest 0 = .ok (.aload_n 0, 1) := by decide +kernel
theorem dL_cheapest_1 : decode cL_cheapest 1 = .ok (.invokevirtual 154, 3) := by decide +kernel
theorem dL_cheapest_4 : decode cL_cheapest 4 = .ok (.istore_n 3, 1) := by decide +kernel
theorem dL_cheapest_5 : decode cL_cheapest 5 = .ok (.aload_n 0, 1) := by decide +kernel
theorem dL_cheapest_6 : decode cL_cheapest 6 = .ok (.invokevirtual 45, 3) := by decide +kernel
theorem dL_cheapest_9 : decode cL_cheapest 9 = .ok (.istore 4, 2) := by decide +kernel
theorem dL_cheapest_11 : decode cL_cheapest 11 = .ok (.aload_n 0, 1) := by decide +kernel
theorem dL_cheapest_12 : decode cL_cheapest 12 = .ok (.invokevirtual 59, 3) := by decide +kernel
theorem dL_cheapest_15 : decode cL_cheapest 15 = .ok (.istore 5, 2) := by decide +kernel
theorem dL_cheapest_17 : decode cL_cheapest 17 = .ok (.iconst 1, 1) := by decide +kernel
theorem dL_cheapest_18 : decode cL_cheapest 18 = .ok (.istore 6, 2) := by decide +kernel
theorem dL_cheapest_20 : decode cL_cheapest 20 = .ok (.iconst 1, 1) := by decide +kernel
theorem dL_cheapest_21 : decode cL_cheapest 21 = .ok (.istore 7, 2) := by decide +kernel
theorem dL_cheapest_23 : decode cL_cheapest 23 = .ok (.iload 7, 2) := by decide +kernel
theorem dL_cheapest_25 : decode cL_cheapest 25 = .ok (.iload_n 1, 1) := by decide +kernel
theorem dL_cheapest_26 : decode cL_cheapest 26 = .ok (.if_icmp .ge 16, 3) := by decide +kernel
theorem dL_cheapest_29 : decode cL_cheapest 29 = .ok (.iload 6, 2) := by decide +kernel
theorem dL_cheapest_31 : decode cL_cheapest 31 = .ok (.bipush 6, 2) := by decide +kernel
theorem dL_cheapest_33 : decode cL_cheapest 33 = .ok (.imul, 1) := by decide +kernel
theorem dL_cheapest_34 : decode cL_cheapest 34 = .ok (.istore 6, 2) := by decide +kernel
theorem dL_cheapest_36 : decode cL_cheapest 36 = .ok (.iinc 7 1, 3) := by decide +kernel
theorem dL_cheapest_39 : decode cL_cheapest 39 = .ok (.goto (-16), 3) := by decide +kernel
theorem dL_cheapest_42 : decode cL_cheapest 42 = .ok (.iconst 0, 1) := by decide +kernel
theorem dL_cheapest_43 : decode cL_cheapest 43 = .ok (.istore 7, 2) := by decide +kernel
theorem dL_cheapest_45 : decode cL_cheapest 45 = .ok (.iconst 0, 1) := by decide +kernel
theorem dL_cheapest_46 : decode cL_cheapest 46 = .ok (.istore 8, 2) := by decide +kernel
theorem dL_cheapest_48 : decode cL_cheapest 48 = .ok (.iload 8, 2) := by decide +kernel
theorem dL_cheapest_50 : decode cL_cheapest 50 = .ok (.iload_n 1, 1) := by decide +kernel
theorem dL_cheapest_51 : decode cL_cheapest 51 = .ok (.if_icmp .ge 73, 3) := by decide +kernel
theorem dL_cheapest_54 : decode cL_cheapest 54 = .ok (.iload 4, 2) := by decide +kernel
theorem dL_cheapest_56 : decode cL_cheapest 56 = .ok (.iload 6, 2) := by decide +kernel
theorem dL_cheapest_58 : decode cL_cheapest 58 = .ok (.idiv, 1) := by decide +kernel
theorem dL_cheapest_59 : decode cL_cheapest 59 = .ok (.bipush 6, 2) := by decide +kernel
theorem dL_cheapest_61 : decode cL_cheapest 61 = .ok (.irem, 1) := by decide +kernel
theorem dL_cheapest_62 : decode cL_cheapest 62 = .ok (.istore 9, 2) := by decide +kernel
theorem dL_cheapest_64 : decode cL_cheapest 64 = .ok (.iload 6, 2) := by decide +kernel
theorem dL_cheapest_66 : decode cL_cheapest 66 = .ok (.iconst 1, 1) := by decide +kernel
theorem dL_cheapest_67 : decode cL_cheapest 67 = .ok (.if_icmp .le 11, 3) := by decide +kernel
theorem dL_cheapest_70 : decode cL_cheapest 70 = .ok (.iload 6, 2) := by decide +kernel
theorem dL_cheapest_72 : decode cL_cheapest 72 = .ok (.bipush 6, 2) := by decide +kernel
theorem dL_cheapest_74 : decode cL_cheapest 74 = .ok (.idiv, 1) := by decide +kernel
theorem dL_cheapest_75 : decode cL_cheapest 75 = .ok (.goto 4, 3) := by decide +kernel
theorem dL_cheapest_78 : decode cL_cheapest 78 = .ok (.iconst 1, 1) := by decide +kernel
theorem dL_cheapest_79 : decode cL_cheapest 79 = .ok (.istore 6, 2) := by decide +kernel
theorem dL_cheapest_81 : decode cL_cheapest 81 = .ok (.iload 9, 2) := by decide +kernel
theorem dL_cheapest_83 : decode cL_cheapest 83 = .ok (.iload_n 1, 1) := by decide +kernel
theorem dL_cheapest_84 : decode cL_cheapest 84 = .ok (.if_icmp .ge 23, 3) := by decide +kernel
theorem dL_cheapest_87 : decode cL_cheapest 87 = .ok (.iload 7, 2) := by decide +kernel
theorem dL_cheapest_89 : decode cL_cheapest 89 = .ok (.iload 9, 2) := by decide +kernel
theorem dL_cheapest_91 : decode cL_cheapest 91 = .ok (.ishr, 1) := by decide +kernel
theorem dL_cheapest_92 : decode cL_cheapest 92 = .ok (.iconst 1, 1) := by decide +kernel
theorem dL_cheapest_93 : decode cL_cheapest 93 = .ok (.iand, 1) := by decide +kernel
theorem dL_cheapest_94 : decode cL_cheapest 94 = .ok (.iconst 1, 1) := by decide +kernel
theorem dL_cheapest_95 : decode cL_cheapest 95 = .ok (.if_icmp .eq 12, 3) := by decide +kernel
theorem dL_cheapest_98 : decode cL_cheapest 98 = .ok (.aload_n 0, 1) := by decide +kernel
theorem dL_cheapest_99 : decode cL_cheapest 99 = .ok (.iload 9, 2) := by decide +kernel
theorem dL_cheapest_101 : decode cL_cheapest 101 = .ok (.invokevirtual 98, 3) := by decide +kernel
theorem dL_cheapest_104 : decode cL_cheapest 104 = .ok (.ifCond .ge 5, 3) := by decide +kernel
theorem dL_cheapest_107 : decode cL_cheapest 107 = .ok (.iconst 0, 1) := by decide +kernel
theorem dL_cheapest_108 : decode cL_cheapest 108 = .ok (.ireturn, 1) := by decide +kernel
theorem dL_cheapest_109 : decode cL_cheapest 109 = .ok (.iload 7, 2) := by decide +kernel
theorem dL_cheapest_111 : decode cL_cheapest 111 = .ok (.iconst 1, 1) := by decide +kernel
