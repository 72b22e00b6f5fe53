theorem dX12_init_0 : decode cX12_init 0 = .ok (.aload_n 0, 1) := by decide +kernel
theorem dX12_init_1 : decode cX12_init 1 = .ok (.invokespecial 1, 3) := by decide +kernel
theorem dX12_init_4 : decode cX12_init 4 = .ok (.aload_n 0, 1) := by decide +kernel
theorem dX12_init_5 : decode cX12_init 5 = .ok (.bipush 6, 2) := by decide +kernel
theorem dX12_init_7 : decode cX12_init 7 = .ok (.newarray .int, 2) := by decide +kernel
theorem dX12_init_9 : decode cX12_init 9 = .ok (.putfield 7, 3) := by decide +kernel
theorem dX12_init_12 : decode cX12_init 12 = .ok (.aload_n 0, 1) := by decide +kernel
theorem dX12_init_13 : decode cX12_init 13 = .ok (.lconst 1, 1) := by decide +kernel
theorem dX12_init_14 : decode cX12_init 14 = .ok (.putfield 13, 3) := by decide +kernel
theorem dX12_init_17 : decode cX12_init 17 = .ok (.aload_n 0, 1) := by decide +kernel
theorem dX12_init_18 : decode cX12_init 18 = .ok (.bipush 6, 2) := by decide +kernel
theorem dX12_init_20 : decode cX12_init 20 = .ok (.newarray .int, 2) := by decide +kernel
theorem dX12_init_22 : decode cX12_init 22 = .ok (.putfield 17, 3) := by decide +kernel
theorem dX12_init_25 : decode cX12_init 25 = .ok (.aload_n 0, 1) := by decide +kernel
theorem dX12_init_26 : decode cX12_init 26 = .ok (.sipush 240, 3) := by decide +kernel
theorem dX12_init_29 : decode cX12_init 29 = .ok (.newarray .int, 2) := by decide +kernel
theorem dX12_init_31 : decode cX12_init 31 = .ok (.putfield 20, 3) := by decide +kernel
theorem dX12_init_34 : decode cX12_init 34 = .ok (.aload_n 0, 1) := by decide +kernel
theorem dX12_init_35 : decode cX12_init 35 = .ok (.bipush 40, 2) := by decide +kernel
theorem dX12_init_37 : decode cX12_init 37 = .ok (.newarray .int, 2) := by decide +kernel
theorem dX12_init_39 : decode cX12_init 39 = .ok (.putfield 23, 3) := by decide +kernel
theorem dX12_init_42 : decode cX12_init 42 = .ok (.aload_n 0, 1) := by decide +kernel
theorem dX12_init_43 : decode cX12_init 43 = .ok (.iconst 4, 1) := by decide +kernel
theorem dX12_init_44 : decode cX12_init 44 = .ok (.newarray .int, 2) := by decide +kernel
theorem dX12_init_46 : decode cX12_init 46 = .ok (.putfield 26, 3) := by decide +kernel
theorem dX12_init_49 : decode cX12_init 49 = .ok (.aload_n 0, 1) := by decide +kernel
theorem dX12_init_50 : decode cX12_init 50 = .ok (.sipush 240, 3) := by decide +kernel
theorem dX12_init_53 : decode cX12_init 53 = .ok (.newarray .byte, 2) := by decide +kernel
theorem dX12_init_55 : decode cX12_init 55 = .ok (.putfield 29, 3) := by decide +kernel
theorem dX12_init_58 : decode cX12_init 58 = .ok (.aload_n 0, 1) := by decide +kernel
theorem dX12_init_59 : decode cX12_init 59 = .ok (.bipush 6, 2) := by decide +kernel
theorem dX12_init_61 : decode cX12_init 61 = .ok (.newarray .int, 2) := by decide +kernel
theorem dX12_init_63 : decode cX12_init 63 = .ok (.putfield 33, 3) := by decide +kernel
theorem dX12_init_66 : decode cX12_init 66 = .ok (.aload_n 0, 1) := by decide +kernel
theorem dX12_init_67 : decode cX12_init 67 = .ok (.bipush 6, 2) := by decide +kernel
theorem dX12_init_69 : decode cX12_init 69 = .ok (.newarray .int, 2) := by decide +kernel
theorem dX12_init_71 : decode cX12_init 71 = .ok (.putfield 36, 3) := by decide +kernel
theorem dX12_init_74 : decode cX12_init 74 = .ok (.aload_n 0, 1) := by decide +kernel
theorem dX12_init_75 : decode cX12_init 75 = .ok (.bipush 6, 2) := by decide +kernel
theorem dX12_init_77 : decode cX12_init 77 = .ok (.newarray .int, 2) := by decide +kernel
theorem dX12_init_79 : decode cX12_init 79 = .ok (.putfield 39, 3) := by decide +kernel
theorem dX12_init_82 : decode cX12_init 82 = .ok (.aload_n 0, 1) := by decide +kernel
theorem dX12_init_83 : decode cX12_init 83 = .ok (.bipush 6, 2) := by decide +kernel
theorem dX12_init_85 : decode cX12_init 85 = .ok (.newarray .int, 2) := by decide +kernel
theorem dX12_init_87 : decode cX12_init 87 = .ok (.putfield 42, 3) := by decide +kernel
theorem dX12_init_90 : decode cX12_init 90 = .ok (.aload_n 0, 1) := by decide +kernel
theorem dX12_init_91 : decode cX12_init 91 = .ok (.bipush 11, 2) := by decide +kernel
theorem dX12_init_93 : decode cX12_init 93 = .ok (.newarray .int, 2) := by decide +kernel
theorem dX12_init_95 : decode cX12_init 95 = .ok (.putfield 45, 3) := by decide +kernel
theorem dX12_init_98 : decode cX12_init 98 = .ok (.aload_n 0, 1) := by decide +kernel
theorem dX12_init_99 : decode cX12_init 99 = .ok (.bipush 11, 2) := by decide +kernel
theorem dX12_init_101 : decode cX12_init 101 = .ok (.newarray .int, 2) := by decide +kernel
theorem dX12_init_103 : decode cX12_init 103 = .ok (.putfield 48, 3) := by decide +kernel
theorem dX12_init_106 : decode cX12_init 106 = .ok (.aload_n 0, 1) := by decide +kernel
theorem dX12_init_107 : decode cX12_init 107 = .ok (.sipush 660, 3) := by decide +kernel
theorem dX12_init_110 : decode cX12_init 110 = .ok (.newarray .int, 2) := by decide +kernel
theorem dX12_init_112 : decode cX12_init 112 = .ok (.putfield 51, 3) := by decide +kernel
theorem dX12_init_115 : decode cX12_init 115 = .ok (.aload_n 0, 1) := by decide +kernel
theorem dX12_init_116 : decode cX12_init 116 = .ok (.iconst 3, 1) := by decide +kernel
theorem dX12_init_117 : decode cX12_init 117 = .ok (.newarray .boolean, 2) := by decide +kernel
theorem dX12_init_119 : decode cX12_init 119 = .ok (.putfield 54, 3) := by decide +kernel
theorem dX12_init_122 : decode cX12_init 122 = .ok (.aload_n 0, 1) := by decide +kernel
theorem dX12_init_123 : decode cX12_init 123 = .ok (.iconst 3, 1) := by decide +kernel
theorem dX12_init_124 : decode cX12_init 124 = .ok (.newarray .int, 2) := by decide +kernel
theorem dX12_init_126 : decode cX12_init 126 = .ok (.putfield 58, 3) := by decide +kernel
theorem dX12_init_129 : decode cX12_init 129 = .ok (.aload_n 0, 1) := by decide +kernel
theorem dX12_init_130 : decode cX12_init 130 = .ok (.bipush 18, 2) := by decide +kernel
theorem dX12_init_132 : decode cX12_init 132 = .ok (.newarray .int, 2) := by decide +kernel
theorem dX12_init_134 : decode cX12_init 134 = .ok (.putfield 61, 3) := by decide +kernel
theorem dX12_init_137 : decode cX12_init 137 = .ok (.aload_n 0, 1) := by decide +kernel
theorem dX12_init_138 : decode cX12_init 138 = .ok (.bipush 33, 2) := by decide +kernel
theorem dX12_init_140 : decode cX12_init 140 = .ok (.newarray .int, 2) := by decide +kernel
theorem dX12_init_142 : decode cX12_init 142 = .ok (.putfield 64, 3) := by decide +kernel
theorem dX12_init_145 : decode cX12_init 145 = .ok (.aload_n 0, 1) := by decide +kernel
theorem dX12_init_146 : decode cX12_init 146 = .ok (.sipush 1980, 3) := by decide +kernel
theorem dX12_init_149 : decode cX12_init 149 = .ok (.newarray .int, 2) := by decide +kernel
theorem dX12_init_151 : decode cX12_init 151 = .ok (.putfield 67, 3) := by decide +kernel
theorem dX12_init_154 : decode cX12_init 154 = .ok (.aload_n 0, 1) := by decide +kernel
theorem dX12_init_155 : decode cX12_init 155 = .ok (.bipush 6, 2) := by decide +kernel
theorem dX12_init_157 : decode cX12_init 157 = .ok (.newarray .int, 2) := by decide +kernel
theorem dX12_init_159 : decode cX12_init 159 = .ok (.putfield 70, 3) := by decide +kernel
theorem dX12_init_162 : decode cX12_init 162 = .ok (.aload_n 0, 1) := by decide +kernel
theorem dX12_init_163 : decode cX12_init 163 = .ok (.bipush 6, 2) := by decide +kernel
theorem dX12_init_165 : decode cX12_init 165 = .ok (.newarray .int, 2) := by decide +kernel
theorem dX12_init_167 : decode cX12_init 167 = .ok (.putfield 73, 3) := by decide +kernel
theorem dX12_init_170 : decode cX12_init 170 = .ok (.aload_n 0, 1) := by decide +kernel
theorem dX12_init_171 : decode cX12_init 171 = .ok (.bipush 60, 2) := by decide +kernel
theorem dX12_init_173 : decode cX12_init 173 = .ok (.newarray .int, 2) := by decide +kernel
theorem dX12_init_175 : decode cX12_init 175 = .ok (.putfield 76, 3) := by decide +kernel
theorem dX12_init_178 : decode cX12_init 178 = .ok (.aload_n 0, 1) := by decide +kernel
theorem dX12_init_179 : decode cX12_init 179 = .ok (.bipush 60, 2) := by decide +kernel
theorem dX12_init_181 : decode cX12_init 181 = .ok (.newarray .boolean, 2) := by decide +kernel
theorem dX12_init_183 : decode cX12_init 183 = .ok (.putfield 79, 3) := by decide +kernel
theorem dX12_init_186 : decode cX12_init 186 = .ok (.aload_n 0, 1) := by decide +kernel
theorem dX12_init_187 : decode cX12_init 187 = .ok (.bipush 6, 2) := by decide +kernel
theorem dX12_init_189 : decode cX12_init 189 = .ok (.newarray .int, 2) := by decide +kernel
theorem dX12_init_191 : decode cX12_init 191 = .ok (.putfield 82, 3) := by decide +kernel
theorem dX12_init_194 : decode cX12_init 194 = .ok (.aload_n 0, 1) := by decide +kernel
theorem dX12_init_195 : decode cX12_init 195 = .ok (.bipush 60, 2) := by decide +kernel
theorem dX12_init_197 : decode cX12_init 197 = .ok (.newarray .long, 2) := by decide +kernel
theorem dX12_init_199 : decode cX12_init 199 = .ok (.putfield 85, 3) := by decide +kernel
theorem dX12_init_202 : decode cX12_init 202 = .ok (.aload_n 0, 1) := by decide +kernel
theorem dX12_init_203 : decode cX12_init 203 = .ok (.bipush 60, 2) := by decide +kernel
theorem dX12_init_205 : decode cX12_init 205 = .ok (.newarray .long, 2) := by decide +kernel
theorem dX12_init_207 : decode cX12_init 207 = .ok (.putfield 89, 3) := by decide +kernel
theorem dX12_init_210 : decode cX12_init 210 = .ok (.iconst 0, 1) := by decide +kernel
theorem dX12_init_211 : decode cX12_init 211 = .ok (.istore_n 1, 1) := by decide +kernel
theorem dX12_init_212 : decode cX12_init 212 = .ok (.iload_n 1, 1) := by decide +kernel
theorem dX12_init_213 : decode cX12_init 213 = .ok (.bipush 6, 2) := by decide +kernel
theorem dX12_init_215 : decode cX12_init 215 = .ok (.if_icmp .ge 16, 3) := by decide +kernel
theorem dX12_init_218 : decode cX12_init 218 = .ok (.aload_n 0, 1) := by decide +kernel
theorem dX12_init_219 : decode cX12_init 219 = .ok (.getfield 17, 3) := by decide +kernel
theorem dX12_init_222 : decode cX12_init 222 = .ok (.iload_n 1, 1) := by decide +kernel
theorem dX12_init_223 : decode cX12_init 223 = .ok (.iconst (-1), 1) := by decide +kernel
theorem dX12_init_224 : decode cX12_init 224 = .ok (.iastore, 1) := by decide +kernel
theorem dX12_init_225 : decode cX12_init 225 = .ok (.iinc 1 1, 3) := by decide +kernel
theorem dX12_init_228 : decode cX12_init 228 = .ok (.goto (-16), 3) := by decide +kernel
theorem dX12_init_231 : decode cX12_init 231 = .ok (.iconst 0, 1) := by decide +kernel
theorem dX12_init_232 : decode cX12_init 232 = .ok (.istore_n 1, 1) := by decide +kernel
theorem dX12_init_233 : decode cX12_init 233 = .ok (.iload_n 1, 1) := by decide +kernel
theorem dX12_init_234 : decode cX12_init 234 = .ok (.iconst 4, 1) := by decide +kernel
theorem dX12_init_235 : decode cX12_init 235 = .ok (.if_icmp .ge 16, 3) := by decide +kernel
theorem dX12_init_238 : decode cX12_init 238 = .ok (.aload_n 0, 1) := by decide +kernel
theorem dX12_init_239 : decode cX12_init 239 = .ok (.getfield 26, 3) := by decide +kernel
theorem dX12_init_242 : decode cX12_init 242 = .ok (.iload_n 1, 1) := by decide +kernel
theorem dX12_init_243 : decode cX12_init 243 = .ok (.iconst (-1), 1) := by decide +kernel
theorem dX12_init_244 : decode cX12_init 244 = .ok (.iastore, 1) := by decide +kernel
theorem dX12_init_245 : decode cX12_init 245 = .ok (.iinc 1 1, 3) := by decide +kernel
theorem dX12_init_248 : decode cX12_init 248 = .ok (.goto (-15), 3) := by decide +kernel
theorem dX12_init_251 : decode cX12_init 251 = .ok (.return_, 1) := by decide +kernel
theorem dX12_in_0 : decode cX12_in 0 = .ok (.iload_n 0, 1) := by decide +kernel
theorem dX12_in_1 : decode cX12_in 1 = .ok (.iload_n 1, 1) := by decide +kernel
theorem dX12_in_2 : decode cX12_in 2 = .ok (.if_icmp .lt 12, 3) := by decide +kernel
theorem dX12_in_5 : decode cX12_in 5 = .ok (.iload_n 0, 1) := by decide +kernel
theorem dX12_in_6 : decode cX12_in 6 = .ok (.iload_n 2, 1) := by decide +kernel
theorem dX12_in_7 : decode cX12_in 7 = .ok (.if_icmp .gt 7, 3) := by decide +kernel
theorem dX12_in_10 : decode cX12_in 10 = .ok (.iconst 1, 1) := by decide +kernel
theorem dX12_in_11 : decode cX12_in 11 = .ok (.goto 4, 3) := by decide +kernel
theorem dX12_in_14 : decode cX12_in 14 = .ok (.iconst 0, 1) := by decide +kernel
theorem dX12_in_15 : decode cX12_in 15 = .ok (.ireturn, 1) := by decide +kernel
theorem dX12_has_0 : decode cX12_has 0 = .ok (.iload_n 0, 1) := by decide +kernel
theorem dX12_has_1 : decode cX12_has 1 = .ok (.iload_n 1, 1) := by decide +kernel
theorem dX12_has_2 : decode cX12_has 2 = .ok (.ishr, 1) := by decide +kernel
theorem dX12_has_3 : decode cX12_has 3 = .ok (.iconst 1, 1) := by decide +kernel
theorem dX12_has_4 : decode cX12_has 4 = .ok (.iand, 1) := by decide +kernel
theorem dX12_has_5 : decode cX12_has 5 = .ok (.iconst 1, 1) := by decide +kernel
theorem dX12_has_6 : decode cX12_has 6 = .ok (.if_icmp .ne 7, 3) := by decide +kernel
theorem dX12_has_9 : decode cX12_has 9 = .ok (.iconst 1, 1) := by decide +kernel
theorem dX12_has_10 : decode cX12_has 10 = .ok (.goto 4, 3) := by decide +kernel
theorem dX12_has_13 : decode cX12_has 13 = .ok (.iconst 0, 1) := by decide +kernel
theorem dX12_has_14 : decode cX12_has 14 = .ok (.ireturn, 1) := by decide +kernel
theorem dX12_meets_0 : decode cX12_meets 0 = .ok (.aload_n 0, 1) := by decide +kernel
theorem dX12_meets_1 : decode cX12_meets 1 = .ok (.iload_n 1, 1) := by decide +kernel
theorem dX12_meets_2 : decode cX12_meets 2 = .ok (.putfield 92, 3) := by decide +kernel
theorem dX12_meets_5 : decode cX12_meets 5 = .ok (.aload_n 0, 1) := by decide +kernel
theorem dX12_meets_6 : decode cX12_meets 6 = .ok (.getfield 7, 3) := by decide +kernel
theorem dX12_meets_9 : decode cX12_meets 9 = .ok (.iload_n 1, 1) := by decide +kernel
theorem dX12_meets_10 : decode cX12_meets 10 = .ok (.dup2, 1) := by decide +kernel
theorem dX12_meets_11 : decode cX12_meets 11 = .ok (.iaload, 1) := by decide +kernel
theorem dX12_meets_12 : decode cX12_meets 12 = .ok (.iconst 1, 1) := by decide +kernel
theorem dX12_meets_13 : decode cX12_meets 13 = .ok (.iadd, 1) := by decide +kernel
theorem dX12_meets_14 : decode cX12_meets 14 = .ok (.iastore, 1) := by decide +kernel
theorem dX12_meets_15 : decode cX12_meets 15 = .ok (.bipush (-3), 2) := by decide +kernel
theorem dX12_meets_17 : decode cX12_meets 17 = .ok (.ireturn, 1) := by decide +kernel
theorem dX12_finding_0 : decode cX12_finding 0 = .ok (.aload_n 0, 1) := by decide +kernel
theorem dX12_finding_1 : decode cX12_finding 1 = .ok (.getfield 92, 3) := by decide +kernel
theorem dX12_finding_4 : decode cX12_finding 4 = .ok (.ireturn, 1) := by decide +kernel
theorem dX12_findings_0 : decode cX12_findings 0 = .ok (.iload_n 1, 1) := by decide +kernel
theorem dX12_findings_1 : decode cX12_findings 1 = .ok (.iconst 1, 1) := by decide +kernel
theorem dX12_findings_2 : decode cX12_findings 2 = .ok (.iconst 5, 1) := by decide +kernel
theorem dX12_findings_3 : decode cX12_findings 3 = .ok (.invokestatic 96, 3) := by decide +kernel
theorem dX12_findings_6 : decode cX12_findings 6 = .ok (.ifCond .eq 12, 3) := by decide +kernel
theorem dX12_findings_9 : decode cX12_findings 9 = .ok (.aload_n 0, 1) := by decide +kernel
theorem dX12_findings_10 : decode cX12_findings 10 = .ok (.getfield 7, 3) := by decide +kernel
theorem dX12_findings_13 : decode cX12_findings 13 = .ok (.iload_n 1, 1) := by decide +kernel
theorem dX12_findings_14 : decode cX12_findings 14 = .ok (.iaload, 1) := by decide +kernel
theorem dX12_findings_15 : decode cX12_findings 15 = .ok (.goto 4, 3) := by decide +kernel
theorem dX12_findings_18 : decode cX12_findings 18 = .ok (.iconst (-1), 1) := by decide +kernel
theorem dX12_findings_19 : decode cX12_findings 19 = .ok (.ireturn, 1) := by decide +kernel
theorem dX12_tells_0 : decode cX12_tells 0 = .ok (.aload_n 0, 1) := by decide +kernel
theorem dX12_tells_1 : decode cX12_tells 1 = .ok (.iload_n 1, 1) := by decide +kernel
theorem dX12_tells_2 : decode cX12_tells 2 = .ok (.putfield 100, 3) := by decide +kernel
theorem dX12_tells_5 : decode cX12_tells 5 = .ok (.iload_n 2, 1) := by decide +kernel
theorem dX12_tells_6 : decode cX12_tells 6 = .ok (.ireturn, 1) := by decide +kernel
theorem dX12_asked_0 : decode cX12_asked 0 = .ok (.aload_n 0, 1) := by decide +kernel
theorem dX12_asked_1 : decode cX12_asked 1 = .ok (.getfield 100, 3) := by decide +kernel
theorem dX12_asked_4 : decode cX12_asked 4 = .ok (.ireturn, 1) := by decide +kernel
theorem dX12_fraction_0 : decode cX12_fraction 0 = .ok (.lload_n 1, 1) := by decide +kernel
theorem dX12_fraction_1 : decode cX12_fraction 1 = .ok (.lstore 5, 2) := by decide +kernel
theorem dX12_fraction_3 : decode cX12_fraction 3 = .ok (.lload_n 3, 1) := by decide +kernel
theorem dX12_fraction_4 : decode cX12_fraction 4 = .ok (.lstore 7, 2) := by decide +kernel
theorem dX12_fraction_6 : decode cX12_fraction 6 = .ok (.lload 7, 2) := by decide +kernel
theorem dX12_fraction_8 : decode cX12_fraction 8 = .ok (.lconst 0, 1) := by decide +kernel
theorem dX12_fraction_9 : decode cX12_fraction 9 = .ok (.lcmp, 1) := by decide +kernel
theorem dX12_fraction_10 : decode cX12_fraction 10 = .ok (.ifCond .eq 21, 3) := by decide +kernel
theorem dX12_fraction_13 : decode cX12_fraction 13 = .ok (.lload 5, 2) := by decide +kernel
theorem dX12_fraction_15 : decode cX12_fraction 15 = .ok (.lload 7, 2) := by decide +kernel
theorem dX12_fraction_17 : decode cX12_fraction 17 = .ok (.lrem, 1) := by decide +kernel
theorem dX12_fraction_18 : decode cX12_fraction 18 = .ok (.lstore 9, 2) := by decide +kernel
theorem dX12_fraction_20 : decode cX12_fraction 20 = .ok (.lload 7, 2) := by decide +kernel
theorem dX12_fraction_22 : decode cX12_fraction 22 = .ok (.lstore 5, 2) := by decide +kernel
theorem dX12_fraction_24 : decode cX12_fraction 24 = .ok (.lload 9, 2) := by decide +kernel
theorem dX12_fraction_26 : decode cX12_fraction 26 = .ok (.lstore 7, 2) := by decide +kernel
theorem dX12_fraction_28 : decode cX12_fraction 28 = .ok (.goto (-22), 3) := by decide +kernel
theorem dX12_fraction_31 : decode cX12_fraction 31 = .ok (.aload_n 0, 1) := by decide +kernel
theorem dX12_fraction_32 : decode cX12_fraction 32 = .ok (.lload_n 1, 1) := by decide +kernel
theorem dX12_fraction_33 : decode cX12_fraction 33 = .ok (.lload 5, 2) := by decide +kernel
theorem dX12_fraction_35 : decode cX12_fraction 35 = .ok (.ldiv, 1) := by decide +kernel
theorem dX12_fraction_36 : decode cX12_fraction 36 = .ok (.putfield 103, 3) := by decide +kernel
theorem dX12_fraction_39 : decode cX12_fraction 39 = .ok (.aload_n 0, 1) := by decide +kernel
theorem dX12_fraction_40 : decode cX12_fraction 40 = .ok (.lload_n 3, 1) := by decide +kernel
theorem dX12_fraction_41 : decode cX12_fraction 41 = .ok (.lload 5, 2) := by decide +kernel
theorem dX12_fraction_43 : decode cX12_fraction 43 = .ok (.ldiv, 1) := by decide +kernel
theorem dX12_fraction_44 : decode cX12_fraction 44 = .ok (.putfield 13, 3) := by decide +kernel
theorem dX12_fraction_47 : decode cX12_fraction 47 = .ok (.iconst 1, 1) := by decide +kernel
theorem dX12_fraction_48 : decode cX12_fraction 48 = .ok (.ireturn, 1) := by decide +kernel
theorem dX12_upper_0 : decode cX12_upper 0 = .ok (.aload_n 0, 1) := by decide +kernel
theorem dX12_upper_1 : decode cX12_upper 1 = .ok (.getfield 103, 3) := by decide +kernel
theorem dX12_upper_4 : decode cX12_upper 4 = .ok (.lreturn, 1) := by decide +kernel
theorem dX12_lower_0 : decode cX12_lower 0 = .ok (.aload_n 0, 1) := by decide +kernel
theorem dX12_lower_1 : decode cX12_lower 1 = .ok (.getfield 13, 3) := by decide +kernel
theorem dX12_lower_4 : decode cX12_lower 4 = .ok (.lreturn, 1) := by decide +kernel
theorem dX12_isRow_0 : decode cX12_isRow 0 = .ok (.iload_n 0, 1) := by decide +kernel
theorem dX12_isRow_1 : decode cX12_isRow 1 = .ok (.iconst 0, 1) := by decide +kernel
theorem dX12_isRow_2 : decode cX12_isRow 2 = .ok (.iconst 5, 1) := by decide +kernel
theorem dX12_isRow_3 : decode cX12_isRow 3 = .ok (.invokestatic 96, 3) := by decide +kernel
theorem dX12_isRow_6 : decode cX12_isRow 6 = .ok (.ireturn, 1) := by decide +kernel
theorem dX12_rowAt_0 : decode cX12_rowAt 0 = .ok (.aload_n 0, 1) := by decide +kernel
theorem dX12_rowAt_1 : decode cX12_rowAt 1 = .ok (.getfield 20, 3) := by decide +kernel
theorem dX12_rowAt_4 : decode cX12_rowAt 4 = .ok (.bipush 40, 2) := by decide +kernel
theorem dX12_rowAt_6 : decode cX12_rowAt 6 = .ok (.iload_n 1, 1) := by decide +kernel
theorem dX12_rowAt_7 : decode cX12_rowAt 7 = .ok (.imul, 1) := by decide +kernel
theorem dX12_rowAt_8 : decode cX12_rowAt 8 = .ok (.iload_n 2, 1) := by decide +kernel
theorem dX12_rowAt_9 : decode cX12_rowAt 9 = .ok (.iadd, 1) := by decide +kernel
theorem dX12_rowAt_10 : decode cX12_rowAt 10 = .ok (.iaload, 1) := by decide +kernel
theorem dX12_rowAt_11 : decode cX12_rowAt 11 = .ok (.ireturn, 1) := by decide +kernel
theorem dX12_row_0 : decode cX12_row 0 = .ok (.iload_n 1, 1) := by decide +kernel
theorem dX12_row_1 : decode cX12_row 1 = .ok (.invokestatic 106, 3) := by decide +kernel
theorem dX12_row_4 : decode cX12_row 4 = .ok (.ifCond .eq 9, 3) := by decide +kernel
theorem dX12_row_7 : decode cX12_row 7 = .ok (.iload_n 2, 1) := by decide +kernel
theorem dX12_row_8 : decode cX12_row 8 = .ok (.bipush 40, 2) := by decide +kernel
theorem dX12_row_10 : decode cX12_row 10 = .ok (.if_icmp .le 5, 3) := by decide +kernel
theorem dX12_row_13 : decode cX12_row 13 = .ok (.iconst (-1), 1) := by decide +kernel
theorem dX12_row_14 : decode cX12_row 14 = .ok (.ireturn, 1) := by decide +kernel
theorem dX12_row_15 : decode cX12_row 15 = .ok (.iload_n 2, 1) := by decide +kernel
theorem dX12_row_16 : decode cX12_row 16 = .ok (.ifCond .ge 9, 3) := by decide +kernel
theorem dX12_row_19 : decode cX12_row 19 = .ok (.aload_n 0, 1) := by decide +kernel
theorem dX12_row_20 : decode cX12_row 20 = .ok (.iconst 5, 1) := by decide +kernel
theorem dX12_row_21 : decode cX12_row 21 = .ok (.invokevirtual 110, 3) := by decide +kernel
theorem dX12_row_24 : decode cX12_row 24 = .ok (.ireturn, 1) := by decide +kernel
theorem dX12_row_25 : decode cX12_row 25 = .ok (.aload_n 0, 1) := by decide +kernel
theorem dX12_row_26 : decode cX12_row 26 = .ok (.getfield 17, 3) := by decide +kernel
theorem dX12_row_29 : decode cX12_row 29 = .ok (.iload_n 1, 1) := by decide +kernel
theorem dX12_row_30 : decode cX12_row 30 = .ok (.iload_n 2, 1) := by decide +kernel
theorem dX12_row_31 : decode cX12_row 31 = .ok (.iastore, 1) := by decide +kernel
theorem dX12_row_32 : decode cX12_row 32 = .ok (.iconst 0, 1) := by decide +kernel
theorem dX12_row_33 : decode cX12_row 33 = .ok (.istore_n 3, 1) := by decide +kernel
theorem dX12_row_34 : decode cX12_row 34 = .ok (.iload_n 3, 1) := by decide +kernel
theorem dX12_row_35 : decode cX12_row 35 = .ok (.bipush 40, 2) := by decide +kernel
theorem dX12_row_37 : decode cX12_row 37 = .ok (.if_icmp .ge 21, 3) := by decide +kernel
theorem dX12_row_40 : decode cX12_row 40 = .ok (.aload_n 0, 1) := by decide +kernel
theorem dX12_row_41 : decode cX12_row 41 = .ok (.getfield 20, 3) := by decide +kernel
theorem dX12_row_44 : decode cX12_row 44 = .ok (.bipush 40, 2) := by decide +kernel
theorem dX12_row_46 : decode cX12_row 46 = .ok (.iload_n 1, 1) := by decide +kernel
theorem dX12_row_47 : decode cX12_row 47 = .ok (.imul, 1) := by decide +kernel
theorem dX12_row_48 : decode cX12_row 48 = .ok (.iload_n 3, 1) := by decide +kernel
theorem dX12_row_49 : decode cX12_row 49 = .ok (.iadd, 1) := by decide +kernel
theorem dX12_row_50 : decode cX12_row 50 = .ok (.iconst 0, 1) := by decide +kernel
theorem dX12_row_51 : decode cX12_row 51 = .ok (.iastore, 1) := by decide +kernel
theorem dX12_row_52 : decode cX12_row 52 = .ok (.iinc 3 1, 3) := by decide +kernel
theorem dX12_row_55 : decode cX12_row 55 = .ok (.goto (-21), 3) := by decide +kernel
theorem dX12_row_58 : decode cX12_row 58 = .ok (.iload_n 2, 1) := by decide +kernel
theorem dX12_row_59 : decode cX12_row 59 = .ok (.ireturn, 1) := by decide +kernel
theorem dX12_lay_0 : decode cX12_lay 0 = .ok (.iload_n 1, 1) := by decide +kernel
theorem dX12_lay_1 : decode cX12_lay 1 = .ok (.invokestatic 106, 3) := by decide +kernel
theorem dX12_lay_4 : decode cX12_lay 4 = .ok (.ifCond .ne 5, 3) := by decide +kernel
theorem dX12_lay_7 : decode cX12_lay 7 = .ok (.iconst (-1), 1) := by decide +kernel
theorem dX12_lay_8 : decode cX12_lay 8 = .ok (.ireturn, 1) := by decide +kernel
theorem dX12_lay_9 : decode cX12_lay 9 = .ok (.aload_n 0, 1) := by decide +kernel
theorem dX12_lay_10 : decode cX12_lay 10 = .ok (.getfield 17, 3) := by decide +kernel
theorem dX12_lay_13 : decode cX12_lay 13 = .ok (.iload_n 1, 1) := by decide +kernel
theorem dX12_lay_14 : decode cX12_lay 14 = .ok (.iaload, 1) := by decide +kernel
theorem dX12_lay_15 : decode cX12_lay 15 = .ok (.ifCond .ge 9, 3) := by decide +kernel
theorem dX12_lay_18 : decode cX12_lay 18 = .ok (.aload_n 0, 1) := by decide +kernel
theorem dX12_lay_19 : decode cX12_lay 19 = .ok (.iconst 1, 1) := by decide +kernel
theorem dX12_lay_20 : decode cX12_lay 20 = .ok (.invokevirtual 110, 3) := by decide +kernel
theorem dX12_lay_23 : decode cX12_lay 23 = .ok (.ireturn, 1) := by decide +kernel
theorem dX12_lay_24 : decode cX12_lay 24 = .ok (.iload_n 2, 1) := by decide +kernel
theorem dX12_lay_25 : decode cX12_lay 25 = .ok (.iconst 0, 1) := by decide +kernel
theorem dX12_lay_26 : decode cX12_lay 26 = .ok (.aload_n 0, 1) := by decide +kernel
theorem dX12_lay_27 : decode cX12_lay 27 = .ok (.getfield 17, 3) := by decide +kernel
theorem dX12_lay_30 : decode cX12_lay 30 = .ok (.iload_n 1, 1) := by decide +kernel
theorem dX12_lay_31 : decode cX12_lay 31 = .ok (.iaload, 1) := by decide +kernel
theorem dX12_lay_32 : decode cX12_lay 32 = .ok (.iconst 1, 1) := by decide +kernel
theorem dX12_lay_33 : decode cX12_lay 33 = .ok (.isub, 1) := by decide +kernel
theorem dX12_lay_34 : decode cX12_lay 34 = .ok (.invokestatic 96, 3) := by decide +kernel
theorem dX12_lay_37 : decode cX12_lay 37 = .ok (.ifCond .ne 9, 3) := by decide +kernel
theorem dX12_lay_40 : decode cX12_lay 40 = .ok (.aload_n 0, 1) := by decide +kernel
theorem dX12_lay_41 : decode cX12_lay 41 = .ok (.iconst 2, 1) := by decide +kernel
theorem dX12_lay_42 : decode cX12_lay 42 = .ok (.invokevirtual 110, 3) := by decide +kernel
theorem dX12_lay_45 : decode cX12_lay 45 = .ok (.ireturn, 1) := by decide +kernel
theorem dX12_lay_46 : decode cX12_lay 46 = .ok (.aload_n 0, 1) := by decide +kernel
theorem dX12_lay_47 : decode cX12_lay 47 = .ok (.iload_n 1, 1) := by decide +kernel
theorem dX12_lay_48 : decode cX12_lay 48 = .ok (.iload_n 2, 1) := by decide +kernel
theorem dX12_lay_49 : decode cX12_lay 49 = .ok (.invokevirtual 114, 3) := by decide +kernel
theorem dX12_lay_52 : decode cX12_lay 52 = .ok (.istore 4, 2) := by decide +kernel
theorem dX12_lay_54 : decode cX12_lay 54 = .ok (.aload_n 0, 1) := by decide +kernel
theorem dX12_lay_55 : decode cX12_lay 55 = .ok (.getfield 20, 3) := by decide +kernel
theorem dX12_lay_58 : decode cX12_lay 58 = .ok (.bipush 40, 2) := by decide +kernel
theorem dX12_lay_60 : decode cX12_lay 60 = .ok (.iload_n 1, 1) := by decide +kernel
theorem dX12_lay_61 : decode cX12_lay 61 = .ok (.imul, 1) := by decide +kernel
theorem dX12_lay_62 : decode cX12_lay 62 = .ok (.iload_n 2, 1) := by decide +kernel
theorem dX12_lay_63 : decode cX12_lay 63 = .ok (.iadd, 1) := by decide +kernel
theorem dX12_lay_64 : decode cX12_lay 64 = .ok (.iload_n 3, 1) := by decide +kernel
theorem dX12_lay_65 : decode cX12_lay 65 = .ok (.iastore, 1) := by decide +kernel
theorem dX12_lay_66 : decode cX12_lay 66 = .ok (.aload_n 0, 1) := by decide +kernel
theorem dX12_lay_67 : decode cX12_lay 67 = .ok (.iload 4, 2) := by decide +kernel
theorem dX12_lay_69 : decode cX12_lay 69 = .ok (.iconst 1, 1) := by decide +kernel
theorem dX12_lay_70 : decode cX12_lay 70 = .ok (.invokevirtual 118, 3) := by decide +kernel
theorem dX12_lay_73 : decode cX12_lay 73 = .ok (.ireturn, 1) := by decide +kernel
theorem dX12_at_0 : decode cX12_at 0 = .ok (.iload_n 1, 1) := by decide +kernel
theorem dX12_at_1 : decode cX12_at 1 = .ok (.invokestatic 106, 3) := by decide +kernel
theorem dX12_at_4 : decode cX12_at 4 = .ok (.ifCond .ne 5, 3) := by decide +kernel
theorem dX12_at_7 : decode cX12_at 7 = .ok (.iconst (-1), 1) := by decide +kernel
theorem dX12_at_8 : decode cX12_at 8 = .ok (.ireturn, 1) := by decide +kernel
theorem dX12_at_9 : decode cX12_at 9 = .ok (.aload_n 0, 1) := by decide +kernel
theorem dX12_at_10 : decode cX12_at 10 = .ok (.getfield 17, 3) := by decide +kernel
theorem dX12_at_13 : decode cX12_at 13 = .ok (.iload_n 1, 1) := by decide +kernel
theorem dX12_at_14 : decode cX12_at 14 = .ok (.iaload, 1) := by decide +kernel
theorem dX12_at_15 : decode cX12_at 15 = .ok (.ifCond .ge 9, 3) := by decide +kernel
theorem dX12_at_18 : decode cX12_at 18 = .ok (.aload_n 0, 1) := by decide +kernel
theorem dX12_at_19 : decode cX12_at 19 = .ok (.iconst 1, 1) := by decide +kernel
theorem dX12_at_20 : decode cX12_at 20 = .ok (.invokevirtual 110, 3) := by decide +kernel
theorem dX12_at_23 : decode cX12_at 23 = .ok (.ireturn, 1) := by decide +kernel
theorem dX12_at_24 : decode cX12_at 24 = .ok (.iload_n 2, 1) := by decide +kernel
theorem dX12_at_25 : decode cX12_at 25 = .ok (.iconst 0, 1) := by decide +kernel
theorem dX12_at_26 : decode cX12_at 26 = .ok (.aload_n 0, 1) := by decide +kernel
theorem dX12_at_27 : decode cX12_at 27 = .ok (.getfield 17, 3) := by decide +kernel
theorem dX12_at_30 : decode cX12_at 30 = .ok (.iload_n 1, 1) := by decide +kernel
theorem dX12_at_31 : decode cX12_at 31 = .ok (.iaload, 1) := by decide +kernel
theorem dX12_at_32 : decode cX12_at 32 = .ok (.iconst 1, 1) := by decide +kernel
theorem dX12_at_33 : decode cX12_at 33 = .ok (.isub, 1) := by decide +kernel
theorem dX12_at_34 : decode cX12_at 34 = .ok (.invokestatic 96, 3) := by decide +kernel
theorem dX12_at_37 : decode cX12_at 37 = .ok (.ifCond .eq 17, 3) := by decide +kernel
theorem dX12_at_40 : decode cX12_at 40 = .ok (.aload_n 0, 1) := by decide +kernel
theorem dX12_at_41 : decode cX12_at 41 = .ok (.aload_n 0, 1) := by decide +kernel
theorem dX12_at_42 : decode cX12_at 42 = .ok (.iload_n 1, 1) := by decide +kernel
theorem dX12_at_43 : decode cX12_at 43 = .ok (.iload_n 2, 1) := by decide +kernel
theorem dX12_at_44 : decode cX12_at 44 = .ok (.invokevirtual 114, 3) := by decide +kernel
theorem dX12_at_47 : decode cX12_at 47 = .ok (.iconst 1, 1) := by decide +kernel
theorem dX12_at_48 : decode cX12_at 48 = .ok (.invokevirtual 118, 3) := by decide +kernel
theorem dX12_at_51 : decode cX12_at 51 = .ok (.goto 8, 3) := by decide +kernel
theorem dX12_at_54 : decode cX12_at 54 = .ok (.aload_n 0, 1) := by decide +kernel
theorem dX12_at_55 : decode cX12_at 55 = .ok (.iconst 2, 1) := by decide +kernel
theorem dX12_at_56 : decode cX12_at 56 = .ok (.invokevirtual 110, 3) := by decide +kernel
theorem dX12_at_59 : decode cX12_at 59 = .ok (.ireturn, 1) := by decide +kernel
theorem dX12_tear_0 : decode cX12_tear 0 = .ok (.iload_n 1, 1) := by decide +kernel
theorem dX12_tear_1 : decode cX12_tear 1 = .ok (.invokestatic 106, 3) := by decide +kernel
theorem dX12_tear_4 : decode cX12_tear 4 = .ok (.ifCond .ne 5, 3) := by decide +kernel
theorem dX12_tear_7 : decode cX12_tear 7 = .ok (.iconst (-1), 1) := by decide +kernel
theorem dX12_tear_8 : decode cX12_tear 8 = .ok (.ireturn, 1) := by decide +kernel
theorem dX12_tear_9 : decode cX12_tear 9 = .ok (.aload_n 0, 1) := by decide +kernel
theorem dX12_tear_10 : decode cX12_tear 10 = .ok (.getfield 17, 3) := by decide +kernel
theorem dX12_tear_13 : decode cX12_tear 13 = .ok (.iload_n 1, 1) := by decide +kernel
theorem dX12_tear_14 : decode cX12_tear 14 = .ok (.iaload, 1) := by decide +kernel
theorem dX12_tear_15 : decode cX12_tear 15 = .ok (.ifCond .ge 9, 3) := by decide +kernel
theorem dX12_tear_18 : decode cX12_tear 18 = .ok (.aload_n 0, 1) := by decide +kernel
theorem dX12_tear_19 : decode cX12_tear 19 = .ok (.iconst 1, 1) := by decide +kernel
theorem dX12_tear_20 : decode cX12_tear 20 = .ok (.invokevirtual 110, 3) := by decide +kernel
theorem dX12_tear_23 : decode cX12_tear 23 = .ok (.ireturn, 1) := by decide +kernel
theorem dX12_tear_24 : decode cX12_tear 24 = .ok (.aload_n 0, 1) := by decide +kernel
theorem dX12_tear_25 : decode cX12_tear 25 = .ok (.getfield 17, 3) := by decide +kernel
theorem dX12_tear_28 : decode cX12_tear 28 = .ok (.iload_n 1, 1) := by decide +kernel
theorem dX12_tear_29 : decode cX12_tear 29 = .ok (.iconst (-1), 1) := by decide +kernel
theorem dX12_tear_30 : decode cX12_tear 30 = .ok (.iastore, 1) := by decide +kernel
theorem dX12_tear_31 : decode cX12_tear 31 = .ok (.iconst 1, 1) := by decide +kernel
theorem dX12_tear_32 : decode cX12_tear 32 = .ok (.ireturn, 1) := by decide +kernel
theorem dX12_copy_0 : decode cX12_copy 0 = .ok (.iload_n 1, 1) := by decide +kernel
theorem dX12_copy_1 : decode cX12_copy 1 = .ok (.invokestatic 106, 3) := by decide +kernel
theorem dX12_copy_4 : decode cX12_copy 4 = .ok (.ifCond .eq 10, 3) := by decide +kernel
theorem dX12_copy_7 : decode cX12_copy 7 = .ok (.iload_n 3, 1) := by decide +kernel
theorem dX12_copy_8 : decode cX12_copy 8 = .ok (.invokestatic 106, 3) := by decide +kernel
theorem dX12_copy_11 : decode cX12_copy 11 = .ok (.ifCond .ne 5, 3) := by decide +kernel
theorem dX12_copy_14 : decode cX12_copy 14 = .ok (.iconst (-1), 1) := by decide +kernel
theorem dX12_copy_15 : decode cX12_copy 15 = .ok (.ireturn, 1) := by decide +kernel
theorem dX12_copy_16 : decode cX12_copy 16 = .ok (.iload 5, 2) := by decide +kernel
theorem dX12_copy_18 : decode cX12_copy 18 = .ok (.ifCond .ge 9, 3) := by decide +kernel
theorem dX12_copy_21 : decode cX12_copy 21 = .ok (.aload_n 0, 1) := by decide +kernel
theorem dX12_copy_22 : decode cX12_copy 22 = .ok (.iconst 5, 1) := by decide +kernel
theorem dX12_copy_23 : decode cX12_copy 23 = .ok (.invokevirtual 110, 3) := by decide +kernel
theorem dX12_copy_26 : decode cX12_copy 26 = .ok (.ireturn, 1) := by decide +kernel
theorem dX12_copy_27 : decode cX12_copy 27 = .ok (.aload_n 0, 1) := by decide +kernel
theorem dX12_copy_28 : decode cX12_copy 28 = .ok (.getfield 17, 3) := by decide +kernel
theorem dX12_copy_31 : decode cX12_copy 31 = .ok (.iload_n 1, 1) := by decide +kernel
theorem dX12_copy_32 : decode cX12_copy 32 = .ok (.iaload, 1) := by decide +kernel
theorem dX12_copy_33 : decode cX12_copy 33 = .ok (.ifCond .lt 12, 3) := by decide +kernel
theorem dX12_copy_36 : decode cX12_copy 36 = .ok (.aload_n 0, 1) := by decide +kernel
theorem dX12_copy_37 : decode cX12_copy 37 = .ok (.getfield 17, 3) := by decide +kernel
theorem dX12_copy_40 : decode cX12_copy 40 = .ok (.iload_n 3, 1) := by decide +kernel
theorem dX12_copy_41 : decode cX12_copy 41 = .ok (.iaload, 1) := by decide +kernel
theorem dX12_copy_42 : decode cX12_copy 42 = .ok (.ifCond .ge 9, 3) := by decide +kernel
theorem dX12_copy_45 : decode cX12_copy 45 = .ok (.aload_n 0, 1) := by decide +kernel
theorem dX12_copy_46 : decode cX12_copy 46 = .ok (.iconst 1, 1) := by decide +kernel
theorem dX12_copy_47 : decode cX12_copy 47 = .ok (.invokevirtual 110, 3) := by decide +kernel
theorem dX12_copy_50 : decode cX12_copy 50 = .ok (.ireturn, 1) := by decide +kernel
theorem dX12_copy_51 : decode cX12_copy 51 = .ok (.iload_n 2, 1) := by decide +kernel
theorem dX12_copy_52 : decode cX12_copy 52 = .ok (.ifCond .lt 43, 3) := by decide +kernel
theorem dX12_copy_55 : decode cX12_copy 55 = .ok (.iload 4, 2) := by decide +kernel
theorem dX12_copy_57 : decode cX12_copy 57 = .ok (.ifCond .lt 38, 3) := by decide +kernel
theorem dX12_copy_60 : decode cX12_copy 60 = .ok (.iload_n 2, 1) := by decide +kernel
theorem dX12_copy_61 : decode cX12_copy 61 = .ok (.i2l, 1) := by decide +kernel
theorem dX12_copy_62 : decode cX12_copy 62 = .ok (.iload 5, 2) := by decide +kernel
theorem dX12_copy_64 : decode cX12_copy 64 = .ok (.i2l, 1) := by decide +kernel
theorem dX12_copy_65 : decode cX12_copy 65 = .ok (.ladd, 1) := by decide +kernel
theorem dX12_copy_66 : decode cX12_copy 66 = .ok (.aload_n 0, 1) := by decide +kernel
theorem dX12_copy_67 : decode cX12_copy 67 = .ok (.getfield 17, 3) := by decide +kernel
theorem dX12_copy_70 : decode cX12_copy 70 = .ok (.iload_n 1, 1) := by decide +kernel
theorem dX12_copy_71 : decode cX12_copy 71 = .ok (.iaload, 1) := by decide +kernel
theorem dX12_copy_72 : decode cX12_copy 72 = .ok (.i2l, 1) := by decide +kernel
theorem dX12_copy_73 : decode cX12_copy 73 = .ok (.lcmp, 1) := by decide +kernel
theorem dX12_copy_74 : decode cX12_copy 74 = .ok (.ifCond .gt 21, 3) := by decide +kernel
theorem dX12_copy_77 : decode cX12_copy 77 = .ok (.iload 4, 2) := by decide +kernel
theorem dX12_copy_79 : decode cX12_copy 79 = .ok (.i2l, 1) := by decide +kernel
theorem dX12_copy_80 : decode cX12_copy 80 = .ok (.iload 5, 2) := by decide +kernel
theorem dX12_copy_82 : decode cX12_copy 82 = .ok (.i2l, 1) := by decide +kernel
theorem dX12_copy_83 : decode cX12_copy 83 = .ok (.ladd, 1) := by decide +kernel
theorem dX12_copy_84 : decode cX12_copy 84 = .ok (.aload_n 0, 1) := by decide +kernel
theorem dX12_copy_85 : decode cX12_copy 85 = .ok (.getfield 17, 3) := by decide +kernel
theorem dX12_copy_88 : decode cX12_copy 88 = .ok (.iload_n 3, 1) := by decide +kernel
theorem dX12_copy_89 : decode cX12_copy 89 = .ok (.iaload, 1) := by decide +kernel
theorem dX12_copy_90 : decode cX12_copy 90 = .ok (.i2l, 1) := by decide +kernel
theorem dX12_copy_91 : decode cX12_copy 91 = .ok (.lcmp, 1) := by decide +kernel
theorem dX12_copy_92 : decode cX12_copy 92 = .ok (.ifCond .le 9, 3) := by decide +kernel
theorem dX12_copy_95 : decode cX12_copy 95 = .ok (.aload_n 0, 1) := by decide +kernel
theorem dX12_copy_96 : decode cX12_copy 96 = .ok (.iconst 2, 1) := by decide +kernel
theorem dX12_copy_97 : decode cX12_copy 97 = .ok (.invokevirtual 110, 3) := by decide +kernel
theorem dX12_copy_100 : decode cX12_copy 100 = .ok (.ireturn, 1) := by decide +kernel
theorem dX12_copy_101 : decode cX12_copy 101 = .ok (.iconst 0, 1) := by decide +kernel
theorem dX12_copy_102 : decode cX12_copy 102 = .ok (.istore 6, 2) := by decide +kernel
theorem dX12_copy_104 : decode cX12_copy 104 = .ok (.iload 6, 2) := by decide +kernel
theorem dX12_copy_106 : decode cX12_copy 106 = .ok (.iload 5, 2) := by decide +kernel
theorem dX12_copy_108 : decode cX12_copy 108 = .ok (.if_icmp .ge 25, 3) := by decide +kernel
theorem dX12_copy_111 : decode cX12_copy 111 = .ok (.aload_n 0, 1) := by decide +kernel
theorem dX12_copy_112 : decode cX12_copy 112 = .ok (.getfield 23, 3) := by decide +kernel
theorem dX12_copy_115 : decode cX12_copy 115 = .ok (.iload 6, 2) := by decide +kernel
theorem dX12_copy_117 : decode cX12_copy 117 = .ok (.aload_n 0, 1) := by decide +kernel
theorem dX12_copy_118 : decode cX12_copy 118 = .ok (.iload_n 1, 1) := by decide +kernel
theorem dX12_copy_119 : decode cX12_copy 119 = .ok (.iload_n 2, 1) := by decide +kernel
theorem dX12_copy_120 : decode cX12_copy 120 = .ok (.iload 6, 2) := by decide +kernel
theorem dX12_copy_122 : decode cX12_copy 122 = .ok (.iadd, 1) := by decide +kernel
theorem dX12_copy_123 : decode cX12_copy 123 = .ok (.invokevirtual 114, 3) := by decide +kernel
theorem dX12_copy_126 : decode cX12_copy 126 = .ok (.iastore, 1) := by decide +kernel
theorem dX12_copy_127 : decode cX12_copy 127 = .ok (.iinc 6 1, 3) := by decide +kernel
theorem dX12_copy_130 : decode cX12_copy 130 = .ok (.goto (-26), 3) := by decide +kernel
theorem dX12_copy_133 : decode cX12_copy 133 = .ok (.iconst 0, 1) := by decide +kernel
theorem dX12_copy_134 : decode cX12_copy 134 = .ok (.istore 6, 2) := by decide +kernel
theorem dX12_copy_136 : decode cX12_copy 136 = .ok (.iload 6, 2) := by decide +kernel
theorem dX12_copy_138 : decode cX12_copy 138 = .ok (.iload 5, 2) := by decide +kernel
theorem dX12_copy_140 : decode cX12_copy 140 = .ok (.if_icmp .ge 31, 3) := by decide +kernel
theorem dX12_copy_143 : decode cX12_copy 143 = .ok (.aload_n 0, 1) := by decide +kernel
theorem dX12_copy_144 : decode cX12_copy 144 = .ok (.getfield 20, 3) := by decide +kernel
theorem dX12_copy_147 : decode cX12_copy 147 = .ok (.bipush 40, 2) := by decide +kernel
theorem dX12_copy_149 : decode cX12_copy 149 = .ok (.iload_n 3, 1) := by decide +kernel
theorem dX12_copy_150 : decode cX12_copy 150 = .ok (.imul, 1) := by decide +kernel
theorem dX12_copy_151 : decode cX12_copy 151 = .ok (.iload 4, 2) := by decide +kernel
theorem dX12_copy_153 : decode cX12_copy 153 = .ok (.iadd, 1) := by decide +kernel
theorem dX12_copy_154 : decode cX12_copy 154 = .ok (.iload 6, 2) := by decide +kernel
theorem dX12_copy_156 : decode cX12_copy 156 = .ok (.iadd, 1) := by decide +kernel
theorem dX12_copy_157 : decode cX12_copy 157 = .ok (.aload_n 0, 1) := by decide +kernel
theorem dX12_copy_158 : decode cX12_copy 158 = .ok (.getfield 23, 3) := by decide +kernel
theorem dX12_copy_161 : decode cX12_copy 161 = .ok (.iload 6, 2) := by decide +kernel
theorem dX12_copy_163 : decode cX12_copy 163 = .ok (.iaload, 1) := by decide +kernel
theorem dX12_copy_164 : decode cX12_copy 164 = .ok (.iastore, 1) := by decide +kernel
theorem dX12_copy_165 : decode cX12_copy 165 = .ok (.iinc 6 1, 3) := by decide +kernel
theorem dX12_copy_168 : decode cX12_copy 168 = .ok (.goto (-32), 3) := by decide +kernel
theorem dX12_copy_171 : decode cX12_copy 171 = .ok (.iconst 1, 1) := by decide +kernel
theorem dX12_copy_172 : decode cX12_copy 172 = .ok (.ireturn, 1) := by decide +kernel
theorem dX12_mean_0 : decode cX12_mean 0 = .ok (.iload_n 1, 1) := by decide +kernel
theorem dX12_mean_1 : decode cX12_mean 1 = .ok (.invokestatic 106, 3) := by decide +kernel
theorem dX12_mean_4 : decode cX12_mean 4 = .ok (.ifCond .ne 5, 3) := by decide +kernel
theorem dX12_mean_7 : decode cX12_mean 7 = .ok (.iconst (-1), 1) := by decide +kernel
theorem dX12_mean_8 : decode cX12_mean 8 = .ok (.ireturn, 1) := by decide +kernel
theorem dX12_mean_9 : decode cX12_mean 9 = .ok (.aload_n 0, 1) := by decide +kernel
theorem dX12_mean_10 : decode cX12_mean 10 = .ok (.getfield 17, 3) := by decide +kernel
theorem dX12_mean_13 : decode cX12_mean 13 = .ok (.iload_n 1, 1) := by decide +kernel
theorem dX12_mean_14 : decode cX12_mean 14 = .ok (.iaload, 1) := by decide +kernel
theorem dX12_mean_15 : decode cX12_mean 15 = .ok (.ifCond .ge 9, 3) := by decide +kernel
theorem dX12_mean_18 : decode cX12_mean 18 = .ok (.aload_n 0, 1) := by decide +kernel
theorem dX12_mean_19 : decode cX12_mean 19 = .ok (.iconst 1, 1) := by decide +kernel
theorem dX12_mean_20 : decode cX12_mean 20 = .ok (.invokevirtual 110, 3) := by decide +kernel
theorem dX12_mean_23 : decode cX12_mean 23 = .ok (.ireturn, 1) := by decide +kernel
theorem dX12_mean_24 : decode cX12_mean 24 = .ok (.aload_n 0, 1) := by decide +kernel
theorem dX12_mean_25 : decode cX12_mean 25 = .ok (.getfield 17, 3) := by decide +kernel
theorem dX12_mean_28 : decode cX12_mean 28 = .ok (.iload_n 1, 1) := by decide +kernel
theorem dX12_mean_29 : decode cX12_mean 29 = .ok (.iaload, 1) := by decide +kernel
theorem dX12_mean_30 : decode cX12_mean 30 = .ok (.ifCond .ne 9, 3) := by decide +kernel
theorem dX12_mean_33 : decode cX12_mean 33 = .ok (.aload_n 0, 1) := by decide +kernel
theorem dX12_mean_34 : decode cX12_mean 34 = .ok (.iconst 4, 1) := by decide +kernel
theorem dX12_mean_35 : decode cX12_mean 35 = .ok (.invokevirtual 110, 3) := by decide +kernel
theorem dX12_mean_38 : decode cX12_mean 38 = .ok (.ireturn, 1) := by decide +kernel
theorem dX12_mean_39 : decode cX12_mean 39 = .ok (.lconst 0, 1) := by decide +kernel
theorem dX12_mean_40 : decode cX12_mean 40 = .ok (.lstore_n 2, 1) := by decide +kernel
theorem dX12_mean_41 : decode cX12_mean 41 = .ok (.iconst 0, 1) := by decide +kernel
theorem dX12_mean_42 : decode cX12_mean 42 = .ok (.istore 4, 2) := by decide +kernel
theorem dX12_mean_44 : decode cX12_mean 44 = .ok (.iload 4, 2) := by decide +kernel
theorem dX12_mean_46 : decode cX12_mean 46 = .ok (.aload_n 0, 1) := by decide +kernel
theorem dX12_mean_47 : decode cX12_mean 47 = .ok (.getfield 17, 3) := by decide +kernel
theorem dX12_mean_50 : decode cX12_mean 50 = .ok (.iload_n 1, 1) := by decide +kernel
theorem dX12_mean_51 : decode cX12_mean 51 = .ok (.iaload, 1) := by decide +kernel
theorem dX12_mean_52 : decode cX12_mean 52 = .ok (.if_icmp .ge 20, 3) := by decide +kernel
theorem dX12_mean_55 : decode cX12_mean 55 = .ok (.lload_n 2, 1) := by decide +kernel
theorem dX12_mean_56 : decode cX12_mean 56 = .ok (.aload_n 0, 1) := by decide +kernel
theorem dX12_mean_57 : decode cX12_mean 57 = .ok (.iload_n 1, 1) := by decide +kernel
theorem dX12_mean_58 : decode cX12_mean 58 = .ok (.iload 4, 2) := by decide +kernel
theorem dX12_mean_60 : decode cX12_mean 60 = .ok (.invokevirtual 114, 3) := by decide +kernel
theorem dX12_mean_63 : decode cX12_mean 63 = .ok (.i2l, 1) := by decide +kernel
theorem dX12_mean_64 : decode cX12_mean 64 = .ok (.ladd, 1) := by decide +kernel
theorem dX12_mean_65 : decode cX12_mean 65 = .ok (.lstore_n 2, 1) := by decide +kernel
theorem dX12_mean_66 : decode cX12_mean 66 = .ok (.iinc 4 1, 3) := by decide +kernel
theorem dX12_mean_69 : decode cX12_mean 69 = .ok (.goto (-25), 3) := by decide +kernel
theorem dX12_mean_72 : decode cX12_mean 72 = .ok (.aload_n 0, 1) := by decide +kernel
theorem dX12_mean_73 : decode cX12_mean 73 = .ok (.lload_n 2, 1) := by decide +kernel
theorem dX12_mean_74 : decode cX12_mean 74 = .ok (.aload_n 0, 1) := by decide +kernel
theorem dX12_mean_75 : decode cX12_mean 75 = .ok (.getfield 17, 3) := by decide +kernel
theorem dX12_mean_78 : decode cX12_mean 78 = .ok (.iload_n 1, 1) := by decide +kernel
theorem dX12_mean_79 : decode cX12_mean 79 = .ok (.iaload, 1) := by decide +kernel
theorem dX12_mean_80 : decode cX12_mean 80 = .ok (.i2l, 1) := by decide +kernel
theorem dX12_mean_81 : decode cX12_mean 81 = .ok (.ldiv, 1) := by decide +kernel
theorem dX12_mean_82 : decode cX12_mean 82 = .ok (.l2i, 1) := by decide +kernel
theorem dX12_mean_83 : decode cX12_mean 83 = .ok (.iconst 1, 1) := by decide +kernel
theorem dX12_mean_84 : decode cX12_mean 84 = .ok (.invokevirtual 118, 3) := by decide +kernel
theorem dX12_mean_87 : decode cX12_mean 87 = .ok (.ireturn, 1) := by decide +kernel
theorem dX12_isText_0 : decode cX12_isText 0 = .ok (.iload_n 0, 1) := by decide +kernel
theorem dX12_isText_1 : decode cX12_isText 1 = .ok (.iconst 0, 1) := by decide +kernel
theorem dX12_isText_2 : decode cX12_isText 2 = .ok (.iconst 3, 1) := by decide +kernel
theorem dX12_isText_3 : decode cX12_isText 3 = .ok (.invokestatic 96, 3) := by decide +kernel
theorem dX12_isText_6 : decode cX12_isText 6 = .ok (.ireturn, 1) := by decide +kernel
theorem dX12_text_0 : decode cX12_text 0 = .ok (.iload_n 1, 1) := by decide +kernel
theorem dX12_text_1 : decode cX12_text 1 = .ok (.invokestatic 121, 3) := by decide +kernel
theorem dX12_text_4 : decode cX12_text 4 = .ok (.ifCond .eq 9, 3) := by decide +kernel
theorem dX12_text_7 : decode cX12_text 7 = .ok (.iload_n 2, 1) := by decide +kernel
theorem dX12_text_8 : decode cX12_text 8 = .ok (.bipush 60, 2) := by decide +kernel
theorem dX12_text_10 : decode cX12_text 10 = .ok (.if_icmp .le 5, 3) := by decide +kernel
theorem dX12_text_13 : decode cX12_text 13 = .ok (.iconst (-1), 1) := by decide +kernel
theorem dX12_text_14 : decode cX12_text 14 = .ok (.ireturn, 1) := by decide +kernel
theorem dX12_text_15 : decode cX12_text 15 = .ok (.iload_n 2, 1) := by decide +kernel
theorem dX12_text_16 : decode cX12_text 16 = .ok (.ifCond .ge 9, 3) := by decide +kernel
theorem dX12_text_19 : decode cX12_text 19 = .ok (.aload_n 0, 1) := by decide +kernel
theorem dX12_text_20 : decode cX12_text 20 = .ok (.iconst 5, 1) := by decide +kernel
theorem dX12_text_21 : decode cX12_text 21 = .ok (.invokevirtual 110, 3) := by decide +kernel
theorem dX12_text_24 : decode cX12_text 24 = .ok (.ireturn, 1) := by decide +kernel
theorem dX12_text_25 : decode cX12_text 25 = .ok (.aload_n 0, 1) := by decide +kernel
theorem dX12_text_26 : decode cX12_text 26 = .ok (.getfield 26, 3) := by decide +kernel
theorem dX12_text_29 : decode cX12_text 29 = .ok (.iload_n 1, 1) := by decide +kernel
theorem dX12_text_30 : decode cX12_text 30 = .ok (.iload_n 2, 1) := by decide +kernel
theorem dX12_text_31 : decode cX12_text 31 = .ok (.iastore, 1) := by decide +kernel
theorem dX12_text_32 : decode cX12_text 32 = .ok (.iconst 0, 1) := by decide +kernel
theorem dX12_text_33 : decode cX12_text 33 = .ok (.istore_n 3, 1) := by decide +kernel
theorem dX12_text_34 : decode cX12_text 34 = .ok (.iload_n 3, 1) := by decide +kernel
theorem dX12_text_35 : decode cX12_text 35 = .ok (.bipush 60, 2) := by decide +kernel
theorem dX12_text_37 : decode cX12_text 37 = .ok (.if_icmp .ge 22, 3) := by decide +kernel
theorem dX12_text_40 : decode cX12_text 40 = .ok (.aload_n 0, 1) := by decide +kernel
theorem dX12_text_41 : decode cX12_text 41 = .ok (.getfield 29, 3) := by decide +kernel
theorem dX12_text_44 : decode cX12_text 44 = .ok (.bipush 60, 2) := by decide +kernel
theorem dX12_text_46 : decode cX12_text 46 = .ok (.iload_n 1, 1) := by decide +kernel
theorem dX12_text_47 : decode cX12_text 47 = .ok (.imul, 1) := by decide +kernel
theorem dX12_text_48 : decode cX12_text 48 = .ok (.iload_n 3, 1) := by decide +kernel
theorem dX12_text_49 : decode cX12_text 49 = .ok (.iadd, 1) := by decide +kernel
theorem dX12_text_50 : decode cX12_text 50 = .ok (.bipush 32, 2) := by decide +kernel
theorem dX12_text_52 : decode cX12_text 52 = .ok (.bastore, 1) := by decide +kernel
theorem dX12_text_53 : decode cX12_text 53 = .ok (.iinc 3 1, 3) := by decide +kernel
theorem dX12_text_56 : decode cX12_text 56 = .ok (.goto (-22), 3) := by decide +kernel
theorem dX12_text_59 : decode cX12_text 59 = .ok (.iload_n 2, 1) := by decide +kernel
theorem dX12_text_60 : decode cX12_text 60 = .ok (.ireturn, 1) := by decide +kernel
theorem dX12_put_0 : decode cX12_put 0 = .ok (.iload_n 1, 1) := by decide +kernel
theorem dX12_put_1 : decode cX12_put 1 = .ok (.invokestatic 121, 3) := by decide +kernel
theorem dX12_put_4 : decode cX12_put 4 = .ok (.ifCond .ne 5, 3) := by decide +kernel
theorem dX12_put_7 : decode cX12_put 7 = .ok (.iconst (-1), 1) := by decide +kernel
theorem dX12_put_8 : decode cX12_put 8 = .ok (.ireturn, 1) := by decide +kernel
theorem dX12_put_9 : decode cX12_put 9 = .ok (.aload_n 0, 1) := by decide +kernel
theorem dX12_put_10 : decode cX12_put 10 = .ok (.getfield 26, 3) := by decide +kernel
theorem dX12_put_13 : decode cX12_put 13 = .ok (.iload_n 1, 1) := by decide +kernel
theorem dX12_put_14 : decode cX12_put 14 = .ok (.iaload, 1) := by decide +kernel
theorem dX12_put_15 : decode cX12_put 15 = .ok (.ifCond .ge 9, 3) := by decide +kernel
theorem dX12_put_18 : decode cX12_put 18 = .ok (.aload_n 0, 1) := by decide +kernel
theorem dX12_put_19 : decode cX12_put 19 = .ok (.iconst 1, 1) := by decide +kernel
theorem dX12_put_20 : decode cX12_put 20 = .ok (.invokevirtual 110, 3) := by decide +kernel
theorem dX12_put_23 : decode cX12_put 23 = .ok (.ireturn, 1) := by decide +kernel
theorem dX12_put_24 : decode cX12_put 24 = .ok (.iload_n 2, 1) := by decide +kernel
theorem dX12_put_25 : decode cX12_put 25 = .ok (.iconst 0, 1) := by decide +kernel
theorem dX12_put_26 : decode cX12_put 26 = .ok (.aload_n 0, 1) := by decide +kernel
theorem dX12_put_27 : decode cX12_put 27 = .ok (.getfield 26, 3) := by decide +kernel
theorem dX12_put_30 : decode cX12_put 30 = .ok (.iload_n 1, 1) := by decide +kernel
theorem dX12_put_31 : decode cX12_put 31 = .ok (.iaload, 1) := by decide +kernel
theorem dX12_put_32 : decode cX12_put 32 = .ok (.iconst 1, 1) := by decide +kernel
theorem dX12_put_33 : decode cX12_put 33 = .ok (.isub, 1) := by decide +kernel
theorem dX12_put_34 : decode cX12_put 34 = .ok (.invokestatic 96, 3) := by decide +kernel
theorem dX12_put_37 : decode cX12_put 37 = .ok (.ifCond .ne 9, 3) := by decide +kernel
theorem dX12_put_40 : decode cX12_put 40 = .ok (.aload_n 0, 1) := by decide +kernel
theorem dX12_put_41 : decode cX12_put 41 = .ok (.iconst 2, 1) := by decide +kernel
theorem dX12_put_42 : decode cX12_put 42 = .ok (.invokevirtual 110, 3) := by decide +kernel
theorem dX12_put_45 : decode cX12_put 45 = .ok (.ireturn, 1) := by decide +kernel
theorem dX12_put_46 : decode cX12_put 46 = .ok (.aload_n 0, 1) := by decide +kernel
theorem dX12_put_47 : decode cX12_put 47 = .ok (.getfield 29, 3) := by decide +kernel
theorem dX12_put_50 : decode cX12_put 50 = .ok (.bipush 60, 2) := by decide +kernel
theorem dX12_put_52 : decode cX12_put 52 = .ok (.iload_n 1, 1) := by decide +kernel
theorem dX12_put_53 : decode cX12_put 53 = .ok (.imul, 1) := by decide +kernel
theorem dX12_put_54 : decode cX12_put 54 = .ok (.iload_n 2, 1) := by decide +kernel
theorem dX12_put_55 : decode cX12_put 55 = .ok (.iadd, 1) := by decide +kernel
theorem dX12_put_56 : decode cX12_put 56 = .ok (.baload, 1) := by decide +kernel
theorem dX12_put_57 : decode cX12_put 57 = .ok (.istore 4, 2) := by decide +kernel
theorem dX12_put_59 : decode cX12_put 59 = .ok (.aload_n 0, 1) := by decide +kernel
theorem dX12_put_60 : decode cX12_put 60 = .ok (.getfield 29, 3) := by decide +kernel
theorem dX12_put_63 : decode cX12_put 63 = .ok (.bipush 60, 2) := by decide +kernel
theorem dX12_put_65 : decode cX12_put 65 = .ok (.iload_n 1, 1) := by decide +kernel
theorem dX12_put_66 : decode cX12_put 66 = .ok (.imul, 1) := by decide +kernel
theorem dX12_put_67 : decode cX12_put 67 = .ok (.iload_n 2, 1) := by decide +kernel
theorem dX12_put_68 : decode cX12_put 68 = .ok (.iadd, 1) := by decide +kernel
theorem dX12_put_69 : decode cX12_put 69 = .ok (.iload_n 3, 1) := by decide +kernel
theorem dX12_put_70 : decode cX12_put 70 = .ok (.i2b, 1) := by decide +kernel
theorem dX12_put_71 : decode cX12_put 71 = .ok (.bastore, 1) := by decide +kernel
theorem dX12_put_72 : decode cX12_put 72 = .ok (.sipush 1000, 3) := by decide +kernel
theorem dX12_put_75 : decode cX12_put 75 = .ok (.iload 4, 2) := by decide +kernel
theorem dX12_put_77 : decode cX12_put 77 = .ok (.iadd, 1) := by decide +kernel
theorem dX12_put_78 : decode cX12_put 78 = .ok (.ireturn, 1) := by decide +kernel
theorem dX12_byteAt_0 : decode cX12_byteAt 0 = .ok (.iload_n 2, 1) := by decide +kernel
theorem dX12_byteAt_1 : decode cX12_byteAt 1 = .ok (.aload_n 0, 1) := by decide +kernel
theorem dX12_byteAt_2 : decode cX12_byteAt 2 = .ok (.getfield 26, 3) := by decide +kernel
theorem dX12_byteAt_5 : decode cX12_byteAt 5 = .ok (.iload_n 1, 1) := by decide +kernel
theorem dX12_byteAt_6 : decode cX12_byteAt 6 = .ok (.iaload, 1) := by decide +kernel
theorem dX12_byteAt_7 : decode cX12_byteAt 7 = .ok (.if_icmp .ge 17, 3) := by decide +kernel
theorem dX12_byteAt_10 : decode cX12_byteAt 10 = .ok (.aload_n 0, 1) := by decide +kernel
theorem dX12_byteAt_11 : decode cX12_byteAt 11 = .ok (.getfield 29, 3) := by decide +kernel
theorem dX12_byteAt_14 : decode cX12_byteAt 14 = .ok (.bipush 60, 2) := by decide +kernel
theorem dX12_byteAt_16 : decode cX12_byteAt 16 = .ok (.iload_n 1, 1) := by decide +kernel
theorem dX12_byteAt_17 : decode cX12_byteAt 17 = .ok (.imul, 1) := by decide +kernel
theorem dX12_byteAt_18 : decode cX12_byteAt 18 = .ok (.iload_n 2, 1) := by decide +kernel
theorem dX12_byteAt_19 : decode cX12_byteAt 19 = .ok (.iadd, 1) := by decide +kernel
theorem dX12_byteAt_20 : decode cX12_byteAt 20 = .ok (.baload, 1) := by decide +kernel
theorem dX12_byteAt_21 : decode cX12_byteAt 21 = .ok (.goto 4, 3) := by decide +kernel
theorem dX12_byteAt_24 : decode cX12_byteAt 24 = .ok (.iconst 0, 1) := by decide +kernel
theorem dX12_byteAt_25 : decode cX12_byteAt 25 = .ok (.ireturn, 1) := by decide +kernel
theorem dX12_layRow_0 : decode cX12_layRow 0 = .ok (.aload_n 0, 1) := by decide +kernel
theorem dX12_layRow_1 : decode cX12_layRow 1 = .ok (.getfield 17, 3) := by decide +kernel
theorem dX12_layRow_4 : decode cX12_layRow 4 = .ok (.iload_n 1, 1) := by decide +kernel
theorem dX12_layRow_5 : decode cX12_layRow 5 = .ok (.iload_n 3, 1) := by decide +kernel
theorem dX12_layRow_6 : decode cX12_layRow 6 = .ok (.iastore, 1) := by decide +kernel
theorem dX12_layRow_7 : decode cX12_layRow 7 = .ok (.iconst 0, 1) := by decide +kernel
theorem dX12_layRow_8 : decode cX12_layRow 8 = .ok (.istore 4, 2) := by decide +kernel
theorem dX12_layRow_10 : decode cX12_layRow 10 = .ok (.iload 4, 2) := by decide +kernel
theorem dX12_layRow_12 : decode cX12_layRow 12 = .ok (.bipush 40, 2) := by decide +kernel
theorem dX12_layRow_14 : decode cX12_layRow 14 = .ok (.if_icmp .ge 35, 3) := by decide +kernel
theorem dX12_layRow_17 : decode cX12_layRow 17 = .ok (.aload_n 0, 1) := by decide +kernel
theorem dX12_layRow_18 : decode cX12_layRow 18 = .ok (.getfield 20, 3) := by decide +kernel
theorem dX12_layRow_21 : decode cX12_layRow 21 = .ok (.bipush 40, 2) := by decide +kernel
theorem dX12_layRow_23 : decode cX12_layRow 23 = .ok (.iload_n 1, 1) := by decide +kernel
theorem dX12_layRow_24 : decode cX12_layRow 24 = .ok (.imul, 1) := by decide +kernel
theorem dX12_layRow_25 : decode cX12_layRow 25 = .ok (.iload 4, 2) := by decide +kernel
theorem dX12_layRow_27 : decode cX12_layRow 27 = .ok (.iadd, 1) := by decide +kernel
theorem dX12_layRow_28 : decode cX12_layRow 28 = .ok (.iload 4, 2) := by decide +kernel
theorem dX12_layRow_30 : decode cX12_layRow 30 = .ok (.iload_n 3, 1) := by decide +kernel
theorem dX12_layRow_31 : decode cX12_layRow 31 = .ok (.if_icmp .ge 10, 3) := by decide +kernel
theorem dX12_layRow_34 : decode cX12_layRow 34 = .ok (.aload_n 2, 1) := by decide +kernel
theorem dX12_layRow_35 : decode cX12_layRow 35 = .ok (.iload 4, 2) := by decide +kernel
theorem dX12_layRow_37 : decode cX12_layRow 37 = .ok (.iaload, 1) := by decide +kernel
theorem dX12_layRow_38 : decode cX12_layRow 38 = .ok (.goto 4, 3) := by decide +kernel
theorem dX12_layRow_41 : decode cX12_layRow 41 = .ok (.iconst 0, 1) := by decide +kernel
theorem dX12_layRow_42 : decode cX12_layRow 42 = .ok (.iastore, 1) := by decide +kernel
theorem dX12_layRow_43 : decode cX12_layRow 43 = .ok (.iinc 4 1, 3) := by decide +kernel
theorem dX12_layRow_46 : decode cX12_layRow 46 = .ok (.goto (-36), 3) := by decide +kernel
theorem dX12_layRow_49 : decode cX12_layRow 49 = .ok (.return_, 1) := by decide +kernel
theorem dX12_kindOf_0 : decode cX12_kindOf 0 = .ok (.iload_n 0, 1) := by decide +kernel
theorem dX12_kindOf_1 : decode cX12_kindOf 1 = .ok (.tableswitch 99 99 116 #[91, 99, 99, 99, 87, 89, 99, 99, 93, 99, 99, 99, 99, 99, 99, 95, 99, 97], 87) := by decide +kernel
theorem dX12_kindOf_88 : decode cX12_kindOf 88 = .ok (.iconst 0, 1) := by decide +kernel
theorem dX12_kindOf_89 : decode cX12_kindOf 89 = .ok (.ireturn, 1) := by decide +kernel
theorem dX12_kindOf_90 : decode cX12_kindOf 90 = .ok (.iconst 1, 1) := by decide +kernel
theorem dX12_kindOf_91 : decode cX12_kindOf 91 = .ok (.ireturn, 1) := by decide +kernel
theorem dX12_kindOf_92 : decode cX12_kindOf 92 = .ok (.iconst 2, 1) := by decide +kernel
theorem dX12_kindOf_93 : decode cX12_kindOf 93 = .ok (.ireturn, 1) := by decide +kernel
theorem dX12_kindOf_94 : decode cX12_kindOf 94 = .ok (.iconst 3, 1) := by decide +kernel
theorem dX12_kindOf_95 : decode cX12_kindOf 95 = .ok (.ireturn, 1) := by decide +kernel
theorem dX12_kindOf_96 : decode cX12_kindOf 96 = .ok (.iconst 4, 1) := by decide +kernel
theorem dX12_kindOf_97 : decode cX12_kindOf 97 = .ok (.ireturn, 1) := by decide +kernel
theorem dX12_kindOf_98 : decode cX12_kindOf 98 = .ok (.iconst 5, 1) := by decide +kernel
theorem dX12_kindOf_99 : decode cX12_kindOf 99 = .ok (.ireturn, 1) := by decide +kernel
theorem dX12_kindOf_100 : decode cX12_kindOf 100 = .ok (.bipush (-9), 2) := by decide +kernel
theorem dX12_kindOf_102 : decode cX12_kindOf 102 = .ok (.ireturn, 1) := by decide +kernel
theorem dX12_isFigure_0 : decode cX12_isFigure 0 = .ok (.aload_n 0, 1) := by decide +kernel
theorem dX12_isFigure_1 : decode cX12_isFigure 1 = .ok (.iload_n 1, 1) := by decide +kernel
theorem dX12_isFigure_2 : decode cX12_isFigure 2 = .ok (.iload_n 2, 1) := by decide +kernel
theorem dX12_isFigure_3 : decode cX12_isFigure 3 = .ok (.invokevirtual 124, 3) := by decide +kernel
theorem dX12_isFigure_6 : decode cX12_isFigure 6 = .ok (.bipush 48, 2) := by decide +kernel
theorem dX12_isFigure_8 : decode cX12_isFigure 8 = .ok (.bipush 57, 2) := by decide +kernel
theorem dX12_isFigure_10 : decode cX12_isFigure 10 = .ok (.invokestatic 96, 3) := by decide +kernel
theorem dX12_isFigure_13 : decode cX12_isFigure 13 = .ok (.ireturn, 1) := by decide +kernel
theorem dX12_readsTwo_0 : decode cX12_readsTwo 0 = .ok (.iconst 0, 1) := by decide +kernel
theorem dX12_readsTwo_1 : decode cX12_readsTwo 1 = .ok (.istore 4, 2) := by decide +kernel
theorem dX12_readsTwo_3 : decode cX12_readsTwo 3 = .ok (.iload 4, 2) := by decide +kernel
theorem dX12_readsTwo_5 : decode cX12_readsTwo 5 = .ok (.iconst 2, 1) := by decide +kernel
theorem dX12_readsTwo_6 : decode cX12_readsTwo 6 = .ok (.if_icmp .ge 38, 3) := by decide +kernel
theorem dX12_readsTwo_9 : decode cX12_readsTwo 9 = .ok (.aload_n 0, 1) := by decide +kernel
theorem dX12_readsTwo_10 : decode cX12_readsTwo 10 = .ok (.iload_n 1, 1) := by decide +kernel
theorem dX12_readsTwo_11 : decode cX12_readsTwo 11 = .ok (.aload_n 0, 1) := by decide +kernel
theorem dX12_readsTwo_12 : decode cX12_readsTwo 12 = .ok (.getfield 127, 3) := by decide +kernel
theorem dX12_readsTwo_15 : decode cX12_readsTwo 15 = .ok (.iload 4, 2) := by decide +kernel
theorem dX12_readsTwo_17 : decode cX12_readsTwo 17 = .ok (.iadd, 1) := by decide +kernel
theorem dX12_readsTwo_18 : decode cX12_readsTwo 18 = .ok (.invokevirtual 130, 3) := by decide +kernel
theorem dX12_readsTwo_21 : decode cX12_readsTwo 21 = .ok (.ifCond .ne 17, 3) := by decide +kernel
theorem dX12_readsTwo_24 : decode cX12_readsTwo 24 = .ok (.aload_n 0, 1) := by decide +kernel
theorem dX12_readsTwo_25 : decode cX12_readsTwo 25 = .ok (.dup, 1) := by decide +kernel
theorem dX12_readsTwo_26 : decode cX12_readsTwo 26 = .ok (.getfield 127, 3) := by decide +kernel
theorem dX12_readsTwo_29 : decode cX12_readsTwo 29 = .ok (.iload 4, 2) := by decide +kernel
theorem dX12_readsTwo_31 : decode cX12_readsTwo 31 = .ok (.iadd, 1) := by decide +kernel
theorem dX12_readsTwo_32 : decode cX12_readsTwo 32 = .ok (.putfield 127, 3) := by decide +kernel
theorem dX12_readsTwo_35 : decode cX12_readsTwo 35 = .ok (.bipush (-9), 2) := by decide +kernel
theorem dX12_readsTwo_37 : decode cX12_readsTwo 37 = .ok (.ireturn, 1) := by decide +kernel
theorem dX12_readsTwo_38 : decode cX12_readsTwo 38 = .ok (.iinc 4 1, 3) := by decide +kernel
theorem dX12_readsTwo_41 : decode cX12_readsTwo 41 = .ok (.goto (-38), 3) := by decide +kernel
theorem dX12_readsTwo_44 : decode cX12_readsTwo 44 = .ok (.bipush 10, 2) := by decide +kernel
theorem dX12_readsTwo_46 : decode cX12_readsTwo 46 = .ok (.aload_n 0, 1) := by decide +kernel
theorem dX12_readsTwo_47 : decode cX12_readsTwo 47 = .ok (.iload_n 1, 1) := by decide +kernel
theorem dX12_readsTwo_48 : decode cX12_readsTwo 48 = .ok (.aload_n 0, 1) := by decide +kernel
theorem dX12_readsTwo_49 : decode cX12_readsTwo 49 = .ok (.getfield 127, 3) := by decide +kernel
theorem dX12_readsTwo_52 : decode cX12_readsTwo 52 = .ok (.invokevirtual 124, 3) := by decide +kernel
theorem dX12_readsTwo_55 : decode cX12_readsTwo 55 = .ok (.bipush 48, 2) := by decide +kernel
theorem dX12_readsTwo_57 : decode cX12_readsTwo 57 = .ok (.isub, 1) := by decide +kernel
theorem dX12_readsTwo_58 : decode cX12_readsTwo 58 = .ok (.imul, 1) := by decide +kernel
theorem dX12_readsTwo_59 : decode cX12_readsTwo 59 = .ok (.aload_n 0, 1) := by decide +kernel
theorem dX12_readsTwo_60 : decode cX12_readsTwo 60 = .ok (.iload_n 1, 1) := by decide +kernel
theorem dX12_readsTwo_61 : decode cX12_readsTwo 61 = .ok (.aload_n 0, 1) := by decide +kernel
theorem dX12_readsTwo_62 : decode cX12_readsTwo 62 = .ok (.getfield 127, 3) := by decide +kernel
theorem dX12_readsTwo_65 : decode cX12_readsTwo 65 = .ok (.iconst 1, 1) := by decide +kernel
theorem dX12_readsTwo_66 : decode cX12_readsTwo 66 = .ok (.iadd, 1) := by decide +kernel
theorem dX12_readsTwo_67 : decode cX12_readsTwo 67 = .ok (.invokevirtual 124, 3) := by decide +kernel
theorem dX12_readsTwo_70 : decode cX12_readsTwo 70 = .ok (.iadd, 1) := by decide +kernel
theorem dX12_readsTwo_71 : decode cX12_readsTwo 71 = .ok (.bipush 48, 2) := by decide +kernel
theorem dX12_readsTwo_73 : decode cX12_readsTwo 73 = .ok (.isub, 1) := by decide +kernel
theorem dX12_readsTwo_74 : decode cX12_readsTwo 74 = .ok (.istore 4, 2) := by decide +kernel
theorem dX12_readsTwo_76 : decode cX12_readsTwo 76 = .ok (.iload 4, 2) := by decide +kernel
theorem dX12_readsTwo_78 : decode cX12_readsTwo 78 = .ok (.iload_n 2, 1) := by decide +kernel
theorem dX12_readsTwo_79 : decode cX12_readsTwo 79 = .ok (.iload_n 3, 1) := by decide +kernel
theorem dX12_readsTwo_80 : decode cX12_readsTwo 80 = .ok (.invokestatic 96, 3) := by decide +kernel
theorem dX12_readsTwo_83 : decode cX12_readsTwo 83 = .ok (.ifCond .eq 8, 3) := by decide +kernel
theorem dX12_readsTwo_86 : decode cX12_readsTwo 86 = .ok (.iload 4, 2) := by decide +kernel
theorem dX12_readsTwo_88 : decode cX12_readsTwo 88 = .ok (.goto 5, 3) := by decide +kernel
theorem dX12_readsTwo_91 : decode cX12_readsTwo 91 = .ok (.bipush (-9), 2) := by decide +kernel
theorem dX12_readsTwo_93 : decode cX12_readsTwo 93 = .ok (.ireturn, 1) := by decide +kernel
theorem dX12_readsDial_0 : decode cX12_readsDial 0 = .ok (.aload_n 0, 1) := by decide +kernel
theorem dX12_readsDial_1 : decode cX12_readsDial 1 = .ok (.iload_n 1, 1) := by decide +kernel
theorem dX12_readsDial_2 : decode cX12_readsDial 2 = .ok (.aload_n 0, 1) := by decide +kernel
theorem dX12_readsDial_3 : decode cX12_readsDial 3 = .ok (.getfield 127, 3) := by decide +kernel
theorem dX12_readsDial_6 : decode cX12_readsDial 6 = .ok (.invokevirtual 124, 3) := by decide +kernel
theorem dX12_readsDial_9 : decode cX12_readsDial 9 = .ok (.bipush 100, 2) := by decide +kernel
theorem dX12_readsDial_11 : decode cX12_readsDial 11 = .ok (.if_icmp .eq 5, 3) := by decide +kernel
theorem dX12_readsDial_14 : decode cX12_readsDial 14 = .ok (.iconst 0, 1) := by decide +kernel
theorem dX12_readsDial_15 : decode cX12_readsDial 15 = .ok (.ireturn, 1) := by decide +kernel
theorem dX12_readsDial_16 : decode cX12_readsDial 16 = .ok (.aload_n 0, 1) := by decide +kernel
theorem dX12_readsDial_17 : decode cX12_readsDial 17 = .ok (.dup, 1) := by decide +kernel
theorem dX12_readsDial_18 : decode cX12_readsDial 18 = .ok (.getfield 127, 3) := by decide +kernel
theorem dX12_readsDial_21 : decode cX12_readsDial 21 = .ok (.iconst 1, 1) := by decide +kernel
theorem dX12_readsDial_22 : decode cX12_readsDial 22 = .ok (.iadd, 1) := by decide +kernel
theorem dX12_readsDial_23 : decode cX12_readsDial 23 = .ok (.putfield 127, 3) := by decide +kernel
theorem dX12_readsDial_26 : decode cX12_readsDial 26 = .ok (.aload_n 0, 1) := by decide +kernel
theorem dX12_readsDial_27 : decode cX12_readsDial 27 = .ok (.iload_n 1, 1) := by decide +kernel
theorem dX12_readsDial_28 : decode cX12_readsDial 28 = .ok (.bipush 12, 2) := by decide +kernel
theorem dX12_readsDial_30 : decode cX12_readsDial 30 = .ok (.bipush 60, 2) := by decide +kernel
theorem dX12_readsDial_32 : decode cX12_readsDial 32 = .ok (.invokevirtual 134, 3) := by decide +kernel
theorem dX12_readsDial_35 : decode cX12_readsDial 35 = .ok (.istore_n 2, 1) := by decide +kernel
theorem dX12_readsDial_36 : decode cX12_readsDial 36 = .ok (.iload_n 2, 1) := by decide +kernel
theorem dX12_readsDial_37 : decode cX12_readsDial 37 = .ok (.bipush (-9), 2) := by decide +kernel
theorem dX12_readsDial_39 : decode cX12_readsDial 39 = .ok (.if_icmp .ne 5, 3) := by decide +kernel
theorem dX12_readsDial_42 : decode cX12_readsDial 42 = .ok (.iconst 0, 1) := by decide +kernel
theorem dX12_readsDial_43 : decode cX12_readsDial 43 = .ok (.ireturn, 1) := by decide +kernel
theorem dX12_readsDial_44 : decode cX12_readsDial 44 = .ok (.aload_n 0, 1) := by decide +kernel
theorem dX12_readsDial_45 : decode cX12_readsDial 45 = .ok (.iload_n 2, 1) := by decide +kernel
theorem dX12_readsDial_46 : decode cX12_readsDial 46 = .ok (.putfield 138, 3) := by decide +kernel
theorem dX12_readsDial_49 : decode cX12_readsDial 49 = .ok (.aload_n 0, 1) := by decide +kernel
theorem dX12_readsDial_50 : decode cX12_readsDial 50 = .ok (.dup, 1) := by decide +kernel
theorem dX12_readsDial_51 : decode cX12_readsDial 51 = .ok (.getfield 127, 3) := by decide +kernel
theorem dX12_readsDial_54 : decode cX12_readsDial 54 = .ok (.iconst 2, 1) := by decide +kernel
theorem dX12_readsDial_55 : decode cX12_readsDial 55 = .ok (.iadd, 1) := by decide +kernel
theorem dX12_readsDial_56 : decode cX12_readsDial 56 = .ok (.putfield 127, 3) := by decide +kernel
theorem dX12_readsDial_59 : decode cX12_readsDial 59 = .ok (.iconst 1, 1) := by decide +kernel
theorem dX12_readsDial_60 : decode cX12_readsDial 60 = .ok (.ireturn, 1) := by decide +kernel
theorem dX12_readsRent_0 : decode cX12_readsRent 0 = .ok (.aload_n 0, 1) := by decide +kernel
theorem dX12_readsRent_1 : decode cX12_readsRent 1 = .ok (.getfield 141, 3) := by decide +kernel
theorem dX12_readsRent_4 : decode cX12_readsRent 4 = .ok (.ifCond .eq 12, 3) := by decide +kernel
theorem dX12_readsRent_7 : decode cX12_readsRent 7 = .ok (.aload_n 0, 1) := by decide +kernel
theorem dX12_readsRent_8 : decode cX12_readsRent 8 = .ok (.getfield 144, 3) := by decide +kernel
theorem dX12_readsRent_11 : decode cX12_readsRent 11 = .ok (.bipush 6, 2) := by decide +kernel
theorem dX12_readsRent_13 : decode cX12_readsRent 13 = .ok (.if_icmp .ne 5, 3) := by decide +kernel
theorem dX12_readsRent_16 : decode cX12_readsRent 16 = .ok (.iconst 0, 1) := by decide +kernel
theorem dX12_readsRent_17 : decode cX12_readsRent 17 = .ok (.ireturn, 1) := by decide +kernel
theorem dX12_readsRent_18 : decode cX12_readsRent 18 = .ok (.aload_n 0, 1) := by decide +kernel
theorem dX12_readsRent_19 : decode cX12_readsRent 19 = .ok (.dup, 1) := by decide +kernel
theorem dX12_readsRent_20 : decode cX12_readsRent 20 = .ok (.getfield 127, 3) := by decide +kernel
theorem dX12_readsRent_23 : decode cX12_readsRent 23 = .ok (.iconst 1, 1) := by decide +kernel
theorem dX12_readsRent_24 : decode cX12_readsRent 24 = .ok (.iadd, 1) := by decide +kernel
theorem dX12_readsRent_25 : decode cX12_readsRent 25 = .ok (.putfield 127, 3) := by decide +kernel
theorem dX12_readsRent_28 : decode cX12_readsRent 28 = .ok (.aload_n 0, 1) := by decide +kernel
theorem dX12_readsRent_29 : decode cX12_readsRent 29 = .ok (.iload_n 1, 1) := by decide +kernel
theorem dX12_readsRent_30 : decode cX12_readsRent 30 = .ok (.iconst 1, 1) := by decide +kernel
theorem dX12_readsRent_31 : decode cX12_readsRent 31 = .ok (.aload_n 0, 1) := by decide +kernel
theorem dX12_readsRent_32 : decode cX12_readsRent 32 = .ok (.getfield 138, 3) := by decide +kernel
theorem dX12_readsRent_35 : decode cX12_readsRent 35 = .ok (.iconst 1, 1) := by decide +kernel
theorem dX12_readsRent_36 : decode cX12_readsRent 36 = .ok (.isub, 1) := by decide +kernel
theorem dX12_readsRent_37 : decode cX12_readsRent 37 = .ok (.invokevirtual 134, 3) := by decide +kernel
theorem dX12_readsRent_40 : decode cX12_readsRent 40 = .ok (.istore_n 2, 1) := by decide +kernel
theorem dX12_readsRent_41 : decode cX12_readsRent 41 = .ok (.iload_n 2, 1) := by decide +kernel
theorem dX12_readsRent_42 : decode cX12_readsRent 42 = .ok (.bipush (-9), 2) := by decide +kernel
theorem dX12_readsRent_44 : decode cX12_readsRent 44 = .ok (.if_icmp .eq 16, 3) := by decide +kernel
theorem dX12_readsRent_47 : decode cX12_readsRent 47 = .ok (.aload_n 0, 1) := by decide +kernel
theorem dX12_readsRent_48 : decode cX12_readsRent 48 = .ok (.getfield 147, 3) := by decide +kernel
theorem dX12_readsRent_51 : decode cX12_readsRent 51 = .ok (.iload_n 2, 1) := by decide +kernel
theorem dX12_readsRent_52 : decode cX12_readsRent 52 = .ok (.lshr, 1) := by decide +kernel
theorem dX12_readsRent_53 : decode cX12_readsRent 53 = .ok (.lconst 1, 1) := by decide +kernel
theorem dX12_readsRent_54 : decode cX12_readsRent 54 = .ok (.land, 1) := by decide +kernel
theorem dX12_readsRent_55 : decode cX12_readsRent 55 = .ok (.lconst 1, 1) := by decide +kernel
theorem dX12_readsRent_56 : decode cX12_readsRent 56 = .ok (.lcmp, 1) := by decide +kernel
theorem dX12_readsRent_57 : decode cX12_readsRent 57 = .ok (.ifCond .ne 5, 3) := by decide +kernel
theorem dX12_readsRent_60 : decode cX12_readsRent 60 = .ok (.iconst 0, 1) := by decide +kernel
theorem dX12_readsRent_61 : decode cX12_readsRent 61 = .ok (.ireturn, 1) := by decide +kernel
theorem dX12_readsRent_62 : decode cX12_readsRent 62 = .ok (.aload_n 0, 1) := by decide +kernel
theorem dX12_readsRent_63 : decode cX12_readsRent 63 = .ok (.dup, 1) := by decide +kernel
theorem dX12_readsRent_64 : decode cX12_readsRent 64 = .ok (.getfield 147, 3) := by decide +kernel
theorem dX12_readsRent_67 : decode cX12_readsRent 67 = .ok (.lconst 1, 1) := by decide +kernel
theorem dX12_readsRent_68 : decode cX12_readsRent 68 = .ok (.iload_n 2, 1) := by decide +kernel
theorem dX12_readsRent_69 : decode cX12_readsRent 69 = .ok (.lshl, 1) := by decide +kernel
theorem dX12_readsRent_70 : decode cX12_readsRent 70 = .ok (.lor, 1) := by decide +kernel
theorem dX12_readsRent_71 : decode cX12_readsRent 71 = .ok (.putfield 147, 3) := by decide +kernel
theorem dX12_readsRent_74 : decode cX12_readsRent 74 = .ok (.aload_n 0, 1) := by decide +kernel
theorem dX12_readsRent_75 : decode cX12_readsRent 75 = .ok (.dup, 1) := by decide +kernel
theorem dX12_readsRent_76 : decode cX12_readsRent 76 = .ok (.getfield 144, 3) := by decide +kernel
theorem dX12_readsRent_79 : decode cX12_readsRent 79 = .ok (.iconst 1, 1) := by decide +kernel
theorem dX12_readsRent_80 : decode cX12_readsRent 80 = .ok (.iadd, 1) := by decide +kernel
theorem dX12_readsRent_81 : decode cX12_readsRent 81 = .ok (.putfield 144, 3) := by decide +kernel
theorem dX12_readsRent_84 : decode cX12_readsRent 84 = .ok (.aload_n 0, 1) := by decide +kernel
theorem dX12_readsRent_85 : decode cX12_readsRent 85 = .ok (.dup, 1) := by decide +kernel
theorem dX12_readsRent_86 : decode cX12_readsRent 86 = .ok (.getfield 127, 3) := by decide +kernel
theorem dX12_readsRent_89 : decode cX12_readsRent 89 = .ok (.iconst 2, 1) := by decide +kernel
theorem dX12_readsRent_90 : decode cX12_readsRent 90 = .ok (.iadd, 1) := by decide +kernel
theorem dX12_readsRent_91 : decode cX12_readsRent 91 = .ok (.putfield 127, 3) := by decide +kernel
theorem dX12_readsRent_94 : decode cX12_readsRent 94 = .ok (.iconst 1, 1) := by decide +kernel
theorem dX12_readsRent_95 : decode cX12_readsRent 95 = .ok (.ireturn, 1) := by decide +kernel
theorem dX12_readsGuild_0 : decode cX12_readsGuild 0 = .ok (.aload_n 0, 1) := by decide +kernel
theorem dX12_readsGuild_1 : decode cX12_readsGuild 1 = .ok (.iload_n 1, 1) := by decide +kernel
theorem dX12_readsGuild_2 : decode cX12_readsGuild 2 = .ok (.aload_n 0, 1) := by decide +kernel
theorem dX12_readsGuild_3 : decode cX12_readsGuild 3 = .ok (.getfield 127, 3) := by decide +kernel
theorem dX12_readsGuild_6 : decode cX12_readsGuild 6 = .ok (.invokevirtual 124, 3) := by decide +kernel
theorem dX12_readsGuild_9 : decode cX12_readsGuild 9 = .ok (.invokestatic 150, 3) := by decide +kernel
theorem dX12_readsGuild_12 : decode cX12_readsGuild 12 = .ok (.istore_n 2, 1) := by decide +kernel
theorem dX12_readsGuild_13 : decode cX12_readsGuild 13 = .ok (.iload_n 2, 1) := by decide +kernel
theorem dX12_readsGuild_14 : decode cX12_readsGuild 14 = .ok (.bipush (-9), 2) := by decide +kernel
theorem dX12_readsGuild_16 : decode cX12_readsGuild 16 = .ok (.if_icmp .eq 19, 3) := by decide +kernel
theorem dX12_readsGuild_19 : decode cX12_readsGuild 19 = .ok (.aload_n 0, 1) := by decide +kernel
theorem dX12_readsGuild_20 : decode cX12_readsGuild 20 = .ok (.getfield 144, 3) := by decide +kernel
theorem dX12_readsGuild_23 : decode cX12_readsGuild 23 = .ok (.ifCond .gt 12, 3) := by decide +kernel
theorem dX12_readsGuild_26 : decode cX12_readsGuild 26 = .ok (.aload_n 0, 1) := by decide +kernel
theorem dX12_readsGuild_27 : decode cX12_readsGuild 27 = .ok (.getfield 141, 3) := by decide +kernel
theorem dX12_readsGuild_30 : decode cX12_readsGuild 30 = .ok (.bipush 6, 2) := by decide +kernel
theorem dX12_readsGuild_32 : decode cX12_readsGuild 32 = .ok (.if_icmp .ne 5, 3) := by decide +kernel
theorem dX12_readsGuild_35 : decode cX12_readsGuild 35 = .ok (.iconst 0, 1) := by decide +kernel
theorem dX12_readsGuild_36 : decode cX12_readsGuild 36 = .ok (.ireturn, 1) := by decide +kernel
theorem dX12_readsGuild_37 : decode cX12_readsGuild 37 = .ok (.aload_n 0, 1) := by decide +kernel
theorem dX12_readsGuild_38 : decode cX12_readsGuild 38 = .ok (.dup, 1) := by decide +kernel
theorem dX12_readsGuild_39 : decode cX12_readsGuild 39 = .ok (.getfield 127, 3) := by decide +kernel
theorem dX12_readsGuild_42 : decode cX12_readsGuild 42 = .ok (.iconst 1, 1) := by decide +kernel
theorem dX12_readsGuild_43 : decode cX12_readsGuild 43 = .ok (.iadd, 1) := by decide +kernel
theorem dX12_readsGuild_44 : decode cX12_readsGuild 44 = .ok (.putfield 127, 3) := by decide +kernel
theorem dX12_readsGuild_47 : decode cX12_readsGuild 47 = .ok (.aload_n 0, 1) := by decide +kernel
theorem dX12_readsGuild_48 : decode cX12_readsGuild 48 = .ok (.iload_n 1, 1) := by decide +kernel
theorem dX12_readsGuild_49 : decode cX12_readsGuild 49 = .ok (.aload_n 0, 1) := by decide +kernel
theorem dX12_readsGuild_50 : decode cX12_readsGuild 50 = .ok (.getfield 127, 3) := by decide +kernel
theorem dX12_readsGuild_53 : decode cX12_readsGuild 53 = .ok (.invokevirtual 124, 3) := by decide +kernel
theorem dX12_readsGuild_56 : decode cX12_readsGuild 56 = .ok (.bipush 48, 2) := by decide +kernel
theorem dX12_readsGuild_58 : decode cX12_readsGuild 58 = .ok (.isub, 1) := by decide +kernel
theorem dX12_readsGuild_59 : decode cX12_readsGuild 59 = .ok (.istore_n 3, 1) := by decide +kernel
theorem dX12_readsGuild_60 : decode cX12_readsGuild 60 = .ok (.iload_n 3, 1) := by decide +kernel
theorem dX12_readsGuild_61 : decode cX12_readsGuild 61 = .ok (.iconst 1, 1) := by decide +kernel
theorem dX12_readsGuild_62 : decode cX12_readsGuild 62 = .ok (.bipush 9, 2) := by decide +kernel
theorem dX12_readsGuild_64 : decode cX12_readsGuild 64 = .ok (.invokestatic 96, 3) := by decide +kernel
theorem dX12_readsGuild_67 : decode cX12_readsGuild 67 = .ok (.ifCond .ne 5, 3) := by decide +kernel
theorem dX12_readsGuild_70 : decode cX12_readsGuild 70 = .ok (.iconst 0, 1) := by decide +kernel
theorem dX12_readsGuild_71 : decode cX12_readsGuild 71 = .ok (.ireturn, 1) := by decide +kernel
theorem dX12_readsGuild_72 : decode cX12_readsGuild 72 = .ok (.aload_n 0, 1) := by decide +kernel
theorem dX12_readsGuild_73 : decode cX12_readsGuild 73 = .ok (.getfield 39, 3) := by decide +kernel
theorem dX12_readsGuild_76 : decode cX12_readsGuild 76 = .ok (.aload_n 0, 1) := by decide +kernel
theorem dX12_readsGuild_77 : decode cX12_readsGuild 77 = .ok (.getfield 141, 3) := by decide +kernel
theorem dX12_readsGuild_80 : decode cX12_readsGuild 80 = .ok (.iload_n 2, 1) := by decide +kernel
theorem dX12_readsGuild_81 : decode cX12_readsGuild 81 = .ok (.iastore, 1) := by decide +kernel
theorem dX12_readsGuild_82 : decode cX12_readsGuild 82 = .ok (.aload_n 0, 1) := by decide +kernel
theorem dX12_readsGuild_83 : decode cX12_readsGuild 83 = .ok (.getfield 42, 3) := by decide +kernel
theorem dX12_readsGuild_86 : decode cX12_readsGuild 86 = .ok (.aload_n 0, 1) := by decide +kernel
theorem dX12_readsGuild_87 : decode cX12_readsGuild 87 = .ok (.getfield 141, 3) := by decide +kernel
theorem dX12_readsGuild_90 : decode cX12_readsGuild 90 = .ok (.iload_n 3, 1) := by decide +kernel
theorem dX12_readsGuild_91 : decode cX12_readsGuild 91 = .ok (.iastore, 1) := by decide +kernel
theorem dX12_readsGuild_92 : decode cX12_readsGuild 92 = .ok (.aload_n 0, 1) := by decide +kernel
theorem dX12_readsGuild_93 : decode cX12_readsGuild 93 = .ok (.dup, 1) := by decide +kernel
theorem dX12_readsGuild_94 : decode cX12_readsGuild 94 = .ok (.getfield 141, 3) := by decide +kernel
theorem dX12_readsGuild_97 : decode cX12_readsGuild 97 = .ok (.iconst 1, 1) := by decide +kernel
theorem dX12_readsGuild_98 : decode cX12_readsGuild 98 = .ok (.iadd, 1) := by decide +kernel
theorem dX12_readsGuild_99 : decode cX12_readsGuild 99 = .ok (.putfield 141, 3) := by decide +kernel
theorem dX12_readsGuild_102 : decode cX12_readsGuild 102 = .ok (.aload_n 0, 1) := by decide +kernel
theorem dX12_readsGuild_103 : decode cX12_readsGuild 103 = .ok (.dup, 1) := by decide +kernel
theorem dX12_readsGuild_104 : decode cX12_readsGuild 104 = .ok (.getfield 127, 3) := by decide +kernel
theorem dX12_readsGuild_107 : decode cX12_readsGuild 107 = .ok (.iconst 1, 1) := by decide +kernel
theorem dX12_readsGuild_108 : decode cX12_readsGuild 108 = .ok (.iadd, 1) := by decide +kernel
theorem dX12_readsGuild_109 : decode cX12_readsGuild 109 = .ok (.putfield 127, 3) := by decide +kernel
theorem dX12_readsGuild_112 : decode cX12_readsGuild 112 = .ok (.iconst 1, 1) := by decide +kernel
theorem dX12_readsGuild_113 : decode cX12_readsGuild 113 = .ok (.ireturn, 1) := by decide +kernel
theorem dX12_readsItem_0 : decode cX12_readsItem 0 = .ok (.aload_n 0, 1) := by decide +kernel
theorem dX12_readsItem_1 : decode cX12_readsItem 1 = .ok (.getfield 138, 3) := by decide +kernel
theorem dX12_readsItem_4 : decode cX12_readsItem 4 = .ok (.ifCond .ne 11, 3) := by decide +kernel
theorem dX12_readsItem_7 : decode cX12_readsItem 7 = .ok (.aload_n 0, 1) := by decide +kernel
theorem dX12_readsItem_8 : decode cX12_readsItem 8 = .ok (.iload_n 1, 1) := by decide +kernel
theorem dX12_readsItem_9 : decode cX12_readsItem 9 = .ok (.invokevirtual 153, 3) := by decide +kernel
theorem dX12_readsItem_12 : decode cX12_readsItem 12 = .ok (.goto 30, 3) := by decide +kernel
theorem dX12_readsItem_15 : decode cX12_readsItem 15 = .ok (.aload_n 0, 1) := by decide +kernel
theorem dX12_readsItem_16 : decode cX12_readsItem 16 = .ok (.iload_n 1, 1) := by decide +kernel
theorem dX12_readsItem_17 : decode cX12_readsItem 17 = .ok (.aload_n 0, 1) := by decide +kernel
theorem dX12_readsItem_18 : decode cX12_readsItem 18 = .ok (.getfield 127, 3) := by decide +kernel
theorem dX12_readsItem_21 : decode cX12_readsItem 21 = .ok (.invokevirtual 124, 3) := by decide +kernel
theorem dX12_readsItem_24 : decode cX12_readsItem 24 = .ok (.bipush 101, 2) := by decide +kernel
theorem dX12_readsItem_26 : decode cX12_readsItem 26 = .ok (.if_icmp .ne 11, 3) := by decide +kernel
theorem dX12_readsItem_29 : decode cX12_readsItem 29 = .ok (.aload_n 0, 1) := by decide +kernel
theorem dX12_readsItem_30 : decode cX12_readsItem 30 = .ok (.iload_n 1, 1) := by decide +kernel
theorem dX12_readsItem_31 : decode cX12_readsItem 31 = .ok (.invokevirtual 156, 3) := by decide +kernel
theorem dX12_readsItem_34 : decode cX12_readsItem 34 = .ok (.goto 8, 3) := by decide +kernel
theorem dX12_readsItem_37 : decode cX12_readsItem 37 = .ok (.aload_n 0, 1) := by decide +kernel
theorem dX12_readsItem_38 : decode cX12_readsItem 38 = .ok (.iload_n 1, 1) := by decide +kernel
theorem dX12_readsItem_39 : decode cX12_readsItem 39 = .ok (.invokevirtual 159, 3) := by decide +kernel
theorem dX12_readsItem_42 : decode cX12_readsItem 42 = .ok (.ireturn, 1) := by decide +kernel
theorem dX12_faultOf_0 : decode cX12_faultOf 0 = .ok (.aload_n 0, 1) := by decide +kernel
theorem dX12_faultOf_1 : decode cX12_faultOf 1 = .ok (.iconst 0, 1) := by decide +kernel
theorem dX12_faultOf_2 : decode cX12_faultOf 2 = .ok (.putfield 127, 3) := by decide +kernel
theorem dX12_faultOf_5 : decode cX12_faultOf 5 = .ok (.aload_n 0, 1) := by decide +kernel
theorem dX12_faultOf_6 : decode cX12_faultOf 6 = .ok (.iconst 0, 1) := by decide +kernel
theorem dX12_faultOf_7 : decode cX12_faultOf 7 = .ok (.putfield 141, 3) := by decide +kernel
theorem dX12_faultOf_10 : decode cX12_faultOf 10 = .ok (.aload_n 0, 1) := by decide +kernel
theorem dX12_faultOf_11 : decode cX12_faultOf 11 = .ok (.iconst 0, 1) := by decide +kernel
theorem dX12_faultOf_12 : decode cX12_faultOf 12 = .ok (.putfield 138, 3) := by decide +kernel
theorem dX12_faultOf_15 : decode cX12_faultOf 15 = .ok (.aload_n 0, 1) := by decide +kernel
theorem dX12_faultOf_16 : decode cX12_faultOf 16 = .ok (.iconst 0, 1) := by decide +kernel
theorem dX12_faultOf_17 : decode cX12_faultOf 17 = .ok (.putfield 144, 3) := by decide +kernel
theorem dX12_faultOf_20 : decode cX12_faultOf 20 = .ok (.aload_n 0, 1) := by decide +kernel
theorem dX12_faultOf_21 : decode cX12_faultOf 21 = .ok (.lconst 0, 1) := by decide +kernel
theorem dX12_faultOf_22 : decode cX12_faultOf 22 = .ok (.putfield 147, 3) := by decide +kernel
theorem dX12_faultOf_25 : decode cX12_faultOf 25 = .ok (.aload_n 0, 1) := by decide +kernel
theorem dX12_faultOf_26 : decode cX12_faultOf 26 = .ok (.getfield 127, 3) := by decide +kernel
theorem dX12_faultOf_29 : decode cX12_faultOf 29 = .ok (.aload_n 0, 1) := by decide +kernel
theorem dX12_faultOf_30 : decode cX12_faultOf 30 = .ok (.getfield 26, 3) := by decide +kernel
theorem dX12_faultOf_33 : decode cX12_faultOf 33 = .ok (.iload_n 1, 1) := by decide +kernel
theorem dX12_faultOf_34 : decode cX12_faultOf 34 = .ok (.iaload, 1) := by decide +kernel
theorem dX12_faultOf_35 : decode cX12_faultOf 35 = .ok (.if_icmp .ge 43, 3) := by decide +kernel
theorem dX12_faultOf_38 : decode cX12_faultOf 38 = .ok (.aload_n 0, 1) := by decide +kernel
theorem dX12_faultOf_39 : decode cX12_faultOf 39 = .ok (.iload_n 1, 1) := by decide +kernel
theorem dX12_faultOf_40 : decode cX12_faultOf 40 = .ok (.aload_n 0, 1) := by decide +kernel
theorem dX12_faultOf_41 : decode cX12_faultOf 41 = .ok (.getfield 127, 3) := by decide +kernel
theorem dX12_faultOf_44 : decode cX12_faultOf 44 = .ok (.invokevirtual 124, 3) := by decide +kernel
theorem dX12_faultOf_47 : decode cX12_faultOf 47 = .ok (.bipush 32, 2) := by decide +kernel
theorem dX12_faultOf_49 : decode cX12_faultOf 49 = .ok (.if_icmp .ne 16, 3) := by decide +kernel
theorem dX12_faultOf_52 : decode cX12_faultOf 52 = .ok (.aload_n 0, 1) := by decide +kernel
theorem dX12_faultOf_53 : decode cX12_faultOf 53 = .ok (.dup, 1) := by decide +kernel
theorem dX12_faultOf_54 : decode cX12_faultOf 54 = .ok (.getfield 127, 3) := by decide +kernel
theorem dX12_faultOf_57 : decode cX12_faultOf 57 = .ok (.iconst 1, 1) := by decide +kernel
theorem dX12_faultOf_58 : decode cX12_faultOf 58 = .ok (.iadd, 1) := by decide +kernel
theorem dX12_faultOf_59 : decode cX12_faultOf 59 = .ok (.putfield 127, 3) := by decide +kernel
theorem dX12_faultOf_62 : decode cX12_faultOf 62 = .ok (.goto (-37), 3) := by decide +kernel
theorem dX12_faultOf_65 : decode cX12_faultOf 65 = .ok (.aload_n 0, 1) := by decide +kernel
theorem dX12_faultOf_66 : decode cX12_faultOf 66 = .ok (.iload_n 1, 1) := by decide +kernel
theorem dX12_faultOf_67 : decode cX12_faultOf 67 = .ok (.invokevirtual 162, 3) := by decide +kernel
theorem dX12_faultOf_70 : decode cX12_faultOf 70 = .ok (.ifCond .ne (-45), 3) := by decide +kernel
theorem dX12_faultOf_73 : decode cX12_faultOf 73 = .ok (.aload_n 0, 1) := by decide +kernel
theorem dX12_faultOf_74 : decode cX12_faultOf 74 = .ok (.getfield 127, 3) := by decide +kernel
theorem dX12_faultOf_77 : decode cX12_faultOf 77 = .ok (.ireturn, 1) := by decide +kernel
theorem dX12_faultOf_78 : decode cX12_faultOf 78 = .ok (.aload_n 0, 1) := by decide +kernel
theorem dX12_faultOf_79 : decode cX12_faultOf 79 = .ok (.getfield 141, 3) := by decide +kernel
theorem dX12_faultOf_82 : decode cX12_faultOf 82 = .ok (.ifCond .ne 12, 3) := by decide +kernel
theorem dX12_faultOf_85 : decode cX12_faultOf 85 = .ok (.aload_n 0, 1) := by decide +kernel
theorem dX12_faultOf_86 : decode cX12_faultOf 86 = .ok (.getfield 26, 3) := by decide +kernel
theorem dX12_faultOf_89 : decode cX12_faultOf 89 = .ok (.iload_n 1, 1) := by decide +kernel
theorem dX12_faultOf_90 : decode cX12_faultOf 90 = .ok (.iaload, 1) := by decide +kernel
theorem dX12_faultOf_91 : decode cX12_faultOf 91 = .ok (.goto 5, 3) := by decide +kernel
theorem dX12_faultOf_94 : decode cX12_faultOf 94 = .ok (.bipush (-9), 2) := by decide +kernel
theorem dX12_faultOf_96 : decode cX12_faultOf 96 = .ok (.ireturn, 1) := by decide +kernel
theorem dX12_fault_0 : decode cX12_fault 0 = .ok (.iload_n 1, 1) := by decide +kernel
theorem dX12_fault_1 : decode cX12_fault 1 = .ok (.invokestatic 121, 3) := by decide +kernel
theorem dX12_fault_4 : decode cX12_fault 4 = .ok (.ifCond .ne 5, 3) := by decide +kernel
theorem dX12_fault_7 : decode cX12_fault 7 = .ok (.iconst (-1), 1) := by decide +kernel
theorem dX12_fault_8 : decode cX12_fault 8 = .ok (.ireturn, 1) := by decide +kernel
theorem dX12_fault_9 : decode cX12_fault 9 = .ok (.aload_n 0, 1) := by decide +kernel
theorem dX12_fault_10 : decode cX12_fault 10 = .ok (.getfield 26, 3) := by decide +kernel
theorem dX12_fault_13 : decode cX12_fault 13 = .ok (.iload_n 1, 1) := by decide +kernel
theorem dX12_fault_14 : decode cX12_fault 14 = .ok (.iaload, 1) := by decide +kernel
theorem dX12_fault_15 : decode cX12_fault 15 = .ok (.ifCond .ge 11, 3) := by decide +kernel
theorem dX12_fault_18 : decode cX12_fault 18 = .ok (.aload_n 0, 1) := by decide +kernel
theorem dX12_fault_19 : decode cX12_fault 19 = .ok (.iconst 1, 1) := by decide +kernel
theorem dX12_fault_20 : decode cX12_fault 20 = .ok (.invokevirtual 110, 3) := by decide +kernel
theorem dX12_fault_23 : decode cX12_fault 23 = .ok (.goto 8, 3) := by decide +kernel
theorem dX12_fault_26 : decode cX12_fault 26 = .ok (.aload_n 0, 1) := by decide +kernel
theorem dX12_fault_27 : decode cX12_fault 27 = .ok (.iload_n 1, 1) := by decide +kernel
theorem dX12_fault_28 : decode cX12_fault 28 = .ok (.invokevirtual 165, 3) := by decide +kernel
theorem dX12_fault_31 : decode cX12_fault 31 = .ok (.ireturn, 1) := by decide +kernel
theorem dX12_hall_0 : decode cX12_hall 0 = .ok (.iload_n 1, 1) := by decide +kernel
theorem dX12_hall_1 : decode cX12_hall 1 = .ok (.invokestatic 121, 3) := by decide +kernel
theorem dX12_hall_4 : decode cX12_hall 4 = .ok (.ifCond .ne 5, 3) := by decide +kernel
theorem dX12_hall_7 : decode cX12_hall 7 = .ok (.iconst (-1), 1) := by decide +kernel
theorem dX12_hall_8 : decode cX12_hall 8 = .ok (.ireturn, 1) := by decide +kernel
theorem dX12_hall_9 : decode cX12_hall 9 = .ok (.aload_n 0, 1) := by decide +kernel
theorem dX12_hall_10 : decode cX12_hall 10 = .ok (.getfield 26, 3) := by decide +kernel
theorem dX12_hall_13 : decode cX12_hall 13 = .ok (.iload_n 1, 1) := by decide +kernel
theorem dX12_hall_14 : decode cX12_hall 14 = .ok (.iaload, 1) := by decide +kernel
theorem dX12_hall_15 : decode cX12_hall 15 = .ok (.ifCond .ge 9, 3) := by decide +kernel
theorem dX12_hall_18 : decode cX12_hall 18 = .ok (.aload_n 0, 1) := by decide +kernel
theorem dX12_hall_19 : decode cX12_hall 19 = .ok (.iconst 1, 1) := by decide +kernel
theorem dX12_hall_20 : decode cX12_hall 20 = .ok (.invokevirtual 110, 3) := by decide +kernel
theorem dX12_hall_23 : decode cX12_hall 23 = .ok (.ireturn, 1) := by decide +kernel
theorem dX12_hall_24 : decode cX12_hall 24 = .ok (.aload_n 0, 1) := by decide +kernel
theorem dX12_hall_25 : decode cX12_hall 25 = .ok (.iload_n 1, 1) := by decide +kernel
theorem dX12_hall_26 : decode cX12_hall 26 = .ok (.invokevirtual 165, 3) := by decide +kernel
theorem dX12_hall_29 : decode cX12_hall 29 = .ok (.bipush (-9), 2) := by decide +kernel
theorem dX12_hall_31 : decode cX12_hall 31 = .ok (.if_icmp .eq 6, 3) := by decide +kernel
theorem dX12_hall_34 : decode cX12_hall 34 = .ok (.bipush (-4), 2) := by decide +kernel
theorem dX12_hall_36 : decode cX12_hall 36 = .ok (.ireturn, 1) := by decide +kernel
theorem dX12_hall_37 : decode cX12_hall 37 = .ok (.aload_n 0, 1) := by decide +kernel
theorem dX12_hall_38 : decode cX12_hall 38 = .ok (.aload_n 0, 1) := by decide +kernel
theorem dX12_hall_39 : decode cX12_hall 39 = .ok (.getfield 141, 3) := by decide +kernel
theorem dX12_hall_42 : decode cX12_hall 42 = .ok (.putfield 168, 3) := by decide +kernel
theorem dX12_hall_45 : decode cX12_hall 45 = .ok (.aload_n 0, 1) := by decide +kernel
theorem dX12_hall_46 : decode cX12_hall 46 = .ok (.aload_n 0, 1) := by decide +kernel
theorem dX12_hall_47 : decode cX12_hall 47 = .ok (.getfield 138, 3) := by decide +kernel
theorem dX12_hall_50 : decode cX12_hall 50 = .ok (.putfield 171, 3) := by decide +kernel
theorem dX12_hall_53 : decode cX12_hall 53 = .ok (.aload_n 0, 1) := by decide +kernel
theorem dX12_hall_54 : decode cX12_hall 54 = .ok (.aload_n 0, 1) := by decide +kernel
theorem dX12_hall_55 : decode cX12_hall 55 = .ok (.getfield 144, 3) := by decide +kernel
theorem dX12_hall_58 : decode cX12_hall 58 = .ok (.putfield 174, 3) := by decide +kernel
theorem dX12_hall_61 : decode cX12_hall 61 = .ok (.aload_n 0, 1) := by decide +kernel
theorem dX12_hall_62 : decode cX12_hall 62 = .ok (.aload_n 0, 1) := by decide +kernel
theorem dX12_hall_63 : decode cX12_hall 63 = .ok (.getfield 147, 3) := by decide +kernel
theorem dX12_hall_66 : decode cX12_hall 66 = .ok (.putfield 177, 3) := by decide +kernel
theorem dX12_hall_69 : decode cX12_hall 69 = .ok (.iconst 0, 1) := by decide +kernel
theorem dX12_hall_70 : decode cX12_hall 70 = .ok (.istore_n 2, 1) := by decide +kernel
theorem dX12_hall_71 : decode cX12_hall 71 = .ok (.iload_n 2, 1) := by decide +kernel
theorem dX12_hall_72 : decode cX12_hall 72 = .ok (.aload_n 0, 1) := by decide +kernel
theorem dX12_hall_73 : decode cX12_hall 73 = .ok (.getfield 168, 3) := by decide +kernel
theorem dX12_hall_76 : decode cX12_hall 76 = .ok (.if_icmp .ge 33, 3) := by decide +kernel
theorem dX12_hall_79 : decode cX12_hall 79 = .ok (.aload_n 0, 1) := by decide +kernel
theorem dX12_hall_80 : decode cX12_hall 80 = .ok (.getfield 33, 3) := by decide +kernel
theorem dX12_hall_83 : decode cX12_hall 83 = .ok (.iload_n 2, 1) := by decide +kernel
theorem dX12_hall_84 : decode cX12_hall 84 = .ok (.aload_n 0, 1) := by decide +kernel
theorem dX12_hall_85 : decode cX12_hall 85 = .ok (.getfield 39, 3) := by decide +kernel
theorem dX12_hall_88 : decode cX12_hall 88 = .ok (.iload_n 2, 1) := by decide +kernel
theorem dX12_hall_89 : decode cX12_hall 89 = .ok (.iaload, 1) := by decide +kernel
theorem dX12_hall_90 : decode cX12_hall 90 = .ok (.iastore, 1) := by decide +kernel
theorem dX12_hall_91 : decode cX12_hall 91 = .ok (.aload_n 0, 1) := by decide +kernel
theorem dX12_hall_92 : decode cX12_hall 92 = .ok (.getfield 36, 3) := by decide +kernel
theorem dX12_hall_95 : decode cX12_hall 95 = .ok (.iload_n 2, 1) := by decide +kernel
theorem dX12_hall_96 : decode cX12_hall 96 = .ok (.aload_n 0, 1) := by decide +kernel
theorem dX12_hall_97 : decode cX12_hall 97 = .ok (.getfield 42, 3) := by decide +kernel
theorem dX12_hall_100 : decode cX12_hall 100 = .ok (.iload_n 2, 1) := by decide +kernel
theorem dX12_hall_101 : decode cX12_hall 101 = .ok (.iaload, 1) := by decide +kernel
theorem dX12_hall_102 : decode cX12_hall 102 = .ok (.iastore, 1) := by decide +kernel
theorem dX12_hall_103 : decode cX12_hall 103 = .ok (.iinc 2 1, 3) := by decide +kernel
theorem dX12_hall_106 : decode cX12_hall 106 = .ok (.goto (-35), 3) := by decide +kernel
theorem dX12_hall_109 : decode cX12_hall 109 = .ok (.iconst 0, 1) := by decide +kernel
theorem dX12_hall_110 : decode cX12_hall 110 = .ok (.istore_n 2, 1) := by decide +kernel
theorem dX12_hall_111 : decode cX12_hall 111 = .ok (.iload_n 2, 1) := by decide +kernel
theorem dX12_hall_112 : decode cX12_hall 112 = .ok (.bipush 11, 2) := by decide +kernel
theorem dX12_hall_114 : decode cX12_hall 114 = .ok (.if_icmp .ge 16, 3) := by decide +kernel
theorem dX12_hall_117 : decode cX12_hall 117 = .ok (.aload_n 0, 1) := by decide +kernel
theorem dX12_hall_118 : decode cX12_hall 118 = .ok (.getfield 45, 3) := by decide +kernel
theorem dX12_hall_121 : decode cX12_hall 121 = .ok (.iload_n 2, 1) := by decide +kernel
theorem dX12_hall_122 : decode cX12_hall 122 = .ok (.iconst 0, 1) := by decide +kernel
theorem dX12_hall_123 : decode cX12_hall 123 = .ok (.iastore, 1) := by decide +kernel
theorem dX12_hall_124 : decode cX12_hall 124 = .ok (.iinc 2 1, 3) := by decide +kernel
theorem dX12_hall_127 : decode cX12_hall 127 = .ok (.goto (-16), 3) := by decide +kernel
theorem dX12_hall_130 : decode cX12_hall 130 = .ok (.aload_n 0, 1) := by decide +kernel
theorem dX12_hall_131 : decode cX12_hall 131 = .ok (.iconst 0, 1) := by decide +kernel
theorem dX12_hall_132 : decode cX12_hall 132 = .ok (.putfield 180, 3) := by decide +kernel
theorem dX12_hall_135 : decode cX12_hall 135 = .ok (.iconst 0, 1) := by decide +kernel
theorem dX12_hall_136 : decode cX12_hall 136 = .ok (.istore_n 2, 1) := by decide +kernel
theorem dX12_hall_137 : decode cX12_hall 137 = .ok (.iload_n 2, 1) := by decide +kernel
theorem dX12_hall_138 : decode cX12_hall 138 = .ok (.iconst 3, 1) := by decide +kernel
theorem dX12_hall_139 : decode cX12_hall 139 = .ok (.if_icmp .ge 16, 3) := by decide +kernel
theorem dX12_hall_142 : decode cX12_hall 142 = .ok (.aload_n 0, 1) := by decide +kernel
theorem dX12_hall_143 : decode cX12_hall 143 = .ok (.getfield 54, 3) := by decide +kernel
theorem dX12_hall_146 : decode cX12_hall 146 = .ok (.iload_n 2, 1) := by decide +kernel
theorem dX12_hall_147 : decode cX12_hall 147 = .ok (.iconst 0, 1) := by decide +kernel
theorem dX12_hall_148 : decode cX12_hall 148 = .ok (.bastore, 1) := by decide +kernel
theorem dX12_hall_149 : decode cX12_hall 149 = .ok (.iinc 2 1, 3) := by decide +kernel
theorem dX12_hall_152 : decode cX12_hall 152 = .ok (.goto (-15), 3) := by decide +kernel
theorem dX12_hall_155 : decode cX12_hall 155 = .ok (.aload_n 0, 1) := by decide +kernel
theorem dX12_hall_156 : decode cX12_hall 156 = .ok (.getfield 168, 3) := by decide +kernel
theorem dX12_hall_159 : decode cX12_hall 159 = .ok (.ireturn, 1) := by decide +kernel
theorem dX12_isGuild_0 : decode cX12_isGuild 0 = .ok (.iload_n 1, 1) := by decide +kernel
theorem dX12_isGuild_1 : decode cX12_isGuild 1 = .ok (.iconst 0, 1) := by decide +kernel
theorem dX12_isGuild_2 : decode cX12_isGuild 2 = .ok (.aload_n 0, 1) := by decide +kernel
theorem dX12_isGuild_3 : decode cX12_isGuild 3 = .ok (.getfield 168, 3) := by decide +kernel
theorem dX12_isGuild_6 : decode cX12_isGuild 6 = .ok (.iconst 1, 1) := by decide +kernel
theorem dX12_isGuild_7 : decode cX12_isGuild 7 = .ok (.isub, 1) := by decide +kernel
theorem dX12_isGuild_8 : decode cX12_isGuild 8 = .ok (.invokestatic 96, 3) := by decide +kernel
theorem dX12_isGuild_11 : decode cX12_isGuild 11 = .ok (.ireturn, 1) := by decide +kernel
theorem dX12_isTooth_0 : decode cX12_isTooth 0 = .ok (.iload_n 1, 1) := by decide +kernel
theorem dX12_isTooth_1 : decode cX12_isTooth 1 = .ok (.iconst 0, 1) := by decide +kernel
theorem dX12_isTooth_2 : decode cX12_isTooth 2 = .ok (.aload_n 0, 1) := by decide +kernel
theorem dX12_isTooth_3 : decode cX12_isTooth 3 = .ok (.getfield 171, 3) := by decide +kernel
theorem dX12_isTooth_6 : decode cX12_isTooth 6 = .ok (.iconst 1, 1) := by decide +kernel
theorem dX12_isTooth_7 : decode cX12_isTooth 7 = .ok (.isub, 1) := by decide +kernel
theorem dX12_isTooth_8 : decode cX12_isTooth 8 = .ok (.invokestatic 96, 3) := by decide +kernel
theorem dX12_isTooth_11 : decode cX12_isTooth 11 = .ok (.ireturn, 1) := by decide +kernel
theorem dX12_isRent_0 : decode cX12_isRent 0 = .ok (.aload_n 0, 1) := by decide +kernel
theorem dX12_isRent_1 : decode cX12_isRent 1 = .ok (.getfield 177, 3) := by decide +kernel
theorem dX12_isRent_4 : decode cX12_isRent 4 = .ok (.iload_n 1, 1) := by decide +kernel
theorem dX12_isRent_5 : decode cX12_isRent 5 = .ok (.lshr, 1) := by decide +kernel
theorem dX12_isRent_6 : decode cX12_isRent 6 = .ok (.lconst 1, 1) := by decide +kernel
theorem dX12_isRent_7 : decode cX12_isRent 7 = .ok (.land, 1) := by decide +kernel
theorem dX12_isRent_8 : decode cX12_isRent 8 = .ok (.lconst 1, 1) := by decide +kernel
theorem dX12_isRent_9 : decode cX12_isRent 9 = .ok (.lcmp, 1) := by decide +kernel
theorem dX12_isRent_10 : decode cX12_isRent 10 = .ok (.ifCond .ne 7, 3) := by decide +kernel
theorem dX12_isRent_13 : decode cX12_isRent 13 = .ok (.iconst 1, 1) := by decide +kernel
theorem dX12_isRent_14 : decode cX12_isRent 14 = .ok (.goto 4, 3) := by decide +kernel
theorem dX12_isRent_17 : decode cX12_isRent 17 = .ok (.iconst 0, 1) := by decide +kernel
theorem dX12_isRent_18 : decode cX12_isRent 18 = .ok (.ireturn, 1) := by decide +kernel
theorem dX12_bareOf_0 : decode cX12_bareOf 0 = .ok (.aload_n 0, 1) := by decide +kernel
theorem dX12_bareOf_1 : decode cX12_bareOf 1 = .ok (.getfield 36, 3) := by decide +kernel
theorem dX12_bareOf_4 : decode cX12_bareOf 4 = .ok (.iload_n 1, 1) := by decide +kernel
theorem dX12_bareOf_5 : decode cX12_bareOf 5 = .ok (.iaload, 1) := by decide +kernel
theorem dX12_bareOf_6 : decode cX12_bareOf 6 = .ok (.istore_n 2, 1) := by decide +kernel
theorem dX12_bareOf_7 : decode cX12_bareOf 7 = .ok (.aload_n 0, 1) := by decide +kernel
