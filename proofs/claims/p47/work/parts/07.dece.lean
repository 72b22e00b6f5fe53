theorem dL_cheapest_112 : decode cL_cheapest 112 = .ok (.iload 9, 2) := by decide +kernel
theorem dL_cheapest_114 : decode cL_cheapest 114 = .ok (.ishl, 1) := by decide +kernel
theorem dL_cheapest_115 : decode cL_cheapest 115 = .ok (.ior, 1) := by decide +kernel
theorem dL_cheapest_116 : decode cL_cheapest 116 = .ok (.istore 7, 2) := by decide +kernel
theorem dL_cheapest_118 : decode cL_cheapest 118 = .ok (.iinc 8 1, 3) := by decide +kernel
theorem dL_cheapest_121 : decode cL_cheapest 121 = .ok (.goto (-73), 3) := by decide +kernel
theorem dL_cheapest_124 : decode cL_cheapest 124 = .ok (.aload_n 0, 1) := by decide +kernel
theorem dL_cheapest_125 : decode cL_cheapest 125 = .ok (.invokevirtual 59, 3) := by decide +kernel
theorem dL_cheapest_128 : decode cL_cheapest 128 = .ok (.iload 5, 2) := by decide +kernel
theorem dL_cheapest_130 : decode cL_cheapest 130 = .ok (.iload_n 3, 1) := by decide +kernel
theorem dL_cheapest_131 : decode cL_cheapest 131 = .ok (.iadd, 1) := by decide +kernel
theorem dL_cheapest_132 : decode cL_cheapest 132 = .ok (.if_icmp .ne 50, 3) := by decide +kernel
theorem dL_cheapest_135 : decode cL_cheapest 135 = .ok (.aload_n 0, 1) := by decide +kernel
theorem dL_cheapest_136 : decode cL_cheapest 136 = .ok (.iload_n 2, 1) := by decide +kernel
theorem dL_cheapest_137 : decode cL_cheapest 137 = .ok (.invokevirtual 145, 3) := by decide +kernel
theorem dL_cheapest_140 : decode cL_cheapest 140 = .ok (.iload_n 1, 1) := by decide +kernel
theorem dL_cheapest_141 : decode cL_cheapest 141 = .ok (.if_icmp .ne 41, 3) := by decide +kernel
theorem dL_cheapest_144 : decode cL_cheapest 144 = .ok (.aload_n 0, 1) := by decide +kernel
theorem dL_cheapest_145 : decode cL_cheapest 145 = .ok (.invokevirtual 151, 3) := by decide +kernel
theorem dL_cheapest_148 : decode cL_cheapest 148 = .ok (.iconst 1, 1) := by decide +kernel
theorem dL_cheapest_149 : decode cL_cheapest 149 = .ok (.if_icmp .ne 33, 3) := by decide +kernel
theorem dL_cheapest_152 : decode cL_cheapest 152 = .ok (.aload_n 0, 1) := by decide +kernel
theorem dL_cheapest_153 : decode cL_cheapest 153 = .ok (.invokevirtual 79, 3) := by decide +kernel
theorem dL_cheapest_156 : decode cL_cheapest 156 = .ok (.lconst 0, 1) := by decide +kernel
theorem dL_cheapest_157 : decode cL_cheapest 157 = .ok (.lcmp, 1) := by decide +kernel
theorem dL_cheapest_158 : decode cL_cheapest 158 = .ok (.ifCond .le 7, 3) := by decide +kernel
theorem dL_cheapest_161 : decode cL_cheapest 161 = .ok (.iconst 1, 1) := by decide +kernel
theorem dL_cheapest_162 : decode cL_cheapest 162 = .ok (.goto 4, 3) := by decide +kernel
theorem dL_cheapest_165 : decode cL_cheapest 165 = .ok (.iconst 0, 1) := by decide +kernel
theorem dL_cheapest_166 : decode cL_cheapest 166 = .ok (.iload_n 3, 1) := by decide +kernel
theorem dL_cheapest_167 : decode cL_cheapest 167 = .ok (.ifCond .ne 7, 3) := by decide +kernel
theorem dL_cheapest_170 : decode cL_cheapest 170 = .ok (.iconst 1, 1) := by decide +kernel
theorem dL_cheapest_171 : decode cL_cheapest 171 = .ok (.goto 4, 3) := by decide +kernel
theorem dL_cheapest_174 : decode cL_cheapest 174 = .ok (.iconst 0, 1) := by decide +kernel
theorem dL_cheapest_175 : decode cL_cheapest 175 = .ok (.if_icmp .ne 7, 3) := by decide +kernel
theorem dL_cheapest_178 : decode cL_cheapest 178 = .ok (.iconst 1, 1) := by decide +kernel
theorem dL_cheapest_179 : decode cL_cheapest 179 = .ok (.goto 4, 3) := by decide +kernel
theorem dL_cheapest_182 : decode cL_cheapest 182 = .ok (.iconst 0, 1) := by decide +kernel
theorem dL_cheapest_183 : decode cL_cheapest 183 = .ok (.ireturn, 1) := by decide +kernel
theorem dL_fewest_0 : decode cL_fewest 0 = .ok (.aload_n 1, 1) := by decide +kernel
theorem dL_fewest_1 : decode cL_fewest 1 = .ok (.bipush 42, 2) := by decide +kernel
theorem dL_fewest_3 : decode cL_fewest 3 = .ok (.invokestatic 14, 3) := by decide +kernel
theorem dL_fewest_6 : decode cL_fewest 6 = .ok (.aload_n 0, 1) := by decide +kernel
theorem dL_fewest_7 : decode cL_fewest 7 = .ok (.iconst 1, 1) := by decide +kernel
theorem dL_fewest_8 : decode cL_fewest 8 = .ok (.invokevirtual 49, 3) := by decide +kernel
theorem dL_fewest_11 : decode cL_fewest 11 = .ok (.irem, 1) := by decide +kernel
theorem dL_fewest_12 : decode cL_fewest 12 = .ok (.istore 4, 2) := by decide +kernel
theorem dL_fewest_14 : decode cL_fewest 14 = .ok (.aload_n 0, 1) := by decide +kernel
theorem dL_fewest_15 : decode cL_fewest 15 = .ok (.iload 4, 2) := by decide +kernel
theorem dL_fewest_17 : decode cL_fewest 17 = .ok (.invokevirtual 157, 3) := by decide +kernel
theorem dL_fewest_20 : decode cL_fewest 20 = .ok (.istore 5, 2) := by decide +kernel
theorem dL_fewest_22 : decode cL_fewest 22 = .ok (.aload_n 0, 1) := by decide +kernel
theorem dL_fewest_23 : decode cL_fewest 23 = .ok (.iload 4, 2) := by decide +kernel
theorem dL_fewest_25 : decode cL_fewest 25 = .ok (.invokevirtual 159, 3) := by decide +kernel
theorem dL_fewest_28 : decode cL_fewest 28 = .ok (.istore 6, 2) := by decide +kernel
theorem dL_fewest_30 : decode cL_fewest 30 = .ok (.iload 5, 2) := by decide +kernel
theorem dL_fewest_32 : decode cL_fewest 32 = .ok (.ifCond .ge 50, 3) := by decide +kernel
theorem dL_fewest_35 : decode cL_fewest 35 = .ok (.aload_n 0, 1) := by decide +kernel
theorem dL_fewest_36 : decode cL_fewest 36 = .ok (.invokevirtual 162, 3) := by decide +kernel
theorem dL_fewest_39 : decode cL_fewest 39 = .ok (.istore 7, 2) := by decide +kernel
theorem dL_fewest_41 : decode cL_fewest 41 = .ok (.iload 5, 2) := by decide +kernel
theorem dL_fewest_43 : decode cL_fewest 43 = .ok (.bipush (-9), 2) := by decide +kernel
theorem dL_fewest_45 : decode cL_fewest 45 = .ok (.if_icmp .ne 35, 3) := by decide +kernel
theorem dL_fewest_48 : decode cL_fewest 48 = .ok (.iload 6, 2) := by decide +kernel
theorem dL_fewest_50 : decode cL_fewest 50 = .ok (.bipush (-9), 2) := by decide +kernel
theorem dL_fewest_52 : decode cL_fewest 52 = .ok (.if_icmp .ne 28, 3) := by decide +kernel
theorem dL_fewest_55 : decode cL_fewest 55 = .ok (.iload 7, 2) := by decide +kernel
theorem dL_fewest_57 : decode cL_fewest 57 = .ok (.ifCond .le 23, 3) := by decide +kernel
theorem dL_fewest_60 : decode cL_fewest 60 = .ok (.aload_n 0, 1) := by decide +kernel
theorem dL_fewest_61 : decode cL_fewest 61 = .ok (.invokevirtual 45, 3) := by decide +kernel
theorem dL_fewest_64 : decode cL_fewest 64 = .ok (.ifCond .lt 16, 3) := by decide +kernel
theorem dL_fewest_67 : decode cL_fewest 67 = .ok (.aload_n 0, 1) := by decide +kernel
theorem dL_fewest_68 : decode cL_fewest 68 = .ok (.invokevirtual 45, 3) := by decide +kernel
theorem dL_fewest_71 : decode cL_fewest 71 = .ok (.iload 4, 2) := by decide +kernel
theorem dL_fewest_73 : decode cL_fewest 73 = .ok (.if_icmp .gt 7, 3) := by decide +kernel
theorem dL_fewest_76 : decode cL_fewest 76 = .ok (.iconst 1, 1) := by decide +kernel
theorem dL_fewest_77 : decode cL_fewest 77 = .ok (.goto 4, 3) := by decide +kernel
theorem dL_fewest_80 : decode cL_fewest 80 = .ok (.iconst 0, 1) := by decide +kernel
theorem dL_fewest_81 : decode cL_fewest 81 = .ok (.ireturn, 1) := by decide +kernel
theorem dL_fewest_82 : decode cL_fewest 82 = .ok (.iload 6, 2) := by decide +kernel
theorem dL_fewest_84 : decode cL_fewest 84 = .ok (.iload 5, 2) := by decide +kernel
theorem dL_fewest_86 : decode cL_fewest 86 = .ok (.if_icmp .lt 20, 3) := by decide +kernel
theorem dL_fewest_89 : decode cL_fewest 89 = .ok (.iload 6, 2) := by decide +kernel
theorem dL_fewest_91 : decode cL_fewest 91 = .ok (.bipush 9, 2) := by decide +kernel
theorem dL_fewest_93 : decode cL_fewest 93 = .ok (.iload 5, 2) := by decide +kernel
theorem dL_fewest_95 : decode cL_fewest 95 = .ok (.imul, 1) := by decide +kernel
theorem dL_fewest_96 : decode cL_fewest 96 = .ok (.if_icmp .gt 10, 3) := by decide +kernel
theorem dL_fewest_99 : decode cL_fewest 99 = .ok (.iload 5, 2) := by decide +kernel
theorem dL_fewest_101 : decode cL_fewest 101 = .ok (.bipush 40, 2) := by decide +kernel
theorem dL_fewest_103 : decode cL_fewest 103 = .ok (.if_icmp .le 23, 3) := by decide +kernel
theorem dL_fewest_106 : decode cL_fewest 106 = .ok (.iload 5, 2) := by decide +kernel
theorem dL_fewest_108 : decode cL_fewest 108 = .ok (.bipush 40, 2) := by decide +kernel
theorem dL_fewest_110 : decode cL_fewest 110 = .ok (.if_icmp .le 14, 3) := by decide +kernel
theorem dL_fewest_113 : decode cL_fewest 113 = .ok (.iload 6, 2) := by decide +kernel
theorem dL_fewest_115 : decode cL_fewest 115 = .ok (.iload 5, 2) := by decide +kernel
theorem dL_fewest_117 : decode cL_fewest 117 = .ok (.if_icmp .lt 7, 3) := by decide +kernel
theorem dL_fewest_120 : decode cL_fewest 120 = .ok (.iconst 1, 1) := by decide +kernel
theorem dL_fewest_121 : decode cL_fewest 121 = .ok (.goto 4, 3) := by decide +kernel
theorem dL_fewest_124 : decode cL_fewest 124 = .ok (.iconst 0, 1) := by decide +kernel
theorem dL_fewest_125 : decode cL_fewest 125 = .ok (.ireturn, 1) := by decide +kernel
theorem dL_fewest_126 : decode cL_fewest 126 = .ok (.iload 5, 2) := by decide +kernel
theorem dL_fewest_128 : decode cL_fewest 128 = .ok (.istore 7, 2) := by decide +kernel
theorem dL_fewest_130 : decode cL_fewest 130 = .ok (.iload 7, 2) := by decide +kernel
theorem dL_fewest_132 : decode cL_fewest 132 = .ok (.ifCond .le 52, 3) := by decide +kernel
theorem dL_fewest_135 : decode cL_fewest 135 = .ok (.aload_n 0, 1) := by decide +kernel
theorem dL_fewest_136 : decode cL_fewest 136 = .ok (.iload 4, 2) := by decide +kernel
theorem dL_fewest_138 : decode cL_fewest 138 = .ok (.invokevirtual 157, 3) := by decide +kernel
theorem dL_fewest_141 : decode cL_fewest 141 = .ok (.istore 8, 2) := by decide +kernel
theorem dL_fewest_143 : decode cL_fewest 143 = .ok (.aload_n 0, 1) := by decide +kernel
theorem dL_fewest_144 : decode cL_fewest 144 = .ok (.invokevirtual 45, 3) := by decide +kernel
theorem dL_fewest_147 : decode cL_fewest 147 = .ok (.istore 9, 2) := by decide +kernel
theorem dL_fewest_149 : decode cL_fewest 149 = .ok (.iload 8, 2) := by decide +kernel
theorem dL_fewest_151 : decode cL_fewest 151 = .ok (.iload 7, 2) := by decide +kernel
theorem dL_fewest_153 : decode cL_fewest 153 = .ok (.if_icmp .ne 23, 3) := by decide +kernel
theorem dL_fewest_156 : decode cL_fewest 156 = .ok (.iload 9, 2) := by decide +kernel
theorem dL_fewest_158 : decode cL_fewest 158 = .ok (.ifCond .lt 18, 3) := by decide +kernel
theorem dL_fewest_161 : decode cL_fewest 161 = .ok (.iload 9, 2) := by decide +kernel
theorem dL_fewest_163 : decode cL_fewest 163 = .ok (.iload_n 2, 1) := by decide +kernel
theorem dL_fewest_164 : decode cL_fewest 164 = .ok (.if_icmp .ge 12, 3) := by decide +kernel
theorem dL_fewest_167 : decode cL_fewest 167 = .ok (.aload_n 0, 1) := by decide +kernel
theorem dL_fewest_168 : decode cL_fewest 168 = .ok (.iload 9, 2) := by decide +kernel
theorem dL_fewest_170 : decode cL_fewest 170 = .ok (.invokevirtual 98, 3) := by decide +kernel
theorem dL_fewest_173 : decode cL_fewest 173 = .ok (.ifCond .ge 5, 3) := by decide +kernel
theorem dL_fewest_176 : decode cL_fewest 176 = .ok (.iconst 0, 1) := by decide +kernel
theorem dL_fewest_177 : decode cL_fewest 177 = .ok (.ireturn, 1) := by decide +kernel
theorem dL_fewest_178 : decode cL_fewest 178 = .ok (.iinc 7 (-1), 3) := by decide +kernel
theorem dL_fewest_181 : decode cL_fewest 181 = .ok (.goto (-51), 3) := by decide +kernel
theorem dL_fewest_184 : decode cL_fewest 184 = .ok (.aload_n 0, 1) := by decide +kernel
theorem dL_fewest_185 : decode cL_fewest 185 = .ok (.iconst 2, 1) := by decide +kernel
theorem dL_fewest_186 : decode cL_fewest 186 = .ok (.invokevirtual 49, 3) := by decide +kernel
theorem dL_fewest_189 : decode cL_fewest 189 = .ok (.iload 4, 2) := by decide +kernel
theorem dL_fewest_191 : decode cL_fewest 191 = .ok (.if_icmp .ne 42, 3) := by decide +kernel
theorem dL_fewest_194 : decode cL_fewest 194 = .ok (.aload_n 0, 1) := by decide +kernel
theorem dL_fewest_195 : decode cL_fewest 195 = .ok (.aload_n 0, 1) := by decide +kernel
theorem dL_fewest_196 : decode cL_fewest 196 = .ok (.iload 4, 2) := by decide +kernel
theorem dL_fewest_198 : decode cL_fewest 198 = .ok (.invokevirtual 157, 3) := by decide +kernel
theorem dL_fewest_201 : decode cL_fewest 201 = .ok (.iconst 0, 1) := by decide +kernel
theorem dL_fewest_202 : decode cL_fewest 202 = .ok (.bipush (-9), 2) := by decide +kernel
theorem dL_fewest_204 : decode cL_fewest 204 = .ok (.invokestatic 62, 3) := by decide +kernel
theorem dL_fewest_207 : decode cL_fewest 207 = .ok (.ifCond .eq 26, 3) := by decide +kernel
theorem dL_fewest_210 : decode cL_fewest 210 = .ok (.aload_n 0, 1) := by decide +kernel
theorem dL_fewest_211 : decode cL_fewest 211 = .ok (.iload 4, 2) := by decide +kernel
theorem dL_fewest_213 : decode cL_fewest 213 = .ok (.invokevirtual 159, 3) := by decide +kernel
theorem dL_fewest_216 : decode cL_fewest 216 = .ok (.ifCond .ne 17, 3) := by decide +kernel
theorem dL_fewest_219 : decode cL_fewest 219 = .ok (.aload_n 0, 1) := by decide +kernel
theorem dL_fewest_220 : decode cL_fewest 220 = .ok (.iload_n 3, 1) := by decide +kernel
theorem dL_fewest_221 : decode cL_fewest 221 = .ok (.invokevirtual 145, 3) := by decide +kernel
theorem dL_fewest_224 : decode cL_fewest 224 = .ok (.iload 5, 2) := by decide +kernel
theorem dL_fewest_226 : decode cL_fewest 226 = .ok (.if_icmp .ne 7, 3) := by decide +kernel
theorem dL_fewest_229 : decode cL_fewest 229 = .ok (.iconst 1, 1) := by decide +kernel
theorem dL_fewest_230 : decode cL_fewest 230 = .ok (.goto 4, 3) := by decide +kernel
theorem dL_fewest_233 : decode cL_fewest 233 = .ok (.iconst 0, 1) := by decide +kernel
theorem dL_fewest_234 : decode cL_fewest 234 = .ok (.ireturn, 1) := by decide +kernel
theorem dL_fitted_0 : decode cL_fitted 0 = .ok (.aload_n 0, 1) := by decide +kernel
theorem dL_fitted_1 : decode cL_fitted 1 = .ok (.iconst 1, 1) := by decide +kernel
theorem dL_fitted_2 : decode cL_fitted 2 = .ok (.invokevirtual 49, 3) := by decide +kernel
theorem dL_fitted_5 : decode cL_fitted 5 = .ok (.istore 4, 2) := by decide +kernel
theorem dL_fitted_7 : decode cL_fitted 7 = .ok (.aload_n 1, 1) := by decide +kernel
theorem dL_fitted_8 : decode cL_fitted 8 = .ok (.bipush 43, 2) := by decide +kernel
theorem dL_fitted_10 : decode cL_fitted 10 = .ok (.invokestatic 14, 3) := by decide +kernel
theorem dL_fitted_13 : decode cL_fitted 13 = .ok (.iload 4, 2) := by decide +kernel
theorem dL_fitted_15 : decode cL_fitted 15 = .ok (.irem, 1) := by decide +kernel
theorem dL_fitted_16 : decode cL_fitted 16 = .ok (.istore 5, 2) := by decide +kernel
theorem dL_fitted_18 : decode cL_fitted 18 = .ok (.aload_n 0, 1) := by decide +kernel
theorem dL_fitted_19 : decode cL_fitted 19 = .ok (.aload_n 0, 1) := by decide +kernel
theorem dL_fitted_20 : decode cL_fitted 20 = .ok (.iload 5, 2) := by decide +kernel
theorem dL_fitted_22 : decode cL_fitted 22 = .ok (.invokevirtual 165, 3) := by decide +kernel
theorem dL_fitted_25 : decode cL_fitted 25 = .ok (.invokestatic 55, 3) := by decide +kernel
theorem dL_fitted_28 : decode cL_fitted 28 = .ok (.istore 6, 2) := by decide +kernel
theorem dL_fitted_30 : decode cL_fitted 30 = .ok (.aload_n 0, 1) := by decide +kernel
theorem dL_fitted_31 : decode cL_fitted 31 = .ok (.invokevirtual 79, 3) := by decide +kernel
theorem dL_fitted_34 : decode cL_fitted 34 = .ok (.lstore 7, 2) := by decide +kernel
theorem dL_fitted_36 : decode cL_fitted 36 = .ok (.aload_n 0, 1) := by decide +kernel
theorem dL_fitted_37 : decode cL_fitted 37 = .ok (.iload 5, 2) := by decide +kernel
theorem dL_fitted_39 : decode cL_fitted 39 = .ok (.invokevirtual 168, 3) := by decide +kernel
theorem dL_fitted_42 : decode cL_fitted 42 = .ok (.istore 9, 2) := by decide +kernel
theorem dL_fitted_44 : decode cL_fitted 44 = .ok (.aload_n 0, 1) := by decide +kernel
theorem dL_fitted_45 : decode cL_fitted 45 = .ok (.invokevirtual 45, 3) := by decide +kernel
theorem dL_fitted_48 : decode cL_fitted 48 = .ok (.istore 10, 2) := by decide +kernel
theorem dL_fitted_50 : decode cL_fitted 50 = .ok (.lload 7, 2) := by decide +kernel
theorem dL_fitted_52 : decode cL_fitted 52 = .ok (.lconst 0, 1) := by decide +kernel
theorem dL_fitted_53 : decode cL_fitted 53 = .ok (.lcmp, 1) := by decide +kernel
theorem dL_fitted_54 : decode cL_fitted 54 = .ok (.ifCond .ne 31, 3) := by decide +kernel
theorem dL_fitted_57 : decode cL_fitted 57 = .ok (.iload 6, 2) := by decide +kernel
theorem dL_fitted_59 : decode cL_fitted 59 = .ok (.bipush (-9), 2) := by decide +kernel
theorem dL_fitted_61 : decode cL_fitted 61 = .ok (.if_icmp .ne 22, 3) := by decide +kernel
theorem dL_fitted_64 : decode cL_fitted 64 = .ok (.iload 9, 2) := by decide +kernel
theorem dL_fitted_66 : decode cL_fitted 66 = .ok (.bipush (-3), 2) := by decide +kernel
theorem dL_fitted_68 : decode cL_fitted 68 = .ok (.if_icmp .ne 15, 3) := by decide +kernel
theorem dL_fitted_71 : decode cL_fitted 71 = .ok (.aload_n 0, 1) := by decide +kernel
theorem dL_fitted_72 : decode cL_fitted 72 = .ok (.invokevirtual 72, 3) := by decide +kernel
theorem dL_fitted_75 : decode cL_fitted 75 = .ok (.iconst 4, 1) := by decide +kernel
theorem dL_fitted_76 : decode cL_fitted 76 = .ok (.if_icmp .ne 7, 3) := by decide +kernel
theorem dL_fitted_79 : decode cL_fitted 79 = .ok (.iconst 1, 1) := by decide +kernel
theorem dL_fitted_80 : decode cL_fitted 80 = .ok (.goto 4, 3) := by decide +kernel
theorem dL_fitted_83 : decode cL_fitted 83 = .ok (.iconst 0, 1) := by decide +kernel
theorem dL_fitted_84 : decode cL_fitted 84 = .ok (.ireturn, 1) := by decide +kernel
theorem dL_fitted_85 : decode cL_fitted 85 = .ok (.aload_n 0, 1) := by decide +kernel
theorem dL_fitted_86 : decode cL_fitted 86 = .ok (.iload 5, 2) := by decide +kernel
theorem dL_fitted_88 : decode cL_fitted 88 = .ok (.invokevirtual 171, 3) := by decide +kernel
theorem dL_fitted_91 : decode cL_fitted 91 = .ok (.istore 11, 2) := by decide +kernel
theorem dL_fitted_93 : decode cL_fitted 93 = .ok (.aload_n 0, 1) := by decide +kernel
theorem dL_fitted_94 : decode cL_fitted 94 = .ok (.invokevirtual 45, 3) := by decide +kernel
theorem dL_fitted_97 : decode cL_fitted 97 = .ok (.istore 12, 2) := by decide +kernel
theorem dL_fitted_99 : decode cL_fitted 99 = .ok (.iload 6, 2) := by decide +kernel
theorem dL_fitted_101 : decode cL_fitted 101 = .ok (.ifCond .lt 72, 3) := by decide +kernel
theorem dL_fitted_104 : decode cL_fitted 104 = .ok (.iload 6, 2) := by decide +kernel
theorem dL_fitted_106 : decode cL_fitted 106 = .ok (.iconst 1, 1) := by decide +kernel
theorem dL_fitted_107 : decode cL_fitted 107 = .ok (.iload_n 2, 1) := by decide +kernel
theorem dL_fitted_108 : decode cL_fitted 108 = .ok (.ishl, 1) := by decide +kernel
theorem dL_fitted_109 : decode cL_fitted 109 = .ok (.if_icmp .ge 64, 3) := by decide +kernel
theorem dL_fitted_112 : decode cL_fitted 112 = .ok (.iload 9, 2) := by decide +kernel
theorem dL_fitted_114 : decode cL_fitted 114 = .ok (.iload 6, 2) := by decide +kernel
theorem dL_fitted_116 : decode cL_fitted 116 = .ok (.iconst (-1), 1) := by decide +kernel
theorem dL_fitted_117 : decode cL_fitted 117 = .ok (.ixor, 1) := by decide +kernel
theorem dL_fitted_118 : decode cL_fitted 118 = .ok (.iand, 1) := by decide +kernel
theorem dL_fitted_119 : decode cL_fitted 119 = .ok (.ifCond .ne 54, 3) := by decide +kernel
theorem dL_fitted_122 : decode cL_fitted 122 = .ok (.iload 10, 2) := by decide +kernel
theorem dL_fitted_124 : decode cL_fitted 124 = .ok (.iload 6, 2) := by decide +kernel
theorem dL_fitted_126 : decode cL_fitted 126 = .ok (.iand, 1) := by decide +kernel
theorem dL_fitted_127 : decode cL_fitted 127 = .ok (.ifCond .ne 46, 3) := by decide +kernel
theorem dL_fitted_130 : decode cL_fitted 130 = .ok (.iload 9, 2) := by decide +kernel
theorem dL_fitted_132 : decode cL_fitted 132 = .ok (.iload 10, 2) := by decide +kernel
theorem dL_fitted_134 : decode cL_fitted 134 = .ok (.iand, 1) := by decide +kernel
theorem dL_fitted_135 : decode cL_fitted 135 = .ok (.ifCond .ne 38, 3) := by decide +kernel
theorem dL_fitted_138 : decode cL_fitted 138 = .ok (.iload 11, 2) := by decide +kernel
theorem dL_fitted_140 : decode cL_fitted 140 = .ok (.ifCond .lt 33, 3) := by decide +kernel
theorem dL_fitted_143 : decode cL_fitted 143 = .ok (.iload 11, 2) := by decide +kernel
theorem dL_fitted_145 : decode cL_fitted 145 = .ok (.iload_n 2, 1) := by decide +kernel
theorem dL_fitted_146 : decode cL_fitted 146 = .ok (.if_icmp .ge 27, 3) := by decide +kernel
theorem dL_fitted_149 : decode cL_fitted 149 = .ok (.iload 12, 2) := by decide +kernel
theorem dL_fitted_151 : decode cL_fitted 151 = .ok (.i2l, 1) := by decide +kernel
theorem dL_fitted_152 : decode cL_fitted 152 = .ok (.lload 7, 2) := by decide +kernel
theorem dL_fitted_154 : decode cL_fitted 154 = .ok (.lconst 1, 1) := by decide +kernel
theorem dL_fitted_155 : decode cL_fitted 155 = .ok (.ladd, 1) := by decide +kernel
theorem dL_fitted_156 : decode cL_fitted 156 = .ok (.ldc2_w 174, 3) := by decide +kernel
theorem dL_fitted_159 : decode cL_fitted 159 = .ok (.ldiv, 1) := by decide +kernel
theorem dL_fitted_160 : decode cL_fitted 160 = .ok (.lcmp, 1) := by decide +kernel
theorem dL_fitted_161 : decode cL_fitted 161 = .ok (.ifCond .lt 12, 3) := by decide +kernel
theorem dL_fitted_164 : decode cL_fitted 164 = .ok (.iload 12, 2) := by decide +kernel
theorem dL_fitted_166 : decode cL_fitted 166 = .ok (.i2l, 1) := by decide +kernel
theorem dL_fitted_167 : decode cL_fitted 167 = .ok (.lload 7, 2) := by decide +kernel
theorem dL_fitted_169 : decode cL_fitted 169 = .ok (.lcmp, 1) := by decide +kernel
theorem dL_fitted_170 : decode cL_fitted 170 = .ok (.ifCond .le 5, 3) := by decide +kernel
theorem dL_fitted_173 : decode cL_fitted 173 = .ok (.iconst 0, 1) := by decide +kernel
theorem dL_fitted_174 : decode cL_fitted 174 = .ok (.ireturn, 1) := by decide +kernel
theorem dL_fitted_175 : decode cL_fitted 175 = .ok (.aload_n 0, 1) := by decide +kernel
theorem dL_fitted_176 : decode cL_fitted 176 = .ok (.iconst 2, 1) := by decide +kernel
theorem dL_fitted_177 : decode cL_fitted 177 = .ok (.invokevirtual 49, 3) := by decide +kernel
theorem dL_fitted_180 : decode cL_fitted 180 = .ok (.istore 13, 2) := by decide +kernel
theorem dL_fitted_182 : decode cL_fitted 182 = .ok (.iconst 0, 1) := by decide +kernel
theorem dL_fitted_183 : decode cL_fitted 183 = .ok (.istore 14, 2) := by decide +kernel
theorem dL_fitted_185 : decode cL_fitted 185 = .ok (.iconst 0, 1) := by decide +kernel
theorem dL_fitted_186 : decode cL_fitted 186 = .ok (.istore 15, 2) := by decide +kernel
theorem dL_fitted_188 : decode cL_fitted 188 = .ok (.iload 15, 2) := by decide +kernel
theorem dL_fitted_190 : decode cL_fitted 190 = .ok (.iload_n 2, 1) := by decide +kernel
theorem dL_fitted_191 : decode cL_fitted 191 = .ok (.if_icmp .ge 34, 3) := by decide +kernel
theorem dL_fitted_194 : decode cL_fitted 194 = .ok (.iload 6, 2) := by decide +kernel
theorem dL_fitted_196 : decode cL_fitted 196 = .ok (.iload 15, 2) := by decide +kernel
theorem dL_fitted_198 : decode cL_fitted 198 = .ok (.ishr, 1) := by decide +kernel
theorem dL_fitted_199 : decode cL_fitted 199 = .ok (.iconst 1, 1) := by decide +kernel
theorem dL_fitted_200 : decode cL_fitted 200 = .ok (.iand, 1) := by decide +kernel
theorem dL_fitted_201 : decode cL_fitted 201 = .ok (.iconst 1, 1) := by decide +kernel
theorem dL_fitted_202 : decode cL_fitted 202 = .ok (.if_icmp .ne 17, 3) := by decide +kernel
theorem dL_fitted_205 : decode cL_fitted 205 = .ok (.aload_n 0, 1) := by decide +kernel
theorem dL_fitted_206 : decode cL_fitted 206 = .ok (.iload 15, 2) := by decide +kernel
theorem dL_fitted_208 : decode cL_fitted 208 = .ok (.invokevirtual 98, 3) := by decide +kernel
theorem dL_fitted_211 : decode cL_fitted 211 = .ok (.ifCond .ge 5, 3) := by decide +kernel
theorem dL_fitted_214 : decode cL_fitted 214 = .ok (.iconst 0, 1) := by decide +kernel
theorem dL_fitted_215 : decode cL_fitted 215 = .ok (.ireturn, 1) := by decide +kernel
theorem dL_fitted_216 : decode cL_fitted 216 = .ok (.iinc 14 1, 3) := by decide +kernel
theorem dL_fitted_219 : decode cL_fitted 219 = .ok (.iinc 15 1, 3) := by decide +kernel
theorem dL_fitted_222 : decode cL_fitted 222 = .ok (.goto (-34), 3) := by decide +kernel
theorem dL_fitted_225 : decode cL_fitted 225 = .ok (.aload_n 0, 1) := by decide +kernel
theorem dL_fitted_226 : decode cL_fitted 226 = .ok (.iconst 2, 1) := by decide +kernel
theorem dL_fitted_227 : decode cL_fitted 227 = .ok (.invokevirtual 49, 3) := by decide +kernel
theorem dL_fitted_230 : decode cL_fitted 230 = .ok (.iload 13, 2) := by decide +kernel
theorem dL_fitted_232 : decode cL_fitted 232 = .ok (.iload 5, 2) := by decide +kernel
theorem dL_fitted_234 : decode cL_fitted 234 = .ok (.iadd, 1) := by decide +kernel
theorem dL_fitted_235 : decode cL_fitted 235 = .ok (.iload 4, 2) := by decide +kernel
theorem dL_fitted_237 : decode cL_fitted 237 = .ok (.irem, 1) := by decide +kernel
theorem dL_fitted_238 : decode cL_fitted 238 = .ok (.if_icmp .ne 17, 3) := by decide +kernel
theorem dL_fitted_241 : decode cL_fitted 241 = .ok (.aload_n 0, 1) := by decide +kernel
theorem dL_fitted_242 : decode cL_fitted 242 = .ok (.iload_n 3, 1) := by decide +kernel
theorem dL_fitted_243 : decode cL_fitted 243 = .ok (.invokevirtual 145, 3) := by decide +kernel
theorem dL_fitted_246 : decode cL_fitted 246 = .ok (.iload 14, 2) := by decide +kernel
theorem dL_fitted_248 : decode cL_fitted 248 = .ok (.if_icmp .ne 7, 3) := by decide +kernel
theorem dL_fitted_251 : decode cL_fitted 251 = .ok (.iconst 1, 1) := by decide +kernel
theorem dL_fitted_252 : decode cL_fitted 252 = .ok (.goto 4, 3) := by decide +kernel
theorem dL_fitted_255 : decode cL_fitted 255 = .ok (.iconst 0, 1) := by decide +kernel
theorem dL_fitted_256 : decode cL_fitted 256 = .ok (.ireturn, 1) := by decide +kernel
theorem dL_again_0 : decode cL_again 0 = .ok (.aload_n 1, 1) := by decide +kernel
theorem dL_again_1 : decode cL_again 1 = .ok (.bipush 44, 2) := by decide +kernel
theorem dL_again_3 : decode cL_again 3 = .ok (.invokestatic 14, 3) := by decide +kernel
theorem dL_again_6 : decode cL_again 6 = .ok (.iload_n 2, 1) := by decide +kernel
theorem dL_again_7 : decode cL_again 7 = .ok (.irem, 1) := by decide +kernel
theorem dL_again_8 : decode cL_again 8 = .ok (.istore 4, 2) := by decide +kernel
theorem dL_again_10 : decode cL_again 10 = .ok (.aload_n 0, 1) := by decide +kernel
theorem dL_again_11 : decode cL_again 11 = .ok (.iload 4, 2) := by decide +kernel
theorem dL_again_13 : decode cL_again 13 = .ok (.invokevirtual 176, 3) := by decide +kernel
theorem dL_again_16 : decode cL_again 16 = .ok (.istore 5, 2) := by decide +kernel
theorem dL_again_18 : decode cL_again 18 = .ok (.aload_n 0, 1) := by decide +kernel
theorem dL_again_19 : decode cL_again 19 = .ok (.iload 4, 2) := by decide +kernel
theorem dL_again_21 : decode cL_again 21 = .ok (.invokevirtual 179, 3) := by decide +kernel
theorem dL_again_24 : decode cL_again 24 = .ok (.istore 6, 2) := by decide +kernel
theorem dL_again_26 : decode cL_again 26 = .ok (.aload_n 0, 1) := by decide +kernel
theorem dL_again_27 : decode cL_again 27 = .ok (.invokevirtual 45, 3) := by decide +kernel
theorem dL_again_30 : decode cL_again 30 = .ok (.istore 7, 2) := by decide +kernel
theorem dL_again_32 : decode cL_again 32 = .ok (.aload_n 0, 1) := by decide +kernel
theorem dL_again_33 : decode cL_again 33 = .ok (.aload_n 0, 1) := by decide +kernel
theorem dL_again_34 : decode cL_again 34 = .ok (.iload 4, 2) := by decide +kernel
theorem dL_again_36 : decode cL_again 36 = .ok (.iconst 2, 1) := by decide +kernel
theorem dL_again_37 : decode cL_again 37 = .ok (.invokevirtual 52, 3) := by decide +kernel
theorem dL_again_40 : decode cL_again 40 = .ok (.invokestatic 55, 3) := by decide +kernel
theorem dL_again_43 : decode cL_again 43 = .ok (.istore 8, 2) := by decide +kernel
theorem dL_again_45 : decode cL_again 45 = .ok (.aload_n 0, 1) := by decide +kernel
theorem dL_again_46 : decode cL_again 46 = .ok (.invokevirtual 59, 3) := by decide +kernel
theorem dL_again_49 : decode cL_again 49 = .ok (.istore 9, 2) := by decide +kernel
theorem dL_again_51 : decode cL_again 51 = .ok (.iload 6, 2) := by decide +kernel
theorem dL_again_53 : decode cL_again 53 = .ok (.ifCond .le 13, 3) := by decide +kernel
theorem dL_again_56 : decode cL_again 56 = .ok (.iload 7, 2) := by decide +kernel
theorem dL_again_58 : decode cL_again 58 = .ok (.iload 6, 2) := by decide +kernel
theorem dL_again_60 : decode cL_again 60 = .ok (.iload 8, 2) := by decide +kernel
theorem dL_again_62 : decode cL_again 62 = .ok (.imul, 1) := by decide +kernel
theorem dL_again_63 : decode cL_again 63 = .ok (.if_icmp .ne 27, 3) := by decide +kernel
theorem dL_again_66 : decode cL_again 66 = .ok (.iload 5, 2) := by decide +kernel
theorem dL_again_68 : decode cL_again 68 = .ok (.ifCond .ge 10, 3) := by decide +kernel
theorem dL_again_71 : decode cL_again 71 = .ok (.iload 5, 2) := by decide +kernel
theorem dL_again_73 : decode cL_again 73 = .ok (.bipush (-9), 2) := by decide +kernel
theorem dL_again_75 : decode cL_again 75 = .ok (.if_icmp .ne 15, 3) := by decide +kernel
theorem dL_again_78 : decode cL_again 78 = .ok (.iload 6, 2) := by decide +kernel
theorem dL_again_80 : decode cL_again 80 = .ok (.ifCond .ge 12, 3) := by decide +kernel
theorem dL_again_83 : decode cL_again 83 = .ok (.iload 6, 2) := by decide +kernel
theorem dL_again_85 : decode cL_again 85 = .ok (.bipush (-9), 2) := by decide +kernel
theorem dL_again_87 : decode cL_again 87 = .ok (.if_icmp .eq 5, 3) := by decide +kernel
theorem dL_again_90 : decode cL_again 90 = .ok (.iconst 0, 1) := by decide +kernel
theorem dL_again_91 : decode cL_again 91 = .ok (.ireturn, 1) := by decide +kernel
theorem dL_again_92 : decode cL_again 92 = .ok (.iconst 1, 1) := by decide +kernel
theorem dL_again_93 : decode cL_again 93 = .ok (.istore 10, 2) := by decide +kernel
theorem dL_again_95 : decode cL_again 95 = .ok (.iload 10, 2) := by decide +kernel
theorem dL_again_97 : decode cL_again 97 = .ok (.bipush 30, 2) := by decide +kernel
theorem dL_again_99 : decode cL_again 99 = .ok (.if_icmp .gt 112, 3) := by decide +kernel
theorem dL_again_102 : decode cL_again 102 = .ok (.aload_n 0, 1) := by decide +kernel
theorem dL_again_103 : decode cL_again 103 = .ok (.iload 4, 2) := by decide +kernel
theorem dL_again_105 : decode cL_again 105 = .ok (.invokevirtual 98, 3) := by decide +kernel
theorem dL_again_108 : decode cL_again 108 = .ok (.ifCond .ne 7, 3) := by decide +kernel
theorem dL_again_111 : decode cL_again 111 = .ok (.iconst 1, 1) := by decide +kernel
theorem dL_again_112 : decode cL_again 112 = .ok (.goto 4, 3) := by decide +kernel
theorem dL_again_115 : decode cL_again 115 = .ok (.iconst 0, 1) := by decide +kernel
theorem dL_again_116 : decode cL_again 116 = .ok (.istore 11, 2) := by decide +kernel
theorem dL_again_118 : decode cL_again 118 = .ok (.aload_n 0, 1) := by decide +kernel
theorem dL_again_119 : decode cL_again 119 = .ok (.invokevirtual 59, 3) := by decide +kernel
theorem dL_again_122 : decode cL_again 122 = .ok (.iload 9, 2) := by decide +kernel
theorem dL_again_124 : decode cL_again 124 = .ok (.if_icmp .le 7, 3) := by decide +kernel
theorem dL_again_127 : decode cL_again 127 = .ok (.iconst 1, 1) := by decide +kernel
theorem dL_again_128 : decode cL_again 128 = .ok (.goto 4, 3) := by decide +kernel
theorem dL_again_131 : decode cL_again 131 = .ok (.iconst 0, 1) := by decide +kernel
theorem dL_again_132 : decode cL_again 132 = .ok (.istore 12, 2) := by decide +kernel
theorem dL_again_134 : decode cL_again 134 = .ok (.iload 11, 2) := by decide +kernel
theorem dL_again_136 : decode cL_again 136 = .ok (.iload 5, 2) := by decide +kernel
theorem dL_again_138 : decode cL_again 138 = .ok (.ifCond .le 22, 3) := by decide +kernel
theorem dL_again_141 : decode cL_again 141 = .ok (.iload 10, 2) := by decide +kernel
theorem dL_again_143 : decode cL_again 143 = .ok (.iload 5, 2) := by decide +kernel
theorem dL_again_145 : decode cL_again 145 = .ok (.irem, 1) := by decide +kernel
theorem dL_again_146 : decode cL_again 146 = .ok (.ifCond .ne 14, 3) := by decide +kernel
theorem dL_again_149 : decode cL_again 149 = .ok (.iload 10, 2) := by decide +kernel
theorem dL_again_151 : decode cL_again 151 = .ok (.iload 5, 2) := by decide +kernel
theorem dL_again_153 : decode cL_again 153 = .ok (.if_icmp .ne 7, 3) := by decide +kernel
theorem dL_again_156 : decode cL_again 156 = .ok (.iconst 1, 1) := by decide +kernel
theorem dL_again_157 : decode cL_again 157 = .ok (.goto 4, 3) := by decide +kernel
theorem dL_again_160 : decode cL_again 160 = .ok (.iconst 0, 1) := by decide +kernel
theorem dL_again_161 : decode cL_again 161 = .ok (.if_icmp .eq 10, 3) := by decide +kernel
theorem dL_again_164 : decode cL_again 164 = .ok (.iload 10, 2) := by decide +kernel
theorem dL_again_166 : decode cL_again 166 = .ok (.iload 5, 2) := by decide +kernel
theorem dL_again_168 : decode cL_again 168 = .ok (.if_icmp .le 35, 3) := by decide +kernel
theorem dL_again_171 : decode cL_again 171 = .ok (.iload 5, 2) := by decide +kernel
theorem dL_again_173 : decode cL_again 173 = .ok (.ifCond .ge 8, 3) := by decide +kernel
theorem dL_again_176 : decode cL_again 176 = .ok (.iload 11, 2) := by decide +kernel
theorem dL_again_178 : decode cL_again 178 = .ok (.ifCond .ne 25, 3) := by decide +kernel
theorem dL_again_181 : decode cL_again 181 = .ok (.iload 12, 2) := by decide +kernel
theorem dL_again_183 : decode cL_again 183 = .ok (.iload 6, 2) := by decide +kernel
theorem dL_again_185 : decode cL_again 185 = .ok (.ifCond .le 14, 3) := by decide +kernel
theorem dL_again_188 : decode cL_again 188 = .ok (.iload 10, 2) := by decide +kernel
theorem dL_again_190 : decode cL_again 190 = .ok (.iload 6, 2) := by decide +kernel
theorem dL_again_192 : decode cL_again 192 = .ok (.if_icmp .lt 7, 3) := by decide +kernel
theorem dL_again_195 : decode cL_again 195 = .ok (.iconst 1, 1) := by decide +kernel
theorem dL_again_196 : decode cL_again 196 = .ok (.goto 4, 3) := by decide +kernel
theorem dL_again_199 : decode cL_again 199 = .ok (.iconst 0, 1) := by decide +kernel
theorem dL_again_200 : decode cL_again 200 = .ok (.if_icmp .eq 5, 3) := by decide +kernel
theorem dL_again_203 : decode cL_again 203 = .ok (.iconst 0, 1) := by decide +kernel
theorem dL_again_204 : decode cL_again 204 = .ok (.ireturn, 1) := by decide +kernel
theorem dL_again_205 : decode cL_again 205 = .ok (.iinc 10 1, 3) := by decide +kernel
theorem dL_again_208 : decode cL_again 208 = .ok (.goto (-113), 3) := by decide +kernel
theorem dL_again_211 : decode cL_again 211 = .ok (.aload_n 0, 1) := by decide +kernel
theorem dL_again_212 : decode cL_again 212 = .ok (.iload_n 3, 1) := by decide +kernel
theorem dL_again_213 : decode cL_again 213 = .ok (.invokevirtual 145, 3) := by decide +kernel
theorem dL_again_216 : decode cL_again 216 = .ok (.bipush 30, 2) := by decide +kernel
theorem dL_again_218 : decode cL_again 218 = .ok (.if_icmp .ne 7, 3) := by decide +kernel
theorem dL_again_221 : decode cL_again 221 = .ok (.iconst 1, 1) := by decide +kernel
theorem dL_again_222 : decode cL_again 222 = .ok (.goto 4, 3) := by decide +kernel
theorem dL_again_225 : decode cL_again 225 = .ok (.iconst 0, 1) := by decide +kernel
theorem dL_again_226 : decode cL_again 226 = .ok (.ireturn, 1) := by decide +kernel
theorem dL_chances_0 : decode cL_chances 0 = .ok (.aload_n 1, 1) := by decide +kernel
theorem dL_chances_1 : decode cL_chances 1 = .ok (.bipush 45, 2) := by decide +kernel
theorem dL_chances_3 : decode cL_chances 3 = .ok (.invokestatic 14, 3) := by decide +kernel
theorem dL_chances_6 : decode cL_chances 6 = .ok (.iconst 5, 1) := by decide +kernel
theorem dL_chances_7 : decode cL_chances 7 = .ok (.irem, 1) := by decide +kernel
theorem dL_chances_8 : decode cL_chances 8 = .ok (.istore_n 2, 1) := by decide +kernel
theorem dL_chances_9 : decode cL_chances 9 = .ok (.aload_n 0, 1) := by decide +kernel
theorem dL_chances_10 : decode cL_chances 10 = .ok (.iconst 1, 1) := by decide +kernel
theorem dL_chances_11 : decode cL_chances 11 = .ok (.invokevirtual 49, 3) := by decide +kernel
theorem dL_chances_14 : decode cL_chances 14 = .ok (.istore_n 3, 1) := by decide +kernel
theorem dL_chances_15 : decode cL_chances 15 = .ok (.lconst 1, 1) := by decide +kernel
theorem dL_chances_16 : decode cL_chances 16 = .ok (.lstore 4, 2) := by decide +kernel
theorem dL_chances_18 : decode cL_chances 18 = .ok (.iconst 0, 1) := by decide +kernel
theorem dL_chances_19 : decode cL_chances 19 = .ok (.istore 6, 2) := by decide +kernel
theorem dL_chances_21 : decode cL_chances 21 = .ok (.iload 6, 2) := by decide +kernel
theorem dL_chances_23 : decode cL_chances 23 = .ok (.iload_n 2, 1) := by decide +kernel
theorem dL_chances_24 : decode cL_chances 24 = .ok (.if_icmp .ge 20, 3) := by decide +kernel
theorem dL_chances_27 : decode cL_chances 27 = .ok (.lload 4, 2) := by decide +kernel
theorem dL_chances_29 : decode cL_chances 29 = .ok (.aload_n 0, 1) := by decide +kernel
theorem dL_chances_30 : decode cL_chances 30 = .ok (.iconst 0, 1) := by decide +kernel
theorem dL_chances_31 : decode cL_chances 31 = .ok (.invokevirtual 49, 3) := by decide +kernel
theorem dL_chances_34 : decode cL_chances 34 = .ok (.i2l, 1) := by decide +kernel
theorem dL_chances_35 : decode cL_chances 35 = .ok (.lmul, 1) := by decide +kernel
theorem dL_chances_36 : decode cL_chances 36 = .ok (.lstore 4, 2) := by decide +kernel
theorem dL_chances_38 : decode cL_chances 38 = .ok (.iinc 6 1, 3) := by decide +kernel
theorem dL_chances_41 : decode cL_chances 41 = .ok (.goto (-20), 3) := by decide +kernel
theorem dL_chances_44 : decode cL_chances 44 = .ok (.lconst 0, 1) := by decide +kernel
theorem dL_chances_45 : decode cL_chances 45 = .ok (.lstore 6, 2) := by decide +kernel
theorem dL_chances_47 : decode cL_chances 47 = .ok (.iconst 0, 1) := by decide +kernel
theorem dL_chances_48 : decode cL_chances 48 = .ok (.istore 8, 2) := by decide +kernel
theorem dL_chances_50 : decode cL_chances 50 = .ok (.iload 8, 2) := by decide +kernel
theorem dL_chances_52 : decode cL_chances 52 = .ok (.iload_n 3, 1) := by decide +kernel
theorem dL_chances_53 : decode cL_chances 53 = .ok (.if_icmp .ge 88, 3) := by decide +kernel
theorem dL_chances_56 : decode cL_chances 56 = .ok (.aload_n 0, 1) := by decide +kernel
theorem dL_chances_57 : decode cL_chances 57 = .ok (.iload 8, 2) := by decide +kernel
theorem dL_chances_59 : decode cL_chances 59 = .ok (.iload_n 2, 1) := by decide +kernel
theorem dL_chances_60 : decode cL_chances 60 = .ok (.invokevirtual 181, 3) := by decide +kernel
theorem dL_chances_63 : decode cL_chances 63 = .ok (.iconst 1, 1) := by decide +kernel
theorem dL_chances_64 : decode cL_chances 64 = .ok (.if_icmp .ne 52, 3) := by decide +kernel
theorem dL_chances_67 : decode cL_chances 67 = .ok (.aload_n 0, 1) := by decide +kernel
theorem dL_chances_68 : decode cL_chances 68 = .ok (.invokevirtual 75, 3) := by decide +kernel
theorem dL_chances_71 : decode cL_chances 71 = .ok (.lconst 1, 1) := by decide +kernel
theorem dL_chances_72 : decode cL_chances 72 = .ok (.lcmp, 1) := by decide +kernel
theorem dL_chances_73 : decode cL_chances 73 = .ok (.ifCond .lt 43, 3) := by decide +kernel
theorem dL_chances_76 : decode cL_chances 76 = .ok (.lload 4, 2) := by decide +kernel
theorem dL_chances_78 : decode cL_chances 78 = .ok (.aload_n 0, 1) := by decide +kernel
theorem dL_chances_79 : decode cL_chances 79 = .ok (.invokevirtual 75, 3) := by decide +kernel
theorem dL_chances_82 : decode cL_chances 82 = .ok (.lrem, 1) := by decide +kernel
theorem dL_chances_83 : decode cL_chances 83 = .ok (.lconst 0, 1) := by decide +kernel
theorem dL_chances_84 : decode cL_chances 84 = .ok (.lcmp, 1) := by decide +kernel
theorem dL_chances_85 : decode cL_chances 85 = .ok (.ifCond .ne 31, 3) := by decide +kernel
theorem dL_chances_88 : decode cL_chances 88 = .ok (.aload_n 0, 1) := by decide +kernel
theorem dL_chances_89 : decode cL_chances 89 = .ok (.invokevirtual 79, 3) := by decide +kernel
theorem dL_chances_92 : decode cL_chances 92 = .ok (.lconst 0, 1) := by decide +kernel
theorem dL_chances_93 : decode cL_chances 93 = .ok (.lcmp, 1) := by decide +kernel
theorem dL_chances_94 : decode cL_chances 94 = .ok (.ifCond .lt 22, 3) := by decide +kernel
theorem dL_chances_97 : decode cL_chances 97 = .ok (.aload_n 0, 1) := by decide +kernel
theorem dL_chances_98 : decode cL_chances 98 = .ok (.invokevirtual 79, 3) := by decide +kernel
theorem dL_chances_101 : decode cL_chances 101 = .ok (.lconst 0, 1) := by decide +kernel
theorem dL_chances_102 : decode cL_chances 102 = .ok (.lcmp, 1) := by decide +kernel
theorem dL_chances_103 : decode cL_chances 103 = .ok (.ifCond .le 15, 3) := by decide +kernel
theorem dL_chances_106 : decode cL_chances 106 = .ok (.aload_n 0, 1) := by decide +kernel
theorem dL_chances_107 : decode cL_chances 107 = .ok (.iload 8, 2) := by decide +kernel
theorem dL_chances_109 : decode cL_chances 109 = .ok (.invokevirtual 157, 3) := by decide +kernel
theorem dL_chances_112 : decode cL_chances 112 = .ok (.iload_n 2, 1) := by decide +kernel
theorem dL_chances_113 : decode cL_chances 113 = .ok (.if_icmp .le 5, 3) := by decide +kernel
theorem dL_chances_116 : decode cL_chances 116 = .ok (.iconst 0, 1) := by decide +kernel
theorem dL_chances_117 : decode cL_chances 117 = .ok (.ireturn, 1) := by decide +kernel
theorem dL_chances_118 : decode cL_chances 118 = .ok (.lload 6, 2) := by decide +kernel
theorem dL_chances_120 : decode cL_chances 120 = .ok (.aload_n 0, 1) := by decide +kernel
theorem dL_chances_121 : decode cL_chances 121 = .ok (.invokevirtual 79, 3) := by decide +kernel
theorem dL_chances_124 : decode cL_chances 124 = .ok (.lload 4, 2) := by decide +kernel
theorem dL_chances_126 : decode cL_chances 126 = .ok (.aload_n 0, 1) := by decide +kernel
theorem dL_chances_127 : decode cL_chances 127 = .ok (.invokevirtual 75, 3) := by decide +kernel
theorem dL_chances_130 : decode cL_chances 130 = .ok (.ldiv, 1) := by decide +kernel
theorem dL_chances_131 : decode cL_chances 131 = .ok (.lmul, 1) := by decide +kernel
theorem dL_chances_132 : decode cL_chances 132 = .ok (.ladd, 1) := by decide +kernel
theorem dL_chances_133 : decode cL_chances 133 = .ok (.lstore 6, 2) := by decide +kernel
theorem dL_chances_135 : decode cL_chances 135 = .ok (.iinc 8 1, 3) := by decide +kernel
theorem dL_chances_138 : decode cL_chances 138 = .ok (.goto (-88), 3) := by decide +kernel
theorem dL_chances_141 : decode cL_chances 141 = .ok (.lload 6, 2) := by decide +kernel
theorem dL_chances_143 : decode cL_chances 143 = .ok (.lload 4, 2) := by decide +kernel
theorem dL_chances_145 : decode cL_chances 145 = .ok (.lcmp, 1) := by decide +kernel
theorem dL_chances_146 : decode cL_chances 146 = .ok (.ifCond .ne 7, 3) := by decide +kernel
theorem dL_chances_149 : decode cL_chances 149 = .ok (.iconst 1, 1) := by decide +kernel
theorem dL_chances_150 : decode cL_chances 150 = .ok (.goto 4, 3) := by decide +kernel
theorem dL_chances_153 : decode cL_chances 153 = .ok (.iconst 0, 1) := by decide +kernel
theorem dL_chances_154 : decode cL_chances 154 = .ok (.ireturn, 1) := by decide +kernel
