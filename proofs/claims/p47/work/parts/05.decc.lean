theorem dL_cell_0 : decode cL_cell 0 = .ok (.iload_n 1, 1) := by decide +kernel
theorem dL_cell_1 : decode cL_cell 1 = .ok (.aload_n 0, 1) := by decide +kernel
theorem dL_cell_2 : decode cL_cell 2 = .ok (.arraylength, 1) := by decide +kernel
theorem dL_cell_3 : decode cL_cell 3 = .ok (.if_icmp .ge 12, 3) := by decide +kernel
theorem dL_cell_6 : decode cL_cell 6 = .ok (.aload_n 0, 1) := by decide +kernel
theorem dL_cell_7 : decode cL_cell 7 = .ok (.iload_n 1, 1) := by decide +kernel
theorem dL_cell_8 : decode cL_cell 8 = .ok (.iaload, 1) := by decide +kernel
theorem dL_cell_9 : decode cL_cell 9 = .ok (.ldc 7, 2) := by decide +kernel
theorem dL_cell_11 : decode cL_cell 11 = .ok (.iand, 1) := by decide +kernel
theorem dL_cell_12 : decode cL_cell 12 = .ok (.goto 14, 3) := by decide +kernel
theorem dL_cell_15 : decode cL_cell 15 = .ok (.bipush 61, 2) := by decide +kernel
theorem dL_cell_17 : decode cL_cell 17 = .ok (.iload_n 1, 1) := by decide +kernel
theorem dL_cell_18 : decode cL_cell 18 = .ok (.imul, 1) := by decide +kernel
theorem dL_cell_19 : decode cL_cell 19 = .ok (.bipush 7, 2) := by decide +kernel
theorem dL_cell_21 : decode cL_cell 21 = .ok (.iadd, 1) := by decide +kernel
theorem dL_cell_22 : decode cL_cell 22 = .ok (.iload_n 1, 1) := by decide +kernel
theorem dL_cell_23 : decode cL_cell 23 = .ok (.iconst 3, 1) := by decide +kernel
theorem dL_cell_24 : decode cL_cell 24 = .ok (.iadd, 1) := by decide +kernel
theorem dL_cell_25 : decode cL_cell 25 = .ok (.imul, 1) := by decide +kernel
theorem dL_cell_26 : decode cL_cell 26 = .ok (.ireturn, 1) := by decide +kernel
theorem dL_put_0 : decode cL_put 0 = .ok (.iload_n 1, 1) := by decide +kernel
theorem dL_put_1 : decode cL_put 1 = .ok (.ifCond .lt 22, 3) := by decide +kernel
theorem dL_put_4 : decode cL_put 4 = .ok (.aload_n 0, 1) := by decide +kernel
theorem dL_put_5 : decode cL_put 5 = .ok (.iconst 3, 1) := by decide +kernel
theorem dL_put_6 : decode cL_put 6 = .ok (.iload_n 1, 1) := by decide +kernel
theorem dL_put_7 : decode cL_put 7 = .ok (.iload_n 2, 1) := by decide +kernel
theorem dL_put_8 : decode cL_put 8 = .ok (.invokevirtual 8, 3) := by decide +kernel
theorem dL_put_11 : decode cL_put 11 = .ok (.sipush 1032, 3) := by decide +kernel
theorem dL_put_14 : decode cL_put 14 = .ok (.if_icmp .ne 9, 3) := by decide +kernel
theorem dL_put_17 : decode cL_put 17 = .ok (.iload_n 1, 1) := by decide +kernel
theorem dL_put_18 : decode cL_put 18 = .ok (.iconst 1, 1) := by decide +kernel
theorem dL_put_19 : decode cL_put 19 = .ok (.iadd, 1) := by decide +kernel
theorem dL_put_20 : decode cL_put 20 = .ok (.goto 6, 3) := by decide +kernel
theorem dL_put_23 : decode cL_put 23 = .ok (.sipush (-1000), 3) := by decide +kernel
theorem dL_put_26 : decode cL_put 26 = .ok (.ireturn, 1) := by decide +kernel
theorem dL_numbers_0 : decode cL_numbers 0 = .ok (.iconst 0, 1) := by decide +kernel
theorem dL_numbers_1 : decode cL_numbers 1 = .ok (.istore 5, 2) := by decide +kernel
theorem dL_numbers_3 : decode cL_numbers 3 = .ok (.iload 5, 2) := by decide +kernel
theorem dL_numbers_5 : decode cL_numbers 5 = .ok (.bipush 24, 2) := by decide +kernel
theorem dL_numbers_7 : decode cL_numbers 7 = .ok (.if_icmp .ge 15, 3) := by decide +kernel
theorem dL_numbers_10 : decode cL_numbers 10 = .ok (.aload 4, 2) := by decide +kernel
theorem dL_numbers_12 : decode cL_numbers 12 = .ok (.iload 5, 2) := by decide +kernel
theorem dL_numbers_14 : decode cL_numbers 14 = .ok (.iconst 0, 1) := by decide +kernel
theorem dL_numbers_15 : decode cL_numbers 15 = .ok (.iastore, 1) := by decide +kernel
theorem dL_numbers_16 : decode cL_numbers 16 = .ok (.iinc 5 1, 3) := by decide +kernel
theorem dL_numbers_19 : decode cL_numbers 19 = .ok (.goto (-16), 3) := by decide +kernel
theorem dL_numbers_22 : decode cL_numbers 22 = .ok (.aload 4, 2) := by decide +kernel
theorem dL_numbers_24 : decode cL_numbers 24 = .ok (.iconst 0, 1) := by decide +kernel
theorem dL_numbers_25 : decode cL_numbers 25 = .ok (.iconst 1, 1) := by decide +kernel
theorem dL_numbers_26 : decode cL_numbers 26 = .ok (.aload_n 0, 1) := by decide +kernel
theorem dL_numbers_27 : decode cL_numbers 27 = .ok (.iload_n 1, 1) := by decide +kernel
theorem dL_numbers_28 : decode cL_numbers 28 = .ok (.invokestatic 14, 3) := by decide +kernel
theorem dL_numbers_31 : decode cL_numbers 31 = .ok (.iload_n 2, 1) := by decide +kernel
theorem dL_numbers_32 : decode cL_numbers 32 = .ok (.irem, 1) := by decide +kernel
theorem dL_numbers_33 : decode cL_numbers 33 = .ok (.iadd, 1) := by decide +kernel
theorem dL_numbers_34 : decode cL_numbers 34 = .ok (.iastore, 1) := by decide +kernel
theorem dL_numbers_35 : decode cL_numbers 35 = .ok (.aload 4, 2) := by decide +kernel
theorem dL_numbers_37 : decode cL_numbers 37 = .ok (.bipush 13, 2) := by decide +kernel
theorem dL_numbers_39 : decode cL_numbers 39 = .ok (.bipush 12, 2) := by decide +kernel
theorem dL_numbers_41 : decode cL_numbers 41 = .ok (.aload_n 0, 1) := by decide +kernel
theorem dL_numbers_42 : decode cL_numbers 42 = .ok (.iload_n 1, 1) := by decide +kernel
theorem dL_numbers_43 : decode cL_numbers 43 = .ok (.invokestatic 14, 3) := by decide +kernel
theorem dL_numbers_46 : decode cL_numbers 46 = .ok (.bipush 8, 2) := by decide +kernel
theorem dL_numbers_48 : decode cL_numbers 48 = .ok (.idiv, 1) := by decide +kernel
theorem dL_numbers_49 : decode cL_numbers 49 = .ok (.iload_n 3, 1) := by decide +kernel
theorem dL_numbers_50 : decode cL_numbers 50 = .ok (.bipush 11, 2) := by decide +kernel
theorem dL_numbers_52 : decode cL_numbers 52 = .ok (.isub, 1) := by decide +kernel
theorem dL_numbers_53 : decode cL_numbers 53 = .ok (.irem, 1) := by decide +kernel
theorem dL_numbers_54 : decode cL_numbers 54 = .ok (.iadd, 1) := by decide +kernel
theorem dL_numbers_55 : decode cL_numbers 55 = .ok (.iastore, 1) := by decide +kernel
theorem dL_numbers_56 : decode cL_numbers 56 = .ok (.iconst 0, 1) := by decide +kernel
theorem dL_numbers_57 : decode cL_numbers 57 = .ok (.istore 5, 2) := by decide +kernel
theorem dL_numbers_59 : decode cL_numbers 59 = .ok (.iload 5, 2) := by decide +kernel
theorem dL_numbers_61 : decode cL_numbers 61 = .ok (.aload 4, 2) := by decide +kernel
theorem dL_numbers_63 : decode cL_numbers 63 = .ok (.iconst 0, 1) := by decide +kernel
theorem dL_numbers_64 : decode cL_numbers 64 = .ok (.iaload, 1) := by decide +kernel
theorem dL_numbers_65 : decode cL_numbers 65 = .ok (.if_icmp .ge 51, 3) := by decide +kernel
theorem dL_numbers_68 : decode cL_numbers 68 = .ok (.aload_n 0, 1) := by decide +kernel
theorem dL_numbers_69 : decode cL_numbers 69 = .ok (.iload_n 1, 1) := by decide +kernel
theorem dL_numbers_70 : decode cL_numbers 70 = .ok (.iconst 1, 1) := by decide +kernel
theorem dL_numbers_71 : decode cL_numbers 71 = .ok (.iadd, 1) := by decide +kernel
theorem dL_numbers_72 : decode cL_numbers 72 = .ok (.iload 5, 2) := by decide +kernel
theorem dL_numbers_74 : decode cL_numbers 74 = .ok (.iadd, 1) := by decide +kernel
theorem dL_numbers_75 : decode cL_numbers 75 = .ok (.invokestatic 14, 3) := by decide +kernel
theorem dL_numbers_78 : decode cL_numbers 78 = .ok (.istore 6, 2) := by decide +kernel
theorem dL_numbers_80 : decode cL_numbers 80 = .ok (.aload 4, 2) := by decide +kernel
theorem dL_numbers_82 : decode cL_numbers 82 = .ok (.iconst 1, 1) := by decide +kernel
theorem dL_numbers_83 : decode cL_numbers 83 = .ok (.iload 5, 2) := by decide +kernel
theorem dL_numbers_85 : decode cL_numbers 85 = .ok (.iadd, 1) := by decide +kernel
theorem dL_numbers_86 : decode cL_numbers 86 = .ok (.iload 6, 2) := by decide +kernel
theorem dL_numbers_88 : decode cL_numbers 88 = .ok (.bipush 6, 2) := by decide +kernel
theorem dL_numbers_90 : decode cL_numbers 90 = .ok (.irem, 1) := by decide +kernel
theorem dL_numbers_91 : decode cL_numbers 91 = .ok (.iastore, 1) := by decide +kernel
theorem dL_numbers_92 : decode cL_numbers 92 = .ok (.aload 4, 2) := by decide +kernel
theorem dL_numbers_94 : decode cL_numbers 94 = .ok (.bipush 7, 2) := by decide +kernel
theorem dL_numbers_96 : decode cL_numbers 96 = .ok (.iload 5, 2) := by decide +kernel
theorem dL_numbers_98 : decode cL_numbers 98 = .ok (.iadd, 1) := by decide +kernel
theorem dL_numbers_99 : decode cL_numbers 99 = .ok (.iconst 1, 1) := by decide +kernel
theorem dL_numbers_100 : decode cL_numbers 100 = .ok (.iload 6, 2) := by decide +kernel
theorem dL_numbers_102 : decode cL_numbers 102 = .ok (.bipush 8, 2) := by decide +kernel
theorem dL_numbers_104 : decode cL_numbers 104 = .ok (.idiv, 1) := by decide +kernel
theorem dL_numbers_105 : decode cL_numbers 105 = .ok (.bipush 9, 2) := by decide +kernel
theorem dL_numbers_107 : decode cL_numbers 107 = .ok (.irem, 1) := by decide +kernel
theorem dL_numbers_108 : decode cL_numbers 108 = .ok (.iadd, 1) := by decide +kernel
theorem dL_numbers_109 : decode cL_numbers 109 = .ok (.iastore, 1) := by decide +kernel
theorem dL_numbers_110 : decode cL_numbers 110 = .ok (.iinc 5 1, 3) := by decide +kernel
theorem dL_numbers_113 : decode cL_numbers 113 = .ok (.goto (-54), 3) := by decide +kernel
theorem dL_numbers_116 : decode cL_numbers 116 = .ok (.iconst 0, 1) := by decide +kernel
theorem dL_numbers_117 : decode cL_numbers 117 = .ok (.istore 5, 2) := by decide +kernel
theorem dL_numbers_119 : decode cL_numbers 119 = .ok (.iload 5, 2) := by decide +kernel
theorem dL_numbers_121 : decode cL_numbers 121 = .ok (.aload_n 0, 1) := by decide +kernel
theorem dL_numbers_122 : decode cL_numbers 122 = .ok (.iload_n 1, 1) := by decide +kernel
theorem dL_numbers_123 : decode cL_numbers 123 = .ok (.invokestatic 14, 3) := by decide +kernel
theorem dL_numbers_126 : decode cL_numbers 126 = .ok (.sipush 512, 3) := by decide +kernel
theorem dL_numbers_129 : decode cL_numbers 129 = .ok (.idiv, 1) := by decide +kernel
theorem dL_numbers_130 : decode cL_numbers 130 = .ok (.iconst 5, 1) := by decide +kernel
theorem dL_numbers_131 : decode cL_numbers 131 = .ok (.irem, 1) := by decide +kernel
theorem dL_numbers_132 : decode cL_numbers 132 = .ok (.if_icmp .ge 64, 3) := by decide +kernel
theorem dL_numbers_135 : decode cL_numbers 135 = .ok (.iconst 1, 1) := by decide +kernel
theorem dL_numbers_136 : decode cL_numbers 136 = .ok (.aload_n 0, 1) := by decide +kernel
theorem dL_numbers_137 : decode cL_numbers 137 = .ok (.iload_n 1, 1) := by decide +kernel
theorem dL_numbers_138 : decode cL_numbers 138 = .ok (.bipush 8, 2) := by decide +kernel
theorem dL_numbers_140 : decode cL_numbers 140 = .ok (.iadd, 1) := by decide +kernel
theorem dL_numbers_141 : decode cL_numbers 141 = .ok (.iload 5, 2) := by decide +kernel
theorem dL_numbers_143 : decode cL_numbers 143 = .ok (.iadd, 1) := by decide +kernel
theorem dL_numbers_144 : decode cL_numbers 144 = .ok (.invokestatic 14, 3) := by decide +kernel
theorem dL_numbers_147 : decode cL_numbers 147 = .ok (.aload 4, 2) := by decide +kernel
theorem dL_numbers_149 : decode cL_numbers 149 = .ok (.bipush 13, 2) := by decide +kernel
theorem dL_numbers_151 : decode cL_numbers 151 = .ok (.iaload, 1) := by decide +kernel
theorem dL_numbers_152 : decode cL_numbers 152 = .ok (.iconst 1, 1) := by decide +kernel
theorem dL_numbers_153 : decode cL_numbers 153 = .ok (.isub, 1) := by decide +kernel
theorem dL_numbers_154 : decode cL_numbers 154 = .ok (.irem, 1) := by decide +kernel
theorem dL_numbers_155 : decode cL_numbers 155 = .ok (.iadd, 1) := by decide +kernel
theorem dL_numbers_156 : decode cL_numbers 156 = .ok (.istore 6, 2) := by decide +kernel
theorem dL_numbers_158 : decode cL_numbers 158 = .ok (.aload 4, 2) := by decide +kernel
theorem dL_numbers_160 : decode cL_numbers 160 = .ok (.iload 6, 2) := by decide +kernel
theorem dL_numbers_162 : decode cL_numbers 162 = .ok (.invokestatic 20, 3) := by decide +kernel
theorem dL_numbers_165 : decode cL_numbers 165 = .ok (.ifCond .ne 25, 3) := by decide +kernel
theorem dL_numbers_168 : decode cL_numbers 168 = .ok (.aload 4, 2) := by decide +kernel
theorem dL_numbers_170 : decode cL_numbers 170 = .ok (.bipush 15, 2) := by decide +kernel
theorem dL_numbers_172 : decode cL_numbers 172 = .ok (.aload 4, 2) := by decide +kernel
theorem dL_numbers_174 : decode cL_numbers 174 = .ok (.bipush 14, 2) := by decide +kernel
theorem dL_numbers_176 : decode cL_numbers 176 = .ok (.iaload, 1) := by decide +kernel
theorem dL_numbers_177 : decode cL_numbers 177 = .ok (.iadd, 1) := by decide +kernel
theorem dL_numbers_178 : decode cL_numbers 178 = .ok (.iload 6, 2) := by decide +kernel
theorem dL_numbers_180 : decode cL_numbers 180 = .ok (.iastore, 1) := by decide +kernel
theorem dL_numbers_181 : decode cL_numbers 181 = .ok (.aload 4, 2) := by decide +kernel
theorem dL_numbers_183 : decode cL_numbers 183 = .ok (.bipush 14, 2) := by decide +kernel
theorem dL_numbers_185 : decode cL_numbers 185 = .ok (.dup2, 1) := by decide +kernel
theorem dL_numbers_186 : decode cL_numbers 186 = .ok (.iaload, 1) := by decide +kernel
theorem dL_numbers_187 : decode cL_numbers 187 = .ok (.iconst 1, 1) := by decide +kernel
theorem dL_numbers_188 : decode cL_numbers 188 = .ok (.iadd, 1) := by decide +kernel
theorem dL_numbers_189 : decode cL_numbers 189 = .ok (.iastore, 1) := by decide +kernel
theorem dL_numbers_190 : decode cL_numbers 190 = .ok (.iinc 5 1, 3) := by decide +kernel
theorem dL_numbers_193 : decode cL_numbers 193 = .ok (.goto (-74), 3) := by decide +kernel
theorem dL_numbers_196 : decode cL_numbers 196 = .ok (.return_, 1) := by decide +kernel
theorem dL_rent_0 : decode cL_rent 0 = .ok (.iconst 0, 1) := by decide +kernel
theorem dL_rent_1 : decode cL_rent 1 = .ok (.istore_n 2, 1) := by decide +kernel
theorem dL_rent_2 : decode cL_rent 2 = .ok (.iconst 0, 1) := by decide +kernel
theorem dL_rent_3 : decode cL_rent 3 = .ok (.istore_n 3, 1) := by decide +kernel
theorem dL_rent_4 : decode cL_rent 4 = .ok (.iload_n 3, 1) := by decide +kernel
theorem dL_rent_5 : decode cL_rent 5 = .ok (.aload_n 0, 1) := by decide +kernel
theorem dL_rent_6 : decode cL_rent 6 = .ok (.bipush 14, 2) := by decide +kernel
theorem dL_rent_8 : decode cL_rent 8 = .ok (.iaload, 1) := by decide +kernel
theorem dL_rent_9 : decode cL_rent 9 = .ok (.if_icmp .ge 27, 3) := by decide +kernel
theorem dL_rent_12 : decode cL_rent 12 = .ok (.iload_n 2, 1) := by decide +kernel
theorem dL_rent_13 : decode cL_rent 13 = .ok (.aload_n 0, 1) := by decide +kernel
theorem dL_rent_14 : decode cL_rent 14 = .ok (.bipush 15, 2) := by decide +kernel
theorem dL_rent_16 : decode cL_rent 16 = .ok (.iload_n 3, 1) := by decide +kernel
theorem dL_rent_17 : decode cL_rent 17 = .ok (.iadd, 1) := by decide +kernel
theorem dL_rent_18 : decode cL_rent 18 = .ok (.iaload, 1) := by decide +kernel
theorem dL_rent_19 : decode cL_rent 19 = .ok (.iload_n 1, 1) := by decide +kernel
theorem dL_rent_20 : decode cL_rent 20 = .ok (.if_icmp .ne 7, 3) := by decide +kernel
theorem dL_rent_23 : decode cL_rent 23 = .ok (.iconst 1, 1) := by decide +kernel
theorem dL_rent_24 : decode cL_rent 24 = .ok (.goto 4, 3) := by decide +kernel
theorem dL_rent_27 : decode cL_rent 27 = .ok (.iconst 0, 1) := by decide +kernel
theorem dL_rent_28 : decode cL_rent 28 = .ok (.ior, 1) := by decide +kernel
theorem dL_rent_29 : decode cL_rent 29 = .ok (.istore_n 2, 1) := by decide +kernel
theorem dL_rent_30 : decode cL_rent 30 = .ok (.iinc 3 1, 3) := by decide +kernel
theorem dL_rent_33 : decode cL_rent 33 = .ok (.goto (-29), 3) := by decide +kernel
theorem dL_rent_36 : decode cL_rent 36 = .ok (.iload_n 2, 1) := by decide +kernel
theorem dL_rent_37 : decode cL_rent 37 = .ok (.ireturn, 1) := by decide +kernel
theorem dL_hall_0 : decode cL_hall 0 = .ok (.aload_n 0, 1) := by decide +kernel
theorem dL_hall_1 : decode cL_hall 1 = .ok (.iconst 3, 1) := by decide +kernel
theorem dL_hall_2 : decode cL_hall 2 = .ok (.bipush 60, 2) := by decide +kernel
theorem dL_hall_4 : decode cL_hall 4 = .ok (.invokevirtual 24, 3) := by decide +kernel
theorem dL_hall_7 : decode cL_hall 7 = .ok (.bipush 60, 2) := by decide +kernel
theorem dL_hall_9 : decode cL_hall 9 = .ok (.if_icmp .eq 5, 3) := by decide +kernel
theorem dL_hall_12 : decode cL_hall 12 = .ok (.iconst 0, 1) := by decide +kernel
theorem dL_hall_13 : decode cL_hall 13 = .ok (.ireturn, 1) := by decide +kernel
theorem dL_hall_14 : decode cL_hall 14 = .ok (.aload_n 0, 1) := by decide +kernel
theorem dL_hall_15 : decode cL_hall 15 = .ok (.aload_n 0, 1) := by decide +kernel
theorem dL_hall_16 : decode cL_hall 16 = .ok (.aload_n 0, 1) := by decide +kernel
theorem dL_hall_17 : decode cL_hall 17 = .ok (.iconst 1, 1) := by decide +kernel
theorem dL_hall_18 : decode cL_hall 18 = .ok (.bipush 100, 2) := by decide +kernel
theorem dL_hall_20 : decode cL_hall 20 = .ok (.invokestatic 28, 3) := by decide +kernel
theorem dL_hall_23 : decode cL_hall 23 = .ok (.bipush 48, 2) := by decide +kernel
theorem dL_hall_25 : decode cL_hall 25 = .ok (.aload_n 1, 1) := by decide +kernel
theorem dL_hall_26 : decode cL_hall 26 = .ok (.bipush 13, 2) := by decide +kernel
theorem dL_hall_28 : decode cL_hall 28 = .ok (.iaload, 1) := by decide +kernel
theorem dL_hall_29 : decode cL_hall 29 = .ok (.bipush 10, 2) := by decide +kernel
theorem dL_hall_31 : decode cL_hall 31 = .ok (.idiv, 1) := by decide +kernel
theorem dL_hall_32 : decode cL_hall 32 = .ok (.iadd, 1) := by decide +kernel
theorem dL_hall_33 : decode cL_hall 33 = .ok (.invokestatic 28, 3) := by decide +kernel
theorem dL_hall_36 : decode cL_hall 36 = .ok (.bipush 48, 2) := by decide +kernel
theorem dL_hall_38 : decode cL_hall 38 = .ok (.aload_n 1, 1) := by decide +kernel
theorem dL_hall_39 : decode cL_hall 39 = .ok (.bipush 13, 2) := by decide +kernel
theorem dL_hall_41 : decode cL_hall 41 = .ok (.iaload, 1) := by decide +kernel
theorem dL_hall_42 : decode cL_hall 42 = .ok (.bipush 10, 2) := by decide +kernel
theorem dL_hall_44 : decode cL_hall 44 = .ok (.irem, 1) := by decide +kernel
theorem dL_hall_45 : decode cL_hall 45 = .ok (.iadd, 1) := by decide +kernel
theorem dL_hall_46 : decode cL_hall 46 = .ok (.invokestatic 28, 3) := by decide +kernel
theorem dL_hall_49 : decode cL_hall 49 = .ok (.istore_n 2, 1) := by decide +kernel
theorem dL_hall_50 : decode cL_hall 50 = .ok (.iconst 0, 1) := by decide +kernel
theorem dL_hall_51 : decode cL_hall 51 = .ok (.istore_n 3, 1) := by decide +kernel
theorem dL_hall_52 : decode cL_hall 52 = .ok (.iload_n 3, 1) := by decide +kernel
theorem dL_hall_53 : decode cL_hall 53 = .ok (.aload_n 1, 1) := by decide +kernel
theorem dL_hall_54 : decode cL_hall 54 = .ok (.iconst 0, 1) := by decide +kernel
theorem dL_hall_55 : decode cL_hall 55 = .ok (.iaload, 1) := by decide +kernel
theorem dL_hall_56 : decode cL_hall 56 = .ok (.if_icmp .ge 93, 3) := by decide +kernel
theorem dL_hall_59 : decode cL_hall 59 = .ok (.aload_n 1, 1) := by decide +kernel
theorem dL_hall_60 : decode cL_hall 60 = .ok (.iconst 1, 1) := by decide +kernel
theorem dL_hall_61 : decode cL_hall 61 = .ok (.iload_n 3, 1) := by decide +kernel
theorem dL_hall_62 : decode cL_hall 62 = .ok (.iadd, 1) := by decide +kernel
theorem dL_hall_63 : decode cL_hall 63 = .ok (.iaload, 1) := by decide +kernel
theorem dL_hall_64 : decode cL_hall 64 = .ok (.istore 4, 2) := by decide +kernel
theorem dL_hall_66 : decode cL_hall 66 = .ok (.aload_n 0, 1) := by decide +kernel
theorem dL_hall_67 : decode cL_hall 67 = .ok (.iload_n 2, 1) := by decide +kernel
theorem dL_hall_68 : decode cL_hall 68 = .ok (.iload 4, 2) := by decide +kernel
theorem dL_hall_70 : decode cL_hall 70 = .ok (.ifCond .ne 8, 3) := by decide +kernel
theorem dL_hall_73 : decode cL_hall 73 = .ok (.bipush 103, 2) := by decide +kernel
theorem dL_hall_75 : decode cL_hall 75 = .ok (.goto 49, 3) := by decide +kernel
theorem dL_hall_78 : decode cL_hall 78 = .ok (.iload 4, 2) := by decide +kernel
theorem dL_hall_80 : decode cL_hall 80 = .ok (.iconst 1, 1) := by decide +kernel
theorem dL_hall_81 : decode cL_hall 81 = .ok (.if_icmp .ne 8, 3) := by decide +kernel
theorem dL_hall_84 : decode cL_hall 84 = .ok (.bipush 104, 2) := by decide +kernel
theorem dL_hall_86 : decode cL_hall 86 = .ok (.goto 38, 3) := by decide +kernel
theorem dL_hall_89 : decode cL_hall 89 = .ok (.iload 4, 2) := by decide +kernel
theorem dL_hall_91 : decode cL_hall 91 = .ok (.iconst 2, 1) := by decide +kernel
theorem dL_hall_92 : decode cL_hall 92 = .ok (.if_icmp .ne 8, 3) := by decide +kernel
theorem dL_hall_95 : decode cL_hall 95 = .ok (.bipush 99, 2) := by decide +kernel
theorem dL_hall_97 : decode cL_hall 97 = .ok (.goto 27, 3) := by decide +kernel
theorem dL_hall_100 : decode cL_hall 100 = .ok (.iload 4, 2) := by decide +kernel
theorem dL_hall_102 : decode cL_hall 102 = .ok (.iconst 3, 1) := by decide +kernel
theorem dL_hall_103 : decode cL_hall 103 = .ok (.if_icmp .ne 8, 3) := by decide +kernel
theorem dL_hall_106 : decode cL_hall 106 = .ok (.bipush 107, 2) := by decide +kernel
theorem dL_hall_108 : decode cL_hall 108 = .ok (.goto 16, 3) := by decide +kernel
theorem dL_hall_111 : decode cL_hall 111 = .ok (.iload 4, 2) := by decide +kernel
theorem dL_hall_113 : decode cL_hall 113 = .ok (.iconst 4, 1) := by decide +kernel
theorem dL_hall_114 : decode cL_hall 114 = .ok (.if_icmp .ne 8, 3) := by decide +kernel
theorem dL_hall_117 : decode cL_hall 117 = .ok (.bipush 114, 2) := by decide +kernel
theorem dL_hall_119 : decode cL_hall 119 = .ok (.goto 5, 3) := by decide +kernel
theorem dL_hall_122 : decode cL_hall 122 = .ok (.bipush 116, 2) := by decide +kernel
theorem dL_hall_124 : decode cL_hall 124 = .ok (.invokestatic 28, 3) := by decide +kernel
theorem dL_hall_127 : decode cL_hall 127 = .ok (.istore_n 2, 1) := by decide +kernel
theorem dL_hall_128 : decode cL_hall 128 = .ok (.aload_n 0, 1) := by decide +kernel
theorem dL_hall_129 : decode cL_hall 129 = .ok (.iload_n 2, 1) := by decide +kernel
theorem dL_hall_130 : decode cL_hall 130 = .ok (.bipush 48, 2) := by decide +kernel
theorem dL_hall_132 : decode cL_hall 132 = .ok (.aload_n 1, 1) := by decide +kernel
theorem dL_hall_133 : decode cL_hall 133 = .ok (.bipush 7, 2) := by decide +kernel
theorem dL_hall_135 : decode cL_hall 135 = .ok (.iload_n 3, 1) := by decide +kernel
theorem dL_hall_136 : decode cL_hall 136 = .ok (.iadd, 1) := by decide +kernel
theorem dL_hall_137 : decode cL_hall 137 = .ok (.iaload, 1) := by decide +kernel
theorem dL_hall_138 : decode cL_hall 138 = .ok (.iadd, 1) := by decide +kernel
theorem dL_hall_139 : decode cL_hall 139 = .ok (.invokestatic 28, 3) := by decide +kernel
theorem dL_hall_142 : decode cL_hall 142 = .ok (.istore_n 2, 1) := by decide +kernel
theorem dL_hall_143 : decode cL_hall 143 = .ok (.iinc 3 1, 3) := by decide +kernel
theorem dL_hall_146 : decode cL_hall 146 = .ok (.goto (-94), 3) := by decide +kernel
theorem dL_hall_149 : decode cL_hall 149 = .ok (.iconst 0, 1) := by decide +kernel
theorem dL_hall_150 : decode cL_hall 150 = .ok (.istore_n 3, 1) := by decide +kernel
theorem dL_hall_151 : decode cL_hall 151 = .ok (.iload_n 3, 1) := by decide +kernel
theorem dL_hall_152 : decode cL_hall 152 = .ok (.aload_n 1, 1) := by decide +kernel
theorem dL_hall_153 : decode cL_hall 153 = .ok (.bipush 14, 2) := by decide +kernel
theorem dL_hall_155 : decode cL_hall 155 = .ok (.iaload, 1) := by decide +kernel
theorem dL_hall_156 : decode cL_hall 156 = .ok (.if_icmp .ge 49, 3) := by decide +kernel
theorem dL_hall_159 : decode cL_hall 159 = .ok (.aload_n 0, 1) := by decide +kernel
theorem dL_hall_160 : decode cL_hall 160 = .ok (.aload_n 0, 1) := by decide +kernel
theorem dL_hall_161 : decode cL_hall 161 = .ok (.aload_n 0, 1) := by decide +kernel
theorem dL_hall_162 : decode cL_hall 162 = .ok (.iload_n 2, 1) := by decide +kernel
theorem dL_hall_163 : decode cL_hall 163 = .ok (.bipush 101, 2) := by decide +kernel
theorem dL_hall_165 : decode cL_hall 165 = .ok (.invokestatic 28, 3) := by decide +kernel
theorem dL_hall_168 : decode cL_hall 168 = .ok (.bipush 48, 2) := by decide +kernel
theorem dL_hall_170 : decode cL_hall 170 = .ok (.aload_n 1, 1) := by decide +kernel
theorem dL_hall_171 : decode cL_hall 171 = .ok (.bipush 15, 2) := by decide +kernel
theorem dL_hall_173 : decode cL_hall 173 = .ok (.iload_n 3, 1) := by decide +kernel
theorem dL_hall_174 : decode cL_hall 174 = .ok (.iadd, 1) := by decide +kernel
theorem dL_hall_175 : decode cL_hall 175 = .ok (.iaload, 1) := by decide +kernel
theorem dL_hall_176 : decode cL_hall 176 = .ok (.bipush 10, 2) := by decide +kernel
theorem dL_hall_178 : decode cL_hall 178 = .ok (.idiv, 1) := by decide +kernel
theorem dL_hall_179 : decode cL_hall 179 = .ok (.iadd, 1) := by decide +kernel
theorem dL_hall_180 : decode cL_hall 180 = .ok (.invokestatic 28, 3) := by decide +kernel
theorem dL_hall_183 : decode cL_hall 183 = .ok (.bipush 48, 2) := by decide +kernel
theorem dL_hall_185 : decode cL_hall 185 = .ok (.aload_n 1, 1) := by decide +kernel
theorem dL_hall_186 : decode cL_hall 186 = .ok (.bipush 15, 2) := by decide +kernel
theorem dL_hall_188 : decode cL_hall 188 = .ok (.iload_n 3, 1) := by decide +kernel
theorem dL_hall_189 : decode cL_hall 189 = .ok (.iadd, 1) := by decide +kernel
theorem dL_hall_190 : decode cL_hall 190 = .ok (.iaload, 1) := by decide +kernel
theorem dL_hall_191 : decode cL_hall 191 = .ok (.bipush 10, 2) := by decide +kernel
theorem dL_hall_193 : decode cL_hall 193 = .ok (.irem, 1) := by decide +kernel
theorem dL_hall_194 : decode cL_hall 194 = .ok (.iadd, 1) := by decide +kernel
theorem dL_hall_195 : decode cL_hall 195 = .ok (.invokestatic 28, 3) := by decide +kernel
theorem dL_hall_198 : decode cL_hall 198 = .ok (.istore_n 2, 1) := by decide +kernel
theorem dL_hall_199 : decode cL_hall 199 = .ok (.iinc 3 1, 3) := by decide +kernel
theorem dL_hall_202 : decode cL_hall 202 = .ok (.goto (-51), 3) := by decide +kernel
theorem dL_hall_205 : decode cL_hall 205 = .ok (.iload_n 2, 1) := by decide +kernel
theorem dL_hall_206 : decode cL_hall 206 = .ok (.ifCond .le 28, 3) := by decide +kernel
theorem dL_hall_209 : decode cL_hall 209 = .ok (.aload_n 0, 1) := by decide +kernel
theorem dL_hall_210 : decode cL_hall 210 = .ok (.iconst 3, 1) := by decide +kernel
theorem dL_hall_211 : decode cL_hall 211 = .ok (.invokevirtual 31, 3) := by decide +kernel
theorem dL_hall_214 : decode cL_hall 214 = .ok (.bipush (-9), 2) := by decide +kernel
theorem dL_hall_216 : decode cL_hall 216 = .ok (.if_icmp .ne 18, 3) := by decide +kernel
theorem dL_hall_219 : decode cL_hall 219 = .ok (.aload_n 0, 1) := by decide +kernel
theorem dL_hall_220 : decode cL_hall 220 = .ok (.iconst 3, 1) := by decide +kernel
theorem dL_hall_221 : decode cL_hall 221 = .ok (.invokevirtual 35, 3) := by decide +kernel
theorem dL_hall_224 : decode cL_hall 224 = .ok (.aload_n 1, 1) := by decide +kernel
theorem dL_hall_225 : decode cL_hall 225 = .ok (.iconst 0, 1) := by decide +kernel
theorem dL_hall_226 : decode cL_hall 226 = .ok (.iaload, 1) := by decide +kernel
theorem dL_hall_227 : decode cL_hall 227 = .ok (.if_icmp .ne 7, 3) := by decide +kernel
theorem dL_hall_230 : decode cL_hall 230 = .ok (.iconst 1, 1) := by decide +kernel
theorem dL_hall_231 : decode cL_hall 231 = .ok (.goto 4, 3) := by decide +kernel
theorem dL_hall_234 : decode cL_hall 234 = .ok (.iconst 0, 1) := by decide +kernel
theorem dL_hall_235 : decode cL_hall 235 = .ok (.ireturn, 1) := by decide +kernel
theorem dL_bare_0 : decode cL_bare 0 = .ok (.aload_n 0, 1) := by decide +kernel
theorem dL_bare_1 : decode cL_bare 1 = .ok (.iconst 1, 1) := by decide +kernel
theorem dL_bare_2 : decode cL_bare 2 = .ok (.iload_n 1, 1) := by decide +kernel
theorem dL_bare_3 : decode cL_bare 3 = .ok (.iadd, 1) := by decide +kernel
theorem dL_bare_4 : decode cL_bare 4 = .ok (.iaload, 1) := by decide +kernel
theorem dL_bare_5 : decode cL_bare 5 = .ok (.istore_n 2, 1) := by decide +kernel
theorem dL_bare_6 : decode cL_bare 6 = .ok (.aload_n 0, 1) := by decide +kernel
theorem dL_bare_7 : decode cL_bare 7 = .ok (.bipush 7, 2) := by decide +kernel
theorem dL_bare_9 : decode cL_bare 9 = .ok (.iload_n 1, 1) := by decide +kernel
theorem dL_bare_10 : decode cL_bare 10 = .ok (.iadd, 1) := by decide +kernel
theorem dL_bare_11 : decode cL_bare 11 = .ok (.iaload, 1) := by decide +kernel
theorem dL_bare_12 : decode cL_bare 12 = .ok (.istore_n 3, 1) := by decide +kernel
theorem dL_bare_13 : decode cL_bare 13 = .ok (.iload_n 2, 1) := by decide +kernel
theorem dL_bare_14 : decode cL_bare 14 = .ok (.iconst 3, 1) := by decide +kernel
theorem dL_bare_15 : decode cL_bare 15 = .ok (.if_icmp .ne 7, 3) := by decide +kernel
theorem dL_bare_18 : decode cL_bare 18 = .ok (.iconst 0, 1) := by decide +kernel
theorem dL_bare_19 : decode cL_bare 19 = .ok (.goto 54, 3) := by decide +kernel
theorem dL_bare_22 : decode cL_bare 22 = .ok (.iload_n 2, 1) := by decide +kernel
theorem dL_bare_23 : decode cL_bare 23 = .ok (.iconst 1, 1) := by decide +kernel
theorem dL_bare_24 : decode cL_bare 24 = .ok (.if_icmp .ne 9, 3) := by decide +kernel
theorem dL_bare_27 : decode cL_bare 27 = .ok (.iload_n 3, 1) := by decide +kernel
theorem dL_bare_28 : decode cL_bare 28 = .ok (.iload_n 3, 1) := by decide +kernel
theorem dL_bare_29 : decode cL_bare 29 = .ok (.iadd, 1) := by decide +kernel
theorem dL_bare_30 : decode cL_bare 30 = .ok (.goto 43, 3) := by decide +kernel
theorem dL_bare_33 : decode cL_bare 33 = .ok (.iload_n 2, 1) := by decide +kernel
theorem dL_bare_34 : decode cL_bare 34 = .ok (.iconst 4, 1) := by decide +kernel
theorem dL_bare_35 : decode cL_bare 35 = .ok (.if_icmp .ne 13, 3) := by decide +kernel
theorem dL_bare_38 : decode cL_bare 38 = .ok (.iload_n 3, 1) := by decide +kernel
theorem dL_bare_39 : decode cL_bare 39 = .ok (.iload_n 3, 1) := by decide +kernel
theorem dL_bare_40 : decode cL_bare 40 = .ok (.iconst 1, 1) := by decide +kernel
theorem dL_bare_41 : decode cL_bare 41 = .ok (.iadd, 1) := by decide +kernel
theorem dL_bare_42 : decode cL_bare 42 = .ok (.iconst 2, 1) := by decide +kernel
theorem dL_bare_43 : decode cL_bare 43 = .ok (.idiv, 1) := by decide +kernel
theorem dL_bare_44 : decode cL_bare 44 = .ok (.iadd, 1) := by decide +kernel
theorem dL_bare_45 : decode cL_bare 45 = .ok (.goto 28, 3) := by decide +kernel
theorem dL_bare_48 : decode cL_bare 48 = .ok (.iload_n 2, 1) := by decide +kernel
theorem dL_bare_49 : decode cL_bare 49 = .ok (.iconst 2, 1) := by decide +kernel
theorem dL_bare_50 : decode cL_bare 50 = .ok (.if_icmp .ne 9, 3) := by decide +kernel
theorem dL_bare_53 : decode cL_bare 53 = .ok (.iload_n 3, 1) := by decide +kernel
theorem dL_bare_54 : decode cL_bare 54 = .ok (.iconst 1, 1) := by decide +kernel
theorem dL_bare_55 : decode cL_bare 55 = .ok (.isub, 1) := by decide +kernel
theorem dL_bare_56 : decode cL_bare 56 = .ok (.goto 17, 3) := by decide +kernel
theorem dL_bare_59 : decode cL_bare 59 = .ok (.iload_n 2, 1) := by decide +kernel
theorem dL_bare_60 : decode cL_bare 60 = .ok (.iconst 5, 1) := by decide +kernel
theorem dL_bare_61 : decode cL_bare 61 = .ok (.if_icmp .ne 11, 3) := by decide +kernel
theorem dL_bare_64 : decode cL_bare 64 = .ok (.iload_n 3, 1) := by decide +kernel
theorem dL_bare_65 : decode cL_bare 65 = .ok (.iconst 1, 1) := by decide +kernel
theorem dL_bare_66 : decode cL_bare 66 = .ok (.isub, 1) := by decide +kernel
theorem dL_bare_67 : decode cL_bare 67 = .ok (.iconst 2, 1) := by decide +kernel
theorem dL_bare_68 : decode cL_bare 68 = .ok (.idiv, 1) := by decide +kernel
theorem dL_bare_69 : decode cL_bare 69 = .ok (.goto 4, 3) := by decide +kernel
theorem dL_bare_72 : decode cL_bare 72 = .ok (.iload_n 3, 1) := by decide +kernel
theorem dL_bare_73 : decode cL_bare 73 = .ok (.ireturn, 1) := by decide +kernel
theorem dL_tread_0 : decode cL_tread 0 = .ok (.aload_n 0, 1) := by decide +kernel
theorem dL_tread_1 : decode cL_tread 1 = .ok (.iload_n 2, 1) := by decide +kernel
theorem dL_tread_2 : decode cL_tread 2 = .ok (.invokestatic 38, 3) := by decide +kernel
theorem dL_tread_5 : decode cL_tread 5 = .ok (.istore_n 3, 1) := by decide +kernel
theorem dL_tread_6 : decode cL_tread 6 = .ok (.aload_n 1, 1) := by decide +kernel
theorem dL_tread_7 : decode cL_tread 7 = .ok (.iconst 2, 1) := by decide +kernel
theorem dL_tread_8 : decode cL_tread 8 = .ok (.iaload, 1) := by decide +kernel
theorem dL_tread_9 : decode cL_tread 9 = .ok (.iconst 2, 1) := by decide +kernel
theorem dL_tread_10 : decode cL_tread 10 = .ok (.if_icmp .ne 7, 3) := by decide +kernel
theorem dL_tread_13 : decode cL_tread 13 = .ok (.iconst 0, 1) := by decide +kernel
theorem dL_tread_14 : decode cL_tread 14 = .ok (.goto 17, 3) := by decide +kernel
theorem dL_tread_17 : decode cL_tread 17 = .ok (.aload_n 1, 1) := by decide +kernel
theorem dL_tread_18 : decode cL_tread 18 = .ok (.iconst 2, 1) := by decide +kernel
theorem dL_tread_19 : decode cL_tread 19 = .ok (.iaload, 1) := by decide +kernel
theorem dL_tread_20 : decode cL_tread 20 = .ok (.iconst 1, 1) := by decide +kernel
theorem dL_tread_21 : decode cL_tread 21 = .ok (.if_icmp .ne 9, 3) := by decide +kernel
theorem dL_tread_24 : decode cL_tread 24 = .ok (.iload_n 3, 1) := by decide +kernel
theorem dL_tread_25 : decode cL_tread 25 = .ok (.iconst 2, 1) := by decide +kernel
theorem dL_tread_26 : decode cL_tread 26 = .ok (.idiv, 1) := by decide +kernel
theorem dL_tread_27 : decode cL_tread 27 = .ok (.goto 4, 3) := by decide +kernel
theorem dL_tread_30 : decode cL_tread 30 = .ok (.iload_n 3, 1) := by decide +kernel
theorem dL_tread_31 : decode cL_tread 31 = .ok (.ireturn, 1) := by decide +kernel
theorem dL_walk_0 : decode cL_walk 0 = .ok (.aload_n 0, 1) := by decide +kernel
theorem dL_walk_1 : decode cL_walk 1 = .ok (.aload_n 1, 1) := by decide +kernel
theorem dL_walk_2 : decode cL_walk 2 = .ok (.iload_n 2, 1) := by decide +kernel
theorem dL_walk_3 : decode cL_walk 3 = .ok (.invokestatic 41, 3) := by decide +kernel
theorem dL_walk_6 : decode cL_walk 6 = .ok (.istore_n 3, 1) := by decide +kernel
theorem dL_walk_7 : decode cL_walk 7 = .ok (.aload_n 1, 1) := by decide +kernel
theorem dL_walk_8 : decode cL_walk 8 = .ok (.iconst 0, 1) := by decide +kernel
theorem dL_walk_9 : decode cL_walk 9 = .ok (.dup2, 1) := by decide +kernel
theorem dL_walk_10 : decode cL_walk 10 = .ok (.iaload, 1) := by decide +kernel
theorem dL_walk_11 : decode cL_walk 11 = .ok (.iload_n 3, 1) := by decide +kernel
theorem dL_walk_12 : decode cL_walk 12 = .ok (.iadd, 1) := by decide +kernel
theorem dL_walk_13 : decode cL_walk 13 = .ok (.iastore, 1) := by decide +kernel
theorem dL_walk_14 : decode cL_walk 14 = .ok (.aload_n 1, 1) := by decide +kernel
theorem dL_walk_15 : decode cL_walk 15 = .ok (.iconst 0, 1) := by decide +kernel
theorem dL_walk_16 : decode cL_walk 16 = .ok (.iaload, 1) := by decide +kernel
theorem dL_walk_17 : decode cL_walk 17 = .ok (.aload_n 0, 1) := by decide +kernel
theorem dL_walk_18 : decode cL_walk 18 = .ok (.bipush 13, 2) := by decide +kernel
theorem dL_walk_20 : decode cL_walk 20 = .ok (.iaload, 1) := by decide +kernel
theorem dL_walk_21 : decode cL_walk 21 = .ok (.if_icmp .lt 23, 3) := by decide +kernel
theorem dL_walk_24 : decode cL_walk 24 = .ok (.aload_n 1, 1) := by decide +kernel
theorem dL_walk_25 : decode cL_walk 25 = .ok (.iconst 0, 1) := by decide +kernel
theorem dL_walk_26 : decode cL_walk 26 = .ok (.dup2, 1) := by decide +kernel
theorem dL_walk_27 : decode cL_walk 27 = .ok (.iaload, 1) := by decide +kernel
theorem dL_walk_28 : decode cL_walk 28 = .ok (.aload_n 0, 1) := by decide +kernel
theorem dL_walk_29 : decode cL_walk 29 = .ok (.bipush 13, 2) := by decide +kernel
theorem dL_walk_31 : decode cL_walk 31 = .ok (.iaload, 1) := by decide +kernel
theorem dL_walk_32 : decode cL_walk 32 = .ok (.isub, 1) := by decide +kernel
theorem dL_walk_33 : decode cL_walk 33 = .ok (.iastore, 1) := by decide +kernel
theorem dL_walk_34 : decode cL_walk 34 = .ok (.aload_n 1, 1) := by decide +kernel
theorem dL_walk_35 : decode cL_walk 35 = .ok (.iconst 1, 1) := by decide +kernel
theorem dL_walk_36 : decode cL_walk 36 = .ok (.dup2, 1) := by decide +kernel
theorem dL_walk_37 : decode cL_walk 37 = .ok (.iaload, 1) := by decide +kernel
theorem dL_walk_38 : decode cL_walk 38 = .ok (.iconst 1, 1) := by decide +kernel
theorem dL_walk_39 : decode cL_walk 39 = .ok (.iadd, 1) := by decide +kernel
theorem dL_walk_40 : decode cL_walk 40 = .ok (.iastore, 1) := by decide +kernel
theorem dL_walk_41 : decode cL_walk 41 = .ok (.goto (-27), 3) := by decide +kernel
theorem dL_walk_44 : decode cL_walk 44 = .ok (.aload_n 1, 1) := by decide +kernel
theorem dL_walk_45 : decode cL_walk 45 = .ok (.iconst 3, 1) := by decide +kernel
theorem dL_walk_46 : decode cL_walk 46 = .ok (.dup2, 1) := by decide +kernel
theorem dL_walk_47 : decode cL_walk 47 = .ok (.iaload, 1) := by decide +kernel
theorem dL_walk_48 : decode cL_walk 48 = .ok (.aload_n 0, 1) := by decide +kernel
theorem dL_walk_49 : decode cL_walk 49 = .ok (.aload_n 1, 1) := by decide +kernel
theorem dL_walk_50 : decode cL_walk 50 = .ok (.iconst 0, 1) := by decide +kernel
theorem dL_walk_51 : decode cL_walk 51 = .ok (.iaload, 1) := by decide +kernel
theorem dL_walk_52 : decode cL_walk 52 = .ok (.invokestatic 20, 3) := by decide +kernel
theorem dL_walk_55 : decode cL_walk 55 = .ok (.ifCond .eq 7, 3) := by decide +kernel
theorem dL_walk_58 : decode cL_walk 58 = .ok (.iconst 1, 1) := by decide +kernel
theorem dL_walk_59 : decode cL_walk 59 = .ok (.goto 4, 3) := by decide +kernel
theorem dL_walk_62 : decode cL_walk 62 = .ok (.iconst 0, 1) := by decide +kernel
theorem dL_walk_63 : decode cL_walk 63 = .ok (.iadd, 1) := by decide +kernel
theorem dL_walk_64 : decode cL_walk 64 = .ok (.iastore, 1) := by decide +kernel
theorem dL_walk_65 : decode cL_walk 65 = .ok (.aload_n 1, 1) := by decide +kernel
theorem dL_walk_66 : decode cL_walk 66 = .ok (.iconst 4, 1) := by decide +kernel
theorem dL_walk_67 : decode cL_walk 67 = .ok (.dup2, 1) := by decide +kernel
theorem dL_walk_68 : decode cL_walk 68 = .ok (.iaload, 1) := by decide +kernel
theorem dL_walk_69 : decode cL_walk 69 = .ok (.iload_n 3, 1) := by decide +kernel
theorem dL_walk_70 : decode cL_walk 70 = .ok (.iadd, 1) := by decide +kernel
theorem dL_walk_71 : decode cL_walk 71 = .ok (.iastore, 1) := by decide +kernel
theorem dL_walk_72 : decode cL_walk 72 = .ok (.aload_n 1, 1) := by decide +kernel
theorem dL_walk_73 : decode cL_walk 73 = .ok (.iconst 5, 1) := by decide +kernel
theorem dL_walk_74 : decode cL_walk 74 = .ok (.iload_n 2, 1) := by decide +kernel
theorem dL_walk_75 : decode cL_walk 75 = .ok (.iadd, 1) := by decide +kernel
theorem dL_walk_76 : decode cL_walk 76 = .ok (.dup2, 1) := by decide +kernel
theorem dL_walk_77 : decode cL_walk 77 = .ok (.iaload, 1) := by decide +kernel
theorem dL_walk_78 : decode cL_walk 78 = .ok (.iconst 1, 1) := by decide +kernel
theorem dL_walk_79 : decode cL_walk 79 = .ok (.iadd, 1) := by decide +kernel
theorem dL_walk_80 : decode cL_walk 80 = .ok (.iastore, 1) := by decide +kernel
theorem dL_walk_81 : decode cL_walk 81 = .ok (.return_, 1) := by decide +kernel
theorem dL_gave_0 : decode cL_gave 0 = .ok (.iload_n 1, 1) := by decide +kernel
theorem dL_gave_1 : decode cL_gave 1 = .ok (.iconst 1, 1) := by decide +kernel
theorem dL_gave_2 : decode cL_gave 2 = .ok (.if_icmp .ne 10, 3) := by decide +kernel
theorem dL_gave_5 : decode cL_gave 5 = .ok (.aload_n 0, 1) := by decide +kernel
theorem dL_gave_6 : decode cL_gave 6 = .ok (.invokevirtual 45, 3) := by decide +kernel
theorem dL_gave_9 : decode cL_gave 9 = .ok (.goto 6, 3) := by decide +kernel
theorem dL_gave_12 : decode cL_gave 12 = .ok (.sipush (-7777), 3) := by decide +kernel
theorem dL_gave_15 : decode cL_gave 15 = .ok (.ireturn, 1) := by decide +kernel
theorem dL_says_0 : decode cL_says 0 = .ok (.iload_n 1, 1) := by decide +kernel
theorem dL_says_1 : decode cL_says 1 = .ok (.iload_n 2, 1) := by decide +kernel
theorem dL_says_2 : decode cL_says 2 = .ok (.if_icmp .ne 15, 3) := by decide +kernel
theorem dL_says_5 : decode cL_says 5 = .ok (.aload_n 0, 1) := by decide +kernel
theorem dL_says_6 : decode cL_says 6 = .ok (.invokevirtual 45, 3) := by decide +kernel
theorem dL_says_9 : decode cL_says 9 = .ok (.iload_n 3, 1) := by decide +kernel
theorem dL_says_10 : decode cL_says 10 = .ok (.if_icmp .ne 7, 3) := by decide +kernel
theorem dL_says_13 : decode cL_says 13 = .ok (.iconst 1, 1) := by decide +kernel
theorem dL_says_14 : decode cL_says 14 = .ok (.goto 4, 3) := by decide +kernel
theorem dL_says_17 : decode cL_says 17 = .ok (.iconst 0, 1) := by decide +kernel
theorem dL_says_18 : decode cL_says 18 = .ok (.ireturn, 1) := by decide +kernel
theorem dL_goes_0 : decode cL_goes 0 = .ok (.iload_n 1, 1) := by decide +kernel
theorem dL_goes_1 : decode cL_goes 1 = .ok (.iconst 4, 1) := by decide +kernel
theorem dL_goes_2 : decode cL_goes 2 = .ok (.irem, 1) := by decide +kernel
theorem dL_goes_3 : decode cL_goes 3 = .ok (.ifCond .ne 61, 3) := by decide +kernel
theorem dL_goes_6 : decode cL_goes 6 = .ok (.iload_n 1, 1) := by decide +kernel
theorem dL_goes_7 : decode cL_goes 7 = .ok (.bipush 8, 2) := by decide +kernel
theorem dL_goes_9 : decode cL_goes 9 = .ok (.idiv, 1) := by decide +kernel
