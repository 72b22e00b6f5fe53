theorem dX11_init_0 : decode cX11_init 0 = .ok (.aload_n 0, 1) := by decide +kernel
theorem dX11_init_1 : decode cX11_init 1 = .ok (.invokespecial 1, 3) := by decide +kernel
theorem dX11_init_4 : decode cX11_init 4 = .ok (.aload_n 0, 1) := by decide +kernel
theorem dX11_init_5 : decode cX11_init 5 = .ok (.bipush 6, 2) := by decide +kernel
theorem dX11_init_7 : decode cX11_init 7 = .ok (.anewarray 9, 3) := by decide +kernel
theorem dX11_init_10 : decode cX11_init 10 = .ok (.putfield 11, 3) := by decide +kernel
theorem dX11_init_13 : decode cX11_init 13 = .ok (.aload_n 0, 1) := by decide +kernel
theorem dX11_init_14 : decode cX11_init 14 = .ok (.iconst 4, 1) := by decide +kernel
theorem dX11_init_15 : decode cX11_init 15 = .ok (.anewarray 9, 3) := by decide +kernel
theorem dX11_init_18 : decode cX11_init 18 = .ok (.putfield 15, 3) := by decide +kernel
theorem dX11_init_21 : decode cX11_init 21 = .ok (.aload_n 0, 1) := by decide +kernel
theorem dX11_init_22 : decode cX11_init 22 = .ok (.new 18, 3) := by decide +kernel
theorem dX11_init_25 : decode cX11_init 25 = .ok (.dup, 1) := by decide +kernel
theorem dX11_init_26 : decode cX11_init 26 = .ok (.invokespecial 20, 3) := by decide +kernel
theorem dX11_init_29 : decode cX11_init 29 = .ok (.putfield 21, 3) := by decide +kernel
theorem dX11_init_32 : decode cX11_init 32 = .ok (.aload_n 0, 1) := by decide +kernel
theorem dX11_init_33 : decode cX11_init 33 = .ok (.iconst 3, 1) := by decide +kernel
theorem dX11_init_34 : decode cX11_init 34 = .ok (.anewarray 9, 3) := by decide +kernel
theorem dX11_init_37 : decode cX11_init 37 = .ok (.putfield 25, 3) := by decide +kernel
theorem dX11_init_40 : decode cX11_init 40 = .ok (.aload_n 0, 1) := by decide +kernel
theorem dX11_init_41 : decode cX11_init 41 = .ok (.iconst 3, 1) := by decide +kernel
theorem dX11_init_42 : decode cX11_init 42 = .ok (.bipush 6, 2) := by decide +kernel
theorem dX11_init_44 : decode cX11_init 44 = .ok (.multianewarray 28 2, 4) := by decide +kernel
theorem dX11_init_48 : decode cX11_init 48 = .ok (.putfield 30, 3) := by decide +kernel
theorem dX11_init_51 : decode cX11_init 51 = .ok (.aload_n 0, 1) := by decide +kernel
theorem dX11_init_52 : decode cX11_init 52 = .ok (.new 33, 3) := by decide +kernel
theorem dX11_init_55 : decode cX11_init 55 = .ok (.dup, 1) := by decide +kernel
theorem dX11_init_56 : decode cX11_init 56 = .ok (.invokespecial 35, 3) := by decide +kernel
theorem dX11_init_59 : decode cX11_init 59 = .ok (.putfield 36, 3) := by decide +kernel
theorem dX11_init_62 : decode cX11_init 62 = .ok (.aload_n 0, 1) := by decide +kernel
theorem dX11_init_63 : decode cX11_init 63 = .ok (.new 40, 3) := by decide +kernel
theorem dX11_init_66 : decode cX11_init 66 = .ok (.dup, 1) := by decide +kernel
theorem dX11_init_67 : decode cX11_init 67 = .ok (.invokespecial 42, 3) := by decide +kernel
theorem dX11_init_70 : decode cX11_init 70 = .ok (.putfield 43, 3) := by decide +kernel
theorem dX11_init_73 : decode cX11_init 73 = .ok (.aload_n 0, 1) := by decide +kernel
theorem dX11_init_74 : decode cX11_init 74 = .ok (.new 9, 3) := by decide +kernel
theorem dX11_init_77 : decode cX11_init 77 = .ok (.dup, 1) := by decide +kernel
theorem dX11_init_78 : decode cX11_init 78 = .ok (.bipush 6, 2) := by decide +kernel
theorem dX11_init_80 : decode cX11_init 80 = .ok (.invokespecial 47, 3) := by decide +kernel
theorem dX11_init_83 : decode cX11_init 83 = .ok (.putfield 50, 3) := by decide +kernel
theorem dX11_init_86 : decode cX11_init 86 = .ok (.aload_n 0, 1) := by decide +kernel
theorem dX11_init_87 : decode cX11_init 87 = .ok (.new 54, 3) := by decide +kernel
theorem dX11_init_90 : decode cX11_init 90 = .ok (.dup, 1) := by decide +kernel
theorem dX11_init_91 : decode cX11_init 91 = .ok (.invokespecial 56, 3) := by decide +kernel
theorem dX11_init_94 : decode cX11_init 94 = .ok (.putfield 57, 3) := by decide +kernel
theorem dX11_init_97 : decode cX11_init 97 = .ok (.aload_n 0, 1) := by decide +kernel
theorem dX11_init_98 : decode cX11_init 98 = .ok (.bipush 6, 2) := by decide +kernel
theorem dX11_init_100 : decode cX11_init 100 = .ok (.newarray .int, 2) := by decide +kernel
theorem dX11_init_102 : decode cX11_init 102 = .ok (.putfield 61, 3) := by decide +kernel
theorem dX11_init_105 : decode cX11_init 105 = .ok (.aload_n 0, 1) := by decide +kernel
theorem dX11_init_106 : decode cX11_init 106 = .ok (.iconst 0, 1) := by decide +kernel
theorem dX11_init_107 : decode cX11_init 107 = .ok (.putfield 65, 3) := by decide +kernel
theorem dX11_init_110 : decode cX11_init 110 = .ok (.aload_n 0, 1) := by decide +kernel
theorem dX11_init_111 : decode cX11_init 111 = .ok (.iconst 0, 1) := by decide +kernel
theorem dX11_init_112 : decode cX11_init 112 = .ok (.putfield 69, 3) := by decide +kernel
theorem dX11_init_115 : decode cX11_init 115 = .ok (.aload_n 0, 1) := by decide +kernel
theorem dX11_init_116 : decode cX11_init 116 = .ok (.lconst 0, 1) := by decide +kernel
theorem dX11_init_117 : decode cX11_init 117 = .ok (.putfield 72, 3) := by decide +kernel
theorem dX11_init_120 : decode cX11_init 120 = .ok (.aload_n 0, 1) := by decide +kernel
theorem dX11_init_121 : decode cX11_init 121 = .ok (.lconst 1, 1) := by decide +kernel
theorem dX11_init_122 : decode cX11_init 122 = .ok (.putfield 76, 3) := by decide +kernel
theorem dX11_init_125 : decode cX11_init 125 = .ok (.iconst 0, 1) := by decide +kernel
theorem dX11_init_126 : decode cX11_init 126 = .ok (.istore_n 1, 1) := by decide +kernel
theorem dX11_init_127 : decode cX11_init 127 = .ok (.iload_n 1, 1) := by decide +kernel
theorem dX11_init_128 : decode cX11_init 128 = .ok (.bipush 6, 2) := by decide +kernel
theorem dX11_init_130 : decode cX11_init 130 = .ok (.if_icmp .ge 24, 3) := by decide +kernel
theorem dX11_init_133 : decode cX11_init 133 = .ok (.aload_n 0, 1) := by decide +kernel
theorem dX11_init_134 : decode cX11_init 134 = .ok (.getfield 11, 3) := by decide +kernel
theorem dX11_init_137 : decode cX11_init 137 = .ok (.iload_n 1, 1) := by decide +kernel
theorem dX11_init_138 : decode cX11_init 138 = .ok (.new 9, 3) := by decide +kernel
theorem dX11_init_141 : decode cX11_init 141 = .ok (.dup, 1) := by decide +kernel
theorem dX11_init_142 : decode cX11_init 142 = .ok (.bipush 40, 2) := by decide +kernel
theorem dX11_init_144 : decode cX11_init 144 = .ok (.invokespecial 47, 3) := by decide +kernel
theorem dX11_init_147 : decode cX11_init 147 = .ok (.aastore, 1) := by decide +kernel
theorem dX11_init_148 : decode cX11_init 148 = .ok (.iinc 1 1, 3) := by decide +kernel
theorem dX11_init_151 : decode cX11_init 151 = .ok (.goto (-24), 3) := by decide +kernel
theorem dX11_init_154 : decode cX11_init 154 = .ok (.iconst 0, 1) := by decide +kernel
theorem dX11_init_155 : decode cX11_init 155 = .ok (.istore_n 1, 1) := by decide +kernel
theorem dX11_init_156 : decode cX11_init 156 = .ok (.iload_n 1, 1) := by decide +kernel
theorem dX11_init_157 : decode cX11_init 157 = .ok (.iconst 4, 1) := by decide +kernel
theorem dX11_init_158 : decode cX11_init 158 = .ok (.if_icmp .ge 24, 3) := by decide +kernel
theorem dX11_init_161 : decode cX11_init 161 = .ok (.aload_n 0, 1) := by decide +kernel
theorem dX11_init_162 : decode cX11_init 162 = .ok (.getfield 15, 3) := by decide +kernel
theorem dX11_init_165 : decode cX11_init 165 = .ok (.iload_n 1, 1) := by decide +kernel
theorem dX11_init_166 : decode cX11_init 166 = .ok (.new 9, 3) := by decide +kernel
theorem dX11_init_169 : decode cX11_init 169 = .ok (.dup, 1) := by decide +kernel
theorem dX11_init_170 : decode cX11_init 170 = .ok (.bipush 60, 2) := by decide +kernel
theorem dX11_init_172 : decode cX11_init 172 = .ok (.invokespecial 47, 3) := by decide +kernel
theorem dX11_init_175 : decode cX11_init 175 = .ok (.aastore, 1) := by decide +kernel
theorem dX11_init_176 : decode cX11_init 176 = .ok (.iinc 1 1, 3) := by decide +kernel
theorem dX11_init_179 : decode cX11_init 179 = .ok (.goto (-23), 3) := by decide +kernel
theorem dX11_init_182 : decode cX11_init 182 = .ok (.iconst 0, 1) := by decide +kernel
theorem dX11_init_183 : decode cX11_init 183 = .ok (.istore_n 1, 1) := by decide +kernel
theorem dX11_init_184 : decode cX11_init 184 = .ok (.iload_n 1, 1) := by decide +kernel
theorem dX11_init_185 : decode cX11_init 185 = .ok (.iconst 3, 1) := by decide +kernel
theorem dX11_init_186 : decode cX11_init 186 = .ok (.if_icmp .ge 24, 3) := by decide +kernel
theorem dX11_init_189 : decode cX11_init 189 = .ok (.aload_n 0, 1) := by decide +kernel
theorem dX11_init_190 : decode cX11_init 190 = .ok (.getfield 25, 3) := by decide +kernel
theorem dX11_init_193 : decode cX11_init 193 = .ok (.iload_n 1, 1) := by decide +kernel
theorem dX11_init_194 : decode cX11_init 194 = .ok (.new 9, 3) := by decide +kernel
theorem dX11_init_197 : decode cX11_init 197 = .ok (.dup, 1) := by decide +kernel
theorem dX11_init_198 : decode cX11_init 198 = .ok (.bipush 60, 2) := by decide +kernel
theorem dX11_init_200 : decode cX11_init 200 = .ok (.invokespecial 47, 3) := by decide +kernel
theorem dX11_init_203 : decode cX11_init 203 = .ok (.aastore, 1) := by decide +kernel
theorem dX11_init_204 : decode cX11_init 204 = .ok (.iinc 1 1, 3) := by decide +kernel
theorem dX11_init_207 : decode cX11_init 207 = .ok (.goto (-23), 3) := by decide +kernel
theorem dX11_init_210 : decode cX11_init 210 = .ok (.return_, 1) := by decide +kernel
theorem dX11_at_0 : decode cX11_at 0 = .ok (.aload_n 0, 1) := by decide +kernel
theorem dX11_at_1 : decode cX11_at 1 = .ok (.aload_n 0, 1) := by decide +kernel
theorem dX11_at_2 : decode cX11_at 2 = .ok (.getfield 11, 3) := by decide +kernel
theorem dX11_at_5 : decode cX11_at 5 = .ok (.iload_n 1, 1) := by decide +kernel
theorem dX11_at_6 : decode cX11_at 6 = .ok (.iload_n 2, 1) := by decide +kernel
theorem dX11_at_7 : decode cX11_at 7 = .ok (.invokevirtual 83, 3) := by decide +kernel
theorem dX11_at_10 : decode cX11_at 10 = .ok (.istore_n 3, 1) := by decide +kernel
theorem dX11_at_11 : decode cX11_at 11 = .ok (.iload_n 3, 1) := by decide +kernel
theorem dX11_at_12 : decode cX11_at 12 = .ok (.ifCond .eq 7, 3) := by decide +kernel
theorem dX11_at_15 : decode cX11_at 15 = .ok (.iload_n 3, 1) := by decide +kernel
theorem dX11_at_16 : decode cX11_at 16 = .ok (.goto 18, 3) := by decide +kernel
theorem dX11_at_19 : decode cX11_at 19 = .ok (.aload_n 0, 1) := by decide +kernel
theorem dX11_at_20 : decode cX11_at 20 = .ok (.aload_n 0, 1) := by decide +kernel
theorem dX11_at_21 : decode cX11_at 21 = .ok (.getfield 11, 3) := by decide +kernel
theorem dX11_at_24 : decode cX11_at 24 = .ok (.iload_n 1, 1) := by decide +kernel
theorem dX11_at_25 : decode cX11_at 25 = .ok (.aaload, 1) := by decide +kernel
theorem dX11_at_26 : decode cX11_at 26 = .ok (.getfield 95, 3) := by decide +kernel
theorem dX11_at_29 : decode cX11_at 29 = .ok (.iload_n 2, 1) := by decide +kernel
theorem dX11_at_30 : decode cX11_at 30 = .ok (.iaload, 1) := by decide +kernel
theorem dX11_at_31 : decode cX11_at 31 = .ok (.invokevirtual 91, 3) := by decide +kernel
theorem dX11_at_34 : decode cX11_at 34 = .ok (.ireturn, 1) := by decide +kernel
theorem dX11_tear_0 : decode cX11_tear 0 = .ok (.aload_n 0, 1) := by decide +kernel
theorem dX11_tear_1 : decode cX11_tear 1 = .ok (.aload_n 0, 1) := by decide +kernel
theorem dX11_tear_2 : decode cX11_tear 2 = .ok (.getfield 11, 3) := by decide +kernel
theorem dX11_tear_5 : decode cX11_tear 5 = .ok (.iload_n 1, 1) := by decide +kernel
theorem dX11_tear_6 : decode cX11_tear 6 = .ok (.invokevirtual 98, 3) := by decide +kernel
theorem dX11_tear_9 : decode cX11_tear 9 = .ok (.istore_n 2, 1) := by decide +kernel
theorem dX11_tear_10 : decode cX11_tear 10 = .ok (.iload_n 2, 1) := by decide +kernel
theorem dX11_tear_11 : decode cX11_tear 11 = .ok (.ifCond .eq 5, 3) := by decide +kernel
theorem dX11_tear_14 : decode cX11_tear 14 = .ok (.iload_n 2, 1) := by decide +kernel
theorem dX11_tear_15 : decode cX11_tear 15 = .ok (.ireturn, 1) := by decide +kernel
theorem dX11_tear_16 : decode cX11_tear 16 = .ok (.aload_n 0, 1) := by decide +kernel
theorem dX11_tear_17 : decode cX11_tear 17 = .ok (.getfield 11, 3) := by decide +kernel
theorem dX11_tear_20 : decode cX11_tear 20 = .ok (.iload_n 1, 1) := by decide +kernel
theorem dX11_tear_21 : decode cX11_tear 21 = .ok (.aaload, 1) := by decide +kernel
theorem dX11_tear_22 : decode cX11_tear 22 = .ok (.invokevirtual 102, 3) := by decide +kernel
theorem dX11_tear_25 : decode cX11_tear 25 = .ok (.iconst 1, 1) := by decide +kernel
theorem dX11_tear_26 : decode cX11_tear 26 = .ok (.ireturn, 1) := by decide +kernel
theorem dX11_text_0 : decode cX11_text 0 = .ok (.aload_n 0, 1) := by decide +kernel
theorem dX11_text_1 : decode cX11_text 1 = .ok (.aload_n 0, 1) := by decide +kernel
theorem dX11_text_2 : decode cX11_text 2 = .ok (.getfield 15, 3) := by decide +kernel
theorem dX11_text_5 : decode cX11_text 5 = .ok (.iload_n 1, 1) := by decide +kernel
theorem dX11_text_6 : decode cX11_text 6 = .ok (.iload_n 2, 1) := by decide +kernel
theorem dX11_text_7 : decode cX11_text 7 = .ok (.bipush 32, 2) := by decide +kernel
theorem dX11_text_9 : decode cX11_text 9 = .ok (.invokevirtual 79, 3) := by decide +kernel
theorem dX11_text_12 : decode cX11_text 12 = .ok (.ireturn, 1) := by decide +kernel
theorem dX11_put_0 : decode cX11_put 0 = .ok (.aload_n 0, 1) := by decide +kernel
theorem dX11_put_1 : decode cX11_put 1 = .ok (.aload_n 0, 1) := by decide +kernel
theorem dX11_put_2 : decode cX11_put 2 = .ok (.getfield 15, 3) := by decide +kernel
theorem dX11_put_5 : decode cX11_put 5 = .ok (.iload_n 1, 1) := by decide +kernel
theorem dX11_put_6 : decode cX11_put 6 = .ok (.iload_n 2, 1) := by decide +kernel
theorem dX11_put_7 : decode cX11_put 7 = .ok (.invokevirtual 83, 3) := by decide +kernel
theorem dX11_put_10 : decode cX11_put 10 = .ok (.istore 4, 2) := by decide +kernel
theorem dX11_put_12 : decode cX11_put 12 = .ok (.iload 4, 2) := by decide +kernel
theorem dX11_put_14 : decode cX11_put 14 = .ok (.ifCond .eq 8, 3) := by decide +kernel
theorem dX11_put_17 : decode cX11_put 17 = .ok (.iload 4, 2) := by decide +kernel
theorem dX11_put_19 : decode cX11_put 19 = .ok (.goto 19, 3) := by decide +kernel
theorem dX11_put_22 : decode cX11_put 22 = .ok (.sipush 1000, 3) := by decide +kernel
theorem dX11_put_25 : decode cX11_put 25 = .ok (.aload_n 0, 1) := by decide +kernel
theorem dX11_put_26 : decode cX11_put 26 = .ok (.getfield 15, 3) := by decide +kernel
theorem dX11_put_29 : decode cX11_put 29 = .ok (.iload_n 1, 1) := by decide +kernel
theorem dX11_put_30 : decode cX11_put 30 = .ok (.aaload, 1) := by decide +kernel
theorem dX11_put_31 : decode cX11_put 31 = .ok (.iload_n 2, 1) := by decide +kernel
theorem dX11_put_32 : decode cX11_put 32 = .ok (.iload_n 3, 1) := by decide +kernel
theorem dX11_put_33 : decode cX11_put 33 = .ok (.i2b, 1) := by decide +kernel
theorem dX11_put_34 : decode cX11_put 34 = .ok (.invokevirtual 87, 3) := by decide +kernel
theorem dX11_put_37 : decode cX11_put 37 = .ok (.iadd, 1) := by decide +kernel
theorem dX11_put_38 : decode cX11_put 38 = .ok (.ireturn, 1) := by decide +kernel
theorem dX11_fault_0 : decode cX11_fault 0 = .ok (.aload_n 0, 1) := by decide +kernel
theorem dX11_fault_1 : decode cX11_fault 1 = .ok (.aload_n 0, 1) := by decide +kernel
theorem dX11_fault_2 : decode cX11_fault 2 = .ok (.getfield 15, 3) := by decide +kernel
theorem dX11_fault_5 : decode cX11_fault 5 = .ok (.iload_n 1, 1) := by decide +kernel
theorem dX11_fault_6 : decode cX11_fault 6 = .ok (.invokevirtual 98, 3) := by decide +kernel
theorem dX11_fault_9 : decode cX11_fault 9 = .ok (.istore_n 2, 1) := by decide +kernel
theorem dX11_fault_10 : decode cX11_fault 10 = .ok (.iload_n 2, 1) := by decide +kernel
theorem dX11_fault_11 : decode cX11_fault 11 = .ok (.ifCond .eq 7, 3) := by decide +kernel
theorem dX11_fault_14 : decode cX11_fault 14 = .ok (.iload_n 2, 1) := by decide +kernel
theorem dX11_fault_15 : decode cX11_fault 15 = .ok (.goto 16, 3) := by decide +kernel
theorem dX11_fault_18 : decode cX11_fault 18 = .ok (.aload_n 0, 1) := by decide +kernel
theorem dX11_fault_19 : decode cX11_fault 19 = .ok (.getfield 36, 3) := by decide +kernel
theorem dX11_fault_22 : decode cX11_fault 22 = .ok (.aload_n 0, 1) := by decide +kernel
theorem dX11_fault_23 : decode cX11_fault 23 = .ok (.getfield 15, 3) := by decide +kernel
theorem dX11_fault_26 : decode cX11_fault 26 = .ok (.iload_n 1, 1) := by decide +kernel
theorem dX11_fault_27 : decode cX11_fault 27 = .ok (.aaload, 1) := by decide +kernel
theorem dX11_fault_28 : decode cX11_fault 28 = .ok (.invokevirtual 133, 3) := by decide +kernel
theorem dX11_fault_31 : decode cX11_fault 31 = .ok (.ireturn, 1) := by decide +kernel
theorem dX11_hall_0 : decode cX11_hall 0 = .ok (.aload_n 0, 1) := by decide +kernel
theorem dX11_hall_1 : decode cX11_hall 1 = .ok (.aload_n 0, 1) := by decide +kernel
theorem dX11_hall_2 : decode cX11_hall 2 = .ok (.getfield 15, 3) := by decide +kernel
theorem dX11_hall_5 : decode cX11_hall 5 = .ok (.iload_n 1, 1) := by decide +kernel
theorem dX11_hall_6 : decode cX11_hall 6 = .ok (.invokevirtual 98, 3) := by decide +kernel
theorem dX11_hall_9 : decode cX11_hall 9 = .ok (.istore_n 2, 1) := by decide +kernel
theorem dX11_hall_10 : decode cX11_hall 10 = .ok (.iload_n 2, 1) := by decide +kernel
theorem dX11_hall_11 : decode cX11_hall 11 = .ok (.ifCond .eq 5, 3) := by decide +kernel
theorem dX11_hall_14 : decode cX11_hall 14 = .ok (.iload_n 2, 1) := by decide +kernel
theorem dX11_hall_15 : decode cX11_hall 15 = .ok (.ireturn, 1) := by decide +kernel
theorem dX11_hall_16 : decode cX11_hall 16 = .ok (.aload_n 0, 1) := by decide +kernel
theorem dX11_hall_17 : decode cX11_hall 17 = .ok (.getfield 36, 3) := by decide +kernel
theorem dX11_hall_20 : decode cX11_hall 20 = .ok (.aload_n 0, 1) := by decide +kernel
theorem dX11_hall_21 : decode cX11_hall 21 = .ok (.getfield 15, 3) := by decide +kernel
theorem dX11_hall_24 : decode cX11_hall 24 = .ok (.iload_n 1, 1) := by decide +kernel
theorem dX11_hall_25 : decode cX11_hall 25 = .ok (.aaload, 1) := by decide +kernel
theorem dX11_hall_26 : decode cX11_hall 26 = .ok (.invokevirtual 133, 3) := by decide +kernel
theorem dX11_hall_29 : decode cX11_hall 29 = .ok (.bipush (-9), 2) := by decide +kernel
theorem dX11_hall_31 : decode cX11_hall 31 = .ok (.if_icmp .eq 6, 3) := by decide +kernel
theorem dX11_hall_34 : decode cX11_hall 34 = .ok (.bipush (-4), 2) := by decide +kernel
theorem dX11_hall_36 : decode cX11_hall 36 = .ok (.ireturn, 1) := by decide +kernel
theorem dX11_hall_37 : decode cX11_hall 37 = .ok (.aload_n 0, 1) := by decide +kernel
theorem dX11_hall_38 : decode cX11_hall 38 = .ok (.getfield 21, 3) := by decide +kernel
theorem dX11_hall_41 : decode cX11_hall 41 = .ok (.aload_n 0, 1) := by decide +kernel
theorem dX11_hall_42 : decode cX11_hall 42 = .ok (.getfield 36, 3) := by decide +kernel
theorem dX11_hall_45 : decode cX11_hall 45 = .ok (.invokevirtual 137, 3) := by decide +kernel
theorem dX11_hall_48 : decode cX11_hall 48 = .ok (.aload_n 0, 1) := by decide +kernel
theorem dX11_hall_49 : decode cX11_hall 49 = .ok (.getfield 21, 3) := by decide +kernel
theorem dX11_hall_52 : decode cX11_hall 52 = .ok (.invokevirtual 141, 3) := by decide +kernel
theorem dX11_hall_55 : decode cX11_hall 55 = .ok (.iconst 0, 1) := by decide +kernel
theorem dX11_hall_56 : decode cX11_hall 56 = .ok (.istore_n 3, 1) := by decide +kernel
theorem dX11_hall_57 : decode cX11_hall 57 = .ok (.iload_n 3, 1) := by decide +kernel
theorem dX11_hall_58 : decode cX11_hall 58 = .ok (.iconst 3, 1) := by decide +kernel
theorem dX11_hall_59 : decode cX11_hall 59 = .ok (.if_icmp .ge 18, 3) := by decide +kernel
theorem dX11_hall_62 : decode cX11_hall 62 = .ok (.aload_n 0, 1) := by decide +kernel
theorem dX11_hall_63 : decode cX11_hall 63 = .ok (.getfield 25, 3) := by decide +kernel
theorem dX11_hall_66 : decode cX11_hall 66 = .ok (.iload_n 3, 1) := by decide +kernel
theorem dX11_hall_67 : decode cX11_hall 67 = .ok (.aaload, 1) := by decide +kernel
theorem dX11_hall_68 : decode cX11_hall 68 = .ok (.invokevirtual 102, 3) := by decide +kernel
theorem dX11_hall_71 : decode cX11_hall 71 = .ok (.iinc 3 1, 3) := by decide +kernel
theorem dX11_hall_74 : decode cX11_hall 74 = .ok (.goto (-17), 3) := by decide +kernel
theorem dX11_hall_77 : decode cX11_hall 77 = .ok (.aload_n 0, 1) := by decide +kernel
theorem dX11_hall_78 : decode cX11_hall 78 = .ok (.getfield 21, 3) := by decide +kernel
theorem dX11_hall_81 : decode cX11_hall 81 = .ok (.getfield 144, 3) := by decide +kernel
theorem dX11_hall_84 : decode cX11_hall 84 = .ok (.ireturn, 1) := by decide +kernel
theorem dX11_guild_0 : decode cX11_guild 0 = .ok (.aload_n 0, 1) := by decide +kernel
theorem dX11_guild_1 : decode cX11_guild 1 = .ok (.getfield 21, 3) := by decide +kernel
theorem dX11_guild_4 : decode cX11_guild 4 = .ok (.iload_n 1, 1) := by decide +kernel
theorem dX11_guild_5 : decode cX11_guild 5 = .ok (.invokevirtual 147, 3) := by decide +kernel
theorem dX11_guild_8 : decode cX11_guild 8 = .ok (.ifCond .eq 12, 3) := by decide +kernel
theorem dX11_guild_11 : decode cX11_guild 11 = .ok (.iload_n 2, 1) := by decide +kernel
theorem dX11_guild_12 : decode cX11_guild 12 = .ok (.ifCond .lt 8, 3) := by decide +kernel
theorem dX11_guild_15 : decode cX11_guild 15 = .ok (.iload_n 2, 1) := by decide +kernel
theorem dX11_guild_16 : decode cX11_guild 16 = .ok (.iconst 4, 1) := by decide +kernel
theorem dX11_guild_17 : decode cX11_guild 17 = .ok (.if_icmp .le 5, 3) := by decide +kernel
theorem dX11_guild_20 : decode cX11_guild 20 = .ok (.iconst (-1), 1) := by decide +kernel
theorem dX11_guild_21 : decode cX11_guild 21 = .ok (.ireturn, 1) := by decide +kernel
theorem dX11_guild_22 : decode cX11_guild 22 = .ok (.aload_n 0, 1) := by decide +kernel
theorem dX11_guild_23 : decode cX11_guild 23 = .ok (.aload_n 0, 1) := by decide +kernel
theorem dX11_guild_24 : decode cX11_guild 24 = .ok (.getfield 21, 3) := by decide +kernel
theorem dX11_guild_27 : decode cX11_guild 27 = .ok (.iload_n 1, 1) := by decide +kernel
theorem dX11_guild_28 : decode cX11_guild 28 = .ok (.iload_n 2, 1) := by decide +kernel
theorem dX11_guild_29 : decode cX11_guild 29 = .ok (.invokevirtual 151, 3) := by decide +kernel
theorem dX11_guild_32 : decode cX11_guild 32 = .ok (.invokevirtual 91, 3) := by decide +kernel
theorem dX11_guild_35 : decode cX11_guild 35 = .ok (.ireturn, 1) := by decide +kernel
theorem dX11_walk_0 : decode cX11_walk 0 = .ok (.aload_n 0, 1) := by decide +kernel
theorem dX11_walk_1 : decode cX11_walk 1 = .ok (.getfield 21, 3) := by decide +kernel
theorem dX11_walk_4 : decode cX11_walk 4 = .ok (.iload_n 1, 1) := by decide +kernel
theorem dX11_walk_5 : decode cX11_walk 5 = .ok (.invokevirtual 147, 3) := by decide +kernel
theorem dX11_walk_8 : decode cX11_walk 8 = .ok (.ifCond .ne 5, 3) := by decide +kernel
theorem dX11_walk_11 : decode cX11_walk 11 = .ok (.iconst (-1), 1) := by decide +kernel
theorem dX11_walk_12 : decode cX11_walk 12 = .ok (.ireturn, 1) := by decide +kernel
theorem dX11_walk_13 : decode cX11_walk 13 = .ok (.aload_n 0, 1) := by decide +kernel
theorem dX11_walk_14 : decode cX11_walk 14 = .ok (.getfield 21, 3) := by decide +kernel
theorem dX11_walk_17 : decode cX11_walk 17 = .ok (.iconst 1, 1) := by decide +kernel
theorem dX11_walk_18 : decode cX11_walk 18 = .ok (.invokevirtual 195, 3) := by decide +kernel
theorem dX11_walk_21 : decode cX11_walk 21 = .ok (.ifCond .ne 6, 3) := by decide +kernel
theorem dX11_walk_24 : decode cX11_walk 24 = .ok (.bipush (-2), 2) := by decide +kernel
theorem dX11_walk_26 : decode cX11_walk 26 = .ok (.ireturn, 1) := by decide +kernel
theorem dX11_walk_27 : decode cX11_walk 27 = .ok (.aload_n 0, 1) := by decide +kernel
theorem dX11_walk_28 : decode cX11_walk 28 = .ok (.getfield 21, 3) := by decide +kernel
theorem dX11_walk_31 : decode cX11_walk 31 = .ok (.iload_n 1, 1) := by decide +kernel
theorem dX11_walk_32 : decode cX11_walk 32 = .ok (.invokevirtual 198, 3) := by decide +kernel
theorem dX11_walk_35 : decode cX11_walk 35 = .ok (.aload_n 0, 1) := by decide +kernel
theorem dX11_walk_36 : decode cX11_walk 36 = .ok (.getfield 21, 3) := by decide +kernel
theorem dX11_walk_39 : decode cX11_walk 39 = .ok (.getfield 201, 3) := by decide +kernel
theorem dX11_walk_42 : decode cX11_walk 42 = .ok (.ireturn, 1) := by decide +kernel
theorem dX11_floor_0 : decode cX11_floor 0 = .ok (.iload_n 1, 1) := by decide +kernel
theorem dX11_floor_1 : decode cX11_floor 1 = .ok (.ifCond .lt 8, 3) := by decide +kernel
theorem dX11_floor_4 : decode cX11_floor 4 = .ok (.iload_n 1, 1) := by decide +kernel
theorem dX11_floor_5 : decode cX11_floor 5 = .ok (.iconst 2, 1) := by decide +kernel
theorem dX11_floor_6 : decode cX11_floor 6 = .ok (.if_icmp .le 5, 3) := by decide +kernel
theorem dX11_floor_9 : decode cX11_floor 9 = .ok (.iconst (-1), 1) := by decide +kernel
theorem dX11_floor_10 : decode cX11_floor 10 = .ok (.ireturn, 1) := by decide +kernel
theorem dX11_floor_11 : decode cX11_floor 11 = .ok (.aload_n 0, 1) := by decide +kernel
theorem dX11_floor_12 : decode cX11_floor 12 = .ok (.getfield 21, 3) := by decide +kernel
theorem dX11_floor_15 : decode cX11_floor 15 = .ok (.invokevirtual 204, 3) := by decide +kernel
theorem dX11_floor_18 : decode cX11_floor 18 = .ok (.ifCond .ne 14, 3) := by decide +kernel
theorem dX11_floor_21 : decode cX11_floor 21 = .ok (.aload_n 0, 1) := by decide +kernel
theorem dX11_floor_22 : decode cX11_floor 22 = .ok (.getfield 21, 3) := by decide +kernel
theorem dX11_floor_25 : decode cX11_floor 25 = .ok (.getfield 207, 3) := by decide +kernel
theorem dX11_floor_28 : decode cX11_floor 28 = .ok (.iload_n 1, 1) := by decide +kernel
theorem dX11_floor_29 : decode cX11_floor 29 = .ok (.if_icmp .ne 6, 3) := by decide +kernel
theorem dX11_floor_32 : decode cX11_floor 32 = .ok (.bipush (-4), 2) := by decide +kernel
theorem dX11_floor_34 : decode cX11_floor 34 = .ok (.ireturn, 1) := by decide +kernel
theorem dX11_floor_35 : decode cX11_floor 35 = .ok (.aload_n 0, 1) := by decide +kernel
theorem dX11_floor_36 : decode cX11_floor 36 = .ok (.getfield 21, 3) := by decide +kernel
theorem dX11_floor_39 : decode cX11_floor 39 = .ok (.iconst 1, 1) := by decide +kernel
theorem dX11_floor_40 : decode cX11_floor 40 = .ok (.invokevirtual 195, 3) := by decide +kernel
theorem dX11_floor_43 : decode cX11_floor 43 = .ok (.ifCond .ne 6, 3) := by decide +kernel
theorem dX11_floor_46 : decode cX11_floor 46 = .ok (.bipush (-2), 2) := by decide +kernel
theorem dX11_floor_48 : decode cX11_floor 48 = .ok (.ireturn, 1) := by decide +kernel
theorem dX11_floor_49 : decode cX11_floor 49 = .ok (.aload_n 0, 1) := by decide +kernel
theorem dX11_floor_50 : decode cX11_floor 50 = .ok (.getfield 21, 3) := by decide +kernel
theorem dX11_floor_53 : decode cX11_floor 53 = .ok (.getfield 207, 3) := by decide +kernel
theorem dX11_floor_56 : decode cX11_floor 56 = .ok (.istore_n 2, 1) := by decide +kernel
theorem dX11_floor_57 : decode cX11_floor 57 = .ok (.aload_n 0, 1) := by decide +kernel
theorem dX11_floor_58 : decode cX11_floor 58 = .ok (.getfield 21, 3) := by decide +kernel
theorem dX11_floor_61 : decode cX11_floor 61 = .ok (.bipush 6, 2) := by decide +kernel
theorem dX11_floor_63 : decode cX11_floor 63 = .ok (.iload_n 1, 1) := by decide +kernel
theorem dX11_floor_64 : decode cX11_floor 64 = .ok (.iadd, 1) := by decide +kernel
theorem dX11_floor_65 : decode cX11_floor 65 = .ok (.invokevirtual 198, 3) := by decide +kernel
theorem dX11_floor_68 : decode cX11_floor 68 = .ok (.iload_n 2, 1) := by decide +kernel
theorem dX11_floor_69 : decode cX11_floor 69 = .ok (.ireturn, 1) := by decide +kernel
theorem dX11_undo_0 : decode cX11_undo 0 = .ok (.iload_n 1, 1) := by decide +kernel
theorem dX11_undo_1 : decode cX11_undo 1 = .ok (.ifCond .lt 17, 3) := by decide +kernel
theorem dX11_undo_4 : decode cX11_undo 4 = .ok (.iload_n 1, 1) := by decide +kernel
theorem dX11_undo_5 : decode cX11_undo 5 = .ok (.aload_n 0, 1) := by decide +kernel
theorem dX11_undo_6 : decode cX11_undo 6 = .ok (.getfield 21, 3) := by decide +kernel
theorem dX11_undo_9 : decode cX11_undo 9 = .ok (.getfield 187, 3) := by decide +kernel
theorem dX11_undo_12 : decode cX11_undo 12 = .ok (.getfield 126, 3) := by decide +kernel
theorem dX11_undo_15 : decode cX11_undo 15 = .ok (.if_icmp .le 5, 3) := by decide +kernel
theorem dX11_undo_18 : decode cX11_undo 18 = .ok (.iconst (-1), 1) := by decide +kernel
theorem dX11_undo_19 : decode cX11_undo 19 = .ok (.ireturn, 1) := by decide +kernel
theorem dX11_undo_20 : decode cX11_undo 20 = .ok (.aload_n 0, 1) := by decide +kernel
theorem dX11_undo_21 : decode cX11_undo 21 = .ok (.getfield 21, 3) := by decide +kernel
theorem dX11_undo_24 : decode cX11_undo 24 = .ok (.getfield 187, 3) := by decide +kernel
theorem dX11_undo_27 : decode cX11_undo 27 = .ok (.getfield 126, 3) := by decide +kernel
theorem dX11_undo_30 : decode cX11_undo 30 = .ok (.iload_n 1, 1) := by decide +kernel
theorem dX11_undo_31 : decode cX11_undo 31 = .ok (.isub, 1) := by decide +kernel
theorem dX11_undo_32 : decode cX11_undo 32 = .ok (.istore_n 2, 1) := by decide +kernel
theorem dX11_undo_33 : decode cX11_undo 33 = .ok (.aload_n 0, 1) := by decide +kernel
theorem dX11_undo_34 : decode cX11_undo 34 = .ok (.getfield 21, 3) := by decide +kernel
theorem dX11_undo_37 : decode cX11_undo 37 = .ok (.getfield 187, 3) := by decide +kernel
theorem dX11_undo_40 : decode cX11_undo 40 = .ok (.iload_n 1, 1) := by decide +kernel
theorem dX11_undo_41 : decode cX11_undo 41 = .ok (.putfield 126, 3) := by decide +kernel
theorem dX11_undo_44 : decode cX11_undo 44 = .ok (.aload_n 0, 1) := by decide +kernel
theorem dX11_undo_45 : decode cX11_undo 45 = .ok (.getfield 21, 3) := by decide +kernel
theorem dX11_undo_48 : decode cX11_undo 48 = .ok (.invokevirtual 141, 3) := by decide +kernel
theorem dX11_undo_51 : decode cX11_undo 51 = .ok (.iload_n 2, 1) := by decide +kernel
theorem dX11_undo_52 : decode cX11_undo 52 = .ok (.ireturn, 1) := by decide +kernel
theorem dX11_keep_0 : decode cX11_keep 0 = .ok (.aload_n 0, 1) := by decide +kernel
theorem dX11_keep_1 : decode cX11_keep 1 = .ok (.getfield 25, 3) := by decide +kernel
theorem dX11_keep_4 : decode cX11_keep 4 = .ok (.iload_n 1, 1) := by decide +kernel
theorem dX11_keep_5 : decode cX11_keep 5 = .ok (.invokestatic 105, 3) := by decide +kernel
theorem dX11_keep_8 : decode cX11_keep 8 = .ok (.ifCond .ne 5, 3) := by decide +kernel
theorem dX11_keep_11 : decode cX11_keep 11 = .ok (.iconst (-1), 1) := by decide +kernel
theorem dX11_keep_12 : decode cX11_keep 12 = .ok (.ireturn, 1) := by decide +kernel
theorem dX11_keep_13 : decode cX11_keep 13 = .ok (.aload_n 0, 1) := by decide +kernel
theorem dX11_keep_14 : decode cX11_keep 14 = .ok (.getfield 21, 3) := by decide +kernel
theorem dX11_keep_17 : decode cX11_keep 17 = .ok (.invokevirtual 204, 3) := by decide +kernel
theorem dX11_keep_20 : decode cX11_keep 20 = .ok (.ifCond .eq 6, 3) := by decide +kernel
theorem dX11_keep_23 : decode cX11_keep 23 = .ok (.bipush (-4), 2) := by decide +kernel
theorem dX11_keep_25 : decode cX11_keep 25 = .ok (.ireturn, 1) := by decide +kernel
theorem dX11_keep_26 : decode cX11_keep 26 = .ok (.aload_n 0, 1) := by decide +kernel
theorem dX11_keep_27 : decode cX11_keep 27 = .ok (.getfield 21, 3) := by decide +kernel
theorem dX11_keep_30 : decode cX11_keep 30 = .ok (.aload_n 0, 1) := by decide +kernel
theorem dX11_keep_31 : decode cX11_keep 31 = .ok (.getfield 30, 3) := by decide +kernel
theorem dX11_keep_34 : decode cX11_keep 34 = .ok (.iload_n 1, 1) := by decide +kernel
theorem dX11_keep_35 : decode cX11_keep 35 = .ok (.aaload, 1) := by decide +kernel
theorem dX11_keep_36 : decode cX11_keep 36 = .ok (.invokevirtual 210, 3) := by decide +kernel
theorem dX11_keep_39 : decode cX11_keep 39 = .ok (.aload_n 0, 1) := by decide +kernel
theorem dX11_keep_40 : decode cX11_keep 40 = .ok (.getfield 25, 3) := by decide +kernel
theorem dX11_keep_43 : decode cX11_keep 43 = .ok (.iload_n 1, 1) := by decide +kernel
theorem dX11_keep_44 : decode cX11_keep 44 = .ok (.aaload, 1) := by decide +kernel
theorem dX11_keep_45 : decode cX11_keep 45 = .ok (.aload_n 0, 1) := by decide +kernel
theorem dX11_keep_46 : decode cX11_keep 46 = .ok (.getfield 21, 3) := by decide +kernel
theorem dX11_keep_49 : decode cX11_keep 49 = .ok (.getfield 187, 3) := by decide +kernel
theorem dX11_keep_52 : decode cX11_keep 52 = .ok (.invokevirtual 214, 3) := by decide +kernel
theorem dX11_keep_55 : decode cX11_keep 55 = .ok (.aload_n 0, 1) := by decide +kernel
theorem dX11_keep_56 : decode cX11_keep 56 = .ok (.getfield 21, 3) := by decide +kernel
theorem dX11_keep_59 : decode cX11_keep 59 = .ok (.getfield 187, 3) := by decide +kernel
theorem dX11_keep_62 : decode cX11_keep 62 = .ok (.getfield 126, 3) := by decide +kernel
theorem dX11_keep_65 : decode cX11_keep 65 = .ok (.ireturn, 1) := by decide +kernel
theorem dX11_hour_0 : decode cX11_hour 0 = .ok (.aload_n 0, 1) := by decide +kernel
theorem dX11_hour_1 : decode cX11_hour 1 = .ok (.getfield 21, 3) := by decide +kernel
theorem dX11_hour_4 : decode cX11_hour 4 = .ok (.invokevirtual 204, 3) := by decide +kernel
theorem dX11_hour_7 : decode cX11_hour 7 = .ok (.ifCond .eq 6, 3) := by decide +kernel
theorem dX11_hour_10 : decode cX11_hour 10 = .ok (.bipush (-4), 2) := by decide +kernel
theorem dX11_hour_12 : decode cX11_hour 12 = .ok (.ireturn, 1) := by decide +kernel
theorem dX11_hour_13 : decode cX11_hour 13 = .ok (.aload_n 0, 1) := by decide +kernel
theorem dX11_hour_14 : decode cX11_hour 14 = .ok (.aload_n 0, 1) := by decide +kernel
theorem dX11_hour_15 : decode cX11_hour 15 = .ok (.getfield 21, 3) := by decide +kernel
theorem dX11_hour_18 : decode cX11_hour 18 = .ok (.getfield 221, 3) := by decide +kernel
theorem dX11_hour_21 : decode cX11_hour 21 = .ok (.putfield 69, 3) := by decide +kernel
theorem dX11_hour_24 : decode cX11_hour 24 = .ok (.aload_n 0, 1) := by decide +kernel
theorem dX11_hour_25 : decode cX11_hour 25 = .ok (.getfield 21, 3) := by decide +kernel
theorem dX11_hour_28 : decode cX11_hour 28 = .ok (.bipush 12, 2) := by decide +kernel
theorem dX11_hour_30 : decode cX11_hour 30 = .ok (.aload_n 0, 1) := by decide +kernel
theorem dX11_hour_31 : decode cX11_hour 31 = .ok (.getfield 21, 3) := by decide +kernel
theorem dX11_hour_34 : decode cX11_hour 34 = .ok (.getfield 201, 3) := by decide +kernel
theorem dX11_hour_37 : decode cX11_hour 37 = .ok (.imul, 1) := by decide +kernel
theorem dX11_hour_38 : decode cX11_hour 38 = .ok (.invokevirtual 224, 3) := by decide +kernel
theorem dX11_hour_41 : decode cX11_hour 41 = .ok (.ireturn, 1) := by decide +kernel
theorem dX11_due_0 : decode cX11_due 0 = .ok (.aload_n 0, 1) := by decide +kernel
theorem dX11_due_1 : decode cX11_due 1 = .ok (.aload_n 0, 1) := by decide +kernel
theorem dX11_due_2 : decode cX11_due 2 = .ok (.getfield 21, 3) := by decide +kernel
theorem dX11_due_5 : decode cX11_due 5 = .ok (.aload_n 0, 1) := by decide +kernel
theorem dX11_due_6 : decode cX11_due 6 = .ok (.getfield 21, 3) := by decide +kernel
theorem dX11_due_9 : decode cX11_due 9 = .ok (.getfield 201, 3) := by decide +kernel
theorem dX11_due_12 : decode cX11_due 12 = .ok (.invokevirtual 227, 3) := by decide +kernel
theorem dX11_due_15 : decode cX11_due 15 = .ok (.ifCond .eq 7, 3) := by decide +kernel
theorem dX11_due_18 : decode cX11_due 18 = .ok (.iconst 1, 1) := by decide +kernel
theorem dX11_due_19 : decode cX11_due 19 = .ok (.goto 4, 3) := by decide +kernel
theorem dX11_due_22 : decode cX11_due 22 = .ok (.iconst 0, 1) := by decide +kernel
theorem dX11_due_23 : decode cX11_due 23 = .ok (.putfield 69, 3) := by decide +kernel
theorem dX11_due_26 : decode cX11_due 26 = .ok (.aload_n 0, 1) := by decide +kernel
theorem dX11_due_27 : decode cX11_due 27 = .ok (.getfield 21, 3) := by decide +kernel
theorem dX11_due_30 : decode cX11_due 30 = .ok (.getfield 230, 3) := by decide +kernel
theorem dX11_due_33 : decode cX11_due 33 = .ok (.ireturn, 1) := by decide +kernel
theorem dX11_pace_0 : decode cX11_pace 0 = .ok (.aload_n 0, 1) := by decide +kernel
theorem dX11_pace_1 : decode cX11_pace 1 = .ok (.getfield 21, 3) := by decide +kernel
theorem dX11_pace_4 : decode cX11_pace 4 = .ok (.getfield 243, 3) := by decide +kernel
theorem dX11_pace_7 : decode cX11_pace 7 = .ok (.ifCond .ne 9, 3) := by decide +kernel
theorem dX11_pace_10 : decode cX11_pace 10 = .ok (.aload_n 0, 1) := by decide +kernel
theorem dX11_pace_11 : decode cX11_pace 11 = .ok (.iconst 4, 1) := by decide +kernel
theorem dX11_pace_12 : decode cX11_pace 12 = .ok (.invokevirtual 109, 3) := by decide +kernel
theorem dX11_pace_15 : decode cX11_pace 15 = .ok (.ireturn, 1) := by decide +kernel
theorem dX11_pace_16 : decode cX11_pace 16 = .ok (.aload_n 0, 1) := by decide +kernel
theorem dX11_pace_17 : decode cX11_pace 17 = .ok (.aload_n 0, 1) := by decide +kernel
theorem dX11_pace_18 : decode cX11_pace 18 = .ok (.getfield 21, 3) := by decide +kernel
theorem dX11_pace_21 : decode cX11_pace 21 = .ok (.getfield 246, 3) := by decide +kernel
theorem dX11_pace_24 : decode cX11_pace 24 = .ok (.i2l, 1) := by decide +kernel
theorem dX11_pace_25 : decode cX11_pace 25 = .ok (.aload_n 0, 1) := by decide +kernel
theorem dX11_pace_26 : decode cX11_pace 26 = .ok (.getfield 21, 3) := by decide +kernel
theorem dX11_pace_29 : decode cX11_pace 29 = .ok (.getfield 243, 3) := by decide +kernel
theorem dX11_pace_32 : decode cX11_pace 32 = .ok (.i2l, 1) := by decide +kernel
theorem dX11_pace_33 : decode cX11_pace 33 = .ok (.invokevirtual 249, 3) := by decide +kernel
theorem dX11_pace_36 : decode cX11_pace 36 = .ok (.ireturn, 1) := by decide +kernel
theorem dX11_order_0 : decode cX11_order 0 = .ok (.aload_n 0, 1) := by decide +kernel
theorem dX11_order_1 : decode cX11_order 1 = .ok (.getfield 21, 3) := by decide +kernel
theorem dX11_order_4 : decode cX11_order 4 = .ok (.iload_n 1, 1) := by decide +kernel
theorem dX11_order_5 : decode cX11_order 5 = .ok (.invokevirtual 147, 3) := by decide +kernel
theorem dX11_order_8 : decode cX11_order 8 = .ok (.ifCond .eq 25, 3) := by decide +kernel
theorem dX11_order_11 : decode cX11_order 11 = .ok (.aload_n 0, 1) := by decide +kernel
theorem dX11_order_12 : decode cX11_order 12 = .ok (.getfield 21, 3) := by decide +kernel
theorem dX11_order_15 : decode cX11_order 15 = .ok (.iload_n 2, 1) := by decide +kernel
theorem dX11_order_16 : decode cX11_order 16 = .ok (.invokevirtual 253, 3) := by decide +kernel
theorem dX11_order_19 : decode cX11_order 19 = .ok (.ifCond .eq 14, 3) := by decide +kernel
theorem dX11_order_22 : decode cX11_order 22 = .ok (.aload_n 0, 1) := by decide +kernel
theorem dX11_order_23 : decode cX11_order 23 = .ok (.getfield 11, 3) := by decide +kernel
theorem dX11_order_26 : decode cX11_order 26 = .ok (.iload_n 3, 1) := by decide +kernel
theorem dX11_order_27 : decode cX11_order 27 = .ok (.invokestatic 105, 3) := by decide +kernel
theorem dX11_order_30 : decode cX11_order 30 = .ok (.ifCond .ne 5, 3) := by decide +kernel
theorem dX11_order_33 : decode cX11_order 33 = .ok (.iconst (-1), 1) := by decide +kernel
theorem dX11_order_34 : decode cX11_order 34 = .ok (.ireturn, 1) := by decide +kernel
theorem dX11_order_35 : decode cX11_order 35 = .ok (.aload_n 0, 1) := by decide +kernel
theorem dX11_order_36 : decode cX11_order 36 = .ok (.getfield 43, 3) := by decide +kernel
theorem dX11_order_39 : decode cX11_order 39 = .ok (.aload_n 0, 1) := by decide +kernel
theorem dX11_order_40 : decode cX11_order 40 = .ok (.getfield 21, 3) := by decide +kernel
theorem dX11_order_43 : decode cX11_order 43 = .ok (.invokevirtual 256, 3) := by decide +kernel
theorem dX11_order_46 : decode cX11_order 46 = .ok (.aload_n 0, 1) := by decide +kernel
theorem dX11_order_47 : decode cX11_order 47 = .ok (.getfield 43, 3) := by decide +kernel
theorem dX11_order_50 : decode cX11_order 50 = .ok (.iload_n 1, 1) := by decide +kernel
theorem dX11_order_51 : decode cX11_order 51 = .ok (.iload_n 2, 1) := by decide +kernel
theorem dX11_order_52 : decode cX11_order 52 = .ok (.invokevirtual 260, 3) := by decide +kernel
theorem dX11_order_55 : decode cX11_order 55 = .ok (.aload_n 0, 1) := by decide +kernel
theorem dX11_order_56 : decode cX11_order 56 = .ok (.getfield 43, 3) := by decide +kernel
theorem dX11_order_59 : decode cX11_order 59 = .ok (.invokevirtual 264, 3) := by decide +kernel
theorem dX11_order_62 : decode cX11_order 62 = .ok (.ifCond .le 6, 3) := by decide +kernel
theorem dX11_order_65 : decode cX11_order 65 = .ok (.bipush (-9), 2) := by decide +kernel
theorem dX11_order_67 : decode cX11_order 67 = .ok (.ireturn, 1) := by decide +kernel
theorem dX11_order_68 : decode cX11_order 68 = .ok (.aload_n 0, 1) := by decide +kernel
theorem dX11_order_69 : decode cX11_order 69 = .ok (.getfield 43, 3) := by decide +kernel
theorem dX11_order_72 : decode cX11_order 72 = .ok (.aload_n 0, 1) := by decide +kernel
theorem dX11_order_73 : decode cX11_order 73 = .ok (.getfield 11, 3) := by decide +kernel
theorem dX11_order_76 : decode cX11_order 76 = .ok (.iload_n 3, 1) := by decide +kernel
theorem dX11_order_77 : decode cX11_order 77 = .ok (.aaload, 1) := by decide +kernel
theorem dX11_order_78 : decode cX11_order 78 = .ok (.invokevirtual 267, 3) := by decide +kernel
theorem dX11_order_81 : decode cX11_order 81 = .ok (.aload_n 0, 1) := by decide +kernel
theorem dX11_order_82 : decode cX11_order 82 = .ok (.getfield 11, 3) := by decide +kernel
theorem dX11_order_85 : decode cX11_order 85 = .ok (.iload_n 3, 1) := by decide +kernel
theorem dX11_order_86 : decode cX11_order 86 = .ok (.aaload, 1) := by decide +kernel
theorem dX11_order_87 : decode cX11_order 87 = .ok (.iload_n 1, 1) := by decide +kernel
theorem dX11_order_88 : decode cX11_order 88 = .ok (.invokevirtual 270, 3) := by decide +kernel
theorem dX11_order_91 : decode cX11_order 91 = .ok (.ireturn, 1) := by decide +kernel
theorem dX11_quiet_0 : decode cX11_quiet 0 = .ok (.aload_n 0, 1) := by decide +kernel
theorem dX11_quiet_1 : decode cX11_quiet 1 = .ok (.getfield 21, 3) := by decide +kernel
theorem dX11_quiet_4 : decode cX11_quiet 4 = .ok (.invokevirtual 204, 3) := by decide +kernel
theorem dX11_quiet_7 : decode cX11_quiet 7 = .ok (.ifCond .eq 6, 3) := by decide +kernel
theorem dX11_quiet_10 : decode cX11_quiet 10 = .ok (.bipush (-4), 2) := by decide +kernel
theorem dX11_quiet_12 : decode cX11_quiet 12 = .ok (.ireturn, 1) := by decide +kernel
theorem dX11_quiet_13 : decode cX11_quiet 13 = .ok (.aload_n 0, 1) := by decide +kernel
theorem dX11_quiet_14 : decode cX11_quiet 14 = .ok (.getfield 43, 3) := by decide +kernel
theorem dX11_quiet_17 : decode cX11_quiet 17 = .ok (.aload_n 0, 1) := by decide +kernel
theorem dX11_quiet_18 : decode cX11_quiet 18 = .ok (.getfield 21, 3) := by decide +kernel
theorem dX11_quiet_21 : decode cX11_quiet 21 = .ok (.invokevirtual 256, 3) := by decide +kernel
theorem dX11_quiet_24 : decode cX11_quiet 24 = .ok (.aload_n 0, 1) := by decide +kernel
theorem dX11_quiet_25 : decode cX11_quiet 25 = .ok (.getfield 43, 3) := by decide +kernel
theorem dX11_quiet_28 : decode cX11_quiet 28 = .ok (.invokevirtual 273, 3) := by decide +kernel
theorem dX11_quiet_31 : decode cX11_quiet 31 = .ok (.istore_n 1, 1) := by decide +kernel
theorem dX11_quiet_32 : decode cX11_quiet 32 = .ok (.aload_n 0, 1) := by decide +kernel
theorem dX11_quiet_33 : decode cX11_quiet 33 = .ok (.aload_n 0, 1) := by decide +kernel
theorem dX11_quiet_34 : decode cX11_quiet 34 = .ok (.getfield 43, 3) := by decide +kernel
theorem dX11_quiet_37 : decode cX11_quiet 37 = .ok (.invokevirtual 276, 3) := by decide +kernel
theorem dX11_quiet_40 : decode cX11_quiet 40 = .ok (.putfield 69, 3) := by decide +kernel
theorem dX11_quiet_43 : decode cX11_quiet 43 = .ok (.aload_n 0, 1) := by decide +kernel
theorem dX11_quiet_44 : decode cX11_quiet 44 = .ok (.iload_n 1, 1) := by decide +kernel
theorem dX11_quiet_45 : decode cX11_quiet 45 = .ok (.i2l, 1) := by decide +kernel
theorem dX11_quiet_46 : decode cX11_quiet 46 = .ok (.lconst 1, 1) := by decide +kernel
theorem dX11_quiet_47 : decode cX11_quiet 47 = .ok (.invokevirtual 249, 3) := by decide +kernel
theorem dX11_quiet_50 : decode cX11_quiet 50 = .ok (.ireturn, 1) := by decide +kernel
theorem dX11_cheap_0 : decode cX11_cheap 0 = .ok (.aload_n 0, 1) := by decide +kernel
theorem dX11_cheap_1 : decode cX11_cheap 1 = .ok (.getfield 21, 3) := by decide +kernel
theorem dX11_cheap_4 : decode cX11_cheap 4 = .ok (.invokevirtual 204, 3) := by decide +kernel
theorem dX11_cheap_7 : decode cX11_cheap 7 = .ok (.ifCond .eq 6, 3) := by decide +kernel
theorem dX11_cheap_10 : decode cX11_cheap 10 = .ok (.bipush (-4), 2) := by decide +kernel
theorem dX11_cheap_12 : decode cX11_cheap 12 = .ok (.ireturn, 1) := by decide +kernel
theorem dX11_cheap_13 : decode cX11_cheap 13 = .ok (.aload_n 0, 1) := by decide +kernel
theorem dX11_cheap_14 : decode cX11_cheap 14 = .ok (.getfield 43, 3) := by decide +kernel
theorem dX11_cheap_17 : decode cX11_cheap 17 = .ok (.aload_n 0, 1) := by decide +kernel
theorem dX11_cheap_18 : decode cX11_cheap 18 = .ok (.getfield 21, 3) := by decide +kernel
theorem dX11_cheap_21 : decode cX11_cheap 21 = .ok (.invokevirtual 256, 3) := by decide +kernel
theorem dX11_cheap_24 : decode cX11_cheap 24 = .ok (.aload_n 0, 1) := by decide +kernel
theorem dX11_cheap_25 : decode cX11_cheap 25 = .ok (.getfield 43, 3) := by decide +kernel
theorem dX11_cheap_28 : decode cX11_cheap 28 = .ok (.iconst (-1), 1) := by decide +kernel
theorem dX11_cheap_29 : decode cX11_cheap 29 = .ok (.iconst 0, 1) := by decide +kernel
theorem dX11_cheap_30 : decode cX11_cheap 30 = .ok (.invokevirtual 260, 3) := by decide +kernel
theorem dX11_cheap_33 : decode cX11_cheap 33 = .ok (.aload_n 0, 1) := by decide +kernel
theorem dX11_cheap_34 : decode cX11_cheap 34 = .ok (.getfield 43, 3) := by decide +kernel
theorem dX11_cheap_37 : decode cX11_cheap 37 = .ok (.aload_n 0, 1) := by decide +kernel
theorem dX11_cheap_38 : decode cX11_cheap 38 = .ok (.getfield 50, 3) := by decide +kernel
theorem dX11_cheap_41 : decode cX11_cheap 41 = .ok (.invokevirtual 267, 3) := by decide +kernel
theorem dX11_cheap_44 : decode cX11_cheap 44 = .ok (.aload_n 0, 1) := by decide +kernel
theorem dX11_cheap_45 : decode cX11_cheap 45 = .ok (.iconst 0, 1) := by decide +kernel
theorem dX11_cheap_46 : decode cX11_cheap 46 = .ok (.putfield 69, 3) := by decide +kernel
theorem dX11_cheap_49 : decode cX11_cheap 49 = .ok (.iconst 0, 1) := by decide +kernel
theorem dX11_cheap_50 : decode cX11_cheap 50 = .ok (.istore_n 1, 1) := by decide +kernel
theorem dX11_cheap_51 : decode cX11_cheap 51 = .ok (.iload_n 1, 1) := by decide +kernel
theorem dX11_cheap_52 : decode cX11_cheap 52 = .ok (.aload_n 0, 1) := by decide +kernel
theorem dX11_cheap_53 : decode cX11_cheap 53 = .ok (.getfield 50, 3) := by decide +kernel
theorem dX11_cheap_56 : decode cX11_cheap 56 = .ok (.getfield 126, 3) := by decide +kernel
theorem dX11_cheap_59 : decode cX11_cheap 59 = .ok (.if_icmp .ge 30, 3) := by decide +kernel
theorem dX11_cheap_62 : decode cX11_cheap 62 = .ok (.aload_n 0, 1) := by decide +kernel
theorem dX11_cheap_63 : decode cX11_cheap 63 = .ok (.bipush 6, 2) := by decide +kernel
theorem dX11_cheap_65 : decode cX11_cheap 65 = .ok (.aload_n 0, 1) := by decide +kernel
theorem dX11_cheap_66 : decode cX11_cheap 66 = .ok (.getfield 69, 3) := by decide +kernel
theorem dX11_cheap_69 : decode cX11_cheap 69 = .ok (.imul, 1) := by decide +kernel
theorem dX11_cheap_70 : decode cX11_cheap 70 = .ok (.aload_n 0, 1) := by decide +kernel
theorem dX11_cheap_71 : decode cX11_cheap 71 = .ok (.getfield 50, 3) := by decide +kernel
theorem dX11_cheap_74 : decode cX11_cheap 74 = .ok (.getfield 95, 3) := by decide +kernel
theorem dX11_cheap_77 : decode cX11_cheap 77 = .ok (.iload_n 1, 1) := by decide +kernel
theorem dX11_cheap_78 : decode cX11_cheap 78 = .ok (.iaload, 1) := by decide +kernel
theorem dX11_cheap_79 : decode cX11_cheap 79 = .ok (.iadd, 1) := by decide +kernel
theorem dX11_cheap_80 : decode cX11_cheap 80 = .ok (.putfield 69, 3) := by decide +kernel
theorem dX11_cheap_83 : decode cX11_cheap 83 = .ok (.iinc 1 1, 3) := by decide +kernel
theorem dX11_cheap_86 : decode cX11_cheap 86 = .ok (.goto (-35), 3) := by decide +kernel
theorem dX11_cheap_89 : decode cX11_cheap 89 = .ok (.aload_n 0, 1) := by decide +kernel
theorem dX11_cheap_90 : decode cX11_cheap 90 = .ok (.getfield 43, 3) := by decide +kernel
theorem dX11_cheap_93 : decode cX11_cheap 93 = .ok (.invokevirtual 264, 3) := by decide +kernel
theorem dX11_cheap_96 : decode cX11_cheap 96 = .ok (.ireturn, 1) := by decide +kernel
theorem dX11_fewest_0 : decode cX11_fewest 0 = .ok (.aload_n 0, 1) := by decide +kernel
theorem dX11_fewest_1 : decode cX11_fewest 1 = .ok (.getfield 21, 3) := by decide +kernel
theorem dX11_fewest_4 : decode cX11_fewest 4 = .ok (.iload_n 1, 1) := by decide +kernel
theorem dX11_fewest_5 : decode cX11_fewest 5 = .ok (.invokevirtual 253, 3) := by decide +kernel
theorem dX11_fewest_8 : decode cX11_fewest 8 = .ok (.ifCond .ne 5, 3) := by decide +kernel
theorem dX11_fewest_11 : decode cX11_fewest 11 = .ok (.iconst (-1), 1) := by decide +kernel
theorem dX11_fewest_12 : decode cX11_fewest 12 = .ok (.ireturn, 1) := by decide +kernel
theorem dX11_fewest_13 : decode cX11_fewest 13 = .ok (.aload_n 0, 1) := by decide +kernel
theorem dX11_fewest_14 : decode cX11_fewest 14 = .ok (.getfield 21, 3) := by decide +kernel
theorem dX11_fewest_17 : decode cX11_fewest 17 = .ok (.iload_n 1, 1) := by decide +kernel
theorem dX11_fewest_18 : decode cX11_fewest 18 = .ok (.invokevirtual 279, 3) := by decide +kernel
theorem dX11_fewest_21 : decode cX11_fewest 21 = .ok (.istore_n 2, 1) := by decide +kernel
theorem dX11_fewest_22 : decode cX11_fewest 22 = .ok (.aload_n 0, 1) := by decide +kernel
theorem dX11_fewest_23 : decode cX11_fewest 23 = .ok (.getfield 57, 3) := by decide +kernel
theorem dX11_fewest_26 : decode cX11_fewest 26 = .ok (.aload_n 0, 1) := by decide +kernel
theorem dX11_fewest_27 : decode cX11_fewest 27 = .ok (.getfield 21, 3) := by decide +kernel
theorem dX11_fewest_30 : decode cX11_fewest 30 = .ok (.iconst 0, 1) := by decide +kernel
theorem dX11_fewest_31 : decode cX11_fewest 31 = .ok (.invokevirtual 282, 3) := by decide +kernel
theorem dX11_fewest_34 : decode cX11_fewest 34 = .ok (.aload_n 0, 1) := by decide +kernel
theorem dX11_fewest_35 : decode cX11_fewest 35 = .ok (.getfield 57, 3) := by decide +kernel
theorem dX11_fewest_38 : decode cX11_fewest 38 = .ok (.iload_n 2, 1) := by decide +kernel
theorem dX11_fewest_39 : decode cX11_fewest 39 = .ok (.invokevirtual 286, 3) := by decide +kernel
theorem dX11_fewest_42 : decode cX11_fewest 42 = .ok (.istore_n 3, 1) := by decide +kernel
theorem dX11_fewest_43 : decode cX11_fewest 43 = .ok (.iload_n 3, 1) := by decide +kernel
theorem dX11_fewest_44 : decode cX11_fewest 44 = .ok (.bipush (-9), 2) := by decide +kernel
theorem dX11_fewest_46 : decode cX11_fewest 46 = .ok (.if_icmp .eq 19, 3) := by decide +kernel
theorem dX11_fewest_49 : decode cX11_fewest 49 = .ok (.aload_n 0, 1) := by decide +kernel
theorem dX11_fewest_50 : decode cX11_fewest 50 = .ok (.aload_n 0, 1) := by decide +kernel
theorem dX11_fewest_51 : decode cX11_fewest 51 = .ok (.getfield 57, 3) := by decide +kernel
theorem dX11_fewest_54 : decode cX11_fewest 54 = .ok (.aload_n 0, 1) := by decide +kernel
theorem dX11_fewest_55 : decode cX11_fewest 55 = .ok (.getfield 21, 3) := by decide +kernel
theorem dX11_fewest_58 : decode cX11_fewest 58 = .ok (.iload_n 2, 1) := by decide +kernel
theorem dX11_fewest_59 : decode cX11_fewest 59 = .ok (.invokevirtual 289, 3) := by decide +kernel
theorem dX11_fewest_62 : decode cX11_fewest 62 = .ok (.putfield 69, 3) := by decide +kernel
theorem dX11_fewest_65 : decode cX11_fewest 65 = .ok (.iload_n 3, 1) := by decide +kernel
theorem dX11_fewest_66 : decode cX11_fewest 66 = .ok (.ireturn, 1) := by decide +kernel
theorem dX11_feet_0 : decode cX11_feet 0 = .ok (.aload_n 0, 1) := by decide +kernel
theorem dX11_feet_1 : decode cX11_feet 1 = .ok (.getfield 21, 3) := by decide +kernel
theorem dX11_feet_4 : decode cX11_feet 4 = .ok (.iload_n 1, 1) := by decide +kernel
theorem dX11_feet_5 : decode cX11_feet 5 = .ok (.invokevirtual 253, 3) := by decide +kernel
theorem dX11_feet_8 : decode cX11_feet 8 = .ok (.ifCond .ne 5, 3) := by decide +kernel
theorem dX11_feet_11 : decode cX11_feet 11 = .ok (.iconst (-1), 1) := by decide +kernel
theorem dX11_feet_12 : decode cX11_feet 12 = .ok (.ireturn, 1) := by decide +kernel
theorem dX11_feet_13 : decode cX11_feet 13 = .ok (.aload_n 0, 1) := by decide +kernel
theorem dX11_feet_14 : decode cX11_feet 14 = .ok (.getfield 57, 3) := by decide +kernel
theorem dX11_feet_17 : decode cX11_feet 17 = .ok (.aload_n 0, 1) := by decide +kernel
theorem dX11_feet_18 : decode cX11_feet 18 = .ok (.getfield 21, 3) := by decide +kernel
theorem dX11_feet_21 : decode cX11_feet 21 = .ok (.iconst 1, 1) := by decide +kernel
theorem dX11_feet_22 : decode cX11_feet 22 = .ok (.invokevirtual 282, 3) := by decide +kernel
theorem dX11_feet_25 : decode cX11_feet 25 = .ok (.aload_n 0, 1) := by decide +kernel
theorem dX11_feet_26 : decode cX11_feet 26 = .ok (.getfield 57, 3) := by decide +kernel
theorem dX11_feet_29 : decode cX11_feet 29 = .ok (.aload_n 0, 1) := by decide +kernel
theorem dX11_feet_30 : decode cX11_feet 30 = .ok (.getfield 21, 3) := by decide +kernel
theorem dX11_feet_33 : decode cX11_feet 33 = .ok (.iload_n 1, 1) := by decide +kernel
theorem dX11_feet_34 : decode cX11_feet 34 = .ok (.invokevirtual 279, 3) := by decide +kernel
theorem dX11_feet_37 : decode cX11_feet 37 = .ok (.invokevirtual 286, 3) := by decide +kernel
theorem dX11_feet_40 : decode cX11_feet 40 = .ok (.ireturn, 1) := by decide +kernel
theorem dX11_never_0 : decode cX11_never 0 = .ok (.aload_n 0, 1) := by decide +kernel
theorem dX11_never_1 : decode cX11_never 1 = .ok (.getfield 21, 3) := by decide +kernel
theorem dX11_never_4 : decode cX11_never 4 = .ok (.invokevirtual 204, 3) := by decide +kernel
theorem dX11_never_7 : decode cX11_never 7 = .ok (.ifCond .eq 6, 3) := by decide +kernel
theorem dX11_never_10 : decode cX11_never 10 = .ok (.bipush (-4), 2) := by decide +kernel
theorem dX11_never_12 : decode cX11_never 12 = .ok (.ireturn, 1) := by decide +kernel
theorem dX11_never_13 : decode cX11_never 13 = .ok (.aload_n 0, 1) := by decide +kernel
theorem dX11_never_14 : decode cX11_never 14 = .ok (.getfield 21, 3) := by decide +kernel
theorem dX11_never_17 : decode cX11_never 17 = .ok (.iconst (-1), 1) := by decide +kernel
theorem dX11_never_18 : decode cX11_never 18 = .ok (.invokevirtual 293, 3) := by decide +kernel
theorem dX11_never_21 : decode cX11_never 21 = .ok (.istore_n 1, 1) := by decide +kernel
theorem dX11_never_22 : decode cX11_never 22 = .ok (.iconst 0, 1) := by decide +kernel
theorem dX11_never_23 : decode cX11_never 23 = .ok (.istore_n 2, 1) := by decide +kernel
theorem dX11_never_24 : decode cX11_never 24 = .ok (.aload_n 0, 1) := by decide +kernel
theorem dX11_never_25 : decode cX11_never 25 = .ok (.bipush (-9), 2) := by decide +kernel
theorem dX11_never_27 : decode cX11_never 27 = .ok (.putfield 69, 3) := by decide +kernel
theorem dX11_never_30 : decode cX11_never 30 = .ok (.aload_n 0, 1) := by decide +kernel
theorem dX11_never_31 : decode cX11_never 31 = .ok (.getfield 21, 3) := by decide +kernel
theorem dX11_never_34 : decode cX11_never 34 = .ok (.getfield 181, 3) := by decide +kernel
theorem dX11_never_37 : decode cX11_never 37 = .ok (.iconst 1, 1) := by decide +kernel
theorem dX11_never_38 : decode cX11_never 38 = .ok (.isub, 1) := by decide +kernel
theorem dX11_never_39 : decode cX11_never 39 = .ok (.istore_n 3, 1) := by decide +kernel
theorem dX11_never_40 : decode cX11_never 40 = .ok (.iload_n 3, 1) := by decide +kernel
theorem dX11_never_41 : decode cX11_never 41 = .ok (.ifCond .lt 33, 3) := by decide +kernel
theorem dX11_never_44 : decode cX11_never 44 = .ok (.iload_n 3, 1) := by decide +kernel
theorem dX11_never_45 : decode cX11_never 45 = .ok (.aload_n 0, 1) := by decide +kernel
theorem dX11_never_46 : decode cX11_never 46 = .ok (.getfield 21, 3) := by decide +kernel
theorem dX11_never_49 : decode cX11_never 49 = .ok (.getfield 201, 3) := by decide +kernel
theorem dX11_never_52 : decode cX11_never 52 = .ok (.isub, 1) := by decide +kernel
theorem dX11_never_53 : decode cX11_never 53 = .ok (.iload_n 1, 1) := by decide +kernel
theorem dX11_never_54 : decode cX11_never 54 = .ok (.invokestatic 296, 3) := by decide +kernel
theorem dX11_never_57 : decode cX11_never 57 = .ok (.ifCond .eq 11, 3) := by decide +kernel
theorem dX11_never_60 : decode cX11_never 60 = .ok (.iinc 2 1, 3) := by decide +kernel
theorem dX11_never_63 : decode cX11_never 63 = .ok (.aload_n 0, 1) := by decide +kernel
theorem dX11_never_64 : decode cX11_never 64 = .ok (.iload_n 3, 1) := by decide +kernel
theorem dX11_never_65 : decode cX11_never 65 = .ok (.putfield 69, 3) := by decide +kernel
theorem dX11_never_68 : decode cX11_never 68 = .ok (.iinc 3 (-1), 3) := by decide +kernel
theorem dX11_never_71 : decode cX11_never 71 = .ok (.goto (-31), 3) := by decide +kernel
theorem dX11_never_74 : decode cX11_never 74 = .ok (.iload_n 2, 1) := by decide +kernel
theorem dX11_never_75 : decode cX11_never 75 = .ok (.ireturn, 1) := by decide +kernel
theorem dX11_fits_0 : decode cX11_fits 0 = .ok (.aload_n 0, 1) := by decide +kernel
theorem dX11_fits_1 : decode cX11_fits 1 = .ok (.getfield 21, 3) := by decide +kernel
theorem dX11_fits_4 : decode cX11_fits 4 = .ok (.iload_n 1, 1) := by decide +kernel
theorem dX11_fits_5 : decode cX11_fits 5 = .ok (.invokevirtual 253, 3) := by decide +kernel
theorem dX11_fits_8 : decode cX11_fits 8 = .ok (.ifCond .ne 5, 3) := by decide +kernel
theorem dX11_fits_11 : decode cX11_fits 11 = .ok (.iconst (-1), 1) := by decide +kernel
theorem dX11_fits_12 : decode cX11_fits 12 = .ok (.ireturn, 1) := by decide +kernel
theorem dX11_fits_13 : decode cX11_fits 13 = .ok (.aload_n 0, 1) := by decide +kernel
theorem dX11_fits_14 : decode cX11_fits 14 = .ok (.getfield 43, 3) := by decide +kernel
theorem dX11_fits_17 : decode cX11_fits 17 = .ok (.aload_n 0, 1) := by decide +kernel
theorem dX11_fits_18 : decode cX11_fits 18 = .ok (.getfield 21, 3) := by decide +kernel
theorem dX11_fits_21 : decode cX11_fits 21 = .ok (.invokevirtual 256, 3) := by decide +kernel
theorem dX11_fits_24 : decode cX11_fits 24 = .ok (.aload_n 0, 1) := by decide +kernel
theorem dX11_fits_25 : decode cX11_fits 25 = .ok (.aload_n 0, 1) := by decide +kernel
theorem dX11_fits_26 : decode cX11_fits 26 = .ok (.getfield 43, 3) := by decide +kernel
theorem dX11_fits_29 : decode cX11_fits 29 = .ok (.iload_n 1, 1) := by decide +kernel
theorem dX11_fits_30 : decode cX11_fits 30 = .ok (.invokevirtual 299, 3) := by decide +kernel
theorem dX11_fits_33 : decode cX11_fits 33 = .ok (.putfield 69, 3) := by decide +kernel
theorem dX11_fits_36 : decode cX11_fits 36 = .ok (.aload_n 0, 1) := by decide +kernel
theorem dX11_fits_37 : decode cX11_fits 37 = .ok (.aload_n 0, 1) := by decide +kernel
theorem dX11_fits_38 : decode cX11_fits 38 = .ok (.getfield 43, 3) := by decide +kernel
theorem dX11_fits_41 : decode cX11_fits 41 = .ok (.iload_n 1, 1) := by decide +kernel
theorem dX11_fits_42 : decode cX11_fits 42 = .ok (.iconst 0, 1) := by decide +kernel
theorem dX11_fits_43 : decode cX11_fits 43 = .ok (.invokevirtual 302, 3) := by decide +kernel
theorem dX11_fits_46 : decode cX11_fits 46 = .ok (.i2l, 1) := by decide +kernel
theorem dX11_fits_47 : decode cX11_fits 47 = .ok (.lconst 1, 1) := by decide +kernel
theorem dX11_fits_48 : decode cX11_fits 48 = .ok (.invokevirtual 249, 3) := by decide +kernel
theorem dX11_fits_51 : decode cX11_fits 51 = .ok (.ireturn, 1) := by decide +kernel
theorem dX11_sure_0 : decode cX11_sure 0 = .ok (.aload_n 0, 1) := by decide +kernel
theorem dX11_sure_1 : decode cX11_sure 1 = .ok (.iload_n 1, 1) := by decide +kernel
theorem dX11_sure_2 : decode cX11_sure 2 = .ok (.invokevirtual 305, 3) := by decide +kernel
theorem dX11_sure_5 : decode cX11_sure 5 = .ok (.istore_n 2, 1) := by decide +kernel
theorem dX11_sure_6 : decode cX11_sure 6 = .ok (.iload_n 2, 1) := by decide +kernel
theorem dX11_sure_7 : decode cX11_sure 7 = .ok (.ifCond .eq 5, 3) := by decide +kernel
theorem dX11_sure_10 : decode cX11_sure 10 = .ok (.iload_n 2, 1) := by decide +kernel
theorem dX11_sure_11 : decode cX11_sure 11 = .ok (.ireturn, 1) := by decide +kernel
theorem dX11_sure_12 : decode cX11_sure 12 = .ok (.aload_n 0, 1) := by decide +kernel
theorem dX11_sure_13 : decode cX11_sure 13 = .ok (.getfield 43, 3) := by decide +kernel
theorem dX11_sure_16 : decode cX11_sure 16 = .ok (.iload_n 1, 1) := by decide +kernel
theorem dX11_sure_17 : decode cX11_sure 17 = .ok (.iconst 0, 1) := by decide +kernel
theorem dX11_sure_18 : decode cX11_sure 18 = .ok (.invokevirtual 302, 3) := by decide +kernel
theorem dX11_sure_21 : decode cX11_sure 21 = .ok (.istore_n 3, 1) := by decide +kernel
theorem dX11_sure_22 : decode cX11_sure 22 = .ok (.iconst 0, 1) := by decide +kernel
theorem dX11_sure_23 : decode cX11_sure 23 = .ok (.istore 4, 2) := by decide +kernel
theorem dX11_sure_25 : decode cX11_sure 25 = .ok (.iconst 0, 1) := by decide +kernel
theorem dX11_sure_26 : decode cX11_sure 26 = .ok (.istore 5, 2) := by decide +kernel
theorem dX11_sure_28 : decode cX11_sure 28 = .ok (.iconst 0, 1) := by decide +kernel
theorem dX11_sure_29 : decode cX11_sure 29 = .ok (.istore 6, 2) := by decide +kernel
theorem dX11_sure_31 : decode cX11_sure 31 = .ok (.iload 6, 2) := by decide +kernel
theorem dX11_sure_33 : decode cX11_sure 33 = .ok (.aload_n 0, 1) := by decide +kernel
theorem dX11_sure_34 : decode cX11_sure 34 = .ok (.getfield 21, 3) := by decide +kernel
theorem dX11_sure_37 : decode cX11_sure 37 = .ok (.getfield 144, 3) := by decide +kernel
theorem dX11_sure_40 : decode cX11_sure 40 = .ok (.if_icmp .ge 60, 3) := by decide +kernel
theorem dX11_sure_43 : decode cX11_sure 43 = .ok (.aload_n 0, 1) := by decide +kernel
theorem dX11_sure_44 : decode cX11_sure 44 = .ok (.getfield 43, 3) := by decide +kernel
theorem dX11_sure_47 : decode cX11_sure 47 = .ok (.iload_n 1, 1) := by decide +kernel
theorem dX11_sure_48 : decode cX11_sure 48 = .ok (.iconst 1, 1) := by decide +kernel
theorem dX11_sure_49 : decode cX11_sure 49 = .ok (.iload 6, 2) := by decide +kernel
theorem dX11_sure_51 : decode cX11_sure 51 = .ok (.ishl, 1) := by decide +kernel
theorem dX11_sure_52 : decode cX11_sure 52 = .ok (.invokevirtual 302, 3) := by decide +kernel
theorem dX11_sure_55 : decode cX11_sure 55 = .ok (.istore 7, 2) := by decide +kernel
theorem dX11_sure_57 : decode cX11_sure 57 = .ok (.iload 4, 2) := by decide +kernel
theorem dX11_sure_59 : decode cX11_sure 59 = .ok (.iload 7, 2) := by decide +kernel
theorem dX11_sure_61 : decode cX11_sure 61 = .ok (.iload_n 3, 1) := by decide +kernel
theorem dX11_sure_62 : decode cX11_sure 62 = .ok (.if_icmp .ne 10, 3) := by decide +kernel
theorem dX11_sure_65 : decode cX11_sure 65 = .ok (.iconst 1, 1) := by decide +kernel
theorem dX11_sure_66 : decode cX11_sure 66 = .ok (.iload 6, 2) := by decide +kernel
theorem dX11_sure_68 : decode cX11_sure 68 = .ok (.ishl, 1) := by decide +kernel
theorem dX11_sure_69 : decode cX11_sure 69 = .ok (.goto 4, 3) := by decide +kernel
theorem dX11_sure_72 : decode cX11_sure 72 = .ok (.iconst 0, 1) := by decide +kernel
theorem dX11_sure_73 : decode cX11_sure 73 = .ok (.ior, 1) := by decide +kernel
theorem dX11_sure_74 : decode cX11_sure 74 = .ok (.istore 4, 2) := by decide +kernel
theorem dX11_sure_76 : decode cX11_sure 76 = .ok (.iload 5, 2) := by decide +kernel
theorem dX11_sure_78 : decode cX11_sure 78 = .ok (.iload 7, 2) := by decide +kernel
theorem dX11_sure_80 : decode cX11_sure 80 = .ok (.ifCond .ne 10, 3) := by decide +kernel
theorem dX11_sure_83 : decode cX11_sure 83 = .ok (.iconst 1, 1) := by decide +kernel
theorem dX11_sure_84 : decode cX11_sure 84 = .ok (.iload 6, 2) := by decide +kernel
theorem dX11_sure_86 : decode cX11_sure 86 = .ok (.ishl, 1) := by decide +kernel
theorem dX11_sure_87 : decode cX11_sure 87 = .ok (.goto 4, 3) := by decide +kernel
theorem dX11_sure_90 : decode cX11_sure 90 = .ok (.iconst 0, 1) := by decide +kernel
theorem dX11_sure_91 : decode cX11_sure 91 = .ok (.ior, 1) := by decide +kernel
theorem dX11_sure_92 : decode cX11_sure 92 = .ok (.istore 5, 2) := by decide +kernel
theorem dX11_sure_94 : decode cX11_sure 94 = .ok (.iinc 6 1, 3) := by decide +kernel
theorem dX11_sure_97 : decode cX11_sure 97 = .ok (.goto (-66), 3) := by decide +kernel
theorem dX11_sure_100 : decode cX11_sure 100 = .ok (.aload_n 0, 1) := by decide +kernel
theorem dX11_sure_101 : decode cX11_sure 101 = .ok (.iload 5, 2) := by decide +kernel
theorem dX11_sure_103 : decode cX11_sure 103 = .ok (.putfield 69, 3) := by decide +kernel
theorem dX11_sure_106 : decode cX11_sure 106 = .ok (.iload 4, 2) := by decide +kernel
theorem dX11_sure_108 : decode cX11_sure 108 = .ok (.ireturn, 1) := by decide +kernel
theorem dX11_ask_0 : decode cX11_ask 0 = .ok (.aload_n 0, 1) := by decide +kernel
theorem dX11_ask_1 : decode cX11_ask 1 = .ok (.iload_n 1, 1) := by decide +kernel
theorem dX11_ask_2 : decode cX11_ask 2 = .ok (.invokevirtual 305, 3) := by decide +kernel
theorem dX11_ask_5 : decode cX11_ask 5 = .ok (.istore_n 2, 1) := by decide +kernel
theorem dX11_ask_6 : decode cX11_ask 6 = .ok (.iload_n 2, 1) := by decide +kernel
theorem dX11_ask_7 : decode cX11_ask 7 = .ok (.ifCond .eq 5, 3) := by decide +kernel
theorem dX11_ask_10 : decode cX11_ask 10 = .ok (.iload_n 2, 1) := by decide +kernel
theorem dX11_ask_11 : decode cX11_ask 11 = .ok (.ireturn, 1) := by decide +kernel
theorem dX11_ask_12 : decode cX11_ask 12 = .ok (.aload_n 0, 1) := by decide +kernel
theorem dX11_ask_13 : decode cX11_ask 13 = .ok (.getfield 43, 3) := by decide +kernel
theorem dX11_ask_16 : decode cX11_ask 16 = .ok (.iload_n 1, 1) := by decide +kernel
theorem dX11_ask_17 : decode cX11_ask 17 = .ok (.iconst 0, 1) := by decide +kernel
theorem dX11_ask_18 : decode cX11_ask 18 = .ok (.invokevirtual 302, 3) := by decide +kernel
theorem dX11_ask_21 : decode cX11_ask 21 = .ok (.istore_n 3, 1) := by decide +kernel
theorem dX11_ask_22 : decode cX11_ask 22 = .ok (.iconst 0, 1) := by decide +kernel
theorem dX11_ask_23 : decode cX11_ask 23 = .ok (.istore 4, 2) := by decide +kernel
theorem dX11_ask_25 : decode cX11_ask 25 = .ok (.iload_n 3, 1) := by decide +kernel
theorem dX11_ask_26 : decode cX11_ask 26 = .ok (.iconst 1, 1) := by decide +kernel
theorem dX11_ask_27 : decode cX11_ask 27 = .ok (.iadd, 1) := by decide +kernel
theorem dX11_ask_28 : decode cX11_ask 28 = .ok (.istore 5, 2) := by decide +kernel
theorem dX11_ask_30 : decode cX11_ask 30 = .ok (.iconst 0, 1) := by decide +kernel
theorem dX11_ask_31 : decode cX11_ask 31 = .ok (.istore 6, 2) := by decide +kernel
theorem dX11_ask_33 : decode cX11_ask 33 = .ok (.iload 6, 2) := by decide +kernel
theorem dX11_ask_35 : decode cX11_ask 35 = .ok (.aload_n 0, 1) := by decide +kernel
theorem dX11_ask_36 : decode cX11_ask 36 = .ok (.getfield 21, 3) := by decide +kernel
theorem dX11_ask_39 : decode cX11_ask 39 = .ok (.getfield 144, 3) := by decide +kernel
theorem dX11_ask_42 : decode cX11_ask 42 = .ok (.if_icmp .ge 49, 3) := by decide +kernel
theorem dX11_ask_45 : decode cX11_ask 45 = .ok (.aload_n 0, 1) := by decide +kernel
theorem dX11_ask_46 : decode cX11_ask 46 = .ok (.getfield 43, 3) := by decide +kernel
theorem dX11_ask_49 : decode cX11_ask 49 = .ok (.iload_n 1, 1) := by decide +kernel
theorem dX11_ask_50 : decode cX11_ask 50 = .ok (.iconst 1, 1) := by decide +kernel
theorem dX11_ask_51 : decode cX11_ask 51 = .ok (.iload 6, 2) := by decide +kernel
theorem dX11_ask_53 : decode cX11_ask 53 = .ok (.ishl, 1) := by decide +kernel
theorem dX11_ask_54 : decode cX11_ask 54 = .ok (.invokevirtual 302, 3) := by decide +kernel
theorem dX11_ask_57 : decode cX11_ask 57 = .ok (.istore 7, 2) := by decide +kernel
theorem dX11_ask_59 : decode cX11_ask 59 = .ok (.iload 7, 2) := by decide +kernel
theorem dX11_ask_61 : decode cX11_ask 61 = .ok (.iload_n 3, 1) := by decide +kernel
theorem dX11_ask_62 : decode cX11_ask 62 = .ok (.iload 7, 2) := by decide +kernel
theorem dX11_ask_64 : decode cX11_ask 64 = .ok (.isub, 1) := by decide +kernel
theorem dX11_ask_65 : decode cX11_ask 65 = .ok (.invokestatic 308, 3) := by decide +kernel
theorem dX11_ask_68 : decode cX11_ask 68 = .ok (.istore 8, 2) := by decide +kernel
theorem dX11_ask_70 : decode cX11_ask 70 = .ok (.iload 8, 2) := by decide +kernel
theorem dX11_ask_72 : decode cX11_ask 72 = .ok (.iload 5, 2) := by decide +kernel
theorem dX11_ask_74 : decode cX11_ask 74 = .ok (.if_icmp .ge 11, 3) := by decide +kernel
theorem dX11_ask_77 : decode cX11_ask 77 = .ok (.iload 8, 2) := by decide +kernel
theorem dX11_ask_79 : decode cX11_ask 79 = .ok (.istore 5, 2) := by decide +kernel
theorem dX11_ask_81 : decode cX11_ask 81 = .ok (.iload 6, 2) := by decide +kernel
theorem dX11_ask_83 : decode cX11_ask 83 = .ok (.istore 4, 2) := by decide +kernel
theorem dX11_ask_85 : decode cX11_ask 85 = .ok (.iinc 6 1, 3) := by decide +kernel
theorem dX11_ask_88 : decode cX11_ask 88 = .ok (.goto (-55), 3) := by decide +kernel
theorem dX11_ask_91 : decode cX11_ask 91 = .ok (.aload_n 0, 1) := by decide +kernel
theorem dX11_ask_92 : decode cX11_ask 92 = .ok (.iload 5, 2) := by decide +kernel
theorem dX11_ask_94 : decode cX11_ask 94 = .ok (.putfield 69, 3) := by decide +kernel
theorem dX11_ask_97 : decode cX11_ask 97 = .ok (.iload 4, 2) := by decide +kernel
theorem dX11_ask_99 : decode cX11_ask 99 = .ok (.ireturn, 1) := by decide +kernel
theorem dX11_noon_0 : decode cX11_noon 0 = .ok (.aload_n 0, 1) := by decide +kernel
theorem dX11_noon_1 : decode cX11_noon 1 = .ok (.getfield 21, 3) := by decide +kernel
theorem dX11_noon_4 : decode cX11_noon 4 = .ok (.iload_n 1, 1) := by decide +kernel
theorem dX11_noon_5 : decode cX11_noon 5 = .ok (.invokevirtual 147, 3) := by decide +kernel
theorem dX11_noon_8 : decode cX11_noon 8 = .ok (.ifCond .ne 5, 3) := by decide +kernel
theorem dX11_noon_11 : decode cX11_noon 11 = .ok (.iconst (-1), 1) := by decide +kernel
theorem dX11_noon_12 : decode cX11_noon 12 = .ok (.ireturn, 1) := by decide +kernel
theorem dX11_noon_13 : decode cX11_noon 13 = .ok (.aload_n 0, 1) := by decide +kernel
theorem dX11_noon_14 : decode cX11_noon 14 = .ok (.getfield 21, 3) := by decide +kernel
theorem dX11_noon_17 : decode cX11_noon 17 = .ok (.aload_n 0, 1) := by decide +kernel
theorem dX11_noon_18 : decode cX11_noon 18 = .ok (.getfield 21, 3) := by decide +kernel
theorem dX11_noon_21 : decode cX11_noon 21 = .ok (.iload_n 1, 1) := by decide +kernel
theorem dX11_noon_22 : decode cX11_noon 22 = .ok (.invokevirtual 237, 3) := by decide +kernel
theorem dX11_noon_25 : decode cX11_noon 25 = .ok (.invokevirtual 313, 3) := by decide +kernel
theorem dX11_noon_28 : decode cX11_noon 28 = .ok (.ireturn, 1) := by decide +kernel
theorem dX11_rent_0 : decode cX11_rent 0 = .ok (.aload_n 0, 1) := by decide +kernel
theorem dX11_rent_1 : decode cX11_rent 1 = .ok (.getfield 21, 3) := by decide +kernel
theorem dX11_rent_4 : decode cX11_rent 4 = .ok (.iload_n 1, 1) := by decide +kernel
theorem dX11_rent_5 : decode cX11_rent 5 = .ok (.invokevirtual 147, 3) := by decide +kernel
theorem dX11_rent_8 : decode cX11_rent 8 = .ok (.ifCond .ne 5, 3) := by decide +kernel
theorem dX11_rent_11 : decode cX11_rent 11 = .ok (.iconst (-1), 1) := by decide +kernel
theorem dX11_rent_12 : decode cX11_rent 12 = .ok (.ireturn, 1) := by decide +kernel
theorem dX11_rent_13 : decode cX11_rent 13 = .ok (.aload_n 0, 1) := by decide +kernel
theorem dX11_rent_14 : decode cX11_rent 14 = .ok (.getfield 21, 3) := by decide +kernel
theorem dX11_rent_17 : decode cX11_rent 17 = .ok (.iload_n 1, 1) := by decide +kernel
theorem dX11_rent_18 : decode cX11_rent 18 = .ok (.invokevirtual 237, 3) := by decide +kernel
theorem dX11_rent_21 : decode cX11_rent 21 = .ok (.istore_n 2, 1) := by decide +kernel
theorem dX11_rent_22 : decode cX11_rent 22 = .ok (.iconst 1, 1) := by decide +kernel
theorem dX11_rent_23 : decode cX11_rent 23 = .ok (.istore_n 3, 1) := by decide +kernel
theorem dX11_rent_24 : decode cX11_rent 24 = .ok (.iload_n 3, 1) := by decide +kernel
theorem dX11_rent_25 : decode cX11_rent 25 = .ok (.aload_n 0, 1) := by decide +kernel
theorem dX11_rent_26 : decode cX11_rent 26 = .ok (.getfield 21, 3) := by decide +kernel
theorem dX11_rent_29 : decode cX11_rent 29 = .ok (.getfield 181, 3) := by decide +kernel
theorem dX11_rent_32 : decode cX11_rent 32 = .ok (.if_icmp .gt 46, 3) := by decide +kernel
theorem dX11_rent_35 : decode cX11_rent 35 = .ok (.aload_n 0, 1) := by decide +kernel
theorem dX11_rent_36 : decode cX11_rent 36 = .ok (.getfield 21, 3) := by decide +kernel
theorem dX11_rent_39 : decode cX11_rent 39 = .ok (.aload_n 0, 1) := by decide +kernel
theorem dX11_rent_40 : decode cX11_rent 40 = .ok (.getfield 21, 3) := by decide +kernel
theorem dX11_rent_43 : decode cX11_rent 43 = .ok (.aload_n 0, 1) := by decide +kernel
theorem dX11_rent_44 : decode cX11_rent 44 = .ok (.getfield 21, 3) := by decide +kernel
theorem dX11_rent_47 : decode cX11_rent 47 = .ok (.getfield 201, 3) := by decide +kernel
theorem dX11_rent_50 : decode cX11_rent 50 = .ok (.iload_n 3, 1) := by decide +kernel
theorem dX11_rent_51 : decode cX11_rent 51 = .ok (.iload_n 2, 1) := by decide +kernel
theorem dX11_rent_52 : decode cX11_rent 52 = .ok (.imul, 1) := by decide +kernel
theorem dX11_rent_53 : decode cX11_rent 53 = .ok (.iadd, 1) := by decide +kernel
theorem dX11_rent_54 : decode cX11_rent 54 = .ok (.invokevirtual 240, 3) := by decide +kernel
theorem dX11_rent_57 : decode cX11_rent 57 = .ok (.invokevirtual 227, 3) := by decide +kernel
theorem dX11_rent_60 : decode cX11_rent 60 = .ok (.ifCond .eq 12, 3) := by decide +kernel
theorem dX11_rent_63 : decode cX11_rent 63 = .ok (.aload_n 0, 1) := by decide +kernel
theorem dX11_rent_64 : decode cX11_rent 64 = .ok (.iload_n 3, 1) := by decide +kernel
theorem dX11_rent_65 : decode cX11_rent 65 = .ok (.iload_n 2, 1) := by decide +kernel
theorem dX11_rent_66 : decode cX11_rent 66 = .ok (.imul, 1) := by decide +kernel
theorem dX11_rent_67 : decode cX11_rent 67 = .ok (.putfield 69, 3) := by decide +kernel
theorem dX11_rent_70 : decode cX11_rent 70 = .ok (.iload_n 3, 1) := by decide +kernel
theorem dX11_rent_71 : decode cX11_rent 71 = .ok (.ireturn, 1) := by decide +kernel
theorem dX11_rent_72 : decode cX11_rent 72 = .ok (.iinc 3 1, 3) := by decide +kernel
theorem dX11_rent_75 : decode cX11_rent 75 = .ok (.goto (-51), 3) := by decide +kernel
theorem dX11_rent_78 : decode cX11_rent 78 = .ok (.bipush (-9), 2) := by decide +kernel
theorem dX11_rent_80 : decode cX11_rent 80 = .ok (.ireturn, 1) := by decide +kernel
theorem dX11_odds_0 : decode cX11_odds 0 = .ok (.aload_n 0, 1) := by decide +kernel
theorem dX11_odds_1 : decode cX11_odds 1 = .ok (.getfield 21, 3) := by decide +kernel
theorem dX11_odds_4 : decode cX11_odds 4 = .ok (.iload_n 1, 1) := by decide +kernel
theorem dX11_odds_5 : decode cX11_odds 5 = .ok (.invokevirtual 253, 3) := by decide +kernel
theorem dX11_odds_8 : decode cX11_odds 8 = .ok (.ifCond .eq 13, 3) := by decide +kernel
theorem dX11_odds_11 : decode cX11_odds 11 = .ok (.iload_n 2, 1) := by decide +kernel
theorem dX11_odds_12 : decode cX11_odds 12 = .ok (.ifCond .lt 9, 3) := by decide +kernel
theorem dX11_odds_15 : decode cX11_odds 15 = .ok (.iload_n 2, 1) := by decide +kernel
theorem dX11_odds_16 : decode cX11_odds 16 = .ok (.bipush 10, 2) := by decide +kernel
theorem dX11_odds_18 : decode cX11_odds 18 = .ok (.if_icmp .le 5, 3) := by decide +kernel
theorem dX11_odds_21 : decode cX11_odds 21 = .ok (.iconst (-1), 1) := by decide +kernel
theorem dX11_odds_22 : decode cX11_odds 22 = .ok (.ireturn, 1) := by decide +kernel
theorem dX11_odds_23 : decode cX11_odds 23 = .ok (.aload_n 0, 1) := by decide +kernel
theorem dX11_odds_24 : decode cX11_odds 24 = .ok (.getfield 57, 3) := by decide +kernel
theorem dX11_odds_27 : decode cX11_odds 27 = .ok (.aload_n 0, 1) := by decide +kernel
theorem dX11_odds_28 : decode cX11_odds 28 = .ok (.getfield 21, 3) := by decide +kernel
theorem dX11_odds_31 : decode cX11_odds 31 = .ok (.iload_n 2, 1) := by decide +kernel
theorem dX11_odds_32 : decode cX11_odds 32 = .ok (.invokevirtual 319, 3) := by decide +kernel
theorem dX11_odds_35 : decode cX11_odds 35 = .ok (.lconst 1, 1) := by decide +kernel
theorem dX11_odds_36 : decode cX11_odds 36 = .ok (.lstore_n 3, 1) := by decide +kernel
theorem dX11_odds_37 : decode cX11_odds 37 = .ok (.iconst 0, 1) := by decide +kernel
theorem dX11_odds_38 : decode cX11_odds 38 = .ok (.istore 5, 2) := by decide +kernel
theorem dX11_odds_40 : decode cX11_odds 40 = .ok (.iload 5, 2) := by decide +kernel
theorem dX11_odds_42 : decode cX11_odds 42 = .ok (.iload_n 2, 1) := by decide +kernel
theorem dX11_odds_43 : decode cX11_odds 43 = .ok (.if_icmp .ge 20, 3) := by decide +kernel
theorem dX11_odds_46 : decode cX11_odds 46 = .ok (.lload_n 3, 1) := by decide +kernel
theorem dX11_odds_47 : decode cX11_odds 47 = .ok (.aload_n 0, 1) := by decide +kernel
theorem dX11_odds_48 : decode cX11_odds 48 = .ok (.getfield 21, 3) := by decide +kernel
theorem dX11_odds_51 : decode cX11_odds 51 = .ok (.getfield 144, 3) := by decide +kernel
theorem dX11_odds_54 : decode cX11_odds 54 = .ok (.i2l, 1) := by decide +kernel
theorem dX11_odds_55 : decode cX11_odds 55 = .ok (.lmul, 1) := by decide +kernel
theorem dX11_odds_56 : decode cX11_odds 56 = .ok (.lstore_n 3, 1) := by decide +kernel
theorem dX11_odds_57 : decode cX11_odds 57 = .ok (.iinc 5 1, 3) := by decide +kernel
theorem dX11_odds_60 : decode cX11_odds 60 = .ok (.goto (-20), 3) := by decide +kernel
theorem dX11_odds_63 : decode cX11_odds 63 = .ok (.aload_n 0, 1) := by decide +kernel
theorem dX11_odds_64 : decode cX11_odds 64 = .ok (.aload_n 0, 1) := by decide +kernel
theorem dX11_odds_65 : decode cX11_odds 65 = .ok (.getfield 57, 3) := by decide +kernel
theorem dX11_odds_68 : decode cX11_odds 68 = .ok (.aload_n 0, 1) := by decide +kernel
theorem dX11_odds_69 : decode cX11_odds 69 = .ok (.getfield 21, 3) := by decide +kernel
theorem dX11_odds_72 : decode cX11_odds 72 = .ok (.iload_n 1, 1) := by decide +kernel
theorem dX11_odds_73 : decode cX11_odds 73 = .ok (.invokevirtual 279, 3) := by decide +kernel
theorem dX11_odds_76 : decode cX11_odds 76 = .ok (.invokevirtual 323, 3) := by decide +kernel
theorem dX11_odds_79 : decode cX11_odds 79 = .ok (.lload_n 3, 1) := by decide +kernel
theorem dX11_odds_80 : decode cX11_odds 80 = .ok (.invokevirtual 249, 3) := by decide +kernel
theorem dX11_odds_83 : decode cX11_odds 83 = .ok (.ireturn, 1) := by decide +kernel
theorem dX11_asked_0 : decode cX11_asked 0 = .ok (.aload_n 0, 1) := by decide +kernel
theorem dX11_asked_1 : decode cX11_asked 1 = .ok (.getfield 69, 3) := by decide +kernel
theorem dX11_asked_4 : decode cX11_asked 4 = .ok (.ireturn, 1) := by decide +kernel
theorem dX11_upper_0 : decode cX11_upper 0 = .ok (.aload_n 0, 1) := by decide +kernel
theorem dX11_upper_1 : decode cX11_upper 1 = .ok (.getfield 72, 3) := by decide +kernel
theorem dX11_upper_4 : decode cX11_upper 4 = .ok (.lreturn, 1) := by decide +kernel
theorem dX11_lower_0 : decode cX11_lower 0 = .ok (.aload_n 0, 1) := by decide +kernel
theorem dX11_lower_1 : decode cX11_lower 1 = .ok (.getfield 76, 3) := by decide +kernel
theorem dX11_lower_4 : decode cX11_lower 4 = .ok (.lreturn, 1) := by decide +kernel
theorem dX11_count_0 : decode cX11_count 0 = .ok (.iload_n 1, 1) := by decide +kernel
theorem dX11_count_1 : decode cX11_count 1 = .ok (.tableswitch 150 0 10 #[59, 67, 75, 83, 91, 102, 110, 118, 126, 134, 142], 59) := by decide +kernel
theorem dX11_count_60 : decode cX11_count 60 = .ok (.aload_n 0, 1) := by decide +kernel
theorem dX11_count_61 : decode cX11_count 61 = .ok (.getfield 21, 3) := by decide +kernel
theorem dX11_count_64 : decode cX11_count 64 = .ok (.getfield 144, 3) := by decide +kernel
theorem dX11_count_67 : decode cX11_count 67 = .ok (.ireturn, 1) := by decide +kernel
theorem dX11_count_68 : decode cX11_count 68 = .ok (.aload_n 0, 1) := by decide +kernel
theorem dX11_count_69 : decode cX11_count 69 = .ok (.getfield 21, 3) := by decide +kernel
theorem dX11_count_72 : decode cX11_count 72 = .ok (.getfield 181, 3) := by decide +kernel
theorem dX11_count_75 : decode cX11_count 75 = .ok (.ireturn, 1) := by decide +kernel
theorem dX11_count_76 : decode cX11_count 76 = .ok (.aload_n 0, 1) := by decide +kernel
theorem dX11_count_77 : decode cX11_count 77 = .ok (.getfield 21, 3) := by decide +kernel
theorem dX11_count_80 : decode cX11_count 80 = .ok (.getfield 201, 3) := by decide +kernel
theorem dX11_count_83 : decode cX11_count 83 = .ok (.ireturn, 1) := by decide +kernel
theorem dX11_count_84 : decode cX11_count 84 = .ok (.aload_n 0, 1) := by decide +kernel
theorem dX11_count_85 : decode cX11_count 85 = .ok (.getfield 21, 3) := by decide +kernel
theorem dX11_count_88 : decode cX11_count 88 = .ok (.getfield 221, 3) := by decide +kernel
theorem dX11_count_91 : decode cX11_count 91 = .ok (.ireturn, 1) := by decide +kernel
theorem dX11_count_92 : decode cX11_count 92 = .ok (.aload_n 0, 1) := by decide +kernel
theorem dX11_count_93 : decode cX11_count 93 = .ok (.getfield 21, 3) := by decide +kernel
theorem dX11_count_96 : decode cX11_count 96 = .ok (.getfield 187, 3) := by decide +kernel
theorem dX11_count_99 : decode cX11_count 99 = .ok (.getfield 126, 3) := by decide +kernel
theorem dX11_count_102 : decode cX11_count 102 = .ok (.ireturn, 1) := by decide +kernel
theorem dX11_count_103 : decode cX11_count 103 = .ok (.aload_n 0, 1) := by decide +kernel
theorem dX11_count_104 : decode cX11_count 104 = .ok (.getfield 21, 3) := by decide +kernel
theorem dX11_count_107 : decode cX11_count 107 = .ok (.getfield 207, 3) := by decide +kernel
theorem dX11_count_110 : decode cX11_count 110 = .ok (.ireturn, 1) := by decide +kernel
theorem dX11_count_111 : decode cX11_count 111 = .ok (.aload_n 0, 1) := by decide +kernel
theorem dX11_count_112 : decode cX11_count 112 = .ok (.getfield 21, 3) := by decide +kernel
theorem dX11_count_115 : decode cX11_count 115 = .ok (.getfield 334, 3) := by decide +kernel
theorem dX11_count_118 : decode cX11_count 118 = .ok (.ireturn, 1) := by decide +kernel
theorem dX11_count_119 : decode cX11_count 119 = .ok (.aload_n 0, 1) := by decide +kernel
theorem dX11_count_120 : decode cX11_count 120 = .ok (.getfield 21, 3) := by decide +kernel
theorem dX11_count_123 : decode cX11_count 123 = .ok (.invokevirtual 337, 3) := by decide +kernel
theorem dX11_count_126 : decode cX11_count 126 = .ok (.ireturn, 1) := by decide +kernel
theorem dX11_count_127 : decode cX11_count 127 = .ok (.aload_n 0, 1) := by decide +kernel
theorem dX11_count_128 : decode cX11_count 128 = .ok (.getfield 11, 3) := by decide +kernel
theorem dX11_count_131 : decode cX11_count 131 = .ok (.invokestatic 340, 3) := by decide +kernel
theorem dX11_count_134 : decode cX11_count 134 = .ok (.ireturn, 1) := by decide +kernel
theorem dX11_count_135 : decode cX11_count 135 = .ok (.aload_n 0, 1) := by decide +kernel
theorem dX11_count_136 : decode cX11_count 136 = .ok (.getfield 15, 3) := by decide +kernel
theorem dX11_count_139 : decode cX11_count 139 = .ok (.invokestatic 340, 3) := by decide +kernel
theorem dX11_count_142 : decode cX11_count 142 = .ok (.ireturn, 1) := by decide +kernel
theorem dX11_count_143 : decode cX11_count 143 = .ok (.aload_n 0, 1) := by decide +kernel
theorem dX11_count_144 : decode cX11_count 144 = .ok (.getfield 25, 3) := by decide +kernel
theorem dX11_count_147 : decode cX11_count 147 = .ok (.invokestatic 340, 3) := by decide +kernel
theorem dX11_count_150 : decode cX11_count 150 = .ok (.ireturn, 1) := by decide +kernel
theorem dX11_count_151 : decode cX11_count 151 = .ok (.iconst (-1), 1) := by decide +kernel
theorem dX11_count_152 : decode cX11_count 152 = .ok (.ireturn, 1) := by decide +kernel
theorem dX11_finding_0 : decode cX11_finding 0 = .ok (.aload_n 0, 1) := by decide +kernel
theorem dX11_finding_1 : decode cX11_finding 1 = .ok (.getfield 65, 3) := by decide +kernel
theorem dX11_finding_4 : decode cX11_finding 4 = .ok (.ireturn, 1) := by decide +kernel
theorem dX11_digest_0 : decode cX11_digest 0 = .ok (.ldc2_w 344, 3) := by decide +kernel
theorem dX11_digest_3 : decode cX11_digest 3 = .ok (.lstore_n 1, 1) := by decide +kernel
theorem dX11_digest_4 : decode cX11_digest 4 = .ok (.iconst 0, 1) := by decide +kernel
theorem dX11_digest_5 : decode cX11_digest 5 = .ok (.istore_n 3, 1) := by decide +kernel
theorem dX11_digest_6 : decode cX11_digest 6 = .ok (.iload_n 3, 1) := by decide +kernel
theorem dX11_digest_7 : decode cX11_digest 7 = .ok (.bipush 10, 2) := by decide +kernel
theorem dX11_digest_9 : decode cX11_digest 9 = .ok (.if_icmp .gt 22, 3) := by decide +kernel
theorem dX11_digest_12 : decode cX11_digest 12 = .ok (.ldc2_w 346, 3) := by decide +kernel
theorem dX11_digest_15 : decode cX11_digest 15 = .ok (.lload_n 1, 1) := by decide +kernel
theorem dX11_digest_16 : decode cX11_digest 16 = .ok (.lmul, 1) := by decide +kernel
theorem dX11_digest_17 : decode cX11_digest 17 = .ok (.aload_n 0, 1) := by decide +kernel
theorem dX11_digest_18 : decode cX11_digest 18 = .ok (.iload_n 3, 1) := by decide +kernel
theorem dX11_digest_19 : decode cX11_digest 19 = .ok (.invokevirtual 348, 3) := by decide +kernel
theorem dX11_digest_22 : decode cX11_digest 22 = .ok (.i2l, 1) := by decide +kernel
theorem dX11_digest_23 : decode cX11_digest 23 = .ok (.ladd, 1) := by decide +kernel
theorem dX11_digest_24 : decode cX11_digest 24 = .ok (.lstore_n 1, 1) := by decide +kernel
theorem dX11_digest_25 : decode cX11_digest 25 = .ok (.iinc 3 1, 3) := by decide +kernel
theorem dX11_digest_28 : decode cX11_digest 28 = .ok (.goto (-22), 3) := by decide +kernel
theorem dX11_digest_31 : decode cX11_digest 31 = .ok (.ldc2_w 346, 3) := by decide +kernel
theorem dX11_digest_34 : decode cX11_digest 34 = .ok (.lload_n 1, 1) := by decide +kernel
theorem dX11_digest_35 : decode cX11_digest 35 = .ok (.lmul, 1) := by decide +kernel
theorem dX11_digest_36 : decode cX11_digest 36 = .ok (.aload_n 0, 1) := by decide +kernel
theorem dX11_digest_37 : decode cX11_digest 37 = .ok (.getfield 21, 3) := by decide +kernel
theorem dX11_digest_40 : decode cX11_digest 40 = .ok (.getfield 230, 3) := by decide +kernel
theorem dX11_digest_43 : decode cX11_digest 43 = .ok (.i2l, 1) := by decide +kernel
theorem dX11_digest_44 : decode cX11_digest 44 = .ok (.ladd, 1) := by decide +kernel
theorem dX11_digest_45 : decode cX11_digest 45 = .ok (.lstore_n 1, 1) := by decide +kernel
theorem dX11_digest_46 : decode cX11_digest 46 = .ok (.iconst 0, 1) := by decide +kernel
theorem dX11_digest_47 : decode cX11_digest 47 = .ok (.istore_n 3, 1) := by decide +kernel
theorem dX11_digest_48 : decode cX11_digest 48 = .ok (.iload_n 3, 1) := by decide +kernel
theorem dX11_digest_49 : decode cX11_digest 49 = .ok (.aload_n 0, 1) := by decide +kernel
theorem dX11_digest_50 : decode cX11_digest 50 = .ok (.getfield 21, 3) := by decide +kernel
theorem dX11_digest_53 : decode cX11_digest 53 = .ok (.getfield 144, 3) := by decide +kernel
theorem dX11_digest_56 : decode cX11_digest 56 = .ok (.if_icmp .ge 42, 3) := by decide +kernel
theorem dX11_digest_59 : decode cX11_digest 59 = .ok (.iconst 0, 1) := by decide +kernel
theorem dX11_digest_60 : decode cX11_digest 60 = .ok (.istore 4, 2) := by decide +kernel
theorem dX11_digest_62 : decode cX11_digest 62 = .ok (.iload 4, 2) := by decide +kernel
theorem dX11_digest_64 : decode cX11_digest 64 = .ok (.iconst 4, 1) := by decide +kernel
theorem dX11_digest_65 : decode cX11_digest 65 = .ok (.if_icmp .gt 27, 3) := by decide +kernel
theorem dX11_digest_68 : decode cX11_digest 68 = .ok (.ldc2_w 346, 3) := by decide +kernel
theorem dX11_digest_71 : decode cX11_digest 71 = .ok (.lload_n 1, 1) := by decide +kernel
theorem dX11_digest_72 : decode cX11_digest 72 = .ok (.lmul, 1) := by decide +kernel
theorem dX11_digest_73 : decode cX11_digest 73 = .ok (.aload_n 0, 1) := by decide +kernel
theorem dX11_digest_74 : decode cX11_digest 74 = .ok (.getfield 21, 3) := by decide +kernel
theorem dX11_digest_77 : decode cX11_digest 77 = .ok (.iload_n 3, 1) := by decide +kernel
theorem dX11_digest_78 : decode cX11_digest 78 = .ok (.iload 4, 2) := by decide +kernel
theorem dX11_digest_80 : decode cX11_digest 80 = .ok (.invokevirtual 151, 3) := by decide +kernel
theorem dX11_digest_83 : decode cX11_digest 83 = .ok (.i2l, 1) := by decide +kernel
theorem dX11_digest_84 : decode cX11_digest 84 = .ok (.ladd, 1) := by decide +kernel
theorem dX11_digest_85 : decode cX11_digest 85 = .ok (.lstore_n 1, 1) := by decide +kernel
theorem dX11_digest_86 : decode cX11_digest 86 = .ok (.iinc 4 1, 3) := by decide +kernel
theorem dX11_digest_89 : decode cX11_digest 89 = .ok (.goto (-27), 3) := by decide +kernel
theorem dX11_digest_92 : decode cX11_digest 92 = .ok (.iinc 3 1, 3) := by decide +kernel
theorem dX11_digest_95 : decode cX11_digest 95 = .ok (.goto (-47), 3) := by decide +kernel
theorem dX11_digest_98 : decode cX11_digest 98 = .ok (.iconst 0, 1) := by decide +kernel
theorem dX11_digest_99 : decode cX11_digest 99 = .ok (.istore_n 3, 1) := by decide +kernel
theorem dX11_digest_100 : decode cX11_digest 100 = .ok (.iload_n 3, 1) := by decide +kernel
theorem dX11_digest_101 : decode cX11_digest 101 = .ok (.iconst 3, 1) := by decide +kernel
theorem dX11_digest_102 : decode cX11_digest 102 = .ok (.if_icmp .ge 26, 3) := by decide +kernel
theorem dX11_digest_105 : decode cX11_digest 105 = .ok (.ldc2_w 346, 3) := by decide +kernel
theorem dX11_digest_108 : decode cX11_digest 108 = .ok (.lload_n 1, 1) := by decide +kernel
theorem dX11_digest_109 : decode cX11_digest 109 = .ok (.lmul, 1) := by decide +kernel
theorem dX11_digest_110 : decode cX11_digest 110 = .ok (.aload_n 0, 1) := by decide +kernel
theorem dX11_digest_111 : decode cX11_digest 111 = .ok (.getfield 25, 3) := by decide +kernel
theorem dX11_digest_114 : decode cX11_digest 114 = .ok (.iload_n 3, 1) := by decide +kernel
theorem dX11_digest_115 : decode cX11_digest 115 = .ok (.aaload, 1) := by decide +kernel
theorem dX11_digest_116 : decode cX11_digest 116 = .ok (.getfield 126, 3) := by decide +kernel
theorem dX11_digest_119 : decode cX11_digest 119 = .ok (.i2l, 1) := by decide +kernel
theorem dX11_digest_120 : decode cX11_digest 120 = .ok (.ladd, 1) := by decide +kernel
theorem dX11_digest_121 : decode cX11_digest 121 = .ok (.lstore_n 1, 1) := by decide +kernel
theorem dX11_digest_122 : decode cX11_digest 122 = .ok (.iinc 3 1, 3) := by decide +kernel
theorem dX11_digest_125 : decode cX11_digest 125 = .ok (.goto (-25), 3) := by decide +kernel
theorem dX11_digest_128 : decode cX11_digest 128 = .ok (.iconst 0, 1) := by decide +kernel
theorem dX11_digest_129 : decode cX11_digest 129 = .ok (.istore_n 3, 1) := by decide +kernel
theorem dX11_digest_130 : decode cX11_digest 130 = .ok (.iload_n 3, 1) := by decide +kernel
theorem dX11_digest_131 : decode cX11_digest 131 = .ok (.bipush 6, 2) := by decide +kernel
theorem dX11_digest_133 : decode cX11_digest 133 = .ok (.if_icmp .ge 20, 3) := by decide +kernel
theorem dX11_digest_136 : decode cX11_digest 136 = .ok (.aload_n 0, 1) := by decide +kernel
theorem dX11_digest_137 : decode cX11_digest 137 = .ok (.getfield 11, 3) := by decide +kernel
theorem dX11_digest_140 : decode cX11_digest 140 = .ok (.iload_n 3, 1) := by decide +kernel
theorem dX11_digest_141 : decode cX11_digest 141 = .ok (.aaload, 1) := by decide +kernel
theorem dX11_digest_142 : decode cX11_digest 142 = .ok (.lload_n 1, 1) := by decide +kernel
theorem dX11_digest_143 : decode cX11_digest 143 = .ok (.invokevirtual 351, 3) := by decide +kernel
theorem dX11_digest_146 : decode cX11_digest 146 = .ok (.lstore_n 1, 1) := by decide +kernel
theorem dX11_digest_147 : decode cX11_digest 147 = .ok (.iinc 3 1, 3) := by decide +kernel
theorem dX11_digest_150 : decode cX11_digest 150 = .ok (.goto (-20), 3) := by decide +kernel
theorem dX11_digest_153 : decode cX11_digest 153 = .ok (.iconst 0, 1) := by decide +kernel
theorem dX11_digest_154 : decode cX11_digest 154 = .ok (.istore_n 3, 1) := by decide +kernel
theorem dX11_digest_155 : decode cX11_digest 155 = .ok (.iload_n 3, 1) := by decide +kernel
theorem dX11_digest_156 : decode cX11_digest 156 = .ok (.iconst 4, 1) := by decide +kernel
theorem dX11_digest_157 : decode cX11_digest 157 = .ok (.if_icmp .ge 20, 3) := by decide +kernel
theorem dX11_digest_160 : decode cX11_digest 160 = .ok (.aload_n 0, 1) := by decide +kernel
theorem dX11_digest_161 : decode cX11_digest 161 = .ok (.getfield 15, 3) := by decide +kernel
theorem dX11_digest_164 : decode cX11_digest 164 = .ok (.iload_n 3, 1) := by decide +kernel
theorem dX11_digest_165 : decode cX11_digest 165 = .ok (.aaload, 1) := by decide +kernel
theorem dX11_digest_166 : decode cX11_digest 166 = .ok (.lload_n 1, 1) := by decide +kernel
theorem dX11_digest_167 : decode cX11_digest 167 = .ok (.invokevirtual 351, 3) := by decide +kernel
theorem dX11_digest_170 : decode cX11_digest 170 = .ok (.lstore_n 1, 1) := by decide +kernel
theorem dX11_digest_171 : decode cX11_digest 171 = .ok (.iinc 3 1, 3) := by decide +kernel
theorem dX11_digest_174 : decode cX11_digest 174 = .ok (.goto (-19), 3) := by decide +kernel
theorem dX11_digest_177 : decode cX11_digest 177 = .ok (.lload_n 1, 1) := by decide +kernel
theorem dX11_digest_178 : decode cX11_digest 178 = .ok (.lreturn, 1) := by decide +kernel
theorem dX11_has_0 : decode cX11_has 0 = .ok (.iload_n 1, 1) := by decide +kernel
theorem dX11_has_1 : decode cX11_has 1 = .ok (.ifCond .lt 13, 3) := by decide +kernel
theorem dX11_has_4 : decode cX11_has 4 = .ok (.iload_n 1, 1) := by decide +kernel
theorem dX11_has_5 : decode cX11_has 5 = .ok (.aload_n 0, 1) := by decide +kernel
theorem dX11_has_6 : decode cX11_has 6 = .ok (.arraylength, 1) := by decide +kernel
theorem dX11_has_7 : decode cX11_has 7 = .ok (.if_icmp .ge 7, 3) := by decide +kernel
theorem dX11_has_10 : decode cX11_has 10 = .ok (.iconst 1, 1) := by decide +kernel
theorem dX11_has_11 : decode cX11_has 11 = .ok (.goto 4, 3) := by decide +kernel
theorem dX11_has_14 : decode cX11_has 14 = .ok (.iconst 0, 1) := by decide +kernel
theorem dX11_has_15 : decode cX11_has 15 = .ok (.ireturn, 1) := by decide +kernel
theorem dX11_refuse_0 : decode cX11_refuse 0 = .ok (.aload_n 1, 1) := by decide +kernel
theorem dX11_refuse_1 : decode cX11_refuse 1 = .ok (.iload_n 2, 1) := by decide +kernel
theorem dX11_refuse_2 : decode cX11_refuse 2 = .ok (.invokestatic 105, 3) := by decide +kernel
theorem dX11_refuse_5 : decode cX11_refuse 5 = .ok (.ifCond .ne 5, 3) := by decide +kernel
theorem dX11_refuse_8 : decode cX11_refuse 8 = .ok (.iconst (-1), 1) := by decide +kernel
theorem dX11_refuse_9 : decode cX11_refuse 9 = .ok (.ireturn, 1) := by decide +kernel
theorem dX11_refuse_10 : decode cX11_refuse 10 = .ok (.aload_n 1, 1) := by decide +kernel
theorem dX11_refuse_11 : decode cX11_refuse 11 = .ok (.iload_n 2, 1) := by decide +kernel
theorem dX11_refuse_12 : decode cX11_refuse 12 = .ok (.aaload, 1) := by decide +kernel
theorem dX11_refuse_13 : decode cX11_refuse 13 = .ok (.invokevirtual 112, 3) := by decide +kernel
theorem dX11_refuse_16 : decode cX11_refuse 16 = .ok (.ifCond .eq 7, 3) := by decide +kernel
theorem dX11_refuse_19 : decode cX11_refuse 19 = .ok (.iconst 0, 1) := by decide +kernel
theorem dX11_refuse_20 : decode cX11_refuse 20 = .ok (.goto 8, 3) := by decide +kernel
theorem dX11_refuse_23 : decode cX11_refuse 23 = .ok (.aload_n 0, 1) := by decide +kernel
theorem dX11_refuse_24 : decode cX11_refuse 24 = .ok (.iconst 1, 1) := by decide +kernel
theorem dX11_refuse_25 : decode cX11_refuse 25 = .ok (.invokevirtual 109, 3) := by decide +kernel
theorem dX11_refuse_28 : decode cX11_refuse 28 = .ok (.ireturn, 1) := by decide +kernel
theorem dX11_refusePlace_0 : decode cX11_refusePlace 0 = .ok (.aload_n 0, 1) := by decide +kernel
theorem dX11_refusePlace_1 : decode cX11_refusePlace 1 = .ok (.aload_n 1, 1) := by decide +kernel
theorem dX11_refusePlace_2 : decode cX11_refusePlace 2 = .ok (.iload_n 2, 1) := by decide +kernel
theorem dX11_refusePlace_3 : decode cX11_refusePlace 3 = .ok (.invokevirtual 98, 3) := by decide +kernel
theorem dX11_refusePlace_6 : decode cX11_refusePlace 6 = .ok (.istore 4, 2) := by decide +kernel
theorem dX11_refusePlace_8 : decode cX11_refusePlace 8 = .ok (.iload 4, 2) := by decide +kernel
theorem dX11_refusePlace_10 : decode cX11_refusePlace 10 = .ok (.ifCond .eq 6, 3) := by decide +kernel
theorem dX11_refusePlace_13 : decode cX11_refusePlace 13 = .ok (.iload 4, 2) := by decide +kernel
theorem dX11_refusePlace_15 : decode cX11_refusePlace 15 = .ok (.ireturn, 1) := by decide +kernel
theorem dX11_refusePlace_16 : decode cX11_refusePlace 16 = .ok (.aload_n 1, 1) := by decide +kernel
theorem dX11_refusePlace_17 : decode cX11_refusePlace 17 = .ok (.iload_n 2, 1) := by decide +kernel
theorem dX11_refusePlace_18 : decode cX11_refusePlace 18 = .ok (.aaload, 1) := by decide +kernel
theorem dX11_refusePlace_19 : decode cX11_refusePlace 19 = .ok (.iload_n 3, 1) := by decide +kernel
theorem dX11_refusePlace_20 : decode cX11_refusePlace 20 = .ok (.invokevirtual 355, 3) := by decide +kernel
theorem dX11_refusePlace_23 : decode cX11_refusePlace 23 = .ok (.ifCond .eq 7, 3) := by decide +kernel
theorem dX11_refusePlace_26 : decode cX11_refusePlace 26 = .ok (.iconst 0, 1) := by decide +kernel
theorem dX11_refusePlace_27 : decode cX11_refusePlace 27 = .ok (.goto 8, 3) := by decide +kernel
theorem dX11_refusePlace_30 : decode cX11_refusePlace 30 = .ok (.aload_n 0, 1) := by decide +kernel
theorem dX11_refusePlace_31 : decode cX11_refusePlace 31 = .ok (.iconst 2, 1) := by decide +kernel
theorem dX11_refusePlace_32 : decode cX11_refusePlace 32 = .ok (.invokevirtual 109, 3) := by decide +kernel
theorem dX11_refusePlace_35 : decode cX11_refusePlace 35 = .ok (.ireturn, 1) := by decide +kernel
theorem dX11_refuseUnfit_0 : decode cX11_refuseUnfit 0 = .ok (.aload_n 0, 1) := by decide +kernel
theorem dX11_refuseUnfit_1 : decode cX11_refuseUnfit 1 = .ok (.getfield 21, 3) := by decide +kernel
theorem dX11_refuseUnfit_4 : decode cX11_refuseUnfit 4 = .ok (.iload_n 1, 1) := by decide +kernel
theorem dX11_refuseUnfit_5 : decode cX11_refuseUnfit 5 = .ok (.invokevirtual 253, 3) := by decide +kernel
theorem dX11_refuseUnfit_8 : decode cX11_refuseUnfit 8 = .ok (.ifCond .ne 5, 3) := by decide +kernel
theorem dX11_refuseUnfit_11 : decode cX11_refuseUnfit 11 = .ok (.iconst (-1), 1) := by decide +kernel
theorem dX11_refuseUnfit_12 : decode cX11_refuseUnfit 12 = .ok (.ireturn, 1) := by decide +kernel
theorem dX11_refuseUnfit_13 : decode cX11_refuseUnfit 13 = .ok (.aload_n 0, 1) := by decide +kernel
theorem dX11_refuseUnfit_14 : decode cX11_refuseUnfit 14 = .ok (.getfield 43, 3) := by decide +kernel
theorem dX11_refuseUnfit_17 : decode cX11_refuseUnfit 17 = .ok (.aload_n 0, 1) := by decide +kernel
theorem dX11_refuseUnfit_18 : decode cX11_refuseUnfit 18 = .ok (.getfield 21, 3) := by decide +kernel
theorem dX11_refuseUnfit_21 : decode cX11_refuseUnfit 21 = .ok (.invokevirtual 256, 3) := by decide +kernel
theorem dX11_refuseUnfit_24 : decode cX11_refuseUnfit 24 = .ok (.aload_n 0, 1) := by decide +kernel
theorem dX11_refuseUnfit_25 : decode cX11_refuseUnfit 25 = .ok (.getfield 43, 3) := by decide +kernel
theorem dX11_refuseUnfit_28 : decode cX11_refuseUnfit 28 = .ok (.iload_n 1, 1) := by decide +kernel
theorem dX11_refuseUnfit_29 : decode cX11_refuseUnfit 29 = .ok (.iconst 0, 1) := by decide +kernel
theorem dX11_refuseUnfit_30 : decode cX11_refuseUnfit 30 = .ok (.invokevirtual 302, 3) := by decide +kernel
theorem dX11_refuseUnfit_33 : decode cX11_refuseUnfit 33 = .ok (.ifCond .le 7, 3) := by decide +kernel
theorem dX11_refuseUnfit_36 : decode cX11_refuseUnfit 36 = .ok (.iconst 0, 1) := by decide +kernel
theorem dX11_refuseUnfit_37 : decode cX11_refuseUnfit 37 = .ok (.goto 8, 3) := by decide +kernel
theorem dX11_refuseUnfit_40 : decode cX11_refuseUnfit 40 = .ok (.aload_n 0, 1) := by decide +kernel
theorem dX11_refuseUnfit_41 : decode cX11_refuseUnfit 41 = .ok (.iconst 4, 1) := by decide +kernel
theorem dX11_refuseUnfit_42 : decode cX11_refuseUnfit 42 = .ok (.invokevirtual 109, 3) := by decide +kernel
theorem dX11_refuseUnfit_45 : decode cX11_refuseUnfit 45 = .ok (.ireturn, 1) := by decide +kernel
theorem dX11_open_0 : decode cX11_open 0 = .ok (.aload_n 1, 1) := by decide +kernel
theorem dX11_open_1 : decode cX11_open 1 = .ok (.iload_n 2, 1) := by decide +kernel
theorem dX11_open_2 : decode cX11_open 2 = .ok (.invokestatic 105, 3) := by decide +kernel
theorem dX11_open_5 : decode cX11_open 5 = .ok (.ifCond .eq 14, 3) := by decide +kernel
theorem dX11_open_8 : decode cX11_open 8 = .ok (.iload_n 3, 1) := by decide +kernel
theorem dX11_open_9 : decode cX11_open 9 = .ok (.aload_n 1, 1) := by decide +kernel
theorem dX11_open_10 : decode cX11_open 10 = .ok (.iload_n 2, 1) := by decide +kernel
theorem dX11_open_11 : decode cX11_open 11 = .ok (.aaload, 1) := by decide +kernel
theorem dX11_open_12 : decode cX11_open 12 = .ok (.getfield 95, 3) := by decide +kernel
theorem dX11_open_15 : decode cX11_open 15 = .ok (.arraylength, 1) := by decide +kernel
theorem dX11_open_16 : decode cX11_open 16 = .ok (.if_icmp .le 5, 3) := by decide +kernel
theorem dX11_open_19 : decode cX11_open 19 = .ok (.iconst (-1), 1) := by decide +kernel
theorem dX11_open_20 : decode cX11_open 20 = .ok (.ireturn, 1) := by decide +kernel
theorem dX11_open_21 : decode cX11_open 21 = .ok (.iload_n 3, 1) := by decide +kernel
theorem dX11_open_22 : decode cX11_open 22 = .ok (.ifCond .ge 9, 3) := by decide +kernel
theorem dX11_open_25 : decode cX11_open 25 = .ok (.aload_n 0, 1) := by decide +kernel
theorem dX11_open_26 : decode cX11_open 26 = .ok (.iconst 5, 1) := by decide +kernel
theorem dX11_open_27 : decode cX11_open 27 = .ok (.invokevirtual 109, 3) := by decide +kernel
theorem dX11_open_30 : decode cX11_open 30 = .ok (.ireturn, 1) := by decide +kernel
theorem dX11_open_31 : decode cX11_open 31 = .ok (.aload_n 1, 1) := by decide +kernel
theorem dX11_open_32 : decode cX11_open 32 = .ok (.iload_n 2, 1) := by decide +kernel
theorem dX11_open_33 : decode cX11_open 33 = .ok (.aaload, 1) := by decide +kernel
theorem dX11_open_34 : decode cX11_open 34 = .ok (.iload_n 3, 1) := by decide +kernel
theorem dX11_open_35 : decode cX11_open 35 = .ok (.iload 4, 2) := by decide +kernel
theorem dX11_open_37 : decode cX11_open 37 = .ok (.invokevirtual 357, 3) := by decide +kernel
theorem dX11_open_40 : decode cX11_open 40 = .ok (.iload_n 3, 1) := by decide +kernel
theorem dX11_open_41 : decode cX11_open 41 = .ok (.ireturn, 1) := by decide +kernel
theorem dX11_countThere_0 : decode cX11_countThere 0 = .ok (.iconst 0, 1) := by decide +kernel
theorem dX11_countThere_1 : decode cX11_countThere 1 = .ok (.istore_n 1, 1) := by decide +kernel
theorem dX11_countThere_2 : decode cX11_countThere 2 = .ok (.iconst 0, 1) := by decide +kernel
theorem dX11_countThere_3 : decode cX11_countThere 3 = .ok (.istore_n 2, 1) := by decide +kernel
theorem dX11_countThere_4 : decode cX11_countThere 4 = .ok (.iload_n 2, 1) := by decide +kernel
theorem dX11_countThere_5 : decode cX11_countThere 5 = .ok (.aload_n 0, 1) := by decide +kernel
theorem dX11_countThere_6 : decode cX11_countThere 6 = .ok (.arraylength, 1) := by decide +kernel
theorem dX11_countThere_7 : decode cX11_countThere 7 = .ok (.if_icmp .ge 26, 3) := by decide +kernel
theorem dX11_countThere_10 : decode cX11_countThere 10 = .ok (.iload_n 1, 1) := by decide +kernel
theorem dX11_countThere_11 : decode cX11_countThere 11 = .ok (.aload_n 0, 1) := by decide +kernel
theorem dX11_countThere_12 : decode cX11_countThere 12 = .ok (.iload_n 2, 1) := by decide +kernel
theorem dX11_countThere_13 : decode cX11_countThere 13 = .ok (.aaload, 1) := by decide +kernel
theorem dX11_countThere_14 : decode cX11_countThere 14 = .ok (.invokevirtual 112, 3) := by decide +kernel
theorem dX11_countThere_17 : decode cX11_countThere 17 = .ok (.ifCond .eq 7, 3) := by decide +kernel
theorem dX11_countThere_20 : decode cX11_countThere 20 = .ok (.iconst 1, 1) := by decide +kernel
theorem dX11_countThere_21 : decode cX11_countThere 21 = .ok (.goto 4, 3) := by decide +kernel
theorem dX11_countThere_24 : decode cX11_countThere 24 = .ok (.iconst 0, 1) := by decide +kernel
theorem dX11_countThere_25 : decode cX11_countThere 25 = .ok (.iadd, 1) := by decide +kernel
theorem dX11_countThere_26 : decode cX11_countThere 26 = .ok (.istore_n 1, 1) := by decide +kernel
theorem dX11_countThere_27 : decode cX11_countThere 27 = .ok (.iinc 2 1, 3) := by decide +kernel
theorem dX11_countThere_30 : decode cX11_countThere 30 = .ok (.goto (-26), 3) := by decide +kernel
theorem dX11_countThere_33 : decode cX11_countThere 33 = .ok (.iload_n 1, 1) := by decide +kernel
theorem dX11_countThere_34 : decode cX11_countThere 34 = .ok (.ireturn, 1) := by decide +kernel
theorem dX11_find_0 : decode cX11_find 0 = .ok (.aload_n 0, 1) := by decide +kernel
theorem dX11_find_1 : decode cX11_find 1 = .ok (.iload_n 1, 1) := by decide +kernel
theorem dX11_find_2 : decode cX11_find 2 = .ok (.putfield 65, 3) := by decide +kernel
theorem dX11_find_5 : decode cX11_find 5 = .ok (.aload_n 0, 1) := by decide +kernel
theorem dX11_find_6 : decode cX11_find 6 = .ok (.getfield 61, 3) := by decide +kernel
theorem dX11_find_9 : decode cX11_find 9 = .ok (.iload_n 1, 1) := by decide +kernel
theorem dX11_find_10 : decode cX11_find 10 = .ok (.dup2, 1) := by decide +kernel
theorem dX11_find_11 : decode cX11_find 11 = .ok (.iaload, 1) := by decide +kernel
theorem dX11_find_12 : decode cX11_find 12 = .ok (.iconst 1, 1) := by decide +kernel
theorem dX11_find_13 : decode cX11_find 13 = .ok (.iadd, 1) := by decide +kernel
theorem dX11_find_14 : decode cX11_find 14 = .ok (.iastore, 1) := by decide +kernel
theorem dX11_find_15 : decode cX11_find 15 = .ok (.bipush (-3), 2) := by decide +kernel
theorem dX11_find_17 : decode cX11_find 17 = .ok (.ireturn, 1) := by decide +kernel
theorem dX11_tell_0 : decode cX11_tell 0 = .ok (.aload_n 0, 1) := by decide +kernel
theorem dX11_tell_1 : decode cX11_tell 1 = .ok (.iload_n 1, 1) := by decide +kernel
theorem dX11_tell_2 : decode cX11_tell 2 = .ok (.putfield 69, 3) := by decide +kernel
theorem dX11_tell_5 : decode cX11_tell 5 = .ok (.iconst 1, 1) := by decide +kernel
theorem dX11_tell_6 : decode cX11_tell 6 = .ok (.ireturn, 1) := by decide +kernel
theorem dX11_tellRatio_0 : decode cX11_tellRatio 0 = .ok (.lload_n 1, 1) := by decide +kernel
theorem dX11_tellRatio_1 : decode cX11_tellRatio 1 = .ok (.lload_n 3, 1) := by decide +kernel
theorem dX11_tellRatio_2 : decode cX11_tellRatio 2 = .ok (.invokestatic 359, 3) := by decide +kernel
theorem dX11_tellRatio_5 : decode cX11_tellRatio 5 = .ok (.lstore 5, 2) := by decide +kernel
theorem dX11_tellRatio_7 : decode cX11_tellRatio 7 = .ok (.lload 5, 2) := by decide +kernel
theorem dX11_tellRatio_9 : decode cX11_tellRatio 9 = .ok (.lconst 1, 1) := by decide +kernel
theorem dX11_tellRatio_10 : decode cX11_tellRatio 10 = .ok (.lcmp, 1) := by decide +kernel
theorem dX11_tellRatio_11 : decode cX11_tellRatio 11 = .ok (.ifCond .ge 5, 3) := by decide +kernel
theorem dX11_tellRatio_14 : decode cX11_tellRatio 14 = .ok (.iconst 1, 1) := by decide +kernel
theorem dX11_tellRatio_15 : decode cX11_tellRatio 15 = .ok (.ireturn, 1) := by decide +kernel
theorem dX11_tellRatio_16 : decode cX11_tellRatio 16 = .ok (.aload_n 0, 1) := by decide +kernel
theorem dX11_tellRatio_17 : decode cX11_tellRatio 17 = .ok (.lload_n 1, 1) := by decide +kernel
theorem dX11_tellRatio_18 : decode cX11_tellRatio 18 = .ok (.lload 5, 2) := by decide +kernel
theorem dX11_tellRatio_20 : decode cX11_tellRatio 20 = .ok (.ldiv, 1) := by decide +kernel
theorem dX11_tellRatio_21 : decode cX11_tellRatio 21 = .ok (.putfield 72, 3) := by decide +kernel
theorem dX11_tellRatio_24 : decode cX11_tellRatio 24 = .ok (.aload_n 0, 1) := by decide +kernel
theorem dX11_tellRatio_25 : decode cX11_tellRatio 25 = .ok (.lload_n 3, 1) := by decide +kernel
theorem dX11_tellRatio_26 : decode cX11_tellRatio 26 = .ok (.lload 5, 2) := by decide +kernel
theorem dX11_tellRatio_28 : decode cX11_tellRatio 28 = .ok (.ldiv, 1) := by decide +kernel
theorem dX11_tellRatio_29 : decode cX11_tellRatio 29 = .ok (.putfield 76, 3) := by decide +kernel
theorem dX11_tellRatio_32 : decode cX11_tellRatio 32 = .ok (.iconst 1, 1) := by decide +kernel
theorem dX11_tellRatio_33 : decode cX11_tellRatio 33 = .ok (.ireturn, 1) := by decide +kernel
theorem dX11_greatestDivisor_0 : decode cX11_greatestDivisor 0 = .ok (.lload_n 0, 1) := by decide +kernel
theorem dX11_greatestDivisor_1 : decode cX11_greatestDivisor 1 = .ok (.lstore 4, 2) := by decide +kernel
theorem dX11_greatestDivisor_3 : decode cX11_greatestDivisor 3 = .ok (.lload_n 2, 1) := by decide +kernel
theorem dX11_greatestDivisor_4 : decode cX11_greatestDivisor 4 = .ok (.lstore 6, 2) := by decide +kernel
theorem dX11_greatestDivisor_6 : decode cX11_greatestDivisor 6 = .ok (.iconst 0, 1) := by decide +kernel
theorem dX11_greatestDivisor_7 : decode cX11_greatestDivisor 7 = .ok (.istore 8, 2) := by decide +kernel
theorem dX11_greatestDivisor_9 : decode cX11_greatestDivisor 9 = .ok (.iload 8, 2) := by decide +kernel
theorem dX11_greatestDivisor_11 : decode cX11_greatestDivisor 11 = .ok (.bipush 100, 2) := by decide +kernel
theorem dX11_greatestDivisor_13 : decode cX11_greatestDivisor 13 = .ok (.if_icmp .ge 31, 3) := by decide +kernel
theorem dX11_greatestDivisor_16 : decode cX11_greatestDivisor 16 = .ok (.lload 6, 2) := by decide +kernel
theorem dX11_greatestDivisor_18 : decode cX11_greatestDivisor 18 = .ok (.lconst 0, 1) := by decide +kernel
theorem dX11_greatestDivisor_19 : decode cX11_greatestDivisor 19 = .ok (.lcmp, 1) := by decide +kernel
theorem dX11_greatestDivisor_20 : decode cX11_greatestDivisor 20 = .ok (.ifCond .eq 24, 3) := by decide +kernel
theorem dX11_greatestDivisor_23 : decode cX11_greatestDivisor 23 = .ok (.lload 4, 2) := by decide +kernel
theorem dX11_greatestDivisor_25 : decode cX11_greatestDivisor 25 = .ok (.lload 6, 2) := by decide +kernel
theorem dX11_greatestDivisor_27 : decode cX11_greatestDivisor 27 = .ok (.lrem, 1) := by decide +kernel
theorem dX11_greatestDivisor_28 : decode cX11_greatestDivisor 28 = .ok (.lstore 9, 2) := by decide +kernel
theorem dX11_greatestDivisor_30 : decode cX11_greatestDivisor 30 = .ok (.lload 6, 2) := by decide +kernel
theorem dX11_greatestDivisor_32 : decode cX11_greatestDivisor 32 = .ok (.lstore 4, 2) := by decide +kernel
theorem dX11_greatestDivisor_34 : decode cX11_greatestDivisor 34 = .ok (.lload 9, 2) := by decide +kernel
theorem dX11_greatestDivisor_36 : decode cX11_greatestDivisor 36 = .ok (.lstore 6, 2) := by decide +kernel
theorem dX11_greatestDivisor_38 : decode cX11_greatestDivisor 38 = .ok (.iinc 8 1, 3) := by decide +kernel
theorem dX11_greatestDivisor_41 : decode cX11_greatestDivisor 41 = .ok (.goto (-32), 3) := by decide +kernel
theorem dX11_greatestDivisor_44 : decode cX11_greatestDivisor 44 = .ok (.lload 4, 2) := by decide +kernel
theorem dX11_greatestDivisor_46 : decode cX11_greatestDivisor 46 = .ok (.lreturn, 1) := by decide +kernel
theorem dX11_remainder_0 : decode cX11_remainder 0 = .ok (.iload_n 1, 1) := by decide +kernel
theorem dX11_remainder_1 : decode cX11_remainder 1 = .ok (.iconst 1, 1) := by decide +kernel
theorem dX11_remainder_2 : decode cX11_remainder 2 = .ok (.if_icmp .ge 7, 3) := by decide +kernel
theorem dX11_remainder_5 : decode cX11_remainder 5 = .ok (.iconst 0, 1) := by decide +kernel
theorem dX11_remainder_6 : decode cX11_remainder 6 = .ok (.goto 8, 3) := by decide +kernel
theorem dX11_remainder_9 : decode cX11_remainder 9 = .ok (.iload_n 0, 1) := by decide +kernel
theorem dX11_remainder_10 : decode cX11_remainder 10 = .ok (.iload_n 1, 1) := by decide +kernel
theorem dX11_remainder_11 : decode cX11_remainder 11 = .ok (.invokestatic 363, 3) := by decide +kernel
theorem dX11_remainder_14 : decode cX11_remainder 14 = .ok (.ireturn, 1) := by decide +kernel
