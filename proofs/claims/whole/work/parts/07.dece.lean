theorem dX12_layCosts_76 : decode cX12_layCosts 76 = .ok (.goto 4, 3) := by decide +kernel
theorem dX12_layCosts_79 : decode cX12_layCosts 79 = .ok (.iconst 1, 1) := by decide +kernel
theorem dX12_layCosts_80 : decode cX12_layCosts 80 = .ok (.aload_n 0, 1) := by decide +kernel
theorem dX12_layCosts_81 : decode cX12_layCosts 81 = .ok (.getfield 76, 3) := by decide +kernel
theorem dX12_layCosts_84 : decode cX12_layCosts 84 = .ok (.iload 4, 2) := by decide +kernel
theorem dX12_layCosts_86 : decode cX12_layCosts 86 = .ok (.aload_n 0, 1) := by decide +kernel
theorem dX12_layCosts_87 : decode cX12_layCosts 87 = .ok (.iload 5, 2) := by decide +kernel
theorem dX12_layCosts_89 : decode cX12_layCosts 89 = .ok (.invokevirtual 186, 3) := by decide +kernel
theorem dX12_layCosts_92 : decode cX12_layCosts 92 = .ok (.iadd, 1) := by decide +kernel
theorem dX12_layCosts_93 : decode cX12_layCosts 93 = .ok (.aload_n 0, 1) := by decide +kernel
theorem dX12_layCosts_94 : decode cX12_layCosts 94 = .ok (.getfield 171, 3) := by decide +kernel
theorem dX12_layCosts_97 : decode cX12_layCosts 97 = .ok (.irem, 1) := by decide +kernel
theorem dX12_layCosts_98 : decode cX12_layCosts 98 = .ok (.iaload, 1) := by decide +kernel
theorem dX12_layCosts_99 : decode cX12_layCosts 99 = .ok (.iadd, 1) := by decide +kernel
theorem dX12_layCosts_100 : decode cX12_layCosts 100 = .ok (.istore 6, 2) := by decide +kernel
theorem dX12_layCosts_102 : decode cX12_layCosts 102 = .ok (.iload 6, 2) := by decide +kernel
theorem dX12_layCosts_104 : decode cX12_layCosts 104 = .ok (.aload_n 0, 1) := by decide +kernel
theorem dX12_layCosts_105 : decode cX12_layCosts 105 = .ok (.getfield 76, 3) := by decide +kernel
theorem dX12_layCosts_108 : decode cX12_layCosts 108 = .ok (.iload 4, 2) := by decide +kernel
theorem dX12_layCosts_110 : decode cX12_layCosts 110 = .ok (.iaload, 1) := by decide +kernel
theorem dX12_layCosts_111 : decode cX12_layCosts 111 = .ok (.if_icmp .ge 14, 3) := by decide +kernel
theorem dX12_layCosts_114 : decode cX12_layCosts 114 = .ok (.aload_n 0, 1) := by decide +kernel
theorem dX12_layCosts_115 : decode cX12_layCosts 115 = .ok (.getfield 76, 3) := by decide +kernel
theorem dX12_layCosts_118 : decode cX12_layCosts 118 = .ok (.iload 4, 2) := by decide +kernel
theorem dX12_layCosts_120 : decode cX12_layCosts 120 = .ok (.iload 6, 2) := by decide +kernel
theorem dX12_layCosts_122 : decode cX12_layCosts 122 = .ok (.iastore, 1) := by decide +kernel
theorem dX12_layCosts_123 : decode cX12_layCosts 123 = .ok (.iconst 1, 1) := by decide +kernel
theorem dX12_layCosts_124 : decode cX12_layCosts 124 = .ok (.istore_n 3, 1) := by decide +kernel
theorem dX12_layCosts_125 : decode cX12_layCosts 125 = .ok (.iinc 5 1, 3) := by decide +kernel
theorem dX12_layCosts_128 : decode cX12_layCosts 128 = .ok (.goto (-72), 3) := by decide +kernel
theorem dX12_layCosts_131 : decode cX12_layCosts 131 = .ok (.iinc 4 1, 3) := by decide +kernel
theorem dX12_layCosts_134 : decode cX12_layCosts 134 = .ok (.goto (-90), 3) := by decide +kernel
theorem dX12_layCosts_137 : decode cX12_layCosts 137 = .ok (.goto (-102), 3) := by decide +kernel
theorem dX12_layCosts_140 : decode cX12_layCosts 140 = .ok (.return_, 1) := by decide +kernel
theorem dX12_fewest_0 : decode cX12_fewest 0 = .ok (.aload_n 0, 1) := by decide +kernel
theorem dX12_fewest_1 : decode cX12_fewest 1 = .ok (.iload_n 1, 1) := by decide +kernel
theorem dX12_fewest_2 : decode cX12_fewest 2 = .ok (.invokevirtual 256, 3) := by decide +kernel
theorem dX12_fewest_5 : decode cX12_fewest 5 = .ok (.ifCond .ne 5, 3) := by decide +kernel
theorem dX12_fewest_8 : decode cX12_fewest 8 = .ok (.iconst (-1), 1) := by decide +kernel
theorem dX12_fewest_9 : decode cX12_fewest 9 = .ok (.ireturn, 1) := by decide +kernel
theorem dX12_fewest_10 : decode cX12_fewest 10 = .ok (.aload_n 0, 1) := by decide +kernel
theorem dX12_fewest_11 : decode cX12_fewest 11 = .ok (.iload_n 1, 1) := by decide +kernel
theorem dX12_fewest_12 : decode cX12_fewest 12 = .ok (.iconst 0, 1) := by decide +kernel
theorem dX12_fewest_13 : decode cX12_fewest 13 = .ok (.invokevirtual 267, 3) := by decide +kernel
theorem dX12_fewest_16 : decode cX12_fewest 16 = .ok (.aload_n 0, 1) := by decide +kernel
theorem dX12_fewest_17 : decode cX12_fewest 17 = .ok (.getfield 76, 3) := by decide +kernel
theorem dX12_fewest_20 : decode cX12_fewest 20 = .ok (.aload_n 0, 1) := by decide +kernel
theorem dX12_fewest_21 : decode cX12_fewest 21 = .ok (.getfield 45, 3) := by decide +kernel
theorem dX12_fewest_24 : decode cX12_fewest 24 = .ok (.iconst 0, 1) := by decide +kernel
theorem dX12_fewest_25 : decode cX12_fewest 25 = .ok (.iaload, 1) := by decide +kernel
theorem dX12_fewest_26 : decode cX12_fewest 26 = .ok (.iaload, 1) := by decide +kernel
theorem dX12_fewest_27 : decode cX12_fewest 27 = .ok (.istore_n 2, 1) := by decide +kernel
theorem dX12_fewest_28 : decode cX12_fewest 28 = .ok (.iload_n 2, 1) := by decide +kernel
theorem dX12_fewest_29 : decode cX12_fewest 29 = .ok (.ldc 255, 2) := by decide +kernel
theorem dX12_fewest_31 : decode cX12_fewest 31 = .ok (.if_icmp .ne 6, 3) := by decide +kernel
theorem dX12_fewest_34 : decode cX12_fewest 34 = .ok (.bipush (-9), 2) := by decide +kernel
theorem dX12_fewest_36 : decode cX12_fewest 36 = .ok (.ireturn, 1) := by decide +kernel
theorem dX12_fewest_37 : decode cX12_fewest 37 = .ok (.bipush (-9), 2) := by decide +kernel
theorem dX12_fewest_39 : decode cX12_fewest 39 = .ok (.istore_n 3, 1) := by decide +kernel
theorem dX12_fewest_40 : decode cX12_fewest 40 = .ok (.aload_n 0, 1) := by decide +kernel
theorem dX12_fewest_41 : decode cX12_fewest 41 = .ok (.getfield 168, 3) := by decide +kernel
theorem dX12_fewest_44 : decode cX12_fewest 44 = .ok (.iconst 1, 1) := by decide +kernel
theorem dX12_fewest_45 : decode cX12_fewest 45 = .ok (.isub, 1) := by decide +kernel
theorem dX12_fewest_46 : decode cX12_fewest 46 = .ok (.istore 4, 2) := by decide +kernel
theorem dX12_fewest_48 : decode cX12_fewest 48 = .ok (.iload 4, 2) := by decide +kernel
theorem dX12_fewest_50 : decode cX12_fewest 50 = .ok (.ifCond .lt 49, 3) := by decide +kernel
theorem dX12_fewest_53 : decode cX12_fewest 53 = .ok (.iload_n 2, 1) := by decide +kernel
theorem dX12_fewest_54 : decode cX12_fewest 54 = .ok (.ifCond .le 37, 3) := by decide +kernel
theorem dX12_fewest_57 : decode cX12_fewest 57 = .ok (.aload_n 0, 1) := by decide +kernel
theorem dX12_fewest_58 : decode cX12_fewest 58 = .ok (.getfield 76, 3) := by decide +kernel
theorem dX12_fewest_61 : decode cX12_fewest 61 = .ok (.aload_n 0, 1) := by decide +kernel
theorem dX12_fewest_62 : decode cX12_fewest 62 = .ok (.getfield 45, 3) := by decide +kernel
theorem dX12_fewest_65 : decode cX12_fewest 65 = .ok (.iconst 0, 1) := by decide +kernel
theorem dX12_fewest_66 : decode cX12_fewest 66 = .ok (.iaload, 1) := by decide +kernel
theorem dX12_fewest_67 : decode cX12_fewest 67 = .ok (.aload_n 0, 1) := by decide +kernel
theorem dX12_fewest_68 : decode cX12_fewest 68 = .ok (.iload 4, 2) := by decide +kernel
theorem dX12_fewest_70 : decode cX12_fewest 70 = .ok (.invokevirtual 186, 3) := by decide +kernel
theorem dX12_fewest_73 : decode cX12_fewest 73 = .ok (.iadd, 1) := by decide +kernel
theorem dX12_fewest_74 : decode cX12_fewest 74 = .ok (.aload_n 0, 1) := by decide +kernel
theorem dX12_fewest_75 : decode cX12_fewest 75 = .ok (.getfield 171, 3) := by decide +kernel
theorem dX12_fewest_78 : decode cX12_fewest 78 = .ok (.irem, 1) := by decide +kernel
theorem dX12_fewest_79 : decode cX12_fewest 79 = .ok (.iaload, 1) := by decide +kernel
theorem dX12_fewest_80 : decode cX12_fewest 80 = .ok (.iload_n 2, 1) := by decide +kernel
theorem dX12_fewest_81 : decode cX12_fewest 81 = .ok (.iconst 1, 1) := by decide +kernel
theorem dX12_fewest_82 : decode cX12_fewest 82 = .ok (.isub, 1) := by decide +kernel
theorem dX12_fewest_83 : decode cX12_fewest 83 = .ok (.if_icmp .ne 8, 3) := by decide +kernel
theorem dX12_fewest_86 : decode cX12_fewest 86 = .ok (.iload 4, 2) := by decide +kernel
theorem dX12_fewest_88 : decode cX12_fewest 88 = .ok (.goto 4, 3) := by decide +kernel
theorem dX12_fewest_91 : decode cX12_fewest 91 = .ok (.iload_n 3, 1) := by decide +kernel
theorem dX12_fewest_92 : decode cX12_fewest 92 = .ok (.istore_n 3, 1) := by decide +kernel
theorem dX12_fewest_93 : decode cX12_fewest 93 = .ok (.iinc 4 (-1), 3) := by decide +kernel
theorem dX12_fewest_96 : decode cX12_fewest 96 = .ok (.goto (-48), 3) := by decide +kernel
theorem dX12_fewest_99 : decode cX12_fewest 99 = .ok (.aload_n 0, 1) := by decide +kernel
theorem dX12_fewest_100 : decode cX12_fewest 100 = .ok (.iload_n 3, 1) := by decide +kernel
theorem dX12_fewest_101 : decode cX12_fewest 101 = .ok (.iload_n 2, 1) := by decide +kernel
theorem dX12_fewest_102 : decode cX12_fewest 102 = .ok (.invokevirtual 118, 3) := by decide +kernel
theorem dX12_fewest_105 : decode cX12_fewest 105 = .ok (.ireturn, 1) := by decide +kernel
theorem dX12_feet_0 : decode cX12_feet 0 = .ok (.aload_n 0, 1) := by decide +kernel
theorem dX12_feet_1 : decode cX12_feet 1 = .ok (.iload_n 1, 1) := by decide +kernel
theorem dX12_feet_2 : decode cX12_feet 2 = .ok (.invokevirtual 256, 3) := by decide +kernel
theorem dX12_feet_5 : decode cX12_feet 5 = .ok (.ifCond .ne 5, 3) := by decide +kernel
theorem dX12_feet_8 : decode cX12_feet 8 = .ok (.iconst (-1), 1) := by decide +kernel
theorem dX12_feet_9 : decode cX12_feet 9 = .ok (.ireturn, 1) := by decide +kernel
theorem dX12_feet_10 : decode cX12_feet 10 = .ok (.aload_n 0, 1) := by decide +kernel
theorem dX12_feet_11 : decode cX12_feet 11 = .ok (.iload_n 1, 1) := by decide +kernel
theorem dX12_feet_12 : decode cX12_feet 12 = .ok (.iconst 1, 1) := by decide +kernel
theorem dX12_feet_13 : decode cX12_feet 13 = .ok (.invokevirtual 267, 3) := by decide +kernel
theorem dX12_feet_16 : decode cX12_feet 16 = .ok (.aload_n 0, 1) := by decide +kernel
theorem dX12_feet_17 : decode cX12_feet 17 = .ok (.getfield 76, 3) := by decide +kernel
theorem dX12_feet_20 : decode cX12_feet 20 = .ok (.aload_n 0, 1) := by decide +kernel
theorem dX12_feet_21 : decode cX12_feet 21 = .ok (.getfield 45, 3) := by decide +kernel
theorem dX12_feet_24 : decode cX12_feet 24 = .ok (.iconst 0, 1) := by decide +kernel
theorem dX12_feet_25 : decode cX12_feet 25 = .ok (.iaload, 1) := by decide +kernel
theorem dX12_feet_26 : decode cX12_feet 26 = .ok (.iaload, 1) := by decide +kernel
theorem dX12_feet_27 : decode cX12_feet 27 = .ok (.istore_n 2, 1) := by decide +kernel
theorem dX12_feet_28 : decode cX12_feet 28 = .ok (.iload_n 2, 1) := by decide +kernel
theorem dX12_feet_29 : decode cX12_feet 29 = .ok (.ldc 255, 2) := by decide +kernel
theorem dX12_feet_31 : decode cX12_feet 31 = .ok (.if_icmp .ne 8, 3) := by decide +kernel
theorem dX12_feet_34 : decode cX12_feet 34 = .ok (.bipush (-9), 2) := by decide +kernel
theorem dX12_feet_36 : decode cX12_feet 36 = .ok (.goto 4, 3) := by decide +kernel
theorem dX12_feet_39 : decode cX12_feet 39 = .ok (.iload_n 2, 1) := by decide +kernel
theorem dX12_feet_40 : decode cX12_feet 40 = .ok (.ireturn, 1) := by decide +kernel
theorem dX12_hadWithout_0 : decode cX12_hadWithout 0 = .ok (.iconst 1, 1) := by decide +kernel
theorem dX12_hadWithout_1 : decode cX12_hadWithout 1 = .ok (.istore_n 2, 1) := by decide +kernel
theorem dX12_hadWithout_2 : decode cX12_hadWithout 2 = .ok (.iconst 0, 1) := by decide +kernel
theorem dX12_hadWithout_3 : decode cX12_hadWithout 3 = .ok (.istore_n 3, 1) := by decide +kernel
theorem dX12_hadWithout_4 : decode cX12_hadWithout 4 = .ok (.iload_n 3, 1) := by decide +kernel
theorem dX12_hadWithout_5 : decode cX12_hadWithout 5 = .ok (.aload_n 0, 1) := by decide +kernel
theorem dX12_hadWithout_6 : decode cX12_hadWithout 6 = .ok (.getfield 171, 3) := by decide +kernel
theorem dX12_hadWithout_9 : decode cX12_hadWithout 9 = .ok (.if_icmp .ge 30, 3) := by decide +kernel
theorem dX12_hadWithout_12 : decode cX12_hadWithout 12 = .ok (.aload_n 0, 1) := by decide +kernel
theorem dX12_hadWithout_13 : decode cX12_hadWithout 13 = .ok (.getfield 79, 3) := by decide +kernel
theorem dX12_hadWithout_16 : decode cX12_hadWithout 16 = .ok (.iload_n 3, 1) := by decide +kernel
theorem dX12_hadWithout_17 : decode cX12_hadWithout 17 = .ok (.iload_n 3, 1) := by decide +kernel
theorem dX12_hadWithout_18 : decode cX12_hadWithout 18 = .ok (.aload_n 0, 1) := by decide +kernel
theorem dX12_hadWithout_19 : decode cX12_hadWithout 19 = .ok (.getfield 45, 3) := by decide +kernel
theorem dX12_hadWithout_22 : decode cX12_hadWithout 22 = .ok (.iconst 0, 1) := by decide +kernel
theorem dX12_hadWithout_23 : decode cX12_hadWithout 23 = .ok (.iaload, 1) := by decide +kernel
theorem dX12_hadWithout_24 : decode cX12_hadWithout 24 = .ok (.if_icmp .ne 7, 3) := by decide +kernel
theorem dX12_hadWithout_27 : decode cX12_hadWithout 27 = .ok (.iconst 1, 1) := by decide +kernel
theorem dX12_hadWithout_28 : decode cX12_hadWithout 28 = .ok (.goto 4, 3) := by decide +kernel
theorem dX12_hadWithout_31 : decode cX12_hadWithout 31 = .ok (.iconst 0, 1) := by decide +kernel
theorem dX12_hadWithout_32 : decode cX12_hadWithout 32 = .ok (.bastore, 1) := by decide +kernel
theorem dX12_hadWithout_33 : decode cX12_hadWithout 33 = .ok (.iinc 3 1, 3) := by decide +kernel
theorem dX12_hadWithout_36 : decode cX12_hadWithout 36 = .ok (.goto (-32), 3) := by decide +kernel
theorem dX12_hadWithout_39 : decode cX12_hadWithout 39 = .ok (.iconst 1, 1) := by decide +kernel
theorem dX12_hadWithout_40 : decode cX12_hadWithout 40 = .ok (.istore_n 3, 1) := by decide +kernel
theorem dX12_hadWithout_41 : decode cX12_hadWithout 41 = .ok (.iload_n 3, 1) := by decide +kernel
theorem dX12_hadWithout_42 : decode cX12_hadWithout 42 = .ok (.ifCond .eq 99, 3) := by decide +kernel
theorem dX12_hadWithout_45 : decode cX12_hadWithout 45 = .ok (.iconst 0, 1) := by decide +kernel
theorem dX12_hadWithout_46 : decode cX12_hadWithout 46 = .ok (.istore_n 3, 1) := by decide +kernel
theorem dX12_hadWithout_47 : decode cX12_hadWithout 47 = .ok (.iconst 0, 1) := by decide +kernel
theorem dX12_hadWithout_48 : decode cX12_hadWithout 48 = .ok (.istore 4, 2) := by decide +kernel
theorem dX12_hadWithout_50 : decode cX12_hadWithout 50 = .ok (.iload 4, 2) := by decide +kernel
theorem dX12_hadWithout_52 : decode cX12_hadWithout 52 = .ok (.aload_n 0, 1) := by decide +kernel
theorem dX12_hadWithout_53 : decode cX12_hadWithout 53 = .ok (.getfield 171, 3) := by decide +kernel
theorem dX12_hadWithout_56 : decode cX12_hadWithout 56 = .ok (.if_icmp .ge 82, 3) := by decide +kernel
theorem dX12_hadWithout_59 : decode cX12_hadWithout 59 = .ok (.iconst 0, 1) := by decide +kernel
theorem dX12_hadWithout_60 : decode cX12_hadWithout 60 = .ok (.istore 5, 2) := by decide +kernel
theorem dX12_hadWithout_62 : decode cX12_hadWithout 62 = .ok (.iload 5, 2) := by decide +kernel
theorem dX12_hadWithout_64 : decode cX12_hadWithout 64 = .ok (.aload_n 0, 1) := by decide +kernel
theorem dX12_hadWithout_65 : decode cX12_hadWithout 65 = .ok (.getfield 168, 3) := by decide +kernel
theorem dX12_hadWithout_68 : decode cX12_hadWithout 68 = .ok (.if_icmp .ge 64, 3) := by decide +kernel
theorem dX12_hadWithout_71 : decode cX12_hadWithout 71 = .ok (.aload_n 0, 1) := by decide +kernel
theorem dX12_hadWithout_72 : decode cX12_hadWithout 72 = .ok (.getfield 79, 3) := by decide +kernel
theorem dX12_hadWithout_75 : decode cX12_hadWithout 75 = .ok (.iload 4, 2) := by decide +kernel
theorem dX12_hadWithout_77 : decode cX12_hadWithout 77 = .ok (.baload, 1) := by decide +kernel
theorem dX12_hadWithout_78 : decode cX12_hadWithout 78 = .ok (.ifCond .eq 54, 3) := by decide +kernel
theorem dX12_hadWithout_81 : decode cX12_hadWithout 81 = .ok (.iload 4, 2) := by decide +kernel
theorem dX12_hadWithout_83 : decode cX12_hadWithout 83 = .ok (.aload_n 0, 1) := by decide +kernel
theorem dX12_hadWithout_84 : decode cX12_hadWithout 84 = .ok (.iload 5, 2) := by decide +kernel
theorem dX12_hadWithout_86 : decode cX12_hadWithout 86 = .ok (.invokevirtual 186, 3) := by decide +kernel
theorem dX12_hadWithout_89 : decode cX12_hadWithout 89 = .ok (.iadd, 1) := by decide +kernel
theorem dX12_hadWithout_90 : decode cX12_hadWithout 90 = .ok (.aload_n 0, 1) := by decide +kernel
theorem dX12_hadWithout_91 : decode cX12_hadWithout 91 = .ok (.getfield 171, 3) := by decide +kernel
theorem dX12_hadWithout_94 : decode cX12_hadWithout 94 = .ok (.irem, 1) := by decide +kernel
theorem dX12_hadWithout_95 : decode cX12_hadWithout 95 = .ok (.istore 6, 2) := by decide +kernel
theorem dX12_hadWithout_97 : decode cX12_hadWithout 97 = .ok (.iload 5, 2) := by decide +kernel
theorem dX12_hadWithout_99 : decode cX12_hadWithout 99 = .ok (.iload_n 1, 1) := by decide +kernel
theorem dX12_hadWithout_100 : decode cX12_hadWithout 100 = .ok (.if_icmp .eq 26, 3) := by decide +kernel
theorem dX12_hadWithout_103 : decode cX12_hadWithout 103 = .ok (.aload_n 0, 1) := by decide +kernel
theorem dX12_hadWithout_104 : decode cX12_hadWithout 104 = .ok (.getfield 79, 3) := by decide +kernel
theorem dX12_hadWithout_107 : decode cX12_hadWithout 107 = .ok (.iload 6, 2) := by decide +kernel
theorem dX12_hadWithout_109 : decode cX12_hadWithout 109 = .ok (.baload, 1) := by decide +kernel
theorem dX12_hadWithout_110 : decode cX12_hadWithout 110 = .ok (.ifCond .ne 16, 3) := by decide +kernel
theorem dX12_hadWithout_113 : decode cX12_hadWithout 113 = .ok (.aload_n 0, 1) := by decide +kernel
theorem dX12_hadWithout_114 : decode cX12_hadWithout 114 = .ok (.getfield 79, 3) := by decide +kernel
theorem dX12_hadWithout_117 : decode cX12_hadWithout 117 = .ok (.iload 6, 2) := by decide +kernel
theorem dX12_hadWithout_119 : decode cX12_hadWithout 119 = .ok (.iconst 1, 1) := by decide +kernel
theorem dX12_hadWithout_120 : decode cX12_hadWithout 120 = .ok (.bastore, 1) := by decide +kernel
theorem dX12_hadWithout_121 : decode cX12_hadWithout 121 = .ok (.iinc 2 1, 3) := by decide +kernel
theorem dX12_hadWithout_124 : decode cX12_hadWithout 124 = .ok (.iconst 1, 1) := by decide +kernel
theorem dX12_hadWithout_125 : decode cX12_hadWithout 125 = .ok (.istore_n 3, 1) := by decide +kernel
theorem dX12_hadWithout_126 : decode cX12_hadWithout 126 = .ok (.iinc 5 1, 3) := by decide +kernel
theorem dX12_hadWithout_129 : decode cX12_hadWithout 129 = .ok (.goto (-67), 3) := by decide +kernel
theorem dX12_hadWithout_132 : decode cX12_hadWithout 132 = .ok (.iinc 4 1, 3) := by decide +kernel
theorem dX12_hadWithout_135 : decode cX12_hadWithout 135 = .ok (.goto (-85), 3) := by decide +kernel
theorem dX12_hadWithout_138 : decode cX12_hadWithout 138 = .ok (.goto (-97), 3) := by decide +kernel
theorem dX12_hadWithout_141 : decode cX12_hadWithout 141 = .ok (.iload_n 2, 1) := by decide +kernel
theorem dX12_hadWithout_142 : decode cX12_hadWithout 142 = .ok (.ireturn, 1) := by decide +kernel
theorem dX12_never_0 : decode cX12_never 0 = .ok (.aload_n 0, 1) := by decide +kernel
theorem dX12_never_1 : decode cX12_never 1 = .ok (.getfield 168, 3) := by decide +kernel
theorem dX12_never_4 : decode cX12_never 4 = .ok (.ifCond .ne 6, 3) := by decide +kernel
theorem dX12_never_7 : decode cX12_never 7 = .ok (.bipush (-4), 2) := by decide +kernel
theorem dX12_never_9 : decode cX12_never 9 = .ok (.ireturn, 1) := by decide +kernel
theorem dX12_never_10 : decode cX12_never 10 = .ok (.aload_n 0, 1) := by decide +kernel
theorem dX12_never_11 : decode cX12_never 11 = .ok (.getfield 171, 3) := by decide +kernel
theorem dX12_never_14 : decode cX12_never 14 = .ok (.aload_n 0, 1) := by decide +kernel
theorem dX12_never_15 : decode cX12_never 15 = .ok (.bipush (-9), 2) := by decide +kernel
theorem dX12_never_17 : decode cX12_never 17 = .ok (.invokevirtual 270, 3) := by decide +kernel
theorem dX12_never_20 : decode cX12_never 20 = .ok (.isub, 1) := by decide +kernel
theorem dX12_never_21 : decode cX12_never 21 = .ok (.istore_n 1, 1) := by decide +kernel
theorem dX12_never_22 : decode cX12_never 22 = .ok (.bipush (-9), 2) := by decide +kernel
theorem dX12_never_24 : decode cX12_never 24 = .ok (.istore_n 2, 1) := by decide +kernel
theorem dX12_never_25 : decode cX12_never 25 = .ok (.aload_n 0, 1) := by decide +kernel
theorem dX12_never_26 : decode cX12_never 26 = .ok (.getfield 171, 3) := by decide +kernel
theorem dX12_never_29 : decode cX12_never 29 = .ok (.iconst 1, 1) := by decide +kernel
theorem dX12_never_30 : decode cX12_never 30 = .ok (.isub, 1) := by decide +kernel
theorem dX12_never_31 : decode cX12_never 31 = .ok (.istore_n 3, 1) := by decide +kernel
theorem dX12_never_32 : decode cX12_never 32 = .ok (.iload_n 3, 1) := by decide +kernel
theorem dX12_never_33 : decode cX12_never 33 = .ok (.ifCond .lt 24, 3) := by decide +kernel
theorem dX12_never_36 : decode cX12_never 36 = .ok (.aload_n 0, 1) := by decide +kernel
theorem dX12_never_37 : decode cX12_never 37 = .ok (.getfield 79, 3) := by decide +kernel
theorem dX12_never_40 : decode cX12_never 40 = .ok (.iload_n 3, 1) := by decide +kernel
theorem dX12_never_41 : decode cX12_never 41 = .ok (.baload, 1) := by decide +kernel
theorem dX12_never_42 : decode cX12_never 42 = .ok (.ifCond .eq 7, 3) := by decide +kernel
theorem dX12_never_45 : decode cX12_never 45 = .ok (.iload_n 2, 1) := by decide +kernel
theorem dX12_never_46 : decode cX12_never 46 = .ok (.goto 4, 3) := by decide +kernel
theorem dX12_never_49 : decode cX12_never 49 = .ok (.iload_n 3, 1) := by decide +kernel
theorem dX12_never_50 : decode cX12_never 50 = .ok (.istore_n 2, 1) := by decide +kernel
theorem dX12_never_51 : decode cX12_never 51 = .ok (.iinc 3 (-1), 3) := by decide +kernel
theorem dX12_never_54 : decode cX12_never 54 = .ok (.goto (-22), 3) := by decide +kernel
theorem dX12_never_57 : decode cX12_never 57 = .ok (.aload_n 0, 1) := by decide +kernel
theorem dX12_never_58 : decode cX12_never 58 = .ok (.iload_n 2, 1) := by decide +kernel
theorem dX12_never_59 : decode cX12_never 59 = .ok (.iload_n 1, 1) := by decide +kernel
theorem dX12_never_60 : decode cX12_never 60 = .ok (.invokevirtual 118, 3) := by decide +kernel
theorem dX12_never_63 : decode cX12_never 63 = .ok (.ireturn, 1) := by decide +kernel
theorem dX12_keyed_0 : decode cX12_keyed 0 = .ok (.aload_n 0, 1) := by decide +kernel
theorem dX12_keyed_1 : decode cX12_keyed 1 = .ok (.getfield 168, 3) := by decide +kernel
theorem dX12_keyed_4 : decode cX12_keyed 4 = .ok (.ifCond .ne 6, 3) := by decide +kernel
theorem dX12_keyed_7 : decode cX12_keyed 7 = .ok (.bipush (-4), 2) := by decide +kernel
theorem dX12_keyed_9 : decode cX12_keyed 9 = .ok (.ireturn, 1) := by decide +kernel
theorem dX12_keyed_10 : decode cX12_keyed 10 = .ok (.aload_n 0, 1) := by decide +kernel
theorem dX12_keyed_11 : decode cX12_keyed 11 = .ok (.bipush (-9), 2) := by decide +kernel
theorem dX12_keyed_13 : decode cX12_keyed 13 = .ok (.invokevirtual 270, 3) := by decide +kernel
theorem dX12_keyed_16 : decode cX12_keyed 16 = .ok (.istore_n 1, 1) := by decide +kernel
theorem dX12_keyed_17 : decode cX12_keyed 17 = .ok (.iconst 0, 1) := by decide +kernel
theorem dX12_keyed_18 : decode cX12_keyed 18 = .ok (.istore_n 2, 1) := by decide +kernel
theorem dX12_keyed_19 : decode cX12_keyed 19 = .ok (.iconst 0, 1) := by decide +kernel
theorem dX12_keyed_20 : decode cX12_keyed 20 = .ok (.istore_n 3, 1) := by decide +kernel
theorem dX12_keyed_21 : decode cX12_keyed 21 = .ok (.iload_n 3, 1) := by decide +kernel
theorem dX12_keyed_22 : decode cX12_keyed 22 = .ok (.aload_n 0, 1) := by decide +kernel
theorem dX12_keyed_23 : decode cX12_keyed 23 = .ok (.getfield 168, 3) := by decide +kernel
theorem dX12_keyed_26 : decode cX12_keyed 26 = .ok (.if_icmp .ge 28, 3) := by decide +kernel
theorem dX12_keyed_29 : decode cX12_keyed 29 = .ok (.iload_n 2, 1) := by decide +kernel
theorem dX12_keyed_30 : decode cX12_keyed 30 = .ok (.aload_n 0, 1) := by decide +kernel
theorem dX12_keyed_31 : decode cX12_keyed 31 = .ok (.iload_n 3, 1) := by decide +kernel
theorem dX12_keyed_32 : decode cX12_keyed 32 = .ok (.invokevirtual 270, 3) := by decide +kernel
theorem dX12_keyed_35 : decode cX12_keyed 35 = .ok (.iload_n 1, 1) := by decide +kernel
theorem dX12_keyed_36 : decode cX12_keyed 36 = .ok (.if_icmp .ge 9, 3) := by decide +kernel
theorem dX12_keyed_39 : decode cX12_keyed 39 = .ok (.iconst 1, 1) := by decide +kernel
theorem dX12_keyed_40 : decode cX12_keyed 40 = .ok (.iload_n 3, 1) := by decide +kernel
theorem dX12_keyed_41 : decode cX12_keyed 41 = .ok (.ishl, 1) := by decide +kernel
theorem dX12_keyed_42 : decode cX12_keyed 42 = .ok (.goto 4, 3) := by decide +kernel
theorem dX12_keyed_45 : decode cX12_keyed 45 = .ok (.iconst 0, 1) := by decide +kernel
theorem dX12_keyed_46 : decode cX12_keyed 46 = .ok (.ior, 1) := by decide +kernel
theorem dX12_keyed_47 : decode cX12_keyed 47 = .ok (.istore_n 2, 1) := by decide +kernel
theorem dX12_keyed_48 : decode cX12_keyed 48 = .ok (.iinc 3 1, 3) := by decide +kernel
theorem dX12_keyed_51 : decode cX12_keyed 51 = .ok (.goto (-30), 3) := by decide +kernel
theorem dX12_keyed_54 : decode cX12_keyed 54 = .ok (.iload_n 2, 1) := by decide +kernel
theorem dX12_keyed_55 : decode cX12_keyed 55 = .ok (.ireturn, 1) := by decide +kernel
theorem dX12_goneBy_0 : decode cX12_goneBy 0 = .ok (.iconst 0, 1) := by decide +kernel
theorem dX12_goneBy_1 : decode cX12_goneBy 1 = .ok (.istore_n 2, 1) := by decide +kernel
theorem dX12_goneBy_2 : decode cX12_goneBy 2 = .ok (.iconst 0, 1) := by decide +kernel
theorem dX12_goneBy_3 : decode cX12_goneBy 3 = .ok (.istore_n 3, 1) := by decide +kernel
theorem dX12_goneBy_4 : decode cX12_goneBy 4 = .ok (.iload_n 3, 1) := by decide +kernel
theorem dX12_goneBy_5 : decode cX12_goneBy 5 = .ok (.aload_n 0, 1) := by decide +kernel
theorem dX12_goneBy_6 : decode cX12_goneBy 6 = .ok (.getfield 168, 3) := by decide +kernel
theorem dX12_goneBy_9 : decode cX12_goneBy 9 = .ok (.if_icmp .ge 29, 3) := by decide +kernel
theorem dX12_goneBy_12 : decode cX12_goneBy 12 = .ok (.iload_n 2, 1) := by decide +kernel
theorem dX12_goneBy_13 : decode cX12_goneBy 13 = .ok (.iload_n 1, 1) := by decide +kernel
theorem dX12_goneBy_14 : decode cX12_goneBy 14 = .ok (.iload_n 3, 1) := by decide +kernel
theorem dX12_goneBy_15 : decode cX12_goneBy 15 = .ok (.invokestatic 245, 3) := by decide +kernel
theorem dX12_goneBy_18 : decode cX12_goneBy 18 = .ok (.ifCond .eq 11, 3) := by decide +kernel
theorem dX12_goneBy_21 : decode cX12_goneBy 21 = .ok (.aload_n 0, 1) := by decide +kernel
theorem dX12_goneBy_22 : decode cX12_goneBy 22 = .ok (.iload_n 3, 1) := by decide +kernel
theorem dX12_goneBy_23 : decode cX12_goneBy 23 = .ok (.invokevirtual 186, 3) := by decide +kernel
theorem dX12_goneBy_26 : decode cX12_goneBy 26 = .ok (.goto 4, 3) := by decide +kernel
theorem dX12_goneBy_29 : decode cX12_goneBy 29 = .ok (.iconst 0, 1) := by decide +kernel
theorem dX12_goneBy_30 : decode cX12_goneBy 30 = .ok (.iadd, 1) := by decide +kernel
theorem dX12_goneBy_31 : decode cX12_goneBy 31 = .ok (.istore_n 2, 1) := by decide +kernel
theorem dX12_goneBy_32 : decode cX12_goneBy 32 = .ok (.iinc 3 1, 3) := by decide +kernel
theorem dX12_goneBy_35 : decode cX12_goneBy 35 = .ok (.goto (-31), 3) := by decide +kernel
theorem dX12_goneBy_38 : decode cX12_goneBy 38 = .ok (.iload_n 2, 1) := by decide +kernel
theorem dX12_goneBy_39 : decode cX12_goneBy 39 = .ok (.aload_n 0, 1) := by decide +kernel
theorem dX12_goneBy_40 : decode cX12_goneBy 40 = .ok (.getfield 171, 3) := by decide +kernel
theorem dX12_goneBy_43 : decode cX12_goneBy 43 = .ok (.irem, 1) := by decide +kernel
theorem dX12_goneBy_44 : decode cX12_goneBy 44 = .ok (.ireturn, 1) := by decide +kernel
theorem dX12_layFits_0 : decode cX12_layFits 0 = .ok (.aload_n 0, 1) := by decide +kernel
theorem dX12_layFits_1 : decode cX12_layFits 1 = .ok (.iconst 0, 1) := by decide +kernel
theorem dX12_layFits_2 : decode cX12_layFits 2 = .ok (.putfield 273, 3) := by decide +kernel
theorem dX12_layFits_5 : decode cX12_layFits 5 = .ok (.aload_n 0, 1) := by decide +kernel
theorem dX12_layFits_6 : decode cX12_layFits 6 = .ok (.bipush (-9), 2) := by decide +kernel
theorem dX12_layFits_8 : decode cX12_layFits 8 = .ok (.putfield 276, 3) := by decide +kernel
theorem dX12_layFits_11 : decode cX12_layFits 11 = .ok (.aload_n 0, 1) := by decide +kernel
theorem dX12_layFits_12 : decode cX12_layFits 12 = .ok (.iconst 1, 1) := by decide +kernel
theorem dX12_layFits_13 : decode cX12_layFits 13 = .ok (.aload_n 0, 1) := by decide +kernel
theorem dX12_layFits_14 : decode cX12_layFits 14 = .ok (.getfield 168, 3) := by decide +kernel
theorem dX12_layFits_17 : decode cX12_layFits 17 = .ok (.ishl, 1) := by decide +kernel
theorem dX12_layFits_18 : decode cX12_layFits 18 = .ok (.iconst 1, 1) := by decide +kernel
theorem dX12_layFits_19 : decode cX12_layFits 19 = .ok (.isub, 1) := by decide +kernel
theorem dX12_layFits_20 : decode cX12_layFits 20 = .ok (.putfield 279, 3) := by decide +kernel
theorem dX12_layFits_23 : decode cX12_layFits 23 = .ok (.aload_n 0, 1) := by decide +kernel
theorem dX12_layFits_24 : decode cX12_layFits 24 = .ok (.iconst 0, 1) := by decide +kernel
theorem dX12_layFits_25 : decode cX12_layFits 25 = .ok (.putfield 282, 3) := by decide +kernel
theorem dX12_layFits_28 : decode cX12_layFits 28 = .ok (.iconst 0, 1) := by decide +kernel
theorem dX12_layFits_29 : decode cX12_layFits 29 = .ok (.istore_n 2, 1) := by decide +kernel
theorem dX12_layFits_30 : decode cX12_layFits 30 = .ok (.iload_n 2, 1) := by decide +kernel
theorem dX12_layFits_31 : decode cX12_layFits 31 = .ok (.aload_n 0, 1) := by decide +kernel
theorem dX12_layFits_32 : decode cX12_layFits 32 = .ok (.getfield 168, 3) := by decide +kernel
theorem dX12_layFits_35 : decode cX12_layFits 35 = .ok (.if_icmp .ge 16, 3) := by decide +kernel
theorem dX12_layFits_38 : decode cX12_layFits 38 = .ok (.aload_n 0, 1) := by decide +kernel
theorem dX12_layFits_39 : decode cX12_layFits 39 = .ok (.getfield 82, 3) := by decide +kernel
theorem dX12_layFits_42 : decode cX12_layFits 42 = .ok (.iload_n 2, 1) := by decide +kernel
theorem dX12_layFits_43 : decode cX12_layFits 43 = .ok (.iconst 0, 1) := by decide +kernel
theorem dX12_layFits_44 : decode cX12_layFits 44 = .ok (.iastore, 1) := by decide +kernel
theorem dX12_layFits_45 : decode cX12_layFits 45 = .ok (.iinc 2 1, 3) := by decide +kernel
theorem dX12_layFits_48 : decode cX12_layFits 48 = .ok (.goto (-18), 3) := by decide +kernel
theorem dX12_layFits_51 : decode cX12_layFits 51 = .ok (.iconst 0, 1) := by decide +kernel
theorem dX12_layFits_52 : decode cX12_layFits 52 = .ok (.istore_n 2, 1) := by decide +kernel
theorem dX12_layFits_53 : decode cX12_layFits 53 = .ok (.iload_n 2, 1) := by decide +kernel
theorem dX12_layFits_54 : decode cX12_layFits 54 = .ok (.iconst 1, 1) := by decide +kernel
theorem dX12_layFits_55 : decode cX12_layFits 55 = .ok (.aload_n 0, 1) := by decide +kernel
theorem dX12_layFits_56 : decode cX12_layFits 56 = .ok (.getfield 168, 3) := by decide +kernel
theorem dX12_layFits_59 : decode cX12_layFits 59 = .ok (.ishl, 1) := by decide +kernel
theorem dX12_layFits_60 : decode cX12_layFits 60 = .ok (.if_icmp .ge 105, 3) := by decide +kernel
theorem dX12_layFits_63 : decode cX12_layFits 63 = .ok (.aload_n 0, 1) := by decide +kernel
theorem dX12_layFits_64 : decode cX12_layFits 64 = .ok (.iload_n 2, 1) := by decide +kernel
theorem dX12_layFits_65 : decode cX12_layFits 65 = .ok (.invokevirtual 285, 3) := by decide +kernel
theorem dX12_layFits_68 : decode cX12_layFits 68 = .ok (.iload_n 1, 1) := by decide +kernel
theorem dX12_layFits_69 : decode cX12_layFits 69 = .ok (.if_icmp .ne 90, 3) := by decide +kernel
theorem dX12_layFits_72 : decode cX12_layFits 72 = .ok (.aload_n 0, 1) := by decide +kernel
theorem dX12_layFits_73 : decode cX12_layFits 73 = .ok (.aload_n 0, 1) := by decide +kernel
theorem dX12_layFits_74 : decode cX12_layFits 74 = .ok (.getfield 273, 3) := by decide +kernel
theorem dX12_layFits_77 : decode cX12_layFits 77 = .ok (.ifCond .ne 7, 3) := by decide +kernel
theorem dX12_layFits_80 : decode cX12_layFits 80 = .ok (.iload_n 2, 1) := by decide +kernel
theorem dX12_layFits_81 : decode cX12_layFits 81 = .ok (.goto 7, 3) := by decide +kernel
theorem dX12_layFits_84 : decode cX12_layFits 84 = .ok (.aload_n 0, 1) := by decide +kernel
theorem dX12_layFits_85 : decode cX12_layFits 85 = .ok (.getfield 276, 3) := by decide +kernel
theorem dX12_layFits_88 : decode cX12_layFits 88 = .ok (.putfield 276, 3) := by decide +kernel
theorem dX12_layFits_91 : decode cX12_layFits 91 = .ok (.aload_n 0, 1) := by decide +kernel
theorem dX12_layFits_92 : decode cX12_layFits 92 = .ok (.dup, 1) := by decide +kernel
theorem dX12_layFits_93 : decode cX12_layFits 93 = .ok (.getfield 273, 3) := by decide +kernel
theorem dX12_layFits_96 : decode cX12_layFits 96 = .ok (.iconst 1, 1) := by decide +kernel
theorem dX12_layFits_97 : decode cX12_layFits 97 = .ok (.iadd, 1) := by decide +kernel
theorem dX12_layFits_98 : decode cX12_layFits 98 = .ok (.putfield 273, 3) := by decide +kernel
theorem dX12_layFits_101 : decode cX12_layFits 101 = .ok (.aload_n 0, 1) := by decide +kernel
theorem dX12_layFits_102 : decode cX12_layFits 102 = .ok (.dup, 1) := by decide +kernel
theorem dX12_layFits_103 : decode cX12_layFits 103 = .ok (.getfield 279, 3) := by decide +kernel
theorem dX12_layFits_106 : decode cX12_layFits 106 = .ok (.iload_n 2, 1) := by decide +kernel
theorem dX12_layFits_107 : decode cX12_layFits 107 = .ok (.iand, 1) := by decide +kernel
theorem dX12_layFits_108 : decode cX12_layFits 108 = .ok (.putfield 279, 3) := by decide +kernel
theorem dX12_layFits_111 : decode cX12_layFits 111 = .ok (.aload_n 0, 1) := by decide +kernel
theorem dX12_layFits_112 : decode cX12_layFits 112 = .ok (.dup, 1) := by decide +kernel
theorem dX12_layFits_113 : decode cX12_layFits 113 = .ok (.getfield 282, 3) := by decide +kernel
theorem dX12_layFits_116 : decode cX12_layFits 116 = .ok (.iload_n 2, 1) := by decide +kernel
theorem dX12_layFits_117 : decode cX12_layFits 117 = .ok (.ior, 1) := by decide +kernel
theorem dX12_layFits_118 : decode cX12_layFits 118 = .ok (.putfield 282, 3) := by decide +kernel
theorem dX12_layFits_121 : decode cX12_layFits 121 = .ok (.iconst 0, 1) := by decide +kernel
theorem dX12_layFits_122 : decode cX12_layFits 122 = .ok (.istore_n 3, 1) := by decide +kernel
theorem dX12_layFits_123 : decode cX12_layFits 123 = .ok (.iload_n 3, 1) := by decide +kernel
theorem dX12_layFits_124 : decode cX12_layFits 124 = .ok (.aload_n 0, 1) := by decide +kernel
theorem dX12_layFits_125 : decode cX12_layFits 125 = .ok (.getfield 168, 3) := by decide +kernel
theorem dX12_layFits_128 : decode cX12_layFits 128 = .ok (.if_icmp .ge 31, 3) := by decide +kernel
theorem dX12_layFits_131 : decode cX12_layFits 131 = .ok (.aload_n 0, 1) := by decide +kernel
theorem dX12_layFits_132 : decode cX12_layFits 132 = .ok (.getfield 82, 3) := by decide +kernel
theorem dX12_layFits_135 : decode cX12_layFits 135 = .ok (.iload_n 3, 1) := by decide +kernel
theorem dX12_layFits_136 : decode cX12_layFits 136 = .ok (.dup2, 1) := by decide +kernel
theorem dX12_layFits_137 : decode cX12_layFits 137 = .ok (.iaload, 1) := by decide +kernel
theorem dX12_layFits_138 : decode cX12_layFits 138 = .ok (.iload_n 2, 1) := by decide +kernel
theorem dX12_layFits_139 : decode cX12_layFits 139 = .ok (.iload_n 3, 1) := by decide +kernel
theorem dX12_layFits_140 : decode cX12_layFits 140 = .ok (.invokestatic 245, 3) := by decide +kernel
theorem dX12_layFits_143 : decode cX12_layFits 143 = .ok (.ifCond .eq 7, 3) := by decide +kernel
theorem dX12_layFits_146 : decode cX12_layFits 146 = .ok (.iconst 1, 1) := by decide +kernel
theorem dX12_layFits_147 : decode cX12_layFits 147 = .ok (.goto 4, 3) := by decide +kernel
theorem dX12_layFits_150 : decode cX12_layFits 150 = .ok (.iconst 0, 1) := by decide +kernel
theorem dX12_layFits_151 : decode cX12_layFits 151 = .ok (.iadd, 1) := by decide +kernel
theorem dX12_layFits_152 : decode cX12_layFits 152 = .ok (.iastore, 1) := by decide +kernel
theorem dX12_layFits_153 : decode cX12_layFits 153 = .ok (.iinc 3 1, 3) := by decide +kernel
theorem dX12_layFits_156 : decode cX12_layFits 156 = .ok (.goto (-33), 3) := by decide +kernel
theorem dX12_layFits_159 : decode cX12_layFits 159 = .ok (.iinc 2 1, 3) := by decide +kernel
theorem dX12_layFits_162 : decode cX12_layFits 162 = .ok (.goto (-109), 3) := by decide +kernel
theorem dX12_layFits_165 : decode cX12_layFits 165 = .ok (.return_, 1) := by decide +kernel
theorem dX12_fits_0 : decode cX12_fits 0 = .ok (.aload_n 0, 1) := by decide +kernel
theorem dX12_fits_1 : decode cX12_fits 1 = .ok (.iload_n 1, 1) := by decide +kernel
theorem dX12_fits_2 : decode cX12_fits 2 = .ok (.invokevirtual 256, 3) := by decide +kernel
theorem dX12_fits_5 : decode cX12_fits 5 = .ok (.ifCond .ne 5, 3) := by decide +kernel
theorem dX12_fits_8 : decode cX12_fits 8 = .ok (.iconst (-1), 1) := by decide +kernel
theorem dX12_fits_9 : decode cX12_fits 9 = .ok (.ireturn, 1) := by decide +kernel
theorem dX12_fits_10 : decode cX12_fits 10 = .ok (.aload_n 0, 1) := by decide +kernel
theorem dX12_fits_11 : decode cX12_fits 11 = .ok (.iload_n 1, 1) := by decide +kernel
theorem dX12_fits_12 : decode cX12_fits 12 = .ok (.invokevirtual 288, 3) := by decide +kernel
theorem dX12_fits_15 : decode cX12_fits 15 = .ok (.aload_n 0, 1) := by decide +kernel
theorem dX12_fits_16 : decode cX12_fits 16 = .ok (.aload_n 0, 1) := by decide +kernel
theorem dX12_fits_17 : decode cX12_fits 17 = .ok (.getfield 273, 3) := by decide +kernel
theorem dX12_fits_20 : decode cX12_fits 20 = .ok (.i2l, 1) := by decide +kernel
theorem dX12_fits_21 : decode cX12_fits 21 = .ok (.lconst 1, 1) := by decide +kernel
theorem dX12_fits_22 : decode cX12_fits 22 = .ok (.invokevirtual 221, 3) := by decide +kernel
theorem dX12_fits_25 : decode cX12_fits 25 = .ok (.pop, 1) := by decide +kernel
theorem dX12_fits_26 : decode cX12_fits 26 = .ok (.aload_n 0, 1) := by decide +kernel
theorem dX12_fits_27 : decode cX12_fits 27 = .ok (.aload_n 0, 1) := by decide +kernel
theorem dX12_fits_28 : decode cX12_fits 28 = .ok (.getfield 276, 3) := by decide +kernel
theorem dX12_fits_31 : decode cX12_fits 31 = .ok (.iconst 1, 1) := by decide +kernel
theorem dX12_fits_32 : decode cX12_fits 32 = .ok (.invokevirtual 118, 3) := by decide +kernel
theorem dX12_fits_35 : decode cX12_fits 35 = .ok (.ireturn, 1) := by decide +kernel
theorem dX12_sure_0 : decode cX12_sure 0 = .ok (.aload_n 0, 1) := by decide +kernel
theorem dX12_sure_1 : decode cX12_sure 1 = .ok (.iload_n 1, 1) := by decide +kernel
theorem dX12_sure_2 : decode cX12_sure 2 = .ok (.invokevirtual 256, 3) := by decide +kernel
theorem dX12_sure_5 : decode cX12_sure 5 = .ok (.ifCond .ne 5, 3) := by decide +kernel
theorem dX12_sure_8 : decode cX12_sure 8 = .ok (.iconst (-1), 1) := by decide +kernel
theorem dX12_sure_9 : decode cX12_sure 9 = .ok (.ireturn, 1) := by decide +kernel
theorem dX12_sure_10 : decode cX12_sure 10 = .ok (.aload_n 0, 1) := by decide +kernel
theorem dX12_sure_11 : decode cX12_sure 11 = .ok (.iload_n 1, 1) := by decide +kernel
theorem dX12_sure_12 : decode cX12_sure 12 = .ok (.invokevirtual 288, 3) := by decide +kernel
theorem dX12_sure_15 : decode cX12_sure 15 = .ok (.aload_n 0, 1) := by decide +kernel
theorem dX12_sure_16 : decode cX12_sure 16 = .ok (.getfield 273, 3) := by decide +kernel
theorem dX12_sure_19 : decode cX12_sure 19 = .ok (.ifCond .ne 11, 3) := by decide +kernel
theorem dX12_sure_22 : decode cX12_sure 22 = .ok (.aload_n 0, 1) := by decide +kernel
theorem dX12_sure_23 : decode cX12_sure 23 = .ok (.iconst 4, 1) := by decide +kernel
theorem dX12_sure_24 : decode cX12_sure 24 = .ok (.invokevirtual 110, 3) := by decide +kernel
theorem dX12_sure_27 : decode cX12_sure 27 = .ok (.goto 26, 3) := by decide +kernel
theorem dX12_sure_30 : decode cX12_sure 30 = .ok (.aload_n 0, 1) := by decide +kernel
theorem dX12_sure_31 : decode cX12_sure 31 = .ok (.iconst 1, 1) := by decide +kernel
theorem dX12_sure_32 : decode cX12_sure 32 = .ok (.aload_n 0, 1) := by decide +kernel
theorem dX12_sure_33 : decode cX12_sure 33 = .ok (.getfield 168, 3) := by decide +kernel
theorem dX12_sure_36 : decode cX12_sure 36 = .ok (.ishl, 1) := by decide +kernel
theorem dX12_sure_37 : decode cX12_sure 37 = .ok (.iconst 1, 1) := by decide +kernel
theorem dX12_sure_38 : decode cX12_sure 38 = .ok (.isub, 1) := by decide +kernel
theorem dX12_sure_39 : decode cX12_sure 39 = .ok (.aload_n 0, 1) := by decide +kernel
theorem dX12_sure_40 : decode cX12_sure 40 = .ok (.getfield 282, 3) := by decide +kernel
theorem dX12_sure_43 : decode cX12_sure 43 = .ok (.iconst (-1), 1) := by decide +kernel
theorem dX12_sure_44 : decode cX12_sure 44 = .ok (.ixor, 1) := by decide +kernel
theorem dX12_sure_45 : decode cX12_sure 45 = .ok (.iand, 1) := by decide +kernel
theorem dX12_sure_46 : decode cX12_sure 46 = .ok (.aload_n 0, 1) := by decide +kernel
theorem dX12_sure_47 : decode cX12_sure 47 = .ok (.getfield 279, 3) := by decide +kernel
theorem dX12_sure_50 : decode cX12_sure 50 = .ok (.invokevirtual 118, 3) := by decide +kernel
theorem dX12_sure_53 : decode cX12_sure 53 = .ok (.ireturn, 1) := by decide +kernel
theorem dX12_ask_0 : decode cX12_ask 0 = .ok (.aload_n 0, 1) := by decide +kernel
theorem dX12_ask_1 : decode cX12_ask 1 = .ok (.iload_n 1, 1) := by decide +kernel
theorem dX12_ask_2 : decode cX12_ask 2 = .ok (.invokevirtual 256, 3) := by decide +kernel
theorem dX12_ask_5 : decode cX12_ask 5 = .ok (.ifCond .ne 5, 3) := by decide +kernel
theorem dX12_ask_8 : decode cX12_ask 8 = .ok (.iconst (-1), 1) := by decide +kernel
theorem dX12_ask_9 : decode cX12_ask 9 = .ok (.ireturn, 1) := by decide +kernel
theorem dX12_ask_10 : decode cX12_ask 10 = .ok (.aload_n 0, 1) := by decide +kernel
theorem dX12_ask_11 : decode cX12_ask 11 = .ok (.iload_n 1, 1) := by decide +kernel
theorem dX12_ask_12 : decode cX12_ask 12 = .ok (.invokevirtual 288, 3) := by decide +kernel
theorem dX12_ask_15 : decode cX12_ask 15 = .ok (.aload_n 0, 1) := by decide +kernel
theorem dX12_ask_16 : decode cX12_ask 16 = .ok (.getfield 273, 3) := by decide +kernel
theorem dX12_ask_19 : decode cX12_ask 19 = .ok (.ifCond .ne 9, 3) := by decide +kernel
theorem dX12_ask_22 : decode cX12_ask 22 = .ok (.aload_n 0, 1) := by decide +kernel
theorem dX12_ask_23 : decode cX12_ask 23 = .ok (.iconst 4, 1) := by decide +kernel
theorem dX12_ask_24 : decode cX12_ask 24 = .ok (.invokevirtual 110, 3) := by decide +kernel
theorem dX12_ask_27 : decode cX12_ask 27 = .ok (.ireturn, 1) := by decide +kernel
theorem dX12_ask_28 : decode cX12_ask 28 = .ok (.iconst 0, 1) := by decide +kernel
theorem dX12_ask_29 : decode cX12_ask 29 = .ok (.istore_n 2, 1) := by decide +kernel
theorem dX12_ask_30 : decode cX12_ask 30 = .ok (.ldc 255, 2) := by decide +kernel
theorem dX12_ask_32 : decode cX12_ask 32 = .ok (.istore_n 3, 1) := by decide +kernel
theorem dX12_ask_33 : decode cX12_ask 33 = .ok (.iconst 0, 1) := by decide +kernel
theorem dX12_ask_34 : decode cX12_ask 34 = .ok (.istore 4, 2) := by decide +kernel
theorem dX12_ask_36 : decode cX12_ask 36 = .ok (.iload 4, 2) := by decide +kernel
theorem dX12_ask_38 : decode cX12_ask 38 = .ok (.aload_n 0, 1) := by decide +kernel
theorem dX12_ask_39 : decode cX12_ask 39 = .ok (.getfield 168, 3) := by decide +kernel
theorem dX12_ask_42 : decode cX12_ask 42 = .ok (.if_icmp .ge 75, 3) := by decide +kernel
theorem dX12_ask_45 : decode cX12_ask 45 = .ok (.aload_n 0, 1) := by decide +kernel
theorem dX12_ask_46 : decode cX12_ask 46 = .ok (.getfield 273, 3) := by decide +kernel
theorem dX12_ask_49 : decode cX12_ask 49 = .ok (.aload_n 0, 1) := by decide +kernel
theorem dX12_ask_50 : decode cX12_ask 50 = .ok (.getfield 82, 3) := by decide +kernel
theorem dX12_ask_53 : decode cX12_ask 53 = .ok (.iload 4, 2) := by decide +kernel
theorem dX12_ask_55 : decode cX12_ask 55 = .ok (.iaload, 1) := by decide +kernel
theorem dX12_ask_56 : decode cX12_ask 56 = .ok (.isub, 1) := by decide +kernel
theorem dX12_ask_57 : decode cX12_ask 57 = .ok (.istore 5, 2) := by decide +kernel
theorem dX12_ask_59 : decode cX12_ask 59 = .ok (.iload 5, 2) := by decide +kernel
theorem dX12_ask_61 : decode cX12_ask 61 = .ok (.aload_n 0, 1) := by decide +kernel
theorem dX12_ask_62 : decode cX12_ask 62 = .ok (.getfield 82, 3) := by decide +kernel
theorem dX12_ask_65 : decode cX12_ask 65 = .ok (.iload 4, 2) := by decide +kernel
theorem dX12_ask_67 : decode cX12_ask 67 = .ok (.iaload, 1) := by decide +kernel
theorem dX12_ask_68 : decode cX12_ask 68 = .ok (.if_icmp .le 8, 3) := by decide +kernel
theorem dX12_ask_71 : decode cX12_ask 71 = .ok (.iload 5, 2) := by decide +kernel
theorem dX12_ask_73 : decode cX12_ask 73 = .ok (.goto 10, 3) := by decide +kernel
theorem dX12_ask_76 : decode cX12_ask 76 = .ok (.aload_n 0, 1) := by decide +kernel
theorem dX12_ask_77 : decode cX12_ask 77 = .ok (.getfield 82, 3) := by decide +kernel
theorem dX12_ask_80 : decode cX12_ask 80 = .ok (.iload 4, 2) := by decide +kernel
theorem dX12_ask_82 : decode cX12_ask 82 = .ok (.iaload, 1) := by decide +kernel
theorem dX12_ask_83 : decode cX12_ask 83 = .ok (.istore 6, 2) := by decide +kernel
theorem dX12_ask_85 : decode cX12_ask 85 = .ok (.iload 6, 2) := by decide +kernel
theorem dX12_ask_87 : decode cX12_ask 87 = .ok (.iload_n 3, 1) := by decide +kernel
theorem dX12_ask_88 : decode cX12_ask 88 = .ok (.if_icmp .ge 8, 3) := by decide +kernel
theorem dX12_ask_91 : decode cX12_ask 91 = .ok (.iload 4, 2) := by decide +kernel
theorem dX12_ask_93 : decode cX12_ask 93 = .ok (.goto 4, 3) := by decide +kernel
theorem dX12_ask_96 : decode cX12_ask 96 = .ok (.iload_n 2, 1) := by decide +kernel
theorem dX12_ask_97 : decode cX12_ask 97 = .ok (.istore_n 2, 1) := by decide +kernel
theorem dX12_ask_98 : decode cX12_ask 98 = .ok (.iload 6, 2) := by decide +kernel
theorem dX12_ask_100 : decode cX12_ask 100 = .ok (.iload_n 3, 1) := by decide +kernel
theorem dX12_ask_101 : decode cX12_ask 101 = .ok (.if_icmp .ge 8, 3) := by decide +kernel
theorem dX12_ask_104 : decode cX12_ask 104 = .ok (.iload 6, 2) := by decide +kernel
theorem dX12_ask_106 : decode cX12_ask 106 = .ok (.goto 4, 3) := by decide +kernel
theorem dX12_ask_109 : decode cX12_ask 109 = .ok (.iload_n 3, 1) := by decide +kernel
theorem dX12_ask_110 : decode cX12_ask 110 = .ok (.istore_n 3, 1) := by decide +kernel
theorem dX12_ask_111 : decode cX12_ask 111 = .ok (.iinc 4 1, 3) := by decide +kernel
theorem dX12_ask_114 : decode cX12_ask 114 = .ok (.goto (-78), 3) := by decide +kernel
theorem dX12_ask_117 : decode cX12_ask 117 = .ok (.aload_n 0, 1) := by decide +kernel
theorem dX12_ask_118 : decode cX12_ask 118 = .ok (.iload_n 3, 1) := by decide +kernel
theorem dX12_ask_119 : decode cX12_ask 119 = .ok (.iload_n 2, 1) := by decide +kernel
theorem dX12_ask_120 : decode cX12_ask 120 = .ok (.invokevirtual 118, 3) := by decide +kernel
theorem dX12_ask_123 : decode cX12_ask 123 = .ok (.ireturn, 1) := by decide +kernel
theorem dX12_noon_0 : decode cX12_noon 0 = .ok (.aload_n 0, 1) := by decide +kernel
theorem dX12_noon_1 : decode cX12_noon 1 = .ok (.iload_n 1, 1) := by decide +kernel
theorem dX12_noon_2 : decode cX12_noon 2 = .ok (.invokevirtual 189, 3) := by decide +kernel
theorem dX12_noon_5 : decode cX12_noon 5 = .ok (.ifCond .ne 5, 3) := by decide +kernel
theorem dX12_noon_8 : decode cX12_noon 8 = .ok (.iconst (-1), 1) := by decide +kernel
theorem dX12_noon_9 : decode cX12_noon 9 = .ok (.ireturn, 1) := by decide +kernel
theorem dX12_noon_10 : decode cX12_noon 10 = .ok (.aload_n 0, 1) := by decide +kernel
theorem dX12_noon_11 : decode cX12_noon 11 = .ok (.getfield 45, 3) := by decide +kernel
theorem dX12_noon_14 : decode cX12_noon 14 = .ok (.iconst 0, 1) := by decide +kernel
theorem dX12_noon_15 : decode cX12_noon 15 = .ok (.iaload, 1) := by decide +kernel
theorem dX12_noon_16 : decode cX12_noon 16 = .ok (.istore_n 2, 1) := by decide +kernel
theorem dX12_noon_17 : decode cX12_noon 17 = .ok (.iconst 1, 1) := by decide +kernel
theorem dX12_noon_18 : decode cX12_noon 18 = .ok (.istore_n 3, 1) := by decide +kernel
theorem dX12_noon_19 : decode cX12_noon 19 = .ok (.iload_n 3, 1) := by decide +kernel
theorem dX12_noon_20 : decode cX12_noon 20 = .ok (.bipush 60, 2) := by decide +kernel
theorem dX12_noon_22 : decode cX12_noon 22 = .ok (.if_icmp .gt 28, 3) := by decide +kernel
theorem dX12_noon_25 : decode cX12_noon 25 = .ok (.iload_n 2, 1) := by decide +kernel
theorem dX12_noon_26 : decode cX12_noon 26 = .ok (.aload_n 0, 1) := by decide +kernel
theorem dX12_noon_27 : decode cX12_noon 27 = .ok (.iload_n 1, 1) := by decide +kernel
theorem dX12_noon_28 : decode cX12_noon 28 = .ok (.invokevirtual 186, 3) := by decide +kernel
theorem dX12_noon_31 : decode cX12_noon 31 = .ok (.iadd, 1) := by decide +kernel
theorem dX12_noon_32 : decode cX12_noon 32 = .ok (.aload_n 0, 1) := by decide +kernel
theorem dX12_noon_33 : decode cX12_noon 33 = .ok (.getfield 171, 3) := by decide +kernel
theorem dX12_noon_36 : decode cX12_noon 36 = .ok (.irem, 1) := by decide +kernel
theorem dX12_noon_37 : decode cX12_noon 37 = .ok (.istore_n 2, 1) := by decide +kernel
theorem dX12_noon_38 : decode cX12_noon 38 = .ok (.iload_n 2, 1) := by decide +kernel
theorem dX12_noon_39 : decode cX12_noon 39 = .ok (.ifCond .ne 5, 3) := by decide +kernel
theorem dX12_noon_42 : decode cX12_noon 42 = .ok (.iload_n 3, 1) := by decide +kernel
theorem dX12_noon_43 : decode cX12_noon 43 = .ok (.ireturn, 1) := by decide +kernel
theorem dX12_noon_44 : decode cX12_noon 44 = .ok (.iinc 3 1, 3) := by decide +kernel
theorem dX12_noon_47 : decode cX12_noon 47 = .ok (.goto (-28), 3) := by decide +kernel
theorem dX12_noon_50 : decode cX12_noon 50 = .ok (.bipush (-9), 2) := by decide +kernel
theorem dX12_noon_52 : decode cX12_noon 52 = .ok (.ireturn, 1) := by decide +kernel
theorem dX12_both_0 : decode cX12_both 0 = .ok (.aload_n 0, 1) := by decide +kernel
theorem dX12_both_1 : decode cX12_both 1 = .ok (.iload_n 1, 1) := by decide +kernel
theorem dX12_both_2 : decode cX12_both 2 = .ok (.invokevirtual 189, 3) := by decide +kernel
theorem dX12_both_5 : decode cX12_both 5 = .ok (.ifCond .eq 25, 3) := by decide +kernel
theorem dX12_both_8 : decode cX12_both 8 = .ok (.iload_n 2, 1) := by decide +kernel
theorem dX12_both_9 : decode cX12_both 9 = .ok (.bipush 12, 2) := by decide +kernel
theorem dX12_both_11 : decode cX12_both 11 = .ok (.bipush 60, 2) := by decide +kernel
theorem dX12_both_13 : decode cX12_both 13 = .ok (.invokestatic 96, 3) := by decide +kernel
theorem dX12_both_16 : decode cX12_both 16 = .ok (.ifCond .eq 14, 3) := by decide +kernel
theorem dX12_both_19 : decode cX12_both 19 = .ok (.iload_n 3, 1) := by decide +kernel
theorem dX12_both_20 : decode cX12_both 20 = .ok (.iconst 0, 1) := by decide +kernel
theorem dX12_both_21 : decode cX12_both 21 = .ok (.iload_n 2, 1) := by decide +kernel
theorem dX12_both_22 : decode cX12_both 22 = .ok (.iconst 1, 1) := by decide +kernel
theorem dX12_both_23 : decode cX12_both 23 = .ok (.isub, 1) := by decide +kernel
theorem dX12_both_24 : decode cX12_both 24 = .ok (.invokestatic 96, 3) := by decide +kernel
theorem dX12_both_27 : decode cX12_both 27 = .ok (.ifCond .ne 5, 3) := by decide +kernel
theorem dX12_both_30 : decode cX12_both 30 = .ok (.iconst (-1), 1) := by decide +kernel
theorem dX12_both_31 : decode cX12_both 31 = .ok (.ireturn, 1) := by decide +kernel
theorem dX12_both_32 : decode cX12_both 32 = .ok (.aload_n 0, 1) := by decide +kernel
theorem dX12_both_33 : decode cX12_both 33 = .ok (.iload_n 1, 1) := by decide +kernel
theorem dX12_both_34 : decode cX12_both 34 = .ok (.invokevirtual 186, 3) := by decide +kernel
theorem dX12_both_37 : decode cX12_both 37 = .ok (.istore 4, 2) := by decide +kernel
theorem dX12_both_39 : decode cX12_both 39 = .ok (.aload_n 0, 1) := by decide +kernel
theorem dX12_both_40 : decode cX12_both 40 = .ok (.getfield 45, 3) := by decide +kernel
theorem dX12_both_43 : decode cX12_both 43 = .ok (.iconst 0, 1) := by decide +kernel
theorem dX12_both_44 : decode cX12_both 44 = .ok (.iaload, 1) := by decide +kernel
theorem dX12_both_45 : decode cX12_both 45 = .ok (.istore 5, 2) := by decide +kernel
theorem dX12_both_47 : decode cX12_both 47 = .ok (.iload_n 3, 1) := by decide +kernel
theorem dX12_both_48 : decode cX12_both 48 = .ok (.istore 6, 2) := by decide +kernel
theorem dX12_both_50 : decode cX12_both 50 = .ok (.iconst 0, 1) := by decide +kernel
theorem dX12_both_51 : decode cX12_both 51 = .ok (.istore 7, 2) := by decide +kernel
theorem dX12_both_53 : decode cX12_both 53 = .ok (.iconst 1, 1) := by decide +kernel
theorem dX12_both_54 : decode cX12_both 54 = .ok (.istore 8, 2) := by decide +kernel
theorem dX12_both_56 : decode cX12_both 56 = .ok (.iload 8, 2) := by decide +kernel
theorem dX12_both_58 : decode cX12_both 58 = .ok (.sipush 3600, 3) := by decide +kernel
theorem dX12_both_61 : decode cX12_both 61 = .ok (.if_icmp .gt 64, 3) := by decide +kernel
theorem dX12_both_64 : decode cX12_both 64 = .ok (.iload 7, 2) := by decide +kernel
theorem dX12_both_66 : decode cX12_both 66 = .ok (.iload 5, 2) := by decide +kernel
theorem dX12_both_68 : decode cX12_both 68 = .ok (.iload 4, 2) := by decide +kernel
theorem dX12_both_70 : decode cX12_both 70 = .ok (.iadd, 1) := by decide +kernel
theorem dX12_both_71 : decode cX12_both 71 = .ok (.aload_n 0, 1) := by decide +kernel
theorem dX12_both_72 : decode cX12_both 72 = .ok (.getfield 171, 3) := by decide +kernel
theorem dX12_both_75 : decode cX12_both 75 = .ok (.idiv, 1) := by decide +kernel
theorem dX12_both_76 : decode cX12_both 76 = .ok (.iadd, 1) := by decide +kernel
theorem dX12_both_77 : decode cX12_both 77 = .ok (.istore 7, 2) := by decide +kernel
theorem dX12_both_79 : decode cX12_both 79 = .ok (.iload 5, 2) := by decide +kernel
theorem dX12_both_81 : decode cX12_both 81 = .ok (.iload 4, 2) := by decide +kernel
theorem dX12_both_83 : decode cX12_both 83 = .ok (.iadd, 1) := by decide +kernel
theorem dX12_both_84 : decode cX12_both 84 = .ok (.aload_n 0, 1) := by decide +kernel
theorem dX12_both_85 : decode cX12_both 85 = .ok (.getfield 171, 3) := by decide +kernel
theorem dX12_both_88 : decode cX12_both 88 = .ok (.irem, 1) := by decide +kernel
theorem dX12_both_89 : decode cX12_both 89 = .ok (.istore 5, 2) := by decide +kernel
theorem dX12_both_91 : decode cX12_both 91 = .ok (.iload 6, 2) := by decide +kernel
theorem dX12_both_93 : decode cX12_both 93 = .ok (.iload 4, 2) := by decide +kernel
theorem dX12_both_95 : decode cX12_both 95 = .ok (.iadd, 1) := by decide +kernel
theorem dX12_both_96 : decode cX12_both 96 = .ok (.iload_n 2, 1) := by decide +kernel
theorem dX12_both_97 : decode cX12_both 97 = .ok (.irem, 1) := by decide +kernel
theorem dX12_both_98 : decode cX12_both 98 = .ok (.istore 6, 2) := by decide +kernel
theorem dX12_both_100 : decode cX12_both 100 = .ok (.iload 5, 2) := by decide +kernel
theorem dX12_both_102 : decode cX12_both 102 = .ok (.ifCond .ne 17, 3) := by decide +kernel
theorem dX12_both_105 : decode cX12_both 105 = .ok (.iload 6, 2) := by decide +kernel
theorem dX12_both_107 : decode cX12_both 107 = .ok (.ifCond .ne 12, 3) := by decide +kernel
theorem dX12_both_110 : decode cX12_both 110 = .ok (.aload_n 0, 1) := by decide +kernel
theorem dX12_both_111 : decode cX12_both 111 = .ok (.iload 7, 2) := by decide +kernel
theorem dX12_both_113 : decode cX12_both 113 = .ok (.iload 8, 2) := by decide +kernel
theorem dX12_both_115 : decode cX12_both 115 = .ok (.invokevirtual 118, 3) := by decide +kernel
theorem dX12_both_118 : decode cX12_both 118 = .ok (.ireturn, 1) := by decide +kernel
theorem dX12_both_119 : decode cX12_both 119 = .ok (.iinc 8 1, 3) := by decide +kernel
theorem dX12_both_122 : decode cX12_both 122 = .ok (.goto (-66), 3) := by decide +kernel
theorem dX12_both_125 : decode cX12_both 125 = .ok (.bipush (-9), 2) := by decide +kernel
theorem dX12_both_127 : decode cX12_both 127 = .ok (.ireturn, 1) := by decide +kernel
theorem dX12_rent_0 : decode cX12_rent 0 = .ok (.aload_n 0, 1) := by decide +kernel
theorem dX12_rent_1 : decode cX12_rent 1 = .ok (.iload_n 1, 1) := by decide +kernel
theorem dX12_rent_2 : decode cX12_rent 2 = .ok (.invokevirtual 189, 3) := by decide +kernel
theorem dX12_rent_5 : decode cX12_rent 5 = .ok (.ifCond .ne 5, 3) := by decide +kernel
theorem dX12_rent_8 : decode cX12_rent 8 = .ok (.iconst (-1), 1) := by decide +kernel
theorem dX12_rent_9 : decode cX12_rent 9 = .ok (.ireturn, 1) := by decide +kernel
theorem dX12_rent_10 : decode cX12_rent 10 = .ok (.aload_n 0, 1) := by decide +kernel
theorem dX12_rent_11 : decode cX12_rent 11 = .ok (.iload_n 1, 1) := by decide +kernel
theorem dX12_rent_12 : decode cX12_rent 12 = .ok (.invokevirtual 186, 3) := by decide +kernel
theorem dX12_rent_15 : decode cX12_rent 15 = .ok (.istore_n 2, 1) := by decide +kernel
theorem dX12_rent_16 : decode cX12_rent 16 = .ok (.aload_n 0, 1) := by decide +kernel
theorem dX12_rent_17 : decode cX12_rent 17 = .ok (.getfield 45, 3) := by decide +kernel
theorem dX12_rent_20 : decode cX12_rent 20 = .ok (.iconst 0, 1) := by decide +kernel
theorem dX12_rent_21 : decode cX12_rent 21 = .ok (.iaload, 1) := by decide +kernel
theorem dX12_rent_22 : decode cX12_rent 22 = .ok (.istore_n 3, 1) := by decide +kernel
theorem dX12_rent_23 : decode cX12_rent 23 = .ok (.iconst 1, 1) := by decide +kernel
theorem dX12_rent_24 : decode cX12_rent 24 = .ok (.istore 4, 2) := by decide +kernel
theorem dX12_rent_26 : decode cX12_rent 26 = .ok (.iload 4, 2) := by decide +kernel
theorem dX12_rent_28 : decode cX12_rent 28 = .ok (.bipush 60, 2) := by decide +kernel
theorem dX12_rent_30 : decode cX12_rent 30 = .ok (.if_icmp .gt 37, 3) := by decide +kernel
theorem dX12_rent_33 : decode cX12_rent 33 = .ok (.iload_n 3, 1) := by decide +kernel
theorem dX12_rent_34 : decode cX12_rent 34 = .ok (.iload_n 2, 1) := by decide +kernel
theorem dX12_rent_35 : decode cX12_rent 35 = .ok (.iadd, 1) := by decide +kernel
theorem dX12_rent_36 : decode cX12_rent 36 = .ok (.aload_n 0, 1) := by decide +kernel
theorem dX12_rent_37 : decode cX12_rent 37 = .ok (.getfield 171, 3) := by decide +kernel
theorem dX12_rent_40 : decode cX12_rent 40 = .ok (.irem, 1) := by decide +kernel
theorem dX12_rent_41 : decode cX12_rent 41 = .ok (.istore_n 3, 1) := by decide +kernel
theorem dX12_rent_42 : decode cX12_rent 42 = .ok (.aload_n 0, 1) := by decide +kernel
theorem dX12_rent_43 : decode cX12_rent 43 = .ok (.iload_n 3, 1) := by decide +kernel
theorem dX12_rent_44 : decode cX12_rent 44 = .ok (.invokevirtual 208, 3) := by decide +kernel
theorem dX12_rent_47 : decode cX12_rent 47 = .ok (.ifCond .eq 14, 3) := by decide +kernel
theorem dX12_rent_50 : decode cX12_rent 50 = .ok (.aload_n 0, 1) := by decide +kernel
theorem dX12_rent_51 : decode cX12_rent 51 = .ok (.iload_n 2, 1) := by decide +kernel
theorem dX12_rent_52 : decode cX12_rent 52 = .ok (.iload 4, 2) := by decide +kernel
theorem dX12_rent_54 : decode cX12_rent 54 = .ok (.imul, 1) := by decide +kernel
theorem dX12_rent_55 : decode cX12_rent 55 = .ok (.iload 4, 2) := by decide +kernel
theorem dX12_rent_57 : decode cX12_rent 57 = .ok (.invokevirtual 118, 3) := by decide +kernel
theorem dX12_rent_60 : decode cX12_rent 60 = .ok (.ireturn, 1) := by decide +kernel
theorem dX12_rent_61 : decode cX12_rent 61 = .ok (.iinc 4 1, 3) := by decide +kernel
theorem dX12_rent_64 : decode cX12_rent 64 = .ok (.goto (-38), 3) := by decide +kernel
theorem dX12_rent_67 : decode cX12_rent 67 = .ok (.bipush (-9), 2) := by decide +kernel
theorem dX12_rent_69 : decode cX12_rent 69 = .ok (.ireturn, 1) := by decide +kernel
theorem dX12_odds_0 : decode cX12_odds 0 = .ok (.aload_n 0, 1) := by decide +kernel
theorem dX12_odds_1 : decode cX12_odds 1 = .ok (.iload_n 1, 1) := by decide +kernel
theorem dX12_odds_2 : decode cX12_odds 2 = .ok (.invokevirtual 256, 3) := by decide +kernel
theorem dX12_odds_5 : decode cX12_odds 5 = .ok (.ifCond .eq 13, 3) := by decide +kernel
theorem dX12_odds_8 : decode cX12_odds 8 = .ok (.iload_n 2, 1) := by decide +kernel
theorem dX12_odds_9 : decode cX12_odds 9 = .ok (.iconst 0, 1) := by decide +kernel
theorem dX12_odds_10 : decode cX12_odds 10 = .ok (.bipush 10, 2) := by decide +kernel
theorem dX12_odds_12 : decode cX12_odds 12 = .ok (.invokestatic 96, 3) := by decide +kernel
theorem dX12_odds_15 : decode cX12_odds 15 = .ok (.ifCond .ne 5, 3) := by decide +kernel
theorem dX12_odds_18 : decode cX12_odds 18 = .ok (.iconst (-1), 1) := by decide +kernel
theorem dX12_odds_19 : decode cX12_odds 19 = .ok (.ireturn, 1) := by decide +kernel
theorem dX12_odds_20 : decode cX12_odds 20 = .ok (.lconst 1, 1) := by decide +kernel
theorem dX12_odds_21 : decode cX12_odds 21 = .ok (.lstore_n 3, 1) := by decide +kernel
theorem dX12_odds_22 : decode cX12_odds 22 = .ok (.iconst 0, 1) := by decide +kernel
theorem dX12_odds_23 : decode cX12_odds 23 = .ok (.istore 5, 2) := by decide +kernel
theorem dX12_odds_25 : decode cX12_odds 25 = .ok (.iload 5, 2) := by decide +kernel
theorem dX12_odds_27 : decode cX12_odds 27 = .ok (.aload_n 0, 1) := by decide +kernel
theorem dX12_odds_28 : decode cX12_odds 28 = .ok (.getfield 171, 3) := by decide +kernel
theorem dX12_odds_31 : decode cX12_odds 31 = .ok (.if_icmp .ge 32, 3) := by decide +kernel
theorem dX12_odds_34 : decode cX12_odds 34 = .ok (.aload_n 0, 1) := by decide +kernel
theorem dX12_odds_35 : decode cX12_odds 35 = .ok (.getfield 85, 3) := by decide +kernel
theorem dX12_odds_38 : decode cX12_odds 38 = .ok (.iload 5, 2) := by decide +kernel
theorem dX12_odds_40 : decode cX12_odds 40 = .ok (.iload 5, 2) := by decide +kernel
theorem dX12_odds_42 : decode cX12_odds 42 = .ok (.aload_n 0, 1) := by decide +kernel
theorem dX12_odds_43 : decode cX12_odds 43 = .ok (.getfield 45, 3) := by decide +kernel
theorem dX12_odds_46 : decode cX12_odds 46 = .ok (.iconst 0, 1) := by decide +kernel
theorem dX12_odds_47 : decode cX12_odds 47 = .ok (.iaload, 1) := by decide +kernel
theorem dX12_odds_48 : decode cX12_odds 48 = .ok (.if_icmp .ne 7, 3) := by decide +kernel
theorem dX12_odds_51 : decode cX12_odds 51 = .ok (.lconst 1, 1) := by decide +kernel
theorem dX12_odds_52 : decode cX12_odds 52 = .ok (.goto 4, 3) := by decide +kernel
theorem dX12_odds_55 : decode cX12_odds 55 = .ok (.lconst 0, 1) := by decide +kernel
theorem dX12_odds_56 : decode cX12_odds 56 = .ok (.lastore, 1) := by decide +kernel
theorem dX12_odds_57 : decode cX12_odds 57 = .ok (.iinc 5 1, 3) := by decide +kernel
theorem dX12_odds_60 : decode cX12_odds 60 = .ok (.goto (-35), 3) := by decide +kernel
theorem dX12_odds_63 : decode cX12_odds 63 = .ok (.iconst 0, 1) := by decide +kernel
theorem dX12_odds_64 : decode cX12_odds 64 = .ok (.istore 5, 2) := by decide +kernel
theorem dX12_odds_66 : decode cX12_odds 66 = .ok (.iload 5, 2) := by decide +kernel
theorem dX12_odds_68 : decode cX12_odds 68 = .ok (.iload_n 2, 1) := by decide +kernel
theorem dX12_odds_69 : decode cX12_odds 69 = .ok (.if_icmp .ge 140, 3) := by decide +kernel
theorem dX12_odds_72 : decode cX12_odds 72 = .ok (.iconst 0, 1) := by decide +kernel
theorem dX12_odds_73 : decode cX12_odds 73 = .ok (.istore 6, 2) := by decide +kernel
theorem dX12_odds_75 : decode cX12_odds 75 = .ok (.iload 6, 2) := by decide +kernel
theorem dX12_odds_77 : decode cX12_odds 77 = .ok (.aload_n 0, 1) := by decide +kernel
theorem dX12_odds_78 : decode cX12_odds 78 = .ok (.getfield 171, 3) := by decide +kernel
theorem dX12_odds_81 : decode cX12_odds 81 = .ok (.if_icmp .ge 17, 3) := by decide +kernel
theorem dX12_odds_84 : decode cX12_odds 84 = .ok (.aload_n 0, 1) := by decide +kernel
theorem dX12_odds_85 : decode cX12_odds 85 = .ok (.getfield 89, 3) := by decide +kernel
theorem dX12_odds_88 : decode cX12_odds 88 = .ok (.iload 6, 2) := by decide +kernel
theorem dX12_odds_90 : decode cX12_odds 90 = .ok (.lconst 0, 1) := by decide +kernel
theorem dX12_odds_91 : decode cX12_odds 91 = .ok (.lastore, 1) := by decide +kernel
theorem dX12_odds_92 : decode cX12_odds 92 = .ok (.iinc 6 1, 3) := by decide +kernel
theorem dX12_odds_95 : decode cX12_odds 95 = .ok (.goto (-20), 3) := by decide +kernel
theorem dX12_odds_98 : decode cX12_odds 98 = .ok (.iconst 0, 1) := by decide +kernel
theorem dX12_odds_99 : decode cX12_odds 99 = .ok (.istore 6, 2) := by decide +kernel
theorem dX12_odds_101 : decode cX12_odds 101 = .ok (.iload 6, 2) := by decide +kernel
theorem dX12_odds_103 : decode cX12_odds 103 = .ok (.aload_n 0, 1) := by decide +kernel
theorem dX12_odds_104 : decode cX12_odds 104 = .ok (.getfield 171, 3) := by decide +kernel
theorem dX12_odds_107 : decode cX12_odds 107 = .ok (.if_icmp .ge 56, 3) := by decide +kernel
theorem dX12_odds_110 : decode cX12_odds 110 = .ok (.iconst 0, 1) := by decide +kernel
theorem dX12_odds_111 : decode cX12_odds 111 = .ok (.istore 7, 2) := by decide +kernel
theorem dX12_odds_113 : decode cX12_odds 113 = .ok (.iload 7, 2) := by decide +kernel
theorem dX12_odds_115 : decode cX12_odds 115 = .ok (.aload_n 0, 1) := by decide +kernel
theorem dX12_odds_116 : decode cX12_odds 116 = .ok (.getfield 168, 3) := by decide +kernel
theorem dX12_odds_119 : decode cX12_odds 119 = .ok (.if_icmp .ge 38, 3) := by decide +kernel
theorem dX12_odds_122 : decode cX12_odds 122 = .ok (.aload_n 0, 1) := by decide +kernel
theorem dX12_odds_123 : decode cX12_odds 123 = .ok (.getfield 89, 3) := by decide +kernel
theorem dX12_odds_126 : decode cX12_odds 126 = .ok (.iload 6, 2) := by decide +kernel
theorem dX12_odds_128 : decode cX12_odds 128 = .ok (.aload_n 0, 1) := by decide +kernel
theorem dX12_odds_129 : decode cX12_odds 129 = .ok (.iload 7, 2) := by decide +kernel
theorem dX12_odds_131 : decode cX12_odds 131 = .ok (.invokevirtual 186, 3) := by decide +kernel
theorem dX12_odds_134 : decode cX12_odds 134 = .ok (.iadd, 1) := by decide +kernel
theorem dX12_odds_135 : decode cX12_odds 135 = .ok (.aload_n 0, 1) := by decide +kernel
theorem dX12_odds_136 : decode cX12_odds 136 = .ok (.getfield 171, 3) := by decide +kernel
theorem dX12_odds_139 : decode cX12_odds 139 = .ok (.irem, 1) := by decide +kernel
theorem dX12_odds_140 : decode cX12_odds 140 = .ok (.dup2, 1) := by decide +kernel
theorem dX12_odds_141 : decode cX12_odds 141 = .ok (.laload, 1) := by decide +kernel
theorem dX12_odds_142 : decode cX12_odds 142 = .ok (.aload_n 0, 1) := by decide +kernel
theorem dX12_odds_143 : decode cX12_odds 143 = .ok (.getfield 85, 3) := by decide +kernel
theorem dX12_odds_146 : decode cX12_odds 146 = .ok (.iload 6, 2) := by decide +kernel
theorem dX12_odds_148 : decode cX12_odds 148 = .ok (.laload, 1) := by decide +kernel
theorem dX12_odds_149 : decode cX12_odds 149 = .ok (.ladd, 1) := by decide +kernel
theorem dX12_odds_150 : decode cX12_odds 150 = .ok (.lastore, 1) := by decide +kernel
theorem dX12_odds_151 : decode cX12_odds 151 = .ok (.iinc 7 1, 3) := by decide +kernel
theorem dX12_odds_154 : decode cX12_odds 154 = .ok (.goto (-41), 3) := by decide +kernel
theorem dX12_odds_157 : decode cX12_odds 157 = .ok (.iinc 6 1, 3) := by decide +kernel
theorem dX12_odds_160 : decode cX12_odds 160 = .ok (.goto (-59), 3) := by decide +kernel
theorem dX12_odds_163 : decode cX12_odds 163 = .ok (.iconst 0, 1) := by decide +kernel
theorem dX12_odds_164 : decode cX12_odds 164 = .ok (.istore 6, 2) := by decide +kernel
theorem dX12_odds_166 : decode cX12_odds 166 = .ok (.iload 6, 2) := by decide +kernel
theorem dX12_odds_168 : decode cX12_odds 168 = .ok (.aload_n 0, 1) := by decide +kernel
theorem dX12_odds_169 : decode cX12_odds 169 = .ok (.getfield 171, 3) := by decide +kernel
theorem dX12_odds_172 : decode cX12_odds 172 = .ok (.if_icmp .ge 23, 3) := by decide +kernel
theorem dX12_odds_175 : decode cX12_odds 175 = .ok (.aload_n 0, 1) := by decide +kernel
theorem dX12_odds_176 : decode cX12_odds 176 = .ok (.getfield 85, 3) := by decide +kernel
theorem dX12_odds_179 : decode cX12_odds 179 = .ok (.iload 6, 2) := by decide +kernel
theorem dX12_odds_181 : decode cX12_odds 181 = .ok (.aload_n 0, 1) := by decide +kernel
theorem dX12_odds_182 : decode cX12_odds 182 = .ok (.getfield 89, 3) := by decide +kernel
theorem dX12_odds_185 : decode cX12_odds 185 = .ok (.iload 6, 2) := by decide +kernel
theorem dX12_odds_187 : decode cX12_odds 187 = .ok (.laload, 1) := by decide +kernel
theorem dX12_odds_188 : decode cX12_odds 188 = .ok (.lastore, 1) := by decide +kernel
theorem dX12_odds_189 : decode cX12_odds 189 = .ok (.iinc 6 1, 3) := by decide +kernel
theorem dX12_odds_192 : decode cX12_odds 192 = .ok (.goto (-26), 3) := by decide +kernel
theorem dX12_odds_195 : decode cX12_odds 195 = .ok (.lload_n 3, 1) := by decide +kernel
theorem dX12_odds_196 : decode cX12_odds 196 = .ok (.aload_n 0, 1) := by decide +kernel
theorem dX12_odds_197 : decode cX12_odds 197 = .ok (.getfield 168, 3) := by decide +kernel
theorem dX12_odds_200 : decode cX12_odds 200 = .ok (.i2l, 1) := by decide +kernel
theorem dX12_odds_201 : decode cX12_odds 201 = .ok (.lmul, 1) := by decide +kernel
theorem dX12_odds_202 : decode cX12_odds 202 = .ok (.lstore_n 3, 1) := by decide +kernel
theorem dX12_odds_203 : decode cX12_odds 203 = .ok (.iinc 5 1, 3) := by decide +kernel
theorem dX12_odds_206 : decode cX12_odds 206 = .ok (.goto (-140), 3) := by decide +kernel
theorem dX12_odds_209 : decode cX12_odds 209 = .ok (.aload_n 0, 1) := by decide +kernel
theorem dX12_odds_210 : decode cX12_odds 210 = .ok (.aload_n 0, 1) := by decide +kernel
theorem dX12_odds_211 : decode cX12_odds 211 = .ok (.getfield 85, 3) := by decide +kernel
theorem dX12_odds_214 : decode cX12_odds 214 = .ok (.iload_n 1, 1) := by decide +kernel
theorem dX12_odds_215 : decode cX12_odds 215 = .ok (.laload, 1) := by decide +kernel
theorem dX12_odds_216 : decode cX12_odds 216 = .ok (.lload_n 3, 1) := by decide +kernel
theorem dX12_odds_217 : decode cX12_odds 217 = .ok (.invokevirtual 221, 3) := by decide +kernel
theorem dX12_odds_220 : decode cX12_odds 220 = .ok (.ireturn, 1) := by decide +kernel
theorem dX12_lots_0 : decode cX12_lots 0 = .ok (.iload_n 1, 1) := by decide +kernel
theorem dX12_lots_1 : decode cX12_lots 1 = .ok (.iconst 1, 1) := by decide +kernel
theorem dX12_lots_2 : decode cX12_lots 2 = .ok (.bipush 30, 2) := by decide +kernel
theorem dX12_lots_4 : decode cX12_lots 4 = .ok (.invokestatic 96, 3) := by decide +kernel
theorem dX12_lots_7 : decode cX12_lots 7 = .ok (.ifCond .eq 14, 3) := by decide +kernel
theorem dX12_lots_10 : decode cX12_lots 10 = .ok (.iload_n 2, 1) := by decide +kernel
theorem dX12_lots_11 : decode cX12_lots 11 = .ok (.iconst 1, 1) := by decide +kernel
theorem dX12_lots_12 : decode cX12_lots 12 = .ok (.ldc_w 292, 3) := by decide +kernel
theorem dX12_lots_15 : decode cX12_lots 15 = .ok (.invokestatic 96, 3) := by decide +kernel
theorem dX12_lots_18 : decode cX12_lots 18 = .ok (.ifCond .ne 5, 3) := by decide +kernel
theorem dX12_lots_21 : decode cX12_lots 21 = .ok (.iconst (-1), 1) := by decide +kernel
theorem dX12_lots_22 : decode cX12_lots 22 = .ok (.ireturn, 1) := by decide +kernel
theorem dX12_lots_23 : decode cX12_lots 23 = .ok (.aload_n 0, 1) := by decide +kernel
theorem dX12_lots_24 : decode cX12_lots 24 = .ok (.getfield 168, 3) := by decide +kernel
theorem dX12_lots_27 : decode cX12_lots 27 = .ok (.ifCond .ne 6, 3) := by decide +kernel
theorem dX12_lots_30 : decode cX12_lots 30 = .ok (.bipush (-4), 2) := by decide +kernel
theorem dX12_lots_32 : decode cX12_lots 32 = .ok (.ireturn, 1) := by decide +kernel
theorem dX12_lots_33 : decode cX12_lots 33 = .ok (.aload_n 0, 1) := by decide +kernel
theorem dX12_lots_34 : decode cX12_lots 34 = .ok (.getfield 180, 3) := by decide +kernel
theorem dX12_lots_37 : decode cX12_lots 37 = .ok (.iload_n 1, 1) := by decide +kernel
theorem dX12_lots_38 : decode cX12_lots 38 = .ok (.iadd, 1) := by decide +kernel
theorem dX12_lots_39 : decode cX12_lots 39 = .ok (.bipush 60, 2) := by decide +kernel
theorem dX12_lots_41 : decode cX12_lots 41 = .ok (.if_icmp .le 6, 3) := by decide +kernel
theorem dX12_lots_44 : decode cX12_lots 44 = .ok (.bipush (-2), 2) := by decide +kernel
theorem dX12_lots_46 : decode cX12_lots 46 = .ok (.ireturn, 1) := by decide +kernel
theorem dX12_lots_47 : decode cX12_lots 47 = .ok (.iload_n 2, 1) := by decide +kernel
theorem dX12_lots_48 : decode cX12_lots 48 = .ok (.i2l, 1) := by decide +kernel
theorem dX12_lots_49 : decode cX12_lots 49 = .ok (.lstore_n 3, 1) := by decide +kernel
theorem dX12_lots_50 : decode cX12_lots 50 = .ok (.iconst 0, 1) := by decide +kernel
theorem dX12_lots_51 : decode cX12_lots 51 = .ok (.istore 5, 2) := by decide +kernel
theorem dX12_lots_53 : decode cX12_lots 53 = .ok (.iload 5, 2) := by decide +kernel
theorem dX12_lots_55 : decode cX12_lots 55 = .ok (.iload_n 1, 1) := by decide +kernel
theorem dX12_lots_56 : decode cX12_lots 56 = .ok (.if_icmp .ge 72, 3) := by decide +kernel
theorem dX12_lots_59 : decode cX12_lots 59 = .ok (.ldc2_w 293, 3) := by decide +kernel
theorem dX12_lots_62 : decode cX12_lots 62 = .ok (.lload_n 3, 1) := by decide +kernel
theorem dX12_lots_63 : decode cX12_lots 63 = .ok (.lmul, 1) := by decide +kernel
theorem dX12_lots_64 : decode cX12_lots 64 = .ok (.ldc2_w 295, 3) := by decide +kernel
theorem dX12_lots_67 : decode cX12_lots 67 = .ok (.lrem, 1) := by decide +kernel
theorem dX12_lots_68 : decode cX12_lots 68 = .ok (.lstore_n 3, 1) := by decide +kernel
theorem dX12_lots_69 : decode cX12_lots 69 = .ok (.aload_n 0, 1) := by decide +kernel
theorem dX12_lots_70 : decode cX12_lots 70 = .ok (.invokevirtual 211, 3) := by decide +kernel
theorem dX12_lots_73 : decode cX12_lots 73 = .ok (.lload_n 3, 1) := by decide +kernel
theorem dX12_lots_74 : decode cX12_lots 74 = .ok (.ldc2_w 297, 3) := by decide +kernel
theorem dX12_lots_77 : decode cX12_lots 77 = .ok (.lrem, 1) := by decide +kernel
theorem dX12_lots_78 : decode cX12_lots 78 = .ok (.lconst 0, 1) := by decide +kernel
theorem dX12_lots_79 : decode cX12_lots 79 = .ok (.lcmp, 1) := by decide +kernel
theorem dX12_lots_80 : decode cX12_lots 80 = .ok (.ifCond .ne 22, 3) := by decide +kernel
theorem dX12_lots_83 : decode cX12_lots 83 = .ok (.aload_n 0, 1) := by decide +kernel
theorem dX12_lots_84 : decode cX12_lots 84 = .ok (.getfield 45, 3) := by decide +kernel
theorem dX12_lots_87 : decode cX12_lots 87 = .ok (.iconst 2, 1) := by decide +kernel
theorem dX12_lots_88 : decode cX12_lots 88 = .ok (.aload_n 0, 1) := by decide +kernel
theorem dX12_lots_89 : decode cX12_lots 89 = .ok (.getfield 45, 3) := by decide +kernel
theorem dX12_lots_92 : decode cX12_lots 92 = .ok (.iconst 2, 1) := by decide +kernel
theorem dX12_lots_93 : decode cX12_lots 93 = .ok (.iaload, 1) := by decide +kernel
theorem dX12_lots_94 : decode cX12_lots 94 = .ok (.iconst 1, 1) := by decide +kernel
theorem dX12_lots_95 : decode cX12_lots 95 = .ok (.iadd, 1) := by decide +kernel
theorem dX12_lots_96 : decode cX12_lots 96 = .ok (.iconst 3, 1) := by decide +kernel
theorem dX12_lots_97 : decode cX12_lots 97 = .ok (.irem, 1) := by decide +kernel
theorem dX12_lots_98 : decode cX12_lots 98 = .ok (.iastore, 1) := by decide +kernel
theorem dX12_lots_99 : decode cX12_lots 99 = .ok (.goto 23, 3) := by decide +kernel
theorem dX12_lots_102 : decode cX12_lots 102 = .ok (.aload_n 0, 1) := by decide +kernel
theorem dX12_lots_103 : decode cX12_lots 103 = .ok (.aload_n 0, 1) := by decide +kernel
theorem dX12_lots_104 : decode cX12_lots 104 = .ok (.getfield 45, 3) := by decide +kernel
theorem dX12_lots_107 : decode cX12_lots 107 = .ok (.lload_n 3, 1) := by decide +kernel
theorem dX12_lots_108 : decode cX12_lots 108 = .ok (.ldc2_w 297, 3) := by decide +kernel
theorem dX12_lots_111 : decode cX12_lots 111 = .ok (.ldiv, 1) := by decide +kernel
theorem dX12_lots_112 : decode cX12_lots 112 = .ok (.aload_n 0, 1) := by decide +kernel
theorem dX12_lots_113 : decode cX12_lots 113 = .ok (.getfield 168, 3) := by decide +kernel
theorem dX12_lots_116 : decode cX12_lots 116 = .ok (.i2l, 1) := by decide +kernel
theorem dX12_lots_117 : decode cX12_lots 117 = .ok (.lrem, 1) := by decide +kernel
theorem dX12_lots_118 : decode cX12_lots 118 = .ok (.l2i, 1) := by decide +kernel
theorem dX12_lots_119 : decode cX12_lots 119 = .ok (.invokevirtual 214, 3) := by decide +kernel
theorem dX12_lots_122 : decode cX12_lots 122 = .ok (.iinc 5 1, 3) := by decide +kernel
theorem dX12_lots_125 : decode cX12_lots 125 = .ok (.goto (-72), 3) := by decide +kernel
theorem dX12_lots_128 : decode cX12_lots 128 = .ok (.aload_n 0, 1) := by decide +kernel
theorem dX12_lots_129 : decode cX12_lots 129 = .ok (.getfield 45, 3) := by decide +kernel
theorem dX12_lots_132 : decode cX12_lots 132 = .ok (.iconst 0, 1) := by decide +kernel
theorem dX12_lots_133 : decode cX12_lots 133 = .ok (.iaload, 1) := by decide +kernel
theorem dX12_lots_134 : decode cX12_lots 134 = .ok (.ireturn, 1) := by decide +kernel
theorem dX12_counted_0 : decode cX12_counted 0 = .ok (.iconst 0, 1) := by decide +kernel
theorem dX12_counted_1 : decode cX12_counted 1 = .ok (.istore_n 2, 1) := by decide +kernel
theorem dX12_counted_2 : decode cX12_counted 2 = .ok (.iconst 0, 1) := by decide +kernel
theorem dX12_counted_3 : decode cX12_counted 3 = .ok (.istore_n 3, 1) := by decide +kernel
theorem dX12_counted_4 : decode cX12_counted 4 = .ok (.iload_n 3, 1) := by decide +kernel
theorem dX12_counted_5 : decode cX12_counted 5 = .ok (.aload_n 0, 1) := by decide +kernel
theorem dX12_counted_6 : decode cX12_counted 6 = .ok (.getfield 168, 3) := by decide +kernel
theorem dX12_counted_9 : decode cX12_counted 9 = .ok (.if_icmp .ge 31, 3) := by decide +kernel
theorem dX12_counted_12 : decode cX12_counted 12 = .ok (.iload_n 2, 1) := by decide +kernel
theorem dX12_counted_13 : decode cX12_counted 13 = .ok (.iload_n 1, 1) := by decide +kernel
theorem dX12_counted_14 : decode cX12_counted 14 = .ok (.bipush 7, 2) := by decide +kernel
theorem dX12_counted_16 : decode cX12_counted 16 = .ok (.if_icmp .ne 15, 3) := by decide +kernel
theorem dX12_counted_19 : decode cX12_counted 19 = .ok (.aload_n 0, 1) := by decide +kernel
theorem dX12_counted_20 : decode cX12_counted 20 = .ok (.iload_n 3, 1) := by decide +kernel
theorem dX12_counted_21 : decode cX12_counted 21 = .ok (.invokevirtual 299, 3) := by decide +kernel
theorem dX12_counted_24 : decode cX12_counted 24 = .ok (.ifCond .eq 7, 3) := by decide +kernel
theorem dX12_counted_27 : decode cX12_counted 27 = .ok (.iconst 1, 1) := by decide +kernel
theorem dX12_counted_28 : decode cX12_counted 28 = .ok (.goto 4, 3) := by decide +kernel
theorem dX12_counted_31 : decode cX12_counted 31 = .ok (.iconst 0, 1) := by decide +kernel
theorem dX12_counted_32 : decode cX12_counted 32 = .ok (.iadd, 1) := by decide +kernel
theorem dX12_counted_33 : decode cX12_counted 33 = .ok (.istore_n 2, 1) := by decide +kernel
theorem dX12_counted_34 : decode cX12_counted 34 = .ok (.iinc 3 1, 3) := by decide +kernel
theorem dX12_counted_37 : decode cX12_counted 37 = .ok (.goto (-33), 3) := by decide +kernel
theorem dX12_counted_40 : decode cX12_counted 40 = .ok (.iconst 0, 1) := by decide +kernel
theorem dX12_counted_41 : decode cX12_counted 41 = .ok (.istore_n 3, 1) := by decide +kernel
theorem dX12_counted_42 : decode cX12_counted 42 = .ok (.iload_n 3, 1) := by decide +kernel
theorem dX12_counted_43 : decode cX12_counted 43 = .ok (.bipush 6, 2) := by decide +kernel
theorem dX12_counted_45 : decode cX12_counted 45 = .ok (.if_icmp .ge 32, 3) := by decide +kernel
theorem dX12_counted_48 : decode cX12_counted 48 = .ok (.iload_n 2, 1) := by decide +kernel
theorem dX12_counted_49 : decode cX12_counted 49 = .ok (.iload_n 1, 1) := by decide +kernel
theorem dX12_counted_50 : decode cX12_counted 50 = .ok (.bipush 8, 2) := by decide +kernel
theorem dX12_counted_52 : decode cX12_counted 52 = .ok (.if_icmp .ne 16, 3) := by decide +kernel
theorem dX12_counted_55 : decode cX12_counted 55 = .ok (.aload_n 0, 1) := by decide +kernel
theorem dX12_counted_56 : decode cX12_counted 56 = .ok (.getfield 17, 3) := by decide +kernel
theorem dX12_counted_59 : decode cX12_counted 59 = .ok (.iload_n 3, 1) := by decide +kernel
theorem dX12_counted_60 : decode cX12_counted 60 = .ok (.iaload, 1) := by decide +kernel
theorem dX12_counted_61 : decode cX12_counted 61 = .ok (.ifCond .lt 7, 3) := by decide +kernel
theorem dX12_counted_64 : decode cX12_counted 64 = .ok (.iconst 1, 1) := by decide +kernel
theorem dX12_counted_65 : decode cX12_counted 65 = .ok (.goto 4, 3) := by decide +kernel
theorem dX12_counted_68 : decode cX12_counted 68 = .ok (.iconst 0, 1) := by decide +kernel
theorem dX12_counted_69 : decode cX12_counted 69 = .ok (.iadd, 1) := by decide +kernel
theorem dX12_counted_70 : decode cX12_counted 70 = .ok (.istore_n 2, 1) := by decide +kernel
theorem dX12_counted_71 : decode cX12_counted 71 = .ok (.iinc 3 1, 3) := by decide +kernel
theorem dX12_counted_74 : decode cX12_counted 74 = .ok (.goto (-32), 3) := by decide +kernel
theorem dX12_counted_77 : decode cX12_counted 77 = .ok (.iconst 0, 1) := by decide +kernel
theorem dX12_counted_78 : decode cX12_counted 78 = .ok (.istore_n 3, 1) := by decide +kernel
theorem dX12_counted_79 : decode cX12_counted 79 = .ok (.iload_n 3, 1) := by decide +kernel
theorem dX12_counted_80 : decode cX12_counted 80 = .ok (.iconst 4, 1) := by decide +kernel
theorem dX12_counted_81 : decode cX12_counted 81 = .ok (.if_icmp .ge 32, 3) := by decide +kernel
theorem dX12_counted_84 : decode cX12_counted 84 = .ok (.iload_n 2, 1) := by decide +kernel
theorem dX12_counted_85 : decode cX12_counted 85 = .ok (.iload_n 1, 1) := by decide +kernel
theorem dX12_counted_86 : decode cX12_counted 86 = .ok (.bipush 9, 2) := by decide +kernel
theorem dX12_counted_88 : decode cX12_counted 88 = .ok (.if_icmp .ne 16, 3) := by decide +kernel
theorem dX12_counted_91 : decode cX12_counted 91 = .ok (.aload_n 0, 1) := by decide +kernel
theorem dX12_counted_92 : decode cX12_counted 92 = .ok (.getfield 26, 3) := by decide +kernel
theorem dX12_counted_95 : decode cX12_counted 95 = .ok (.iload_n 3, 1) := by decide +kernel
theorem dX12_counted_96 : decode cX12_counted 96 = .ok (.iaload, 1) := by decide +kernel
theorem dX12_counted_97 : decode cX12_counted 97 = .ok (.ifCond .lt 7, 3) := by decide +kernel
theorem dX12_counted_100 : decode cX12_counted 100 = .ok (.iconst 1, 1) := by decide +kernel
theorem dX12_counted_101 : decode cX12_counted 101 = .ok (.goto 4, 3) := by decide +kernel
theorem dX12_counted_104 : decode cX12_counted 104 = .ok (.iconst 0, 1) := by decide +kernel
theorem dX12_counted_105 : decode cX12_counted 105 = .ok (.iadd, 1) := by decide +kernel
theorem dX12_counted_106 : decode cX12_counted 106 = .ok (.istore_n 2, 1) := by decide +kernel
theorem dX12_counted_107 : decode cX12_counted 107 = .ok (.iinc 3 1, 3) := by decide +kernel
theorem dX12_counted_110 : decode cX12_counted 110 = .ok (.goto (-31), 3) := by decide +kernel
theorem dX12_counted_113 : decode cX12_counted 113 = .ok (.iconst 0, 1) := by decide +kernel
theorem dX12_counted_114 : decode cX12_counted 114 = .ok (.istore_n 3, 1) := by decide +kernel
theorem dX12_counted_115 : decode cX12_counted 115 = .ok (.iload_n 3, 1) := by decide +kernel
theorem dX12_counted_116 : decode cX12_counted 116 = .ok (.iconst 3, 1) := by decide +kernel
theorem dX12_counted_117 : decode cX12_counted 117 = .ok (.if_icmp .ge 32, 3) := by decide +kernel
theorem dX12_counted_120 : decode cX12_counted 120 = .ok (.iload_n 2, 1) := by decide +kernel
theorem dX12_counted_121 : decode cX12_counted 121 = .ok (.iload_n 1, 1) := by decide +kernel
theorem dX12_counted_122 : decode cX12_counted 122 = .ok (.bipush 10, 2) := by decide +kernel
theorem dX12_counted_124 : decode cX12_counted 124 = .ok (.if_icmp .ne 16, 3) := by decide +kernel
theorem dX12_counted_127 : decode cX12_counted 127 = .ok (.aload_n 0, 1) := by decide +kernel
theorem dX12_counted_128 : decode cX12_counted 128 = .ok (.getfield 54, 3) := by decide +kernel
theorem dX12_counted_131 : decode cX12_counted 131 = .ok (.iload_n 3, 1) := by decide +kernel
theorem dX12_counted_132 : decode cX12_counted 132 = .ok (.baload, 1) := by decide +kernel
theorem dX12_counted_133 : decode cX12_counted 133 = .ok (.ifCond .eq 7, 3) := by decide +kernel
theorem dX12_counted_136 : decode cX12_counted 136 = .ok (.iconst 1, 1) := by decide +kernel
theorem dX12_counted_137 : decode cX12_counted 137 = .ok (.goto 4, 3) := by decide +kernel
theorem dX12_counted_140 : decode cX12_counted 140 = .ok (.iconst 0, 1) := by decide +kernel
theorem dX12_counted_141 : decode cX12_counted 141 = .ok (.iadd, 1) := by decide +kernel
theorem dX12_counted_142 : decode cX12_counted 142 = .ok (.istore_n 2, 1) := by decide +kernel
theorem dX12_counted_143 : decode cX12_counted 143 = .ok (.iinc 3 1, 3) := by decide +kernel
theorem dX12_counted_146 : decode cX12_counted 146 = .ok (.goto (-31), 3) := by decide +kernel
theorem dX12_counted_149 : decode cX12_counted 149 = .ok (.iload_n 1, 1) := by decide +kernel
theorem dX12_counted_150 : decode cX12_counted 150 = .ok (.tableswitch 83 0 6 #[42, 47, 52, 59, 66, 71, 78], 42) := by decide +kernel
theorem dX12_counted_192 : decode cX12_counted 192 = .ok (.aload_n 0, 1) := by decide +kernel
theorem dX12_counted_193 : decode cX12_counted 193 = .ok (.getfield 168, 3) := by decide +kernel
theorem dX12_counted_196 : decode cX12_counted 196 = .ok (.ireturn, 1) := by decide +kernel
theorem dX12_counted_197 : decode cX12_counted 197 = .ok (.aload_n 0, 1) := by decide +kernel
theorem dX12_counted_198 : decode cX12_counted 198 = .ok (.getfield 171, 3) := by decide +kernel
theorem dX12_counted_201 : decode cX12_counted 201 = .ok (.ireturn, 1) := by decide +kernel
theorem dX12_counted_202 : decode cX12_counted 202 = .ok (.aload_n 0, 1) := by decide +kernel
theorem dX12_counted_203 : decode cX12_counted 203 = .ok (.getfield 45, 3) := by decide +kernel
theorem dX12_counted_206 : decode cX12_counted 206 = .ok (.iconst 0, 1) := by decide +kernel
theorem dX12_counted_207 : decode cX12_counted 207 = .ok (.iaload, 1) := by decide +kernel
theorem dX12_counted_208 : decode cX12_counted 208 = .ok (.ireturn, 1) := by decide +kernel
theorem dX12_counted_209 : decode cX12_counted 209 = .ok (.aload_n 0, 1) := by decide +kernel
theorem dX12_counted_210 : decode cX12_counted 210 = .ok (.getfield 45, 3) := by decide +kernel
theorem dX12_counted_213 : decode cX12_counted 213 = .ok (.iconst 1, 1) := by decide +kernel
theorem dX12_counted_214 : decode cX12_counted 214 = .ok (.iaload, 1) := by decide +kernel
theorem dX12_counted_215 : decode cX12_counted 215 = .ok (.ireturn, 1) := by decide +kernel
theorem dX12_counted_216 : decode cX12_counted 216 = .ok (.aload_n 0, 1) := by decide +kernel
theorem dX12_counted_217 : decode cX12_counted 217 = .ok (.getfield 180, 3) := by decide +kernel
theorem dX12_counted_220 : decode cX12_counted 220 = .ok (.ireturn, 1) := by decide +kernel
theorem dX12_counted_221 : decode cX12_counted 221 = .ok (.aload_n 0, 1) := by decide +kernel
theorem dX12_counted_222 : decode cX12_counted 222 = .ok (.getfield 45, 3) := by decide +kernel
theorem dX12_counted_225 : decode cX12_counted 225 = .ok (.iconst 2, 1) := by decide +kernel
theorem dX12_counted_226 : decode cX12_counted 226 = .ok (.iaload, 1) := by decide +kernel
theorem dX12_counted_227 : decode cX12_counted 227 = .ok (.ireturn, 1) := by decide +kernel
theorem dX12_counted_228 : decode cX12_counted 228 = .ok (.aload_n 0, 1) := by decide +kernel
theorem dX12_counted_229 : decode cX12_counted 229 = .ok (.getfield 174, 3) := by decide +kernel
theorem dX12_counted_232 : decode cX12_counted 232 = .ok (.ireturn, 1) := by decide +kernel
theorem dX12_counted_233 : decode cX12_counted 233 = .ok (.iload_n 2, 1) := by decide +kernel
theorem dX12_counted_234 : decode cX12_counted 234 = .ok (.ireturn, 1) := by decide +kernel
theorem dX12_count_0 : decode cX12_count 0 = .ok (.iload_n 1, 1) := by decide +kernel
theorem dX12_count_1 : decode cX12_count 1 = .ok (.iconst 0, 1) := by decide +kernel
theorem dX12_count_2 : decode cX12_count 2 = .ok (.bipush 10, 2) := by decide +kernel
theorem dX12_count_4 : decode cX12_count 4 = .ok (.invokestatic 96, 3) := by decide +kernel
theorem dX12_count_7 : decode cX12_count 7 = .ok (.ifCond .eq 11, 3) := by decide +kernel
theorem dX12_count_10 : decode cX12_count 10 = .ok (.aload_n 0, 1) := by decide +kernel
theorem dX12_count_11 : decode cX12_count 11 = .ok (.iload_n 1, 1) := by decide +kernel
theorem dX12_count_12 : decode cX12_count 12 = .ok (.invokevirtual 302, 3) := by decide +kernel
theorem dX12_count_15 : decode cX12_count 15 = .ok (.goto 4, 3) := by decide +kernel
theorem dX12_count_18 : decode cX12_count 18 = .ok (.iconst (-1), 1) := by decide +kernel
theorem dX12_count_19 : decode cX12_count 19 = .ok (.ireturn, 1) := by decide +kernel
theorem dX12_mix_0 : decode cX12_mix 0 = .ok (.aload_n 0, 1) := by decide +kernel
theorem dX12_mix_1 : decode cX12_mix 1 = .ok (.ldc2_w 305, 3) := by decide +kernel
theorem dX12_mix_4 : decode cX12_mix 4 = .ok (.aload_n 0, 1) := by decide +kernel
theorem dX12_mix_5 : decode cX12_mix 5 = .ok (.getfield 307, 3) := by decide +kernel
theorem dX12_mix_8 : decode cX12_mix 8 = .ok (.lmul, 1) := by decide +kernel
theorem dX12_mix_9 : decode cX12_mix 9 = .ok (.lload_n 1, 1) := by decide +kernel
theorem dX12_mix_10 : decode cX12_mix 10 = .ok (.ladd, 1) := by decide +kernel
theorem dX12_mix_11 : decode cX12_mix 11 = .ok (.putfield 307, 3) := by decide +kernel
theorem dX12_mix_14 : decode cX12_mix 14 = .ok (.return_, 1) := by decide +kernel
theorem dX12_mixHall_0 : decode cX12_mixHall 0 = .ok (.aload_n 0, 1) := by decide +kernel
theorem dX12_mixHall_1 : decode cX12_mixHall 1 = .ok (.aload_n 0, 1) := by decide +kernel
theorem dX12_mixHall_2 : decode cX12_mixHall 2 = .ok (.getfield 45, 3) := by decide +kernel
theorem dX12_mixHall_5 : decode cX12_mixHall 5 = .ok (.iconst 3, 1) := by decide +kernel
theorem dX12_mixHall_6 : decode cX12_mixHall 6 = .ok (.iaload, 1) := by decide +kernel
theorem dX12_mixHall_7 : decode cX12_mixHall 7 = .ok (.i2l, 1) := by decide +kernel
theorem dX12_mixHall_8 : decode cX12_mixHall 8 = .ok (.invokevirtual 310, 3) := by decide +kernel
theorem dX12_mixHall_11 : decode cX12_mixHall 11 = .ok (.iconst 0, 1) := by decide +kernel
theorem dX12_mixHall_12 : decode cX12_mixHall 12 = .ok (.istore_n 1, 1) := by decide +kernel
theorem dX12_mixHall_13 : decode cX12_mixHall 13 = .ok (.iload_n 1, 1) := by decide +kernel
theorem dX12_mixHall_14 : decode cX12_mixHall 14 = .ok (.aload_n 0, 1) := by decide +kernel
theorem dX12_mixHall_15 : decode cX12_mixHall 15 = .ok (.getfield 168, 3) := by decide +kernel
theorem dX12_mixHall_18 : decode cX12_mixHall 18 = .ok (.if_icmp .ge 33, 3) := by decide +kernel
theorem dX12_mixHall_21 : decode cX12_mixHall 21 = .ok (.iconst 0, 1) := by decide +kernel
theorem dX12_mixHall_22 : decode cX12_mixHall 22 = .ok (.istore_n 2, 1) := by decide +kernel
theorem dX12_mixHall_23 : decode cX12_mixHall 23 = .ok (.iload_n 2, 1) := by decide +kernel
theorem dX12_mixHall_24 : decode cX12_mixHall 24 = .ok (.iconst 5, 1) := by decide +kernel
theorem dX12_mixHall_25 : decode cX12_mixHall 25 = .ok (.if_icmp .ge 20, 3) := by decide +kernel
theorem dX12_mixHall_28 : decode cX12_mixHall 28 = .ok (.aload_n 0, 1) := by decide +kernel
theorem dX12_mixHall_29 : decode cX12_mixHall 29 = .ok (.aload_n 0, 1) := by decide +kernel
theorem dX12_mixHall_30 : decode cX12_mixHall 30 = .ok (.iload_n 1, 1) := by decide +kernel
theorem dX12_mixHall_31 : decode cX12_mixHall 31 = .ok (.iload_n 2, 1) := by decide +kernel
theorem dX12_mixHall_32 : decode cX12_mixHall 32 = .ok (.invokevirtual 192, 3) := by decide +kernel
theorem dX12_mixHall_35 : decode cX12_mixHall 35 = .ok (.i2l, 1) := by decide +kernel
theorem dX12_mixHall_36 : decode cX12_mixHall 36 = .ok (.invokevirtual 310, 3) := by decide +kernel
theorem dX12_mixHall_39 : decode cX12_mixHall 39 = .ok (.iinc 2 1, 3) := by decide +kernel
theorem dX12_mixHall_42 : decode cX12_mixHall 42 = .ok (.goto (-19), 3) := by decide +kernel
theorem dX12_mixHall_45 : decode cX12_mixHall 45 = .ok (.iinc 1 1, 3) := by decide +kernel
theorem dX12_mixHall_48 : decode cX12_mixHall 48 = .ok (.goto (-35), 3) := by decide +kernel
theorem dX12_mixHall_51 : decode cX12_mixHall 51 = .ok (.iconst 0, 1) := by decide +kernel
theorem dX12_mixHall_52 : decode cX12_mixHall 52 = .ok (.istore_n 1, 1) := by decide +kernel
theorem dX12_mixHall_53 : decode cX12_mixHall 53 = .ok (.iload_n 1, 1) := by decide +kernel
theorem dX12_mixHall_54 : decode cX12_mixHall 54 = .ok (.iconst 3, 1) := by decide +kernel
theorem dX12_mixHall_55 : decode cX12_mixHall 55 = .ok (.if_icmp .ge 35, 3) := by decide +kernel
theorem dX12_mixHall_58 : decode cX12_mixHall 58 = .ok (.aload_n 0, 1) := by decide +kernel
theorem dX12_mixHall_59 : decode cX12_mixHall 59 = .ok (.aload_n 0, 1) := by decide +kernel
theorem dX12_mixHall_60 : decode cX12_mixHall 60 = .ok (.getfield 54, 3) := by decide +kernel
theorem dX12_mixHall_63 : decode cX12_mixHall 63 = .ok (.iload_n 1, 1) := by decide +kernel
theorem dX12_mixHall_64 : decode cX12_mixHall 64 = .ok (.baload, 1) := by decide +kernel
theorem dX12_mixHall_65 : decode cX12_mixHall 65 = .ok (.ifCond .eq 13, 3) := by decide +kernel
theorem dX12_mixHall_68 : decode cX12_mixHall 68 = .ok (.aload_n 0, 1) := by decide +kernel
theorem dX12_mixHall_69 : decode cX12_mixHall 69 = .ok (.getfield 58, 3) := by decide +kernel
theorem dX12_mixHall_72 : decode cX12_mixHall 72 = .ok (.iload_n 1, 1) := by decide +kernel
theorem dX12_mixHall_73 : decode cX12_mixHall 73 = .ok (.iaload, 1) := by decide +kernel
theorem dX12_mixHall_74 : decode cX12_mixHall 74 = .ok (.i2l, 1) := by decide +kernel
theorem dX12_mixHall_75 : decode cX12_mixHall 75 = .ok (.goto 6, 3) := by decide +kernel
theorem dX12_mixHall_78 : decode cX12_mixHall 78 = .ok (.ldc2_w 314, 3) := by decide +kernel
theorem dX12_mixHall_81 : decode cX12_mixHall 81 = .ok (.invokevirtual 310, 3) := by decide +kernel
theorem dX12_mixHall_84 : decode cX12_mixHall 84 = .ok (.iinc 1 1, 3) := by decide +kernel
theorem dX12_mixHall_87 : decode cX12_mixHall 87 = .ok (.goto (-34), 3) := by decide +kernel
theorem dX12_mixHall_90 : decode cX12_mixHall 90 = .ok (.return_, 1) := by decide +kernel
theorem dX12_digest_0 : decode cX12_digest 0 = .ok (.aload_n 0, 1) := by decide +kernel
theorem dX12_digest_1 : decode cX12_digest 1 = .ok (.ldc2_w 316, 3) := by decide +kernel
theorem dX12_digest_4 : decode cX12_digest 4 = .ok (.putfield 307, 3) := by decide +kernel
theorem dX12_digest_7 : decode cX12_digest 7 = .ok (.iconst 0, 1) := by decide +kernel
theorem dX12_digest_8 : decode cX12_digest 8 = .ok (.istore_n 1, 1) := by decide +kernel
theorem dX12_digest_9 : decode cX12_digest 9 = .ok (.iload_n 1, 1) := by decide +kernel
theorem dX12_digest_10 : decode cX12_digest 10 = .ok (.bipush 11, 2) := by decide +kernel
theorem dX12_digest_12 : decode cX12_digest 12 = .ok (.if_icmp .ge 19, 3) := by decide +kernel
theorem dX12_digest_15 : decode cX12_digest 15 = .ok (.aload_n 0, 1) := by decide +kernel
theorem dX12_digest_16 : decode cX12_digest 16 = .ok (.aload_n 0, 1) := by decide +kernel
theorem dX12_digest_17 : decode cX12_digest 17 = .ok (.iload_n 1, 1) := by decide +kernel
theorem dX12_digest_18 : decode cX12_digest 18 = .ok (.invokevirtual 302, 3) := by decide +kernel
theorem dX12_digest_21 : decode cX12_digest 21 = .ok (.i2l, 1) := by decide +kernel
theorem dX12_digest_22 : decode cX12_digest 22 = .ok (.invokevirtual 310, 3) := by decide +kernel
theorem dX12_digest_25 : decode cX12_digest 25 = .ok (.iinc 1 1, 3) := by decide +kernel
theorem dX12_digest_28 : decode cX12_digest 28 = .ok (.goto (-19), 3) := by decide +kernel
theorem dX12_digest_31 : decode cX12_digest 31 = .ok (.aload_n 0, 1) := by decide +kernel
theorem dX12_digest_32 : decode cX12_digest 32 = .ok (.invokevirtual 318, 3) := by decide +kernel
theorem dX12_digest_35 : decode cX12_digest 35 = .ok (.iconst 0, 1) := by decide +kernel
theorem dX12_digest_36 : decode cX12_digest 36 = .ok (.istore_n 1, 1) := by decide +kernel
theorem dX12_digest_37 : decode cX12_digest 37 = .ok (.iload_n 1, 1) := by decide +kernel
theorem dX12_digest_38 : decode cX12_digest 38 = .ok (.bipush 6, 2) := by decide +kernel
theorem dX12_digest_40 : decode cX12_digest 40 = .ok (.if_icmp .ge 49, 3) := by decide +kernel
theorem dX12_digest_43 : decode cX12_digest 43 = .ok (.aload_n 0, 1) := by decide +kernel
theorem dX12_digest_44 : decode cX12_digest 44 = .ok (.aload_n 0, 1) := by decide +kernel
theorem dX12_digest_45 : decode cX12_digest 45 = .ok (.getfield 17, 3) := by decide +kernel
theorem dX12_digest_48 : decode cX12_digest 48 = .ok (.iload_n 1, 1) := by decide +kernel
theorem dX12_digest_49 : decode cX12_digest 49 = .ok (.iaload, 1) := by decide +kernel
theorem dX12_digest_50 : decode cX12_digest 50 = .ok (.i2l, 1) := by decide +kernel
theorem dX12_digest_51 : decode cX12_digest 51 = .ok (.invokevirtual 310, 3) := by decide +kernel
theorem dX12_digest_54 : decode cX12_digest 54 = .ok (.iconst 0, 1) := by decide +kernel
theorem dX12_digest_55 : decode cX12_digest 55 = .ok (.istore_n 2, 1) := by decide +kernel
theorem dX12_digest_56 : decode cX12_digest 56 = .ok (.iload_n 2, 1) := by decide +kernel
theorem dX12_digest_57 : decode cX12_digest 57 = .ok (.aload_n 0, 1) := by decide +kernel
theorem dX12_digest_58 : decode cX12_digest 58 = .ok (.getfield 17, 3) := by decide +kernel
theorem dX12_digest_61 : decode cX12_digest 61 = .ok (.iload_n 1, 1) := by decide +kernel
theorem dX12_digest_62 : decode cX12_digest 62 = .ok (.iaload, 1) := by decide +kernel
theorem dX12_digest_63 : decode cX12_digest 63 = .ok (.if_icmp .ge 20, 3) := by decide +kernel
theorem dX12_digest_66 : decode cX12_digest 66 = .ok (.aload_n 0, 1) := by decide +kernel
theorem dX12_digest_67 : decode cX12_digest 67 = .ok (.aload_n 0, 1) := by decide +kernel
theorem dX12_digest_68 : decode cX12_digest 68 = .ok (.iload_n 1, 1) := by decide +kernel
theorem dX12_digest_69 : decode cX12_digest 69 = .ok (.iload_n 2, 1) := by decide +kernel
theorem dX12_digest_70 : decode cX12_digest 70 = .ok (.invokevirtual 114, 3) := by decide +kernel
theorem dX12_digest_73 : decode cX12_digest 73 = .ok (.i2l, 1) := by decide +kernel
theorem dX12_digest_74 : decode cX12_digest 74 = .ok (.invokevirtual 310, 3) := by decide +kernel
theorem dX12_digest_77 : decode cX12_digest 77 = .ok (.iinc 2 1, 3) := by decide +kernel
theorem dX12_digest_80 : decode cX12_digest 80 = .ok (.goto (-24), 3) := by decide +kernel
theorem dX12_digest_83 : decode cX12_digest 83 = .ok (.iinc 1 1, 3) := by decide +kernel
theorem dX12_digest_86 : decode cX12_digest 86 = .ok (.goto (-49), 3) := by decide +kernel
theorem dX12_digest_89 : decode cX12_digest 89 = .ok (.iconst 0, 1) := by decide +kernel
theorem dX12_digest_90 : decode cX12_digest 90 = .ok (.istore_n 1, 1) := by decide +kernel
theorem dX12_digest_91 : decode cX12_digest 91 = .ok (.iload_n 1, 1) := by decide +kernel
theorem dX12_digest_92 : decode cX12_digest 92 = .ok (.iconst 4, 1) := by decide +kernel
theorem dX12_digest_93 : decode cX12_digest 93 = .ok (.if_icmp .ge 49, 3) := by decide +kernel
theorem dX12_digest_96 : decode cX12_digest 96 = .ok (.aload_n 0, 1) := by decide +kernel
theorem dX12_digest_97 : decode cX12_digest 97 = .ok (.aload_n 0, 1) := by decide +kernel
theorem dX12_digest_98 : decode cX12_digest 98 = .ok (.getfield 26, 3) := by decide +kernel
theorem dX12_digest_101 : decode cX12_digest 101 = .ok (.iload_n 1, 1) := by decide +kernel
theorem dX12_digest_102 : decode cX12_digest 102 = .ok (.iaload, 1) := by decide +kernel
theorem dX12_digest_103 : decode cX12_digest 103 = .ok (.i2l, 1) := by decide +kernel
theorem dX12_digest_104 : decode cX12_digest 104 = .ok (.invokevirtual 310, 3) := by decide +kernel
theorem dX12_digest_107 : decode cX12_digest 107 = .ok (.iconst 0, 1) := by decide +kernel
theorem dX12_digest_108 : decode cX12_digest 108 = .ok (.istore_n 2, 1) := by decide +kernel
theorem dX12_digest_109 : decode cX12_digest 109 = .ok (.iload_n 2, 1) := by decide +kernel
theorem dX12_digest_110 : decode cX12_digest 110 = .ok (.aload_n 0, 1) := by decide +kernel
theorem dX12_digest_111 : decode cX12_digest 111 = .ok (.getfield 26, 3) := by decide +kernel
theorem dX12_digest_114 : decode cX12_digest 114 = .ok (.iload_n 1, 1) := by decide +kernel
theorem dX12_digest_115 : decode cX12_digest 115 = .ok (.iaload, 1) := by decide +kernel
theorem dX12_digest_116 : decode cX12_digest 116 = .ok (.if_icmp .ge 20, 3) := by decide +kernel
theorem dX12_digest_119 : decode cX12_digest 119 = .ok (.aload_n 0, 1) := by decide +kernel
theorem dX12_digest_120 : decode cX12_digest 120 = .ok (.aload_n 0, 1) := by decide +kernel
theorem dX12_digest_121 : decode cX12_digest 121 = .ok (.iload_n 1, 1) := by decide +kernel
theorem dX12_digest_122 : decode cX12_digest 122 = .ok (.iload_n 2, 1) := by decide +kernel
theorem dX12_digest_123 : decode cX12_digest 123 = .ok (.invokevirtual 124, 3) := by decide +kernel
theorem dX12_digest_126 : decode cX12_digest 126 = .ok (.i2l, 1) := by decide +kernel
theorem dX12_digest_127 : decode cX12_digest 127 = .ok (.invokevirtual 310, 3) := by decide +kernel
theorem dX12_digest_130 : decode cX12_digest 130 = .ok (.iinc 2 1, 3) := by decide +kernel
theorem dX12_digest_133 : decode cX12_digest 133 = .ok (.goto (-24), 3) := by decide +kernel
theorem dX12_digest_136 : decode cX12_digest 136 = .ok (.iinc 1 1, 3) := by decide +kernel
theorem dX12_digest_139 : decode cX12_digest 139 = .ok (.goto (-48), 3) := by decide +kernel
theorem dX12_digest_142 : decode cX12_digest 142 = .ok (.aload_n 0, 1) := by decide +kernel
theorem dX12_digest_143 : decode cX12_digest 143 = .ok (.getfield 307, 3) := by decide +kernel
theorem dX12_digest_146 : decode cX12_digest 146 = .ok (.lreturn, 1) := by decide +kernel
