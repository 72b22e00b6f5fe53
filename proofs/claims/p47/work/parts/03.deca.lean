theorem dX0_init_0 : decode cX0_init 0 = .ok (.aload_n 0, 1) := by decide +kernel
theorem dX0_init_1 : decode cX0_init 1 = .ok (.iload_n 1, 1) := by decide +kernel
theorem dX0_init_2 : decode cX0_init 2 = .ok (.invokespecial 3, 3) := by decide +kernel
theorem dX0_init_5 : decode cX0_init 5 = .ok (.return_, 1) := by decide +kernel
theorem dX0_kind_0 : decode cX0_kind 0 = .ok (.iconst 3, 1) := by decide +kernel
theorem dX0_kind_1 : decode cX0_kind 1 = .ok (.ireturn, 1) := by decide +kernel
theorem dX0_bareTread_0 : decode cX0_bareTread 0 = .ok (.iconst 0, 1) := by decide +kernel
theorem dX0_bareTread_1 : decode cX0_bareTread 1 = .ok (.ireturn, 1) := by decide +kernel
theorem dX1_init_0 : decode cX1_init 0 = .ok (.aload_n 0, 1) := by decide +kernel
theorem dX1_init_1 : decode cX1_init 1 = .ok (.iload_n 1, 1) := by decide +kernel
theorem dX1_init_2 : decode cX1_init 2 = .ok (.invokespecial 3, 3) := by decide +kernel
theorem dX1_init_5 : decode cX1_init 5 = .ok (.return_, 1) := by decide +kernel
theorem dX1_kind_0 : decode cX1_kind 0 = .ok (.iconst 2, 1) := by decide +kernel
theorem dX1_kind_1 : decode cX1_kind 1 = .ok (.ireturn, 1) := by decide +kernel
theorem dX1_bareTread_0 : decode cX1_bareTread 0 = .ok (.aload_n 0, 1) := by decide +kernel
theorem dX1_bareTread_1 : decode cX1_bareTread 1 = .ok (.getfield 9, 3) := by decide +kernel
theorem dX1_bareTread_4 : decode cX1_bareTread 4 = .ok (.iconst 1, 1) := by decide +kernel
theorem dX1_bareTread_5 : decode cX1_bareTread 5 = .ok (.isub, 1) := by decide +kernel
theorem dX1_bareTread_6 : decode cX1_bareTread 6 = .ok (.ireturn, 1) := by decide +kernel
theorem dX2_init_0 : decode cX2_init 0 = .ok (.aload_n 0, 1) := by decide +kernel
theorem dX2_init_1 : decode cX2_init 1 = .ok (.invokespecial 3, 3) := by decide +kernel
theorem dX2_init_4 : decode cX2_init 4 = .ok (.aload_n 0, 1) := by decide +kernel
theorem dX2_init_5 : decode cX2_init 5 = .ok (.iconst 0, 1) := by decide +kernel
theorem dX2_init_6 : decode cX2_init 6 = .ok (.putfield 9, 3) := by decide +kernel
theorem dX2_init_9 : decode cX2_init 9 = .ok (.aload_n 0, 1) := by decide +kernel
theorem dX2_init_10 : decode cX2_init 10 = .ok (.iload_n 1, 1) := by decide +kernel
theorem dX2_init_11 : decode cX2_init 11 = .ok (.putfield 15, 3) := by decide +kernel
theorem dX2_init_14 : decode cX2_init 14 = .ok (.return_, 1) := by decide +kernel
theorem dX2_kind_0 : decode cX2_kind 0 = .ok (.iconst 0, 1) := by decide +kernel
theorem dX2_kind_1 : decode cX2_kind 1 = .ok (.ireturn, 1) := by decide +kernel
theorem dX2_bareTread_0 : decode cX2_bareTread 0 = .ok (.aload_n 0, 1) := by decide +kernel
theorem dX2_bareTread_1 : decode cX2_bareTread 1 = .ok (.getfield 15, 3) := by decide +kernel
theorem dX2_bareTread_4 : decode cX2_bareTread 4 = .ok (.ireturn, 1) := by decide +kernel
theorem dX2_treadOn_0 : decode cX2_treadOn 0 = .ok (.iload_n 1, 1) := by decide +kernel
theorem dX2_treadOn_1 : decode cX2_treadOn 1 = .ok (.iconst 2, 1) := by decide +kernel
theorem dX2_treadOn_2 : decode cX2_treadOn 2 = .ok (.if_icmp .ne 5, 3) := by decide +kernel
theorem dX2_treadOn_5 : decode cX2_treadOn 5 = .ok (.iconst 0, 1) := by decide +kernel
theorem dX2_treadOn_6 : decode cX2_treadOn 6 = .ok (.ireturn, 1) := by decide +kernel
theorem dX2_treadOn_7 : decode cX2_treadOn 7 = .ok (.iload_n 1, 1) := by decide +kernel
theorem dX2_treadOn_8 : decode cX2_treadOn 8 = .ok (.iconst 1, 1) := by decide +kernel
theorem dX2_treadOn_9 : decode cX2_treadOn 9 = .ok (.if_icmp .ne 12, 3) := by decide +kernel
theorem dX2_treadOn_12 : decode cX2_treadOn 12 = .ok (.aload_n 0, 1) := by decide +kernel
theorem dX2_treadOn_13 : decode cX2_treadOn 13 = .ok (.invokevirtual 18, 3) := by decide +kernel
theorem dX2_treadOn_16 : decode cX2_treadOn 16 = .ok (.iconst 2, 1) := by decide +kernel
theorem dX2_treadOn_17 : decode cX2_treadOn 17 = .ok (.idiv, 1) := by decide +kernel
theorem dX2_treadOn_18 : decode cX2_treadOn 18 = .ok (.goto 7, 3) := by decide +kernel
theorem dX2_treadOn_21 : decode cX2_treadOn 21 = .ok (.aload_n 0, 1) := by decide +kernel
theorem dX2_treadOn_22 : decode cX2_treadOn 22 = .ok (.invokevirtual 18, 3) := by decide +kernel
theorem dX2_treadOn_25 : decode cX2_treadOn 25 = .ok (.ireturn, 1) := by decide +kernel
theorem dX3_init_0 : decode cX3_init 0 = .ok (.aload_n 0, 1) := by decide +kernel
theorem dX3_init_1 : decode cX3_init 1 = .ok (.invokespecial 3, 3) := by decide +kernel
theorem dX3_init_4 : decode cX3_init 4 = .ok (.aload_n 0, 1) := by decide +kernel
theorem dX3_init_5 : decode cX3_init 5 = .ok (.bipush 6, 2) := by decide +kernel
theorem dX3_init_7 : decode cX3_init 7 = .ok (.anewarray 9, 3) := by decide +kernel
theorem dX3_init_10 : decode cX3_init 10 = .ok (.putfield 11, 3) := by decide +kernel
theorem dX3_init_13 : decode cX3_init 13 = .ok (.aload_n 0, 1) := by decide +kernel
theorem dX3_init_14 : decode cX3_init 14 = .ok (.new 17, 3) := by decide +kernel
theorem dX3_init_17 : decode cX3_init 17 = .ok (.dup, 1) := by decide +kernel
theorem dX3_init_18 : decode cX3_init 18 = .ok (.bipush 60, 2) := by decide +kernel
theorem dX3_init_20 : decode cX3_init 20 = .ok (.invokespecial 19, 3) := by decide +kernel
theorem dX3_init_23 : decode cX3_init 23 = .ok (.putfield 22, 3) := by decide +kernel
theorem dX3_init_26 : decode cX3_init 26 = .ok (.aload_n 0, 1) := by decide +kernel
theorem dX3_init_27 : decode cX3_init 27 = .ok (.iconst 0, 1) := by decide +kernel
theorem dX3_init_28 : decode cX3_init 28 = .ok (.putfield 26, 3) := by decide +kernel
theorem dX3_init_31 : decode cX3_init 31 = .ok (.aload_n 0, 1) := by decide +kernel
theorem dX3_init_32 : decode cX3_init 32 = .ok (.iconst 0, 1) := by decide +kernel
theorem dX3_init_33 : decode cX3_init 33 = .ok (.putfield 30, 3) := by decide +kernel
theorem dX3_init_36 : decode cX3_init 36 = .ok (.aload_n 0, 1) := by decide +kernel
theorem dX3_init_37 : decode cX3_init 37 = .ok (.iconst 0, 1) := by decide +kernel
theorem dX3_init_38 : decode cX3_init 38 = .ok (.putfield 33, 3) := by decide +kernel
theorem dX3_init_41 : decode cX3_init 41 = .ok (.aload_n 0, 1) := by decide +kernel
theorem dX3_init_42 : decode cX3_init 42 = .ok (.iconst 0, 1) := by decide +kernel
theorem dX3_init_43 : decode cX3_init 43 = .ok (.putfield 36, 3) := by decide +kernel
theorem dX3_init_46 : decode cX3_init 46 = .ok (.aload_n 0, 1) := by decide +kernel
theorem dX3_init_47 : decode cX3_init 47 = .ok (.iconst 0, 1) := by decide +kernel
theorem dX3_init_48 : decode cX3_init 48 = .ok (.putfield 39, 3) := by decide +kernel
theorem dX3_init_51 : decode cX3_init 51 = .ok (.aload_n 0, 1) := by decide +kernel
theorem dX3_init_52 : decode cX3_init 52 = .ok (.iconst 0, 1) := by decide +kernel
theorem dX3_init_53 : decode cX3_init 53 = .ok (.putfield 42, 3) := by decide +kernel
theorem dX3_init_56 : decode cX3_init 56 = .ok (.aload_n 0, 1) := by decide +kernel
theorem dX3_init_57 : decode cX3_init 57 = .ok (.iconst 0, 1) := by decide +kernel
theorem dX3_init_58 : decode cX3_init 58 = .ok (.putfield 45, 3) := by decide +kernel
theorem dX3_init_61 : decode cX3_init 61 = .ok (.aload_n 0, 1) := by decide +kernel
theorem dX3_init_62 : decode cX3_init 62 = .ok (.iconst 0, 1) := by decide +kernel
theorem dX3_init_63 : decode cX3_init 63 = .ok (.putfield 48, 3) := by decide +kernel
theorem dX3_init_66 : decode cX3_init 66 = .ok (.aload_n 0, 1) := by decide +kernel
theorem dX3_init_67 : decode cX3_init 67 = .ok (.iconst 0, 1) := by decide +kernel
theorem dX3_init_68 : decode cX3_init 68 = .ok (.putfield 51, 3) := by decide +kernel
theorem dX3_init_71 : decode cX3_init 71 = .ok (.aload_n 0, 1) := by decide +kernel
theorem dX3_init_72 : decode cX3_init 72 = .ok (.lconst 0, 1) := by decide +kernel
theorem dX3_init_73 : decode cX3_init 73 = .ok (.putfield 54, 3) := by decide +kernel
theorem dX3_init_76 : decode cX3_init 76 = .ok (.iconst 0, 1) := by decide +kernel
theorem dX3_init_77 : decode cX3_init 77 = .ok (.istore_n 1, 1) := by decide +kernel
theorem dX3_init_78 : decode cX3_init 78 = .ok (.iload_n 1, 1) := by decide +kernel
theorem dX3_init_79 : decode cX3_init 79 = .ok (.bipush 6, 2) := by decide +kernel
theorem dX3_init_81 : decode cX3_init 81 = .ok (.if_icmp .ge 23, 3) := by decide +kernel
theorem dX3_init_84 : decode cX3_init 84 = .ok (.aload_n 0, 1) := by decide +kernel
theorem dX3_init_85 : decode cX3_init 85 = .ok (.getfield 11, 3) := by decide +kernel
theorem dX3_init_88 : decode cX3_init 88 = .ok (.iload_n 1, 1) := by decide +kernel
theorem dX3_init_89 : decode cX3_init 89 = .ok (.new 9, 3) := by decide +kernel
theorem dX3_init_92 : decode cX3_init 92 = .ok (.dup, 1) := by decide +kernel
theorem dX3_init_93 : decode cX3_init 93 = .ok (.iconst 1, 1) := by decide +kernel
theorem dX3_init_94 : decode cX3_init 94 = .ok (.invokespecial 58, 3) := by decide +kernel
theorem dX3_init_97 : decode cX3_init 97 = .ok (.aastore, 1) := by decide +kernel
theorem dX3_init_98 : decode cX3_init 98 = .ok (.iinc 1 1, 3) := by decide +kernel
theorem dX3_init_101 : decode cX3_init 101 = .ok (.goto (-23), 3) := by decide +kernel
theorem dX3_init_104 : decode cX3_init 104 = .ok (.aload_n 0, 1) := by decide +kernel
theorem dX3_init_105 : decode cX3_init 105 = .ok (.getfield 22, 3) := by decide +kernel
theorem dX3_init_108 : decode cX3_init 108 = .ok (.iconst 0, 1) := by decide +kernel
theorem dX3_init_109 : decode cX3_init 109 = .ok (.iconst 0, 1) := by decide +kernel
theorem dX3_init_110 : decode cX3_init 110 = .ok (.invokevirtual 59, 3) := by decide +kernel
theorem dX3_init_113 : decode cX3_init 113 = .ok (.return_, 1) := by decide +kernel
theorem dX3_build_0 : decode cX3_build 0 = .ok (.aload_n 0, 1) := by decide +kernel
theorem dX3_build_1 : decode cX3_build 1 = .ok (.aload_n 1, 1) := by decide +kernel
theorem dX3_build_2 : decode cX3_build 2 = .ok (.getfield 63, 3) := by decide +kernel
theorem dX3_build_5 : decode cX3_build 5 = .ok (.putfield 26, 3) := by decide +kernel
theorem dX3_build_8 : decode cX3_build 8 = .ok (.aload_n 0, 1) := by decide +kernel
theorem dX3_build_9 : decode cX3_build 9 = .ok (.aload_n 1, 1) := by decide +kernel
theorem dX3_build_10 : decode cX3_build 10 = .ok (.getfield 66, 3) := by decide +kernel
theorem dX3_build_13 : decode cX3_build 13 = .ok (.putfield 30, 3) := by decide +kernel
theorem dX3_build_16 : decode cX3_build 16 = .ok (.aload_n 0, 1) := by decide +kernel
theorem dX3_build_17 : decode cX3_build 17 = .ok (.aload_n 1, 1) := by decide +kernel
theorem dX3_build_18 : decode cX3_build 18 = .ok (.getfield 67, 3) := by decide +kernel
theorem dX3_build_21 : decode cX3_build 21 = .ok (.putfield 54, 3) := by decide +kernel
theorem dX3_build_24 : decode cX3_build 24 = .ok (.aload_n 0, 1) := by decide +kernel
theorem dX3_build_25 : decode cX3_build 25 = .ok (.aload_n 1, 1) := by decide +kernel
theorem dX3_build_26 : decode cX3_build 26 = .ok (.getfield 68, 3) := by decide +kernel
theorem dX3_build_29 : decode cX3_build 29 = .ok (.putfield 33, 3) := by decide +kernel
theorem dX3_build_32 : decode cX3_build 32 = .ok (.iconst 0, 1) := by decide +kernel
theorem dX3_build_33 : decode cX3_build 33 = .ok (.istore_n 2, 1) := by decide +kernel
theorem dX3_build_34 : decode cX3_build 34 = .ok (.iload_n 2, 1) := by decide +kernel
theorem dX3_build_35 : decode cX3_build 35 = .ok (.aload_n 0, 1) := by decide +kernel
theorem dX3_build_36 : decode cX3_build 36 = .ok (.getfield 26, 3) := by decide +kernel
theorem dX3_build_39 : decode cX3_build 39 = .ok (.if_icmp .ge 30, 3) := by decide +kernel
theorem dX3_build_42 : decode cX3_build 42 = .ok (.aload_n 0, 1) := by decide +kernel
theorem dX3_build_43 : decode cX3_build 43 = .ok (.getfield 11, 3) := by decide +kernel
theorem dX3_build_46 : decode cX3_build 46 = .ok (.iload_n 2, 1) := by decide +kernel
theorem dX3_build_47 : decode cX3_build 47 = .ok (.aload_n 1, 1) := by decide +kernel
theorem dX3_build_48 : decode cX3_build 48 = .ok (.getfield 69, 3) := by decide +kernel
theorem dX3_build_51 : decode cX3_build 51 = .ok (.iload_n 2, 1) := by decide +kernel
theorem dX3_build_52 : decode cX3_build 52 = .ok (.iaload, 1) := by decide +kernel
theorem dX3_build_53 : decode cX3_build 53 = .ok (.aload_n 1, 1) := by decide +kernel
theorem dX3_build_54 : decode cX3_build 54 = .ok (.getfield 73, 3) := by decide +kernel
theorem dX3_build_57 : decode cX3_build 57 = .ok (.iload_n 2, 1) := by decide +kernel
theorem dX3_build_58 : decode cX3_build 58 = .ok (.iaload, 1) := by decide +kernel
theorem dX3_build_59 : decode cX3_build 59 = .ok (.invokestatic 76, 3) := by decide +kernel
theorem dX3_build_62 : decode cX3_build 62 = .ok (.aastore, 1) := by decide +kernel
theorem dX3_build_63 : decode cX3_build 63 = .ok (.iinc 2 1, 3) := by decide +kernel
theorem dX3_build_66 : decode cX3_build 66 = .ok (.goto (-32), 3) := by decide +kernel
theorem dX3_build_69 : decode cX3_build 69 = .ok (.aload_n 0, 1) := by decide +kernel
theorem dX3_build_70 : decode cX3_build 70 = .ok (.getfield 22, 3) := by decide +kernel
theorem dX3_build_73 : decode cX3_build 73 = .ok (.iconst 0, 1) := by decide +kernel
theorem dX3_build_74 : decode cX3_build 74 = .ok (.iconst 0, 1) := by decide +kernel
theorem dX3_build_75 : decode cX3_build 75 = .ok (.invokevirtual 59, 3) := by decide +kernel
theorem dX3_build_78 : decode cX3_build 78 = .ok (.return_, 1) := by decide +kernel
theorem dX3_newGuild_0 : decode cX3_newGuild 0 = .ok (.iload_n 0, 1) := by decide +kernel
theorem dX3_newGuild_1 : decode cX3_newGuild 1 = .ok (.tableswitch 80 1 5 #[35, 44, 53, 62, 71], 35) := by decide +kernel
theorem dX3_newGuild_36 : decode cX3_newGuild 36 = .ok (.new 80, 3) := by decide +kernel
theorem dX3_newGuild_39 : decode cX3_newGuild 39 = .ok (.dup, 1) := by decide +kernel
theorem dX3_newGuild_40 : decode cX3_newGuild 40 = .ok (.iload_n 1, 1) := by decide +kernel
theorem dX3_newGuild_41 : decode cX3_newGuild 41 = .ok (.invokespecial 82, 3) := by decide +kernel
theorem dX3_newGuild_44 : decode cX3_newGuild 44 = .ok (.areturn, 1) := by decide +kernel
theorem dX3_newGuild_45 : decode cX3_newGuild 45 = .ok (.new 83, 3) := by decide +kernel
theorem dX3_newGuild_48 : decode cX3_newGuild 48 = .ok (.dup, 1) := by decide +kernel
theorem dX3_newGuild_49 : decode cX3_newGuild 49 = .ok (.iload_n 1, 1) := by decide +kernel
theorem dX3_newGuild_50 : decode cX3_newGuild 50 = .ok (.invokespecial 85, 3) := by decide +kernel
theorem dX3_newGuild_53 : decode cX3_newGuild 53 = .ok (.areturn, 1) := by decide +kernel
theorem dX3_newGuild_54 : decode cX3_newGuild 54 = .ok (.new 86, 3) := by decide +kernel
theorem dX3_newGuild_57 : decode cX3_newGuild 57 = .ok (.dup, 1) := by decide +kernel
theorem dX3_newGuild_58 : decode cX3_newGuild 58 = .ok (.iload_n 1, 1) := by decide +kernel
theorem dX3_newGuild_59 : decode cX3_newGuild 59 = .ok (.invokespecial 88, 3) := by decide +kernel
theorem dX3_newGuild_62 : decode cX3_newGuild 62 = .ok (.areturn, 1) := by decide +kernel
theorem dX3_newGuild_63 : decode cX3_newGuild 63 = .ok (.new 89, 3) := by decide +kernel
theorem dX3_newGuild_66 : decode cX3_newGuild 66 = .ok (.dup, 1) := by decide +kernel
theorem dX3_newGuild_67 : decode cX3_newGuild 67 = .ok (.iload_n 1, 1) := by decide +kernel
theorem dX3_newGuild_68 : decode cX3_newGuild 68 = .ok (.invokespecial 91, 3) := by decide +kernel
theorem dX3_newGuild_71 : decode cX3_newGuild 71 = .ok (.areturn, 1) := by decide +kernel
theorem dX3_newGuild_72 : decode cX3_newGuild 72 = .ok (.new 92, 3) := by decide +kernel
theorem dX3_newGuild_75 : decode cX3_newGuild 75 = .ok (.dup, 1) := by decide +kernel
theorem dX3_newGuild_76 : decode cX3_newGuild 76 = .ok (.iload_n 1, 1) := by decide +kernel
theorem dX3_newGuild_77 : decode cX3_newGuild 77 = .ok (.invokespecial 94, 3) := by decide +kernel
theorem dX3_newGuild_80 : decode cX3_newGuild 80 = .ok (.areturn, 1) := by decide +kernel
theorem dX3_newGuild_81 : decode cX3_newGuild 81 = .ok (.new 9, 3) := by decide +kernel
theorem dX3_newGuild_84 : decode cX3_newGuild 84 = .ok (.dup, 1) := by decide +kernel
theorem dX3_newGuild_85 : decode cX3_newGuild 85 = .ok (.iload_n 1, 1) := by decide +kernel
theorem dX3_newGuild_86 : decode cX3_newGuild 86 = .ok (.invokespecial 58, 3) := by decide +kernel
theorem dX3_newGuild_89 : decode cX3_newGuild 89 = .ok (.areturn, 1) := by decide +kernel
theorem dX3_isEmpty_0 : decode cX3_isEmpty 0 = .ok (.aload_n 0, 1) := by decide +kernel
theorem dX3_isEmpty_1 : decode cX3_isEmpty 1 = .ok (.getfield 26, 3) := by decide +kernel
theorem dX3_isEmpty_4 : decode cX3_isEmpty 4 = .ok (.ifCond .ne 7, 3) := by decide +kernel
theorem dX3_isEmpty_7 : decode cX3_isEmpty 7 = .ok (.iconst 1, 1) := by decide +kernel
theorem dX3_isEmpty_8 : decode cX3_isEmpty 8 = .ok (.goto 4, 3) := by decide +kernel
theorem dX3_isEmpty_11 : decode cX3_isEmpty 11 = .ok (.iconst 0, 1) := by decide +kernel
theorem dX3_isEmpty_12 : decode cX3_isEmpty 12 = .ok (.ireturn, 1) := by decide +kernel
theorem dX3_hasGuild_0 : decode cX3_hasGuild 0 = .ok (.iload_n 1, 1) := by decide +kernel
theorem dX3_hasGuild_1 : decode cX3_hasGuild 1 = .ok (.ifCond .lt 15, 3) := by decide +kernel
theorem dX3_hasGuild_4 : decode cX3_hasGuild 4 = .ok (.iload_n 1, 1) := by decide +kernel
theorem dX3_hasGuild_5 : decode cX3_hasGuild 5 = .ok (.aload_n 0, 1) := by decide +kernel
theorem dX3_hasGuild_6 : decode cX3_hasGuild 6 = .ok (.getfield 26, 3) := by decide +kernel
theorem dX3_hasGuild_9 : decode cX3_hasGuild 9 = .ok (.if_icmp .ge 7, 3) := by decide +kernel
theorem dX3_hasGuild_12 : decode cX3_hasGuild 12 = .ok (.iconst 1, 1) := by decide +kernel
theorem dX3_hasGuild_13 : decode cX3_hasGuild 13 = .ok (.goto 4, 3) := by decide +kernel
theorem dX3_hasGuild_16 : decode cX3_hasGuild 16 = .ok (.iconst 0, 1) := by decide +kernel
theorem dX3_hasGuild_17 : decode cX3_hasGuild 17 = .ok (.ireturn, 1) := by decide +kernel
theorem dX3_hasTooth_0 : decode cX3_hasTooth 0 = .ok (.iload_n 1, 1) := by decide +kernel
theorem dX3_hasTooth_1 : decode cX3_hasTooth 1 = .ok (.ifCond .lt 15, 3) := by decide +kernel
theorem dX3_hasTooth_4 : decode cX3_hasTooth 4 = .ok (.iload_n 1, 1) := by decide +kernel
theorem dX3_hasTooth_5 : decode cX3_hasTooth 5 = .ok (.aload_n 0, 1) := by decide +kernel
theorem dX3_hasTooth_6 : decode cX3_hasTooth 6 = .ok (.getfield 30, 3) := by decide +kernel
theorem dX3_hasTooth_9 : decode cX3_hasTooth 9 = .ok (.if_icmp .ge 7, 3) := by decide +kernel
theorem dX3_hasTooth_12 : decode cX3_hasTooth 12 = .ok (.iconst 1, 1) := by decide +kernel
theorem dX3_hasTooth_13 : decode cX3_hasTooth 13 = .ok (.goto 4, 3) := by decide +kernel
theorem dX3_hasTooth_16 : decode cX3_hasTooth 16 = .ok (.iconst 0, 1) := by decide +kernel
theorem dX3_hasTooth_17 : decode cX3_hasTooth 17 = .ok (.ireturn, 1) := by decide +kernel
theorem dX3_hasRentAt_0 : decode cX3_hasRentAt 0 = .ok (.aload_n 0, 1) := by decide +kernel
theorem dX3_hasRentAt_1 : decode cX3_hasRentAt 1 = .ok (.iload_n 1, 1) := by decide +kernel
theorem dX3_hasRentAt_2 : decode cX3_hasRentAt 2 = .ok (.invokevirtual 95, 3) := by decide +kernel
theorem dX3_hasRentAt_5 : decode cX3_hasRentAt 5 = .ok (.ifCond .eq 20, 3) := by decide +kernel
theorem dX3_hasRentAt_8 : decode cX3_hasRentAt 8 = .ok (.aload_n 0, 1) := by decide +kernel
theorem dX3_hasRentAt_9 : decode cX3_hasRentAt 9 = .ok (.getfield 54, 3) := by decide +kernel
theorem dX3_hasRentAt_12 : decode cX3_hasRentAt 12 = .ok (.iload_n 1, 1) := by decide +kernel
theorem dX3_hasRentAt_13 : decode cX3_hasRentAt 13 = .ok (.lushr, 1) := by decide +kernel
theorem dX3_hasRentAt_14 : decode cX3_hasRentAt 14 = .ok (.lconst 1, 1) := by decide +kernel
theorem dX3_hasRentAt_15 : decode cX3_hasRentAt 15 = .ok (.land, 1) := by decide +kernel
theorem dX3_hasRentAt_16 : decode cX3_hasRentAt 16 = .ok (.lconst 0, 1) := by decide +kernel
theorem dX3_hasRentAt_17 : decode cX3_hasRentAt 17 = .ok (.lcmp, 1) := by decide +kernel
theorem dX3_hasRentAt_18 : decode cX3_hasRentAt 18 = .ok (.ifCond .eq 7, 3) := by decide +kernel
theorem dX3_hasRentAt_21 : decode cX3_hasRentAt 21 = .ok (.iconst 1, 1) := by decide +kernel
theorem dX3_hasRentAt_22 : decode cX3_hasRentAt 22 = .ok (.goto 4, 3) := by decide +kernel
theorem dX3_hasRentAt_25 : decode cX3_hasRentAt 25 = .ok (.iconst 0, 1) := by decide +kernel
theorem dX3_hasRentAt_26 : decode cX3_hasRentAt 26 = .ok (.ireturn, 1) := by decide +kernel
theorem dX3_hasRoomFor_0 : decode cX3_hasRoomFor 0 = .ok (.aload_n 0, 1) := by decide +kernel
theorem dX3_hasRoomFor_1 : decode cX3_hasRoomFor 1 = .ok (.getfield 22, 3) := by decide +kernel
theorem dX3_hasRoomFor_4 : decode cX3_hasRoomFor 4 = .ok (.getfield 99, 3) := by decide +kernel
theorem dX3_hasRoomFor_7 : decode cX3_hasRoomFor 7 = .ok (.iload_n 1, 1) := by decide +kernel
theorem dX3_hasRoomFor_8 : decode cX3_hasRoomFor 8 = .ok (.iadd, 1) := by decide +kernel
theorem dX3_hasRoomFor_9 : decode cX3_hasRoomFor 9 = .ok (.bipush 60, 2) := by decide +kernel
theorem dX3_hasRoomFor_11 : decode cX3_hasRoomFor 11 = .ok (.if_icmp .gt 7, 3) := by decide +kernel
theorem dX3_hasRoomFor_14 : decode cX3_hasRoomFor 14 = .ok (.iconst 1, 1) := by decide +kernel
theorem dX3_hasRoomFor_15 : decode cX3_hasRoomFor 15 = .ok (.goto 4, 3) := by decide +kernel
theorem dX3_hasRoomFor_18 : decode cX3_hasRoomFor 18 = .ok (.iconst 0, 1) := by decide +kernel
theorem dX3_hasRoomFor_19 : decode cX3_hasRoomFor 19 = .ok (.ireturn, 1) := by decide +kernel
theorem dX3_treadNow_0 : decode cX3_treadNow 0 = .ok (.aload_n 0, 1) := by decide +kernel
theorem dX3_treadNow_1 : decode cX3_treadNow 1 = .ok (.iload_n 1, 1) := by decide +kernel
theorem dX3_treadNow_2 : decode cX3_treadNow 2 = .ok (.invokevirtual 102, 3) := by decide +kernel
theorem dX3_treadNow_5 : decode cX3_treadNow 5 = .ok (.ifCond .eq 19, 3) := by decide +kernel
theorem dX3_treadNow_8 : decode cX3_treadNow 8 = .ok (.aload_n 0, 1) := by decide +kernel
theorem dX3_treadNow_9 : decode cX3_treadNow 9 = .ok (.getfield 11, 3) := by decide +kernel
theorem dX3_treadNow_12 : decode cX3_treadNow 12 = .ok (.iload_n 1, 1) := by decide +kernel
theorem dX3_treadNow_13 : decode cX3_treadNow 13 = .ok (.aaload, 1) := by decide +kernel
theorem dX3_treadNow_14 : decode cX3_treadNow 14 = .ok (.aload_n 0, 1) := by decide +kernel
theorem dX3_treadNow_15 : decode cX3_treadNow 15 = .ok (.getfield 42, 3) := by decide +kernel
theorem dX3_treadNow_18 : decode cX3_treadNow 18 = .ok (.invokevirtual 105, 3) := by decide +kernel
theorem dX3_treadNow_21 : decode cX3_treadNow 21 = .ok (.goto 4, 3) := by decide +kernel
theorem dX3_treadNow_24 : decode cX3_treadNow 24 = .ok (.iconst 0, 1) := by decide +kernel
theorem dX3_treadNow_25 : decode cX3_treadNow 25 = .ok (.ireturn, 1) := by decide +kernel
theorem dX3_wrap_0 : decode cX3_wrap 0 = .ok (.iload_n 1, 1) := by decide +kernel
theorem dX3_wrap_1 : decode cX3_wrap 1 = .ok (.aload_n 0, 1) := by decide +kernel
theorem dX3_wrap_2 : decode cX3_wrap 2 = .ok (.getfield 30, 3) := by decide +kernel
theorem dX3_wrap_5 : decode cX3_wrap 5 = .ok (.invokestatic 109, 3) := by decide +kernel
theorem dX3_wrap_8 : decode cX3_wrap 8 = .ok (.ireturn, 1) := by decide +kernel
theorem dX3_wayTo_0 : decode cX3_wayTo 0 = .ok (.aload_n 0, 1) := by decide +kernel
theorem dX3_wayTo_1 : decode cX3_wayTo 1 = .ok (.iload_n 1, 1) := by decide +kernel
theorem dX3_wayTo_2 : decode cX3_wayTo 2 = .ok (.aload_n 0, 1) := by decide +kernel
theorem dX3_wayTo_3 : decode cX3_wayTo 3 = .ok (.getfield 36, 3) := by decide +kernel
theorem dX3_wayTo_6 : decode cX3_wayTo 6 = .ok (.isub, 1) := by decide +kernel
theorem dX3_wayTo_7 : decode cX3_wayTo 7 = .ok (.invokevirtual 113, 3) := by decide +kernel
theorem dX3_wayTo_10 : decode cX3_wayTo 10 = .ok (.ireturn, 1) := by decide +kernel
theorem dX3_byTeeth_0 : decode cX3_byTeeth 0 = .ok (.aload_n 0, 1) := by decide +kernel
theorem dX3_byTeeth_1 : decode cX3_byTeeth 1 = .ok (.getfield 30, 3) := by decide +kernel
theorem dX3_byTeeth_4 : decode cX3_byTeeth 4 = .ok (.iconst 1, 1) := by decide +kernel
theorem dX3_byTeeth_5 : decode cX3_byTeeth 5 = .ok (.if_icmp .ge 7, 3) := by decide +kernel
theorem dX3_byTeeth_8 : decode cX3_byTeeth 8 = .ok (.iconst 0, 1) := by decide +kernel
theorem dX3_byTeeth_9 : decode cX3_byTeeth 9 = .ok (.goto 9, 3) := by decide +kernel
theorem dX3_byTeeth_12 : decode cX3_byTeeth 12 = .ok (.iload_n 1, 1) := by decide +kernel
theorem dX3_byTeeth_13 : decode cX3_byTeeth 13 = .ok (.aload_n 0, 1) := by decide +kernel
theorem dX3_byTeeth_14 : decode cX3_byTeeth 14 = .ok (.getfield 30, 3) := by decide +kernel
theorem dX3_byTeeth_17 : decode cX3_byTeeth 17 = .ok (.idiv, 1) := by decide +kernel
theorem dX3_byTeeth_18 : decode cX3_byTeeth 18 = .ok (.ireturn, 1) := by decide +kernel
theorem dX3_addStep_0 : decode cX3_addStep 0 = .ok (.aload_n 0, 1) := by decide +kernel
theorem dX3_addStep_1 : decode cX3_addStep 1 = .ok (.getfield 22, 3) := by decide +kernel
theorem dX3_addStep_4 : decode cX3_addStep 4 = .ok (.iload_n 1, 1) := by decide +kernel
theorem dX3_addStep_5 : decode cX3_addStep 5 = .ok (.invokevirtual 116, 3) := by decide +kernel
theorem dX3_addStep_8 : decode cX3_addStep 8 = .ok (.ifCond .eq 8, 3) := by decide +kernel
theorem dX3_addStep_11 : decode cX3_addStep 11 = .ok (.aload_n 0, 1) := by decide +kernel
theorem dX3_addStep_12 : decode cX3_addStep 12 = .ok (.iload_n 1, 1) := by decide +kernel
theorem dX3_addStep_13 : decode cX3_addStep 13 = .ok (.invokevirtual 119, 3) := by decide +kernel
theorem dX3_addStep_16 : decode cX3_addStep 16 = .ok (.return_, 1) := by decide +kernel
theorem dX3_replay_0 : decode cX3_replay 0 = .ok (.aload_n 0, 1) := by decide +kernel
theorem dX3_replay_1 : decode cX3_replay 1 = .ok (.iconst 0, 1) := by decide +kernel
theorem dX3_replay_2 : decode cX3_replay 2 = .ok (.putfield 36, 3) := by decide +kernel
theorem dX3_replay_5 : decode cX3_replay 5 = .ok (.aload_n 0, 1) := by decide +kernel
theorem dX3_replay_6 : decode cX3_replay 6 = .ok (.iconst 0, 1) := by decide +kernel
theorem dX3_replay_7 : decode cX3_replay 7 = .ok (.putfield 39, 3) := by decide +kernel
theorem dX3_replay_10 : decode cX3_replay 10 = .ok (.aload_n 0, 1) := by decide +kernel
theorem dX3_replay_11 : decode cX3_replay 11 = .ok (.iconst 0, 1) := by decide +kernel
theorem dX3_replay_12 : decode cX3_replay 12 = .ok (.putfield 42, 3) := by decide +kernel
theorem dX3_replay_15 : decode cX3_replay 15 = .ok (.aload_n 0, 1) := by decide +kernel
theorem dX3_replay_16 : decode cX3_replay 16 = .ok (.iconst 0, 1) := by decide +kernel
theorem dX3_replay_17 : decode cX3_replay 17 = .ok (.putfield 45, 3) := by decide +kernel
theorem dX3_replay_20 : decode cX3_replay 20 = .ok (.aload_n 0, 1) := by decide +kernel
theorem dX3_replay_21 : decode cX3_replay 21 = .ok (.iconst 0, 1) := by decide +kernel
theorem dX3_replay_22 : decode cX3_replay 22 = .ok (.putfield 48, 3) := by decide +kernel
theorem dX3_replay_25 : decode cX3_replay 25 = .ok (.aload_n 0, 1) := by decide +kernel
theorem dX3_replay_26 : decode cX3_replay 26 = .ok (.iconst 0, 1) := by decide +kernel
theorem dX3_replay_27 : decode cX3_replay 27 = .ok (.putfield 51, 3) := by decide +kernel
theorem dX3_replay_30 : decode cX3_replay 30 = .ok (.iconst 0, 1) := by decide +kernel
theorem dX3_replay_31 : decode cX3_replay 31 = .ok (.istore_n 1, 1) := by decide +kernel
theorem dX3_replay_32 : decode cX3_replay 32 = .ok (.iload_n 1, 1) := by decide +kernel
theorem dX3_replay_33 : decode cX3_replay 33 = .ok (.aload_n 0, 1) := by decide +kernel
theorem dX3_replay_34 : decode cX3_replay 34 = .ok (.getfield 26, 3) := by decide +kernel
theorem dX3_replay_37 : decode cX3_replay 37 = .ok (.if_icmp .ge 19, 3) := by decide +kernel
theorem dX3_replay_40 : decode cX3_replay 40 = .ok (.aload_n 0, 1) := by decide +kernel
theorem dX3_replay_41 : decode cX3_replay 41 = .ok (.getfield 11, 3) := by decide +kernel
theorem dX3_replay_44 : decode cX3_replay 44 = .ok (.iload_n 1, 1) := by decide +kernel
theorem dX3_replay_45 : decode cX3_replay 45 = .ok (.aaload, 1) := by decide +kernel
theorem dX3_replay_46 : decode cX3_replay 46 = .ok (.iconst 0, 1) := by decide +kernel
theorem dX3_replay_47 : decode cX3_replay 47 = .ok (.putfield 122, 3) := by decide +kernel
theorem dX3_replay_50 : decode cX3_replay 50 = .ok (.iinc 1 1, 3) := by decide +kernel
theorem dX3_replay_53 : decode cX3_replay 53 = .ok (.goto (-21), 3) := by decide +kernel
theorem dX3_replay_56 : decode cX3_replay 56 = .ok (.iconst 0, 1) := by decide +kernel
theorem dX3_replay_57 : decode cX3_replay 57 = .ok (.istore_n 1, 1) := by decide +kernel
theorem dX3_replay_58 : decode cX3_replay 58 = .ok (.iload_n 1, 1) := by decide +kernel
theorem dX3_replay_59 : decode cX3_replay 59 = .ok (.aload_n 0, 1) := by decide +kernel
theorem dX3_replay_60 : decode cX3_replay 60 = .ok (.getfield 22, 3) := by decide +kernel
theorem dX3_replay_63 : decode cX3_replay 63 = .ok (.getfield 99, 3) := by decide +kernel
theorem dX3_replay_66 : decode cX3_replay 66 = .ok (.if_icmp .ge 22, 3) := by decide +kernel
theorem dX3_replay_69 : decode cX3_replay 69 = .ok (.aload_n 0, 1) := by decide +kernel
theorem dX3_replay_70 : decode cX3_replay 70 = .ok (.aload_n 0, 1) := by decide +kernel
theorem dX3_replay_71 : decode cX3_replay 71 = .ok (.getfield 22, 3) := by decide +kernel
theorem dX3_replay_74 : decode cX3_replay 74 = .ok (.getfield 125, 3) := by decide +kernel
theorem dX3_replay_77 : decode cX3_replay 77 = .ok (.iload_n 1, 1) := by decide +kernel
theorem dX3_replay_78 : decode cX3_replay 78 = .ok (.iaload, 1) := by decide +kernel
theorem dX3_replay_79 : decode cX3_replay 79 = .ok (.invokevirtual 119, 3) := by decide +kernel
theorem dX3_replay_82 : decode cX3_replay 82 = .ok (.iinc 1 1, 3) := by decide +kernel
theorem dX3_replay_85 : decode cX3_replay 85 = .ok (.goto (-27), 3) := by decide +kernel
theorem dX3_replay_88 : decode cX3_replay 88 = .ok (.return_, 1) := by decide +kernel
theorem dX3_takeStep_0 : decode cX3_takeStep 0 = .ok (.iload_n 1, 1) := by decide +kernel
theorem dX3_takeStep_1 : decode cX3_takeStep 1 = .ok (.bipush 6, 2) := by decide +kernel
theorem dX3_takeStep_3 : decode cX3_takeStep 3 = .ok (.if_icmp .lt 14, 3) := by decide +kernel
theorem dX3_takeStep_6 : decode cX3_takeStep 6 = .ok (.aload_n 0, 1) := by decide +kernel
theorem dX3_takeStep_7 : decode cX3_takeStep 7 = .ok (.iload_n 1, 1) := by decide +kernel
theorem dX3_takeStep_8 : decode cX3_takeStep 8 = .ok (.bipush 6, 2) := by decide +kernel
theorem dX3_takeStep_10 : decode cX3_takeStep 10 = .ok (.isub, 1) := by decide +kernel
theorem dX3_takeStep_11 : decode cX3_takeStep 11 = .ok (.putfield 42, 3) := by decide +kernel
theorem dX3_takeStep_14 : decode cX3_takeStep 14 = .ok (.goto 16, 3) := by decide +kernel
theorem dX3_takeStep_17 : decode cX3_takeStep 17 = .ok (.aload_n 0, 1) := by decide +kernel
theorem dX3_takeStep_18 : decode cX3_takeStep 18 = .ok (.iload_n 1, 1) := by decide +kernel
theorem dX3_takeStep_19 : decode cX3_takeStep 19 = .ok (.invokevirtual 102, 3) := by decide +kernel
theorem dX3_takeStep_22 : decode cX3_takeStep 22 = .ok (.ifCond .eq 8, 3) := by decide +kernel
theorem dX3_takeStep_25 : decode cX3_takeStep 25 = .ok (.aload_n 0, 1) := by decide +kernel
theorem dX3_takeStep_26 : decode cX3_takeStep 26 = .ok (.iload_n 1, 1) := by decide +kernel
theorem dX3_takeStep_27 : decode cX3_takeStep 27 = .ok (.invokevirtual 128, 3) := by decide +kernel
theorem dX3_takeStep_30 : decode cX3_takeStep 30 = .ok (.return_, 1) := by decide +kernel
theorem dX3_takeWalk_0 : decode cX3_takeWalk 0 = .ok (.aload_n 0, 1) := by decide +kernel
theorem dX3_takeWalk_1 : decode cX3_takeWalk 1 = .ok (.getfield 11, 3) := by decide +kernel
theorem dX3_takeWalk_4 : decode cX3_takeWalk 4 = .ok (.iload_n 1, 1) := by decide +kernel
theorem dX3_takeWalk_5 : decode cX3_takeWalk 5 = .ok (.aaload, 1) := by decide +kernel
theorem dX3_takeWalk_6 : decode cX3_takeWalk 6 = .ok (.aload_n 0, 1) := by decide +kernel
theorem dX3_takeWalk_7 : decode cX3_takeWalk 7 = .ok (.getfield 42, 3) := by decide +kernel
theorem dX3_takeWalk_10 : decode cX3_takeWalk 10 = .ok (.invokevirtual 105, 3) := by decide +kernel
theorem dX3_takeWalk_13 : decode cX3_takeWalk 13 = .ok (.istore_n 2, 1) := by decide +kernel
theorem dX3_takeWalk_14 : decode cX3_takeWalk 14 = .ok (.aload_n 0, 1) := by decide +kernel
theorem dX3_takeWalk_15 : decode cX3_takeWalk 15 = .ok (.getfield 36, 3) := by decide +kernel
theorem dX3_takeWalk_18 : decode cX3_takeWalk 18 = .ok (.iload_n 2, 1) := by decide +kernel
theorem dX3_takeWalk_19 : decode cX3_takeWalk 19 = .ok (.iadd, 1) := by decide +kernel
theorem dX3_takeWalk_20 : decode cX3_takeWalk 20 = .ok (.istore_n 3, 1) := by decide +kernel
theorem dX3_takeWalk_21 : decode cX3_takeWalk 21 = .ok (.aload_n 0, 1) := by decide +kernel
theorem dX3_takeWalk_22 : decode cX3_takeWalk 22 = .ok (.dup, 1) := by decide +kernel
theorem dX3_takeWalk_23 : decode cX3_takeWalk 23 = .ok (.getfield 39, 3) := by decide +kernel
theorem dX3_takeWalk_26 : decode cX3_takeWalk 26 = .ok (.aload_n 0, 1) := by decide +kernel
theorem dX3_takeWalk_27 : decode cX3_takeWalk 27 = .ok (.iload_n 3, 1) := by decide +kernel
theorem dX3_takeWalk_28 : decode cX3_takeWalk 28 = .ok (.invokevirtual 131, 3) := by decide +kernel
theorem dX3_takeWalk_31 : decode cX3_takeWalk 31 = .ok (.iadd, 1) := by decide +kernel
theorem dX3_takeWalk_32 : decode cX3_takeWalk 32 = .ok (.putfield 39, 3) := by decide +kernel
theorem dX3_takeWalk_35 : decode cX3_takeWalk 35 = .ok (.aload_n 0, 1) := by decide +kernel
theorem dX3_takeWalk_36 : decode cX3_takeWalk 36 = .ok (.aload_n 0, 1) := by decide +kernel
theorem dX3_takeWalk_37 : decode cX3_takeWalk 37 = .ok (.iload_n 3, 1) := by decide +kernel
theorem dX3_takeWalk_38 : decode cX3_takeWalk 38 = .ok (.invokevirtual 113, 3) := by decide +kernel
theorem dX3_takeWalk_41 : decode cX3_takeWalk 41 = .ok (.putfield 36, 3) := by decide +kernel
theorem dX3_takeWalk_44 : decode cX3_takeWalk 44 = .ok (.aload_n 0, 1) := by decide +kernel
theorem dX3_takeWalk_45 : decode cX3_takeWalk 45 = .ok (.dup, 1) := by decide +kernel
theorem dX3_takeWalk_46 : decode cX3_takeWalk 46 = .ok (.getfield 45, 3) := by decide +kernel
theorem dX3_takeWalk_49 : decode cX3_takeWalk 49 = .ok (.aload_n 0, 1) := by decide +kernel
theorem dX3_takeWalk_50 : decode cX3_takeWalk 50 = .ok (.aload_n 0, 1) := by decide +kernel
theorem dX3_takeWalk_51 : decode cX3_takeWalk 51 = .ok (.getfield 36, 3) := by decide +kernel
theorem dX3_takeWalk_54 : decode cX3_takeWalk 54 = .ok (.invokevirtual 134, 3) := by decide +kernel
theorem dX3_takeWalk_57 : decode cX3_takeWalk 57 = .ok (.ifCond .eq 7, 3) := by decide +kernel
theorem dX3_takeWalk_60 : decode cX3_takeWalk 60 = .ok (.iconst 1, 1) := by decide +kernel
theorem dX3_takeWalk_61 : decode cX3_takeWalk 61 = .ok (.goto 4, 3) := by decide +kernel
theorem dX3_takeWalk_64 : decode cX3_takeWalk 64 = .ok (.iconst 0, 1) := by decide +kernel
theorem dX3_takeWalk_65 : decode cX3_takeWalk 65 = .ok (.iadd, 1) := by decide +kernel
theorem dX3_takeWalk_66 : decode cX3_takeWalk 66 = .ok (.putfield 45, 3) := by decide +kernel
theorem dX3_takeWalk_69 : decode cX3_takeWalk 69 = .ok (.aload_n 0, 1) := by decide +kernel
theorem dX3_takeWalk_70 : decode cX3_takeWalk 70 = .ok (.dup, 1) := by decide +kernel
theorem dX3_takeWalk_71 : decode cX3_takeWalk 71 = .ok (.getfield 48, 3) := by decide +kernel
theorem dX3_takeWalk_74 : decode cX3_takeWalk 74 = .ok (.iconst 1, 1) := by decide +kernel
theorem dX3_takeWalk_75 : decode cX3_takeWalk 75 = .ok (.iadd, 1) := by decide +kernel
theorem dX3_takeWalk_76 : decode cX3_takeWalk 76 = .ok (.putfield 48, 3) := by decide +kernel
theorem dX3_takeWalk_79 : decode cX3_takeWalk 79 = .ok (.aload_n 0, 1) := by decide +kernel
theorem dX3_takeWalk_80 : decode cX3_takeWalk 80 = .ok (.dup, 1) := by decide +kernel
theorem dX3_takeWalk_81 : decode cX3_takeWalk 81 = .ok (.getfield 51, 3) := by decide +kernel
theorem dX3_takeWalk_84 : decode cX3_takeWalk 84 = .ok (.iload_n 2, 1) := by decide +kernel
theorem dX3_takeWalk_85 : decode cX3_takeWalk 85 = .ok (.iadd, 1) := by decide +kernel
theorem dX3_takeWalk_86 : decode cX3_takeWalk 86 = .ok (.putfield 51, 3) := by decide +kernel
theorem dX3_takeWalk_89 : decode cX3_takeWalk 89 = .ok (.aload_n 0, 1) := by decide +kernel
theorem dX3_takeWalk_90 : decode cX3_takeWalk 90 = .ok (.getfield 11, 3) := by decide +kernel
theorem dX3_takeWalk_93 : decode cX3_takeWalk 93 = .ok (.iload_n 1, 1) := by decide +kernel
theorem dX3_takeWalk_94 : decode cX3_takeWalk 94 = .ok (.aaload, 1) := by decide +kernel
theorem dX3_takeWalk_95 : decode cX3_takeWalk 95 = .ok (.dup, 1) := by decide +kernel
theorem dX3_takeWalk_96 : decode cX3_takeWalk 96 = .ok (.getfield 122, 3) := by decide +kernel
theorem dX3_takeWalk_99 : decode cX3_takeWalk 99 = .ok (.iconst 1, 1) := by decide +kernel
theorem dX3_takeWalk_100 : decode cX3_takeWalk 100 = .ok (.iadd, 1) := by decide +kernel
theorem dX3_takeWalk_101 : decode cX3_takeWalk 101 = .ok (.putfield 122, 3) := by decide +kernel
theorem dX3_takeWalk_104 : decode cX3_takeWalk 104 = .ok (.return_, 1) := by decide +kernel
theorem dX3_tellFeet_0 : decode cX3_tellFeet 0 = .ok (.iconst 0, 1) := by decide +kernel
theorem dX3_tellFeet_1 : decode cX3_tellFeet 1 = .ok (.istore_n 2, 1) := by decide +kernel
theorem dX3_tellFeet_2 : decode cX3_tellFeet 2 = .ok (.iload_n 2, 1) := by decide +kernel
theorem dX3_tellFeet_3 : decode cX3_tellFeet 3 = .ok (.aload_n 0, 1) := by decide +kernel
theorem dX3_tellFeet_4 : decode cX3_tellFeet 4 = .ok (.getfield 26, 3) := by decide +kernel
theorem dX3_tellFeet_7 : decode cX3_tellFeet 7 = .ok (.if_icmp .ge 27, 3) := by decide +kernel
theorem dX3_tellFeet_10 : decode cX3_tellFeet 10 = .ok (.iload_n 2, 1) := by decide +kernel
theorem dX3_tellFeet_11 : decode cX3_tellFeet 11 = .ok (.aload_n 1, 1) := by decide +kernel
theorem dX3_tellFeet_12 : decode cX3_tellFeet 12 = .ok (.arraylength, 1) := by decide +kernel
theorem dX3_tellFeet_13 : decode cX3_tellFeet 13 = .ok (.if_icmp .ge 21, 3) := by decide +kernel
theorem dX3_tellFeet_16 : decode cX3_tellFeet 16 = .ok (.aload_n 1, 1) := by decide +kernel
theorem dX3_tellFeet_17 : decode cX3_tellFeet 17 = .ok (.iload_n 2, 1) := by decide +kernel
theorem dX3_tellFeet_18 : decode cX3_tellFeet 18 = .ok (.aload_n 0, 1) := by decide +kernel
theorem dX3_tellFeet_19 : decode cX3_tellFeet 19 = .ok (.getfield 11, 3) := by decide +kernel
theorem dX3_tellFeet_22 : decode cX3_tellFeet 22 = .ok (.iload_n 2, 1) := by decide +kernel
theorem dX3_tellFeet_23 : decode cX3_tellFeet 23 = .ok (.aaload, 1) := by decide +kernel
theorem dX3_tellFeet_24 : decode cX3_tellFeet 24 = .ok (.getfield 137, 3) := by decide +kernel
theorem dX3_tellFeet_27 : decode cX3_tellFeet 27 = .ok (.iastore, 1) := by decide +kernel
theorem dX3_tellFeet_28 : decode cX3_tellFeet 28 = .ok (.iinc 2 1, 3) := by decide +kernel
theorem dX3_tellFeet_31 : decode cX3_tellFeet 31 = .ok (.goto (-29), 3) := by decide +kernel
theorem dX3_tellFeet_34 : decode cX3_tellFeet 34 = .ok (.return_, 1) := by decide +kernel
theorem dX3_detail_0 : decode cX3_detail 0 = .ok (.aload_n 0, 1) := by decide +kernel
theorem dX3_detail_1 : decode cX3_detail 1 = .ok (.iload_n 1, 1) := by decide +kernel
theorem dX3_detail_2 : decode cX3_detail 2 = .ok (.invokevirtual 102, 3) := by decide +kernel
theorem dX3_detail_5 : decode cX3_detail 5 = .ok (.ifCond .ne 5, 3) := by decide +kernel
theorem dX3_detail_8 : decode cX3_detail 8 = .ok (.iconst 0, 1) := by decide +kernel
theorem dX3_detail_9 : decode cX3_detail 9 = .ok (.ireturn, 1) := by decide +kernel
theorem dX3_detail_10 : decode cX3_detail 10 = .ok (.iload_n 2, 1) := by decide +kernel
theorem dX3_detail_11 : decode cX3_detail 11 = .ok (.tableswitch 65 0 3 #[29, 39, 49, 55], 29) := by decide +kernel
theorem dX3_detail_40 : decode cX3_detail 40 = .ok (.aload_n 0, 1) := by decide +kernel
theorem dX3_detail_41 : decode cX3_detail 41 = .ok (.getfield 11, 3) := by decide +kernel
theorem dX3_detail_44 : decode cX3_detail 44 = .ok (.iload_n 1, 1) := by decide +kernel
theorem dX3_detail_45 : decode cX3_detail 45 = .ok (.aaload, 1) := by decide +kernel
theorem dX3_detail_46 : decode cX3_detail 46 = .ok (.invokevirtual 139, 3) := by decide +kernel
theorem dX3_detail_49 : decode cX3_detail 49 = .ok (.ireturn, 1) := by decide +kernel
theorem dX3_detail_50 : decode cX3_detail 50 = .ok (.aload_n 0, 1) := by decide +kernel
theorem dX3_detail_51 : decode cX3_detail 51 = .ok (.getfield 11, 3) := by decide +kernel
theorem dX3_detail_54 : decode cX3_detail 54 = .ok (.iload_n 1, 1) := by decide +kernel
theorem dX3_detail_55 : decode cX3_detail 55 = .ok (.aaload, 1) := by decide +kernel
theorem dX3_detail_56 : decode cX3_detail 56 = .ok (.getfield 137, 3) := by decide +kernel
theorem dX3_detail_59 : decode cX3_detail 59 = .ok (.ireturn, 1) := by decide +kernel
theorem dX3_detail_60 : decode cX3_detail 60 = .ok (.aload_n 0, 1) := by decide +kernel
theorem dX3_detail_61 : decode cX3_detail 61 = .ok (.iload_n 1, 1) := by decide +kernel
theorem dX3_detail_62 : decode cX3_detail 62 = .ok (.invokevirtual 143, 3) := by decide +kernel
theorem dX3_detail_65 : decode cX3_detail 65 = .ok (.ireturn, 1) := by decide +kernel
theorem dX3_detail_66 : decode cX3_detail 66 = .ok (.aload_n 0, 1) := by decide +kernel
theorem dX3_detail_67 : decode cX3_detail 67 = .ok (.getfield 11, 3) := by decide +kernel
theorem dX3_detail_70 : decode cX3_detail 70 = .ok (.iload_n 1, 1) := by decide +kernel
theorem dX3_detail_71 : decode cX3_detail 71 = .ok (.aaload, 1) := by decide +kernel
theorem dX3_detail_72 : decode cX3_detail 72 = .ok (.invokevirtual 146, 3) := by decide +kernel
theorem dX3_detail_75 : decode cX3_detail 75 = .ok (.ireturn, 1) := by decide +kernel
theorem dX3_detail_76 : decode cX3_detail 76 = .ok (.aload_n 0, 1) := by decide +kernel
theorem dX3_detail_77 : decode cX3_detail 77 = .ok (.getfield 11, 3) := by decide +kernel
theorem dX3_detail_80 : decode cX3_detail 80 = .ok (.iload_n 1, 1) := by decide +kernel
theorem dX3_detail_81 : decode cX3_detail 81 = .ok (.aaload, 1) := by decide +kernel
theorem dX3_detail_82 : decode cX3_detail 82 = .ok (.getfield 122, 3) := by decide +kernel
theorem dX3_detail_85 : decode cX3_detail 85 = .ok (.ireturn, 1) := by decide +kernel
theorem dX3_countHeavy_0 : decode cX3_countHeavy 0 = .ok (.iconst 0, 1) := by decide +kernel
theorem dX3_countHeavy_1 : decode cX3_countHeavy 1 = .ok (.istore_n 1, 1) := by decide +kernel
theorem dX3_countHeavy_2 : decode cX3_countHeavy 2 = .ok (.iconst 0, 1) := by decide +kernel
theorem dX3_countHeavy_3 : decode cX3_countHeavy 3 = .ok (.istore_n 2, 1) := by decide +kernel
theorem dX3_countHeavy_4 : decode cX3_countHeavy 4 = .ok (.iload_n 2, 1) := by decide +kernel
theorem dX3_countHeavy_5 : decode cX3_countHeavy 5 = .ok (.aload_n 0, 1) := by decide +kernel
theorem dX3_countHeavy_6 : decode cX3_countHeavy 6 = .ok (.getfield 26, 3) := by decide +kernel
theorem dX3_countHeavy_9 : decode cX3_countHeavy 9 = .ok (.if_icmp .ge 29, 3) := by decide +kernel
theorem dX3_countHeavy_12 : decode cX3_countHeavy 12 = .ok (.iload_n 1, 1) := by decide +kernel
theorem dX3_countHeavy_13 : decode cX3_countHeavy 13 = .ok (.aload_n 0, 1) := by decide +kernel
theorem dX3_countHeavy_14 : decode cX3_countHeavy 14 = .ok (.getfield 11, 3) := by decide +kernel
theorem dX3_countHeavy_17 : decode cX3_countHeavy 17 = .ok (.iload_n 2, 1) := by decide +kernel
theorem dX3_countHeavy_18 : decode cX3_countHeavy 18 = .ok (.aaload, 1) := by decide +kernel
theorem dX3_countHeavy_19 : decode cX3_countHeavy 19 = .ok (.instanceof 80, 3) := by decide +kernel
theorem dX3_countHeavy_22 : decode cX3_countHeavy 22 = .ok (.ifCond .eq 7, 3) := by decide +kernel
theorem dX3_countHeavy_25 : decode cX3_countHeavy 25 = .ok (.iconst 1, 1) := by decide +kernel
theorem dX3_countHeavy_26 : decode cX3_countHeavy 26 = .ok (.goto 4, 3) := by decide +kernel
theorem dX3_countHeavy_29 : decode cX3_countHeavy 29 = .ok (.iconst 0, 1) := by decide +kernel
theorem dX3_countHeavy_30 : decode cX3_countHeavy 30 = .ok (.iadd, 1) := by decide +kernel
theorem dX3_countHeavy_31 : decode cX3_countHeavy 31 = .ok (.istore_n 1, 1) := by decide +kernel
theorem dX3_countHeavy_32 : decode cX3_countHeavy 32 = .ok (.iinc 2 1, 3) := by decide +kernel
theorem dX3_countHeavy_35 : decode cX3_countHeavy 35 = .ok (.goto (-31), 3) := by decide +kernel
theorem dX3_countHeavy_38 : decode cX3_countHeavy 38 = .ok (.iload_n 1, 1) := by decide +kernel
theorem dX3_countHeavy_39 : decode cX3_countHeavy 39 = .ok (.ireturn, 1) := by decide +kernel
theorem dX3_walksToNoon_0 : decode cX3_walksToNoon 0 = .ok (.iconst 1, 1) := by decide +kernel
theorem dX3_walksToNoon_1 : decode cX3_walksToNoon 1 = .ok (.istore_n 2, 1) := by decide +kernel
theorem dX3_walksToNoon_2 : decode cX3_walksToNoon 2 = .ok (.iload_n 2, 1) := by decide +kernel
theorem dX3_walksToNoon_3 : decode cX3_walksToNoon 3 = .ok (.aload_n 0, 1) := by decide +kernel
theorem dX3_walksToNoon_4 : decode cX3_walksToNoon 4 = .ok (.getfield 30, 3) := by decide +kernel
theorem dX3_walksToNoon_7 : decode cX3_walksToNoon 7 = .ok (.if_icmp .gt 26, 3) := by decide +kernel
theorem dX3_walksToNoon_10 : decode cX3_walksToNoon 10 = .ok (.aload_n 0, 1) := by decide +kernel
theorem dX3_walksToNoon_11 : decode cX3_walksToNoon 11 = .ok (.aload_n 0, 1) := by decide +kernel
theorem dX3_walksToNoon_12 : decode cX3_walksToNoon 12 = .ok (.getfield 36, 3) := by decide +kernel
theorem dX3_walksToNoon_15 : decode cX3_walksToNoon 15 = .ok (.iload_n 2, 1) := by decide +kernel
theorem dX3_walksToNoon_16 : decode cX3_walksToNoon 16 = .ok (.iload_n 1, 1) := by decide +kernel
theorem dX3_walksToNoon_17 : decode cX3_walksToNoon 17 = .ok (.imul, 1) := by decide +kernel
theorem dX3_walksToNoon_18 : decode cX3_walksToNoon 18 = .ok (.iadd, 1) := by decide +kernel
theorem dX3_walksToNoon_19 : decode cX3_walksToNoon 19 = .ok (.invokevirtual 113, 3) := by decide +kernel
theorem dX3_walksToNoon_22 : decode cX3_walksToNoon 22 = .ok (.ifCond .ne 5, 3) := by decide +kernel
theorem dX3_walksToNoon_25 : decode cX3_walksToNoon 25 = .ok (.iload_n 2, 1) := by decide +kernel
theorem dX3_walksToNoon_26 : decode cX3_walksToNoon 26 = .ok (.ireturn, 1) := by decide +kernel
theorem dX3_walksToNoon_27 : decode cX3_walksToNoon 27 = .ok (.iinc 2 1, 3) := by decide +kernel
theorem dX3_walksToNoon_30 : decode cX3_walksToNoon 30 = .ok (.goto (-28), 3) := by decide +kernel
theorem dX3_walksToNoon_33 : decode cX3_walksToNoon 33 = .ok (.bipush (-9), 2) := by decide +kernel
theorem dX3_walksToNoon_35 : decode cX3_walksToNoon 35 = .ok (.ireturn, 1) := by decide +kernel
theorem dX3_stride_0 : decode cX3_stride 0 = .ok (.aload_n 0, 1) := by decide +kernel
theorem dX3_stride_1 : decode cX3_stride 1 = .ok (.getfield 30, 3) := by decide +kernel
theorem dX3_stride_4 : decode cX3_stride 4 = .ok (.i2l, 1) := by decide +kernel
theorem dX3_stride_5 : decode cX3_stride 5 = .ok (.lstore_n 2, 1) := by decide +kernel
theorem dX3_stride_6 : decode cX3_stride 6 = .ok (.iconst 0, 1) := by decide +kernel
theorem dX3_stride_7 : decode cX3_stride 7 = .ok (.istore 4, 2) := by decide +kernel
theorem dX3_stride_9 : decode cX3_stride 9 = .ok (.iload 4, 2) := by decide +kernel
theorem dX3_stride_11 : decode cX3_stride 11 = .ok (.aload_n 0, 1) := by decide +kernel
theorem dX3_stride_12 : decode cX3_stride 12 = .ok (.getfield 26, 3) := by decide +kernel
theorem dX3_stride_15 : decode cX3_stride 15 = .ok (.if_icmp .ge 27, 3) := by decide +kernel
theorem dX3_stride_18 : decode cX3_stride 18 = .ok (.iload 4, 2) := by decide +kernel
theorem dX3_stride_20 : decode cX3_stride 20 = .ok (.iload_n 1, 1) := by decide +kernel
theorem dX3_stride_21 : decode cX3_stride 21 = .ok (.if_icmp .eq 15, 3) := by decide +kernel
theorem dX3_stride_24 : decode cX3_stride 24 = .ok (.lload_n 2, 1) := by decide +kernel
theorem dX3_stride_25 : decode cX3_stride 25 = .ok (.aload_n 0, 1) := by decide +kernel
theorem dX3_stride_26 : decode cX3_stride 26 = .ok (.iload 4, 2) := by decide +kernel
theorem dX3_stride_28 : decode cX3_stride 28 = .ok (.invokevirtual 143, 3) := by decide +kernel
theorem dX3_stride_31 : decode cX3_stride 31 = .ok (.i2l, 1) := by decide +kernel
theorem dX3_stride_32 : decode cX3_stride 32 = .ok (.invokestatic 149, 3) := by decide +kernel
theorem dX3_stride_35 : decode cX3_stride 35 = .ok (.lstore_n 2, 1) := by decide +kernel
theorem dX3_stride_36 : decode cX3_stride 36 = .ok (.iinc 4 1, 3) := by decide +kernel
theorem dX3_stride_39 : decode cX3_stride 39 = .ok (.goto (-30), 3) := by decide +kernel
theorem dX3_stride_42 : decode cX3_stride 42 = .ok (.lload_n 2, 1) := by decide +kernel
theorem dX3_stride_43 : decode cX3_stride 43 = .ok (.l2i, 1) := by decide +kernel
theorem dX3_stride_44 : decode cX3_stride 44 = .ok (.ireturn, 1) := by decide +kernel
theorem dX4_init_0 : decode cX4_init 0 = .ok (.aload_n 0, 1) := by decide +kernel
theorem dX4_init_1 : decode cX4_init 1 = .ok (.iload_n 1, 1) := by decide +kernel
theorem dX4_init_2 : decode cX4_init 2 = .ok (.invokespecial 3, 3) := by decide +kernel
theorem dX4_init_5 : decode cX4_init 5 = .ok (.return_, 1) := by decide +kernel
theorem dX4_kind_0 : decode cX4_kind 0 = .ok (.iconst 1, 1) := by decide +kernel
theorem dX4_kind_1 : decode cX4_kind 1 = .ok (.ireturn, 1) := by decide +kernel
theorem dX4_bareTread_0 : decode cX4_bareTread 0 = .ok (.iconst 2, 1) := by decide +kernel
theorem dX4_bareTread_1 : decode cX4_bareTread 1 = .ok (.aload_n 0, 1) := by decide +kernel
theorem dX4_bareTread_2 : decode cX4_bareTread 2 = .ok (.getfield 9, 3) := by decide +kernel
theorem dX4_bareTread_5 : decode cX4_bareTread 5 = .ok (.imul, 1) := by decide +kernel
theorem dX4_bareTread_6 : decode cX4_bareTread 6 = .ok (.ireturn, 1) := by decide +kernel
theorem dX5_init_0 : decode cX5_init 0 = .ok (.aload_n 0, 1) := by decide +kernel
theorem dX5_init_1 : decode cX5_init 1 = .ok (.invokespecial 3, 3) := by decide +kernel
theorem dX5_init_4 : decode cX5_init 4 = .ok (.aload_n 0, 1) := by decide +kernel
theorem dX5_init_5 : decode cX5_init 5 = .ok (.bipush 6, 2) := by decide +kernel
theorem dX5_init_7 : decode cX5_init 7 = .ok (.newarray .int, 2) := by decide +kernel
theorem dX5_init_9 : decode cX5_init 9 = .ok (.putfield 9, 3) := by decide +kernel
theorem dX5_init_12 : decode cX5_init 12 = .ok (.aload_n 0, 1) := by decide +kernel
theorem dX5_init_13 : decode cX5_init 13 = .ok (.bipush 6, 2) := by decide +kernel
theorem dX5_init_15 : decode cX5_init 15 = .ok (.newarray .int, 2) := by decide +kernel
theorem dX5_init_17 : decode cX5_init 17 = .ok (.putfield 15, 3) := by decide +kernel
theorem dX5_init_20 : decode cX5_init 20 = .ok (.return_, 1) := by decide +kernel
theorem dX5_read_0 : decode cX5_read 0 = .ok (.aload_n 0, 1) := by decide +kernel
theorem dX5_read_1 : decode cX5_read 1 = .ok (.iconst 0, 1) := by decide +kernel
theorem dX5_read_2 : decode cX5_read 2 = .ok (.putfield 18, 3) := by decide +kernel
theorem dX5_read_5 : decode cX5_read 5 = .ok (.aload_n 0, 1) := by decide +kernel
theorem dX5_read_6 : decode cX5_read 6 = .ok (.iconst 0, 1) := by decide +kernel
theorem dX5_read_7 : decode cX5_read 7 = .ok (.putfield 22, 3) := by decide +kernel
theorem dX5_read_10 : decode cX5_read 10 = .ok (.aload_n 0, 1) := by decide +kernel
theorem dX5_read_11 : decode cX5_read 11 = .ok (.lconst 0, 1) := by decide +kernel
theorem dX5_read_12 : decode cX5_read 12 = .ok (.putfield 25, 3) := by decide +kernel
theorem dX5_read_15 : decode cX5_read 15 = .ok (.aload_n 0, 1) := by decide +kernel
theorem dX5_read_16 : decode cX5_read 16 = .ok (.iconst 0, 1) := by decide +kernel
theorem dX5_read_17 : decode cX5_read 17 = .ok (.putfield 29, 3) := by decide +kernel
theorem dX5_read_20 : decode cX5_read 20 = .ok (.aload_n 0, 1) := by decide +kernel
theorem dX5_read_21 : decode cX5_read 21 = .ok (.iconst 0, 1) := by decide +kernel
theorem dX5_read_22 : decode cX5_read 22 = .ok (.putfield 32, 3) := by decide +kernel
theorem dX5_read_25 : decode cX5_read 25 = .ok (.aload_n 0, 1) := by decide +kernel
theorem dX5_read_26 : decode cX5_read 26 = .ok (.bipush (-9), 2) := by decide +kernel
theorem dX5_read_28 : decode cX5_read 28 = .ok (.putfield 35, 3) := by decide +kernel
theorem dX5_read_31 : decode cX5_read 31 = .ok (.aload_n 0, 1) := by decide +kernel
theorem dX5_read_32 : decode cX5_read 32 = .ok (.aload_n 1, 1) := by decide +kernel
theorem dX5_read_33 : decode cX5_read 33 = .ok (.invokevirtual 38, 3) := by decide +kernel
theorem dX5_read_36 : decode cX5_read 36 = .ok (.iconst 0, 1) := by decide +kernel
theorem dX5_read_37 : decode cX5_read 37 = .ok (.istore_n 2, 1) := by decide +kernel
theorem dX5_read_38 : decode cX5_read 38 = .ok (.iload_n 2, 1) := by decide +kernel
theorem dX5_read_39 : decode cX5_read 39 = .ok (.bipush 60, 2) := by decide +kernel
theorem dX5_read_41 : decode cX5_read 41 = .ok (.if_icmp .ge 31, 3) := by decide +kernel
theorem dX5_read_44 : decode cX5_read 44 = .ok (.aload_n 0, 1) := by decide +kernel
theorem dX5_read_45 : decode cX5_read 45 = .ok (.getfield 35, 3) := by decide +kernel
theorem dX5_read_48 : decode cX5_read 48 = .ok (.bipush (-9), 2) := by decide +kernel
theorem dX5_read_50 : decode cX5_read 50 = .ok (.if_icmp .ne 22, 3) := by decide +kernel
theorem dX5_read_53 : decode cX5_read 53 = .ok (.aload_n 0, 1) := by decide +kernel
theorem dX5_read_54 : decode cX5_read 54 = .ok (.aload_n 1, 1) := by decide +kernel
theorem dX5_read_55 : decode cX5_read 55 = .ok (.invokevirtual 42, 3) := by decide +kernel
theorem dX5_read_58 : decode cX5_read 58 = .ok (.ifCond .eq 14, 3) := by decide +kernel
theorem dX5_read_61 : decode cX5_read 61 = .ok (.aload_n 0, 1) := by decide +kernel
theorem dX5_read_62 : decode cX5_read 62 = .ok (.aload_n 1, 1) := by decide +kernel
theorem dX5_read_63 : decode cX5_read 63 = .ok (.invokevirtual 46, 3) := by decide +kernel
theorem dX5_read_66 : decode cX5_read 66 = .ok (.iinc 2 1, 3) := by decide +kernel
theorem dX5_read_69 : decode cX5_read 69 = .ok (.goto (-31), 3) := by decide +kernel
theorem dX5_read_72 : decode cX5_read 72 = .ok (.aload_n 0, 1) := by decide +kernel
theorem dX5_read_73 : decode cX5_read 73 = .ok (.getfield 35, 3) := by decide +kernel
theorem dX5_read_76 : decode cX5_read 76 = .ok (.bipush (-9), 2) := by decide +kernel
theorem dX5_read_78 : decode cX5_read 78 = .ok (.if_icmp .ne 18, 3) := by decide +kernel
theorem dX5_read_81 : decode cX5_read 81 = .ok (.aload_n 0, 1) := by decide +kernel
theorem dX5_read_82 : decode cX5_read 82 = .ok (.getfield 18, 3) := by decide +kernel
theorem dX5_read_85 : decode cX5_read 85 = .ok (.ifCond .ne 11, 3) := by decide +kernel
theorem dX5_read_88 : decode cX5_read 88 = .ok (.aload_n 0, 1) := by decide +kernel
theorem dX5_read_89 : decode cX5_read 89 = .ok (.aload_n 1, 1) := by decide +kernel
theorem dX5_read_90 : decode cX5_read 90 = .ok (.getfield 49, 3) := by decide +kernel
theorem dX5_read_93 : decode cX5_read 93 = .ok (.putfield 35, 3) := by decide +kernel
theorem dX5_read_96 : decode cX5_read 96 = .ok (.aload_n 0, 1) := by decide +kernel
theorem dX5_read_97 : decode cX5_read 97 = .ok (.getfield 35, 3) := by decide +kernel
theorem dX5_read_100 : decode cX5_read 100 = .ok (.ireturn, 1) := by decide +kernel
theorem dX5_reachesItem_0 : decode cX5_reachesItem 0 = .ok (.aload_n 1, 1) := by decide +kernel
theorem dX5_reachesItem_1 : decode cX5_reachesItem 1 = .ok (.aload_n 0, 1) := by decide +kernel
theorem dX5_reachesItem_2 : decode cX5_reachesItem 2 = .ok (.getfield 32, 3) := by decide +kernel
theorem dX5_reachesItem_5 : decode cX5_reachesItem 5 = .ok (.invokevirtual 54, 3) := by decide +kernel
theorem dX5_reachesItem_8 : decode cX5_reachesItem 8 = .ok (.ifCond .eq 30, 3) := by decide +kernel
theorem dX5_reachesItem_11 : decode cX5_reachesItem 11 = .ok (.aload_n 1, 1) := by decide +kernel
theorem dX5_reachesItem_12 : decode cX5_reachesItem 12 = .ok (.getfield 58, 3) := by decide +kernel
theorem dX5_reachesItem_15 : decode cX5_reachesItem 15 = .ok (.aload_n 0, 1) := by decide +kernel
theorem dX5_reachesItem_16 : decode cX5_reachesItem 16 = .ok (.getfield 32, 3) := by decide +kernel
theorem dX5_reachesItem_19 : decode cX5_reachesItem 19 = .ok (.iaload, 1) := by decide +kernel
theorem dX5_reachesItem_20 : decode cX5_reachesItem 20 = .ok (.bipush 32, 2) := by decide +kernel
theorem dX5_reachesItem_22 : decode cX5_reachesItem 22 = .ok (.if_icmp .ne 16, 3) := by decide +kernel
theorem dX5_reachesItem_25 : decode cX5_reachesItem 25 = .ok (.aload_n 0, 1) := by decide +kernel
theorem dX5_reachesItem_26 : decode cX5_reachesItem 26 = .ok (.dup, 1) := by decide +kernel
theorem dX5_reachesItem_27 : decode cX5_reachesItem 27 = .ok (.getfield 32, 3) := by decide +kernel
theorem dX5_reachesItem_30 : decode cX5_reachesItem 30 = .ok (.iconst 1, 1) := by decide +kernel
theorem dX5_reachesItem_31 : decode cX5_reachesItem 31 = .ok (.iadd, 1) := by decide +kernel
theorem dX5_reachesItem_32 : decode cX5_reachesItem 32 = .ok (.putfield 32, 3) := by decide +kernel
theorem dX5_reachesItem_35 : decode cX5_reachesItem 35 = .ok (.goto (-35), 3) := by decide +kernel
theorem dX5_reachesItem_38 : decode cX5_reachesItem 38 = .ok (.aload_n 1, 1) := by decide +kernel
theorem dX5_reachesItem_39 : decode cX5_reachesItem 39 = .ok (.aload_n 0, 1) := by decide +kernel
theorem dX5_reachesItem_40 : decode cX5_reachesItem 40 = .ok (.getfield 32, 3) := by decide +kernel
theorem dX5_reachesItem_43 : decode cX5_reachesItem 43 = .ok (.invokevirtual 54, 3) := by decide +kernel
theorem dX5_reachesItem_46 : decode cX5_reachesItem 46 = .ok (.ireturn, 1) := by decide +kernel
theorem dX5_readDial_0 : decode cX5_readDial 0 = .ok (.aload_n 0, 1) := by decide +kernel
theorem dX5_readDial_1 : decode cX5_readDial 1 = .ok (.aload_n 1, 1) := by decide +kernel
theorem dX5_readDial_2 : decode cX5_readDial 2 = .ok (.invokevirtual 42, 3) := by decide +kernel
theorem dX5_readDial_5 : decode cX5_readDial 5 = .ok (.ifCond .ne 14, 3) := by decide +kernel
theorem dX5_readDial_8 : decode cX5_readDial 8 = .ok (.aload_n 0, 1) := by decide +kernel
theorem dX5_readDial_9 : decode cX5_readDial 9 = .ok (.aload_n 1, 1) := by decide +kernel
theorem dX5_readDial_10 : decode cX5_readDial 10 = .ok (.getfield 49, 3) := by decide +kernel
theorem dX5_readDial_13 : decode cX5_readDial 13 = .ok (.putfield 35, 3) := by decide +kernel
theorem dX5_readDial_16 : decode cX5_readDial 16 = .ok (.goto 51, 3) := by decide +kernel
theorem dX5_readDial_19 : decode cX5_readDial 19 = .ok (.aload_n 1, 1) := by decide +kernel
theorem dX5_readDial_20 : decode cX5_readDial 20 = .ok (.getfield 58, 3) := by decide +kernel
theorem dX5_readDial_23 : decode cX5_readDial 23 = .ok (.aload_n 0, 1) := by decide +kernel
theorem dX5_readDial_24 : decode cX5_readDial 24 = .ok (.getfield 32, 3) := by decide +kernel
theorem dX5_readDial_27 : decode cX5_readDial 27 = .ok (.iaload, 1) := by decide +kernel
theorem dX5_readDial_28 : decode cX5_readDial 28 = .ok (.bipush 100, 2) := by decide +kernel
theorem dX5_readDial_30 : decode cX5_readDial 30 = .ok (.if_icmp .eq 14, 3) := by decide +kernel
theorem dX5_readDial_33 : decode cX5_readDial 33 = .ok (.aload_n 0, 1) := by decide +kernel
theorem dX5_readDial_34 : decode cX5_readDial 34 = .ok (.aload_n 0, 1) := by decide +kernel
theorem dX5_readDial_35 : decode cX5_readDial 35 = .ok (.getfield 32, 3) := by decide +kernel
theorem dX5_readDial_38 : decode cX5_readDial 38 = .ok (.putfield 35, 3) := by decide +kernel
theorem dX5_readDial_41 : decode cX5_readDial 41 = .ok (.goto 26, 3) := by decide +kernel
theorem dX5_readDial_44 : decode cX5_readDial 44 = .ok (.aload_n 0, 1) := by decide +kernel
theorem dX5_readDial_45 : decode cX5_readDial 45 = .ok (.dup, 1) := by decide +kernel
theorem dX5_readDial_46 : decode cX5_readDial 46 = .ok (.getfield 32, 3) := by decide +kernel
theorem dX5_readDial_49 : decode cX5_readDial 49 = .ok (.iconst 1, 1) := by decide +kernel
theorem dX5_readDial_50 : decode cX5_readDial 50 = .ok (.iadd, 1) := by decide +kernel
theorem dX5_readDial_51 : decode cX5_readDial 51 = .ok (.putfield 32, 3) := by decide +kernel
theorem dX5_readDial_54 : decode cX5_readDial 54 = .ok (.aload_n 0, 1) := by decide +kernel
theorem dX5_readDial_55 : decode cX5_readDial 55 = .ok (.aload_n 0, 1) := by decide +kernel
theorem dX5_readDial_56 : decode cX5_readDial 56 = .ok (.aload_n 1, 1) := by decide +kernel
theorem dX5_readDial_57 : decode cX5_readDial 57 = .ok (.bipush 12, 2) := by decide +kernel
theorem dX5_readDial_59 : decode cX5_readDial 59 = .ok (.bipush 60, 2) := by decide +kernel
theorem dX5_readDial_61 : decode cX5_readDial 61 = .ok (.invokevirtual 61, 3) := by decide +kernel
theorem dX5_readDial_64 : decode cX5_readDial 64 = .ok (.putfield 22, 3) := by decide +kernel
theorem dX5_readDial_67 : decode cX5_readDial 67 = .ok (.return_, 1) := by decide +kernel
theorem dX5_readItem_0 : decode cX5_readItem 0 = .ok (.aload_n 1, 1) := by decide +kernel
theorem dX5_readItem_1 : decode cX5_readItem 1 = .ok (.aload_n 0, 1) := by decide +kernel
theorem dX5_readItem_2 : decode cX5_readItem 2 = .ok (.getfield 32, 3) := by decide +kernel
theorem dX5_readItem_5 : decode cX5_readItem 5 = .ok (.invokevirtual 54, 3) := by decide +kernel
theorem dX5_readItem_8 : decode cX5_readItem 8 = .ok (.ifCond .ne 14, 3) := by decide +kernel
theorem dX5_readItem_11 : decode cX5_readItem 11 = .ok (.aload_n 0, 1) := by decide +kernel
theorem dX5_readItem_12 : decode cX5_readItem 12 = .ok (.aload_n 1, 1) := by decide +kernel
theorem dX5_readItem_13 : decode cX5_readItem 13 = .ok (.getfield 49, 3) := by decide +kernel
theorem dX5_readItem_16 : decode cX5_readItem 16 = .ok (.putfield 35, 3) := by decide +kernel
theorem dX5_readItem_19 : decode cX5_readItem 19 = .ok (.goto 30, 3) := by decide +kernel
theorem dX5_readItem_22 : decode cX5_readItem 22 = .ok (.aload_n 1, 1) := by decide +kernel
theorem dX5_readItem_23 : decode cX5_readItem 23 = .ok (.getfield 58, 3) := by decide +kernel
theorem dX5_readItem_26 : decode cX5_readItem 26 = .ok (.aload_n 0, 1) := by decide +kernel
theorem dX5_readItem_27 : decode cX5_readItem 27 = .ok (.getfield 32, 3) := by decide +kernel
theorem dX5_readItem_30 : decode cX5_readItem 30 = .ok (.iaload, 1) := by decide +kernel
theorem dX5_readItem_31 : decode cX5_readItem 31 = .ok (.bipush 101, 2) := by decide +kernel
theorem dX5_readItem_33 : decode cX5_readItem 33 = .ok (.if_icmp .ne 11, 3) := by decide +kernel
theorem dX5_readItem_36 : decode cX5_readItem 36 = .ok (.aload_n 0, 1) := by decide +kernel
theorem dX5_readItem_37 : decode cX5_readItem 37 = .ok (.aload_n 1, 1) := by decide +kernel
theorem dX5_readItem_38 : decode cX5_readItem 38 = .ok (.invokevirtual 65, 3) := by decide +kernel
theorem dX5_readItem_41 : decode cX5_readItem 41 = .ok (.goto 8, 3) := by decide +kernel
theorem dX5_readItem_44 : decode cX5_readItem 44 = .ok (.aload_n 0, 1) := by decide +kernel
theorem dX5_readItem_45 : decode cX5_readItem 45 = .ok (.aload_n 1, 1) := by decide +kernel
theorem dX5_readItem_46 : decode cX5_readItem 46 = .ok (.invokevirtual 68, 3) := by decide +kernel
theorem dX5_readItem_49 : decode cX5_readItem 49 = .ok (.return_, 1) := by decide +kernel
theorem dX5_readGuild_0 : decode cX5_readGuild 0 = .ok (.aload_n 1, 1) := by decide +kernel
theorem dX5_readGuild_1 : decode cX5_readGuild 1 = .ok (.aload_n 0, 1) := by decide +kernel
theorem dX5_readGuild_2 : decode cX5_readGuild 2 = .ok (.getfield 32, 3) := by decide +kernel
theorem dX5_readGuild_5 : decode cX5_readGuild 5 = .ok (.invokevirtual 54, 3) := by decide +kernel
theorem dX5_readGuild_8 : decode cX5_readGuild 8 = .ok (.ifCond .eq 18, 3) := by decide +kernel
theorem dX5_readGuild_11 : decode cX5_readGuild 11 = .ok (.aload_n 1, 1) := by decide +kernel
theorem dX5_readGuild_12 : decode cX5_readGuild 12 = .ok (.getfield 58, 3) := by decide +kernel
theorem dX5_readGuild_15 : decode cX5_readGuild 15 = .ok (.aload_n 0, 1) := by decide +kernel
theorem dX5_readGuild_16 : decode cX5_readGuild 16 = .ok (.getfield 32, 3) := by decide +kernel
theorem dX5_readGuild_19 : decode cX5_readGuild 19 = .ok (.iaload, 1) := by decide +kernel
theorem dX5_readGuild_20 : decode cX5_readGuild 20 = .ok (.invokestatic 71, 3) := by decide +kernel
theorem dX5_readGuild_23 : decode cX5_readGuild 23 = .ok (.goto 5, 3) := by decide +kernel
theorem dX5_readGuild_26 : decode cX5_readGuild 26 = .ok (.bipush (-9), 2) := by decide +kernel
theorem dX5_readGuild_28 : decode cX5_readGuild 28 = .ok (.istore_n 2, 1) := by decide +kernel
theorem dX5_readGuild_29 : decode cX5_readGuild 29 = .ok (.iload_n 2, 1) := by decide +kernel
theorem dX5_readGuild_30 : decode cX5_readGuild 30 = .ok (.bipush (-9), 2) := by decide +kernel
theorem dX5_readGuild_32 : decode cX5_readGuild 32 = .ok (.if_icmp .eq 19, 3) := by decide +kernel
theorem dX5_readGuild_35 : decode cX5_readGuild 35 = .ok (.aload_n 0, 1) := by decide +kernel
theorem dX5_readGuild_36 : decode cX5_readGuild 36 = .ok (.getfield 18, 3) := by decide +kernel
theorem dX5_readGuild_39 : decode cX5_readGuild 39 = .ok (.bipush 6, 2) := by decide +kernel
theorem dX5_readGuild_41 : decode cX5_readGuild 41 = .ok (.if_icmp .ge 10, 3) := by decide +kernel
theorem dX5_readGuild_44 : decode cX5_readGuild 44 = .ok (.aload_n 0, 1) := by decide +kernel
theorem dX5_readGuild_45 : decode cX5_readGuild 45 = .ok (.getfield 29, 3) := by decide +kernel
theorem dX5_readGuild_48 : decode cX5_readGuild 48 = .ok (.ifCond .le 12, 3) := by decide +kernel
theorem dX5_readGuild_51 : decode cX5_readGuild 51 = .ok (.aload_n 0, 1) := by decide +kernel
theorem dX5_readGuild_52 : decode cX5_readGuild 52 = .ok (.aload_n 0, 1) := by decide +kernel
theorem dX5_readGuild_53 : decode cX5_readGuild 53 = .ok (.getfield 32, 3) := by decide +kernel
theorem dX5_readGuild_56 : decode cX5_readGuild 56 = .ok (.putfield 35, 3) := by decide +kernel
theorem dX5_readGuild_59 : decode cX5_readGuild 59 = .ok (.return_, 1) := by decide +kernel
theorem dX5_readGuild_60 : decode cX5_readGuild 60 = .ok (.aload_n 0, 1) := by decide +kernel
theorem dX5_readGuild_61 : decode cX5_readGuild 61 = .ok (.dup, 1) := by decide +kernel
theorem dX5_readGuild_62 : decode cX5_readGuild 62 = .ok (.getfield 32, 3) := by decide +kernel
theorem dX5_readGuild_65 : decode cX5_readGuild 65 = .ok (.iconst 1, 1) := by decide +kernel
theorem dX5_readGuild_66 : decode cX5_readGuild 66 = .ok (.iadd, 1) := by decide +kernel
theorem dX5_readGuild_67 : decode cX5_readGuild 67 = .ok (.putfield 32, 3) := by decide +kernel
theorem dX5_readGuild_70 : decode cX5_readGuild 70 = .ok (.aload_n 0, 1) := by decide +kernel
theorem dX5_readGuild_71 : decode cX5_readGuild 71 = .ok (.aload_n 1, 1) := by decide +kernel
theorem dX5_readGuild_72 : decode cX5_readGuild 72 = .ok (.invokevirtual 75, 3) := by decide +kernel
theorem dX5_readGuild_75 : decode cX5_readGuild 75 = .ok (.istore_n 3, 1) := by decide +kernel
theorem dX5_readGuild_76 : decode cX5_readGuild 76 = .ok (.iload_n 3, 1) := by decide +kernel
theorem dX5_readGuild_77 : decode cX5_readGuild 77 = .ok (.ifCond .ne 13, 3) := by decide +kernel
theorem dX5_readGuild_80 : decode cX5_readGuild 80 = .ok (.aload_n 0, 1) := by decide +kernel
theorem dX5_readGuild_81 : decode cX5_readGuild 81 = .ok (.aload_n 0, 1) := by decide +kernel
theorem dX5_readGuild_82 : decode cX5_readGuild 82 = .ok (.getfield 32, 3) := by decide +kernel
theorem dX5_readGuild_85 : decode cX5_readGuild 85 = .ok (.iconst 1, 1) := by decide +kernel
theorem dX5_readGuild_86 : decode cX5_readGuild 86 = .ok (.isub, 1) := by decide +kernel
theorem dX5_readGuild_87 : decode cX5_readGuild 87 = .ok (.putfield 35, 3) := by decide +kernel
theorem dX5_readGuild_90 : decode cX5_readGuild 90 = .ok (.aload_n 0, 1) := by decide +kernel
theorem dX5_readGuild_91 : decode cX5_readGuild 91 = .ok (.getfield 35, 3) := by decide +kernel
theorem dX5_readGuild_94 : decode cX5_readGuild 94 = .ok (.bipush (-9), 2) := by decide +kernel
theorem dX5_readGuild_96 : decode cX5_readGuild 96 = .ok (.if_icmp .ne 33, 3) := by decide +kernel
theorem dX5_readGuild_99 : decode cX5_readGuild 99 = .ok (.aload_n 0, 1) := by decide +kernel
theorem dX5_readGuild_100 : decode cX5_readGuild 100 = .ok (.getfield 9, 3) := by decide +kernel
theorem dX5_readGuild_103 : decode cX5_readGuild 103 = .ok (.aload_n 0, 1) := by decide +kernel
theorem dX5_readGuild_104 : decode cX5_readGuild 104 = .ok (.getfield 18, 3) := by decide +kernel
theorem dX5_readGuild_107 : decode cX5_readGuild 107 = .ok (.iload_n 2, 1) := by decide +kernel
theorem dX5_readGuild_108 : decode cX5_readGuild 108 = .ok (.iastore, 1) := by decide +kernel
theorem dX5_readGuild_109 : decode cX5_readGuild 109 = .ok (.aload_n 0, 1) := by decide +kernel
theorem dX5_readGuild_110 : decode cX5_readGuild 110 = .ok (.getfield 15, 3) := by decide +kernel
theorem dX5_readGuild_113 : decode cX5_readGuild 113 = .ok (.aload_n 0, 1) := by decide +kernel
theorem dX5_readGuild_114 : decode cX5_readGuild 114 = .ok (.getfield 18, 3) := by decide +kernel
theorem dX5_readGuild_117 : decode cX5_readGuild 117 = .ok (.iload_n 3, 1) := by decide +kernel
theorem dX5_readGuild_118 : decode cX5_readGuild 118 = .ok (.iastore, 1) := by decide +kernel
theorem dX5_readGuild_119 : decode cX5_readGuild 119 = .ok (.aload_n 0, 1) := by decide +kernel
theorem dX5_readGuild_120 : decode cX5_readGuild 120 = .ok (.dup, 1) := by decide +kernel
theorem dX5_readGuild_121 : decode cX5_readGuild 121 = .ok (.getfield 18, 3) := by decide +kernel
theorem dX5_readGuild_124 : decode cX5_readGuild 124 = .ok (.iconst 1, 1) := by decide +kernel
theorem dX5_readGuild_125 : decode cX5_readGuild 125 = .ok (.iadd, 1) := by decide +kernel
theorem dX5_readGuild_126 : decode cX5_readGuild 126 = .ok (.putfield 18, 3) := by decide +kernel
theorem dX5_readGuild_129 : decode cX5_readGuild 129 = .ok (.return_, 1) := by decide +kernel
theorem dX5_readRent_0 : decode cX5_readRent 0 = .ok (.aload_n 0, 1) := by decide +kernel
theorem dX5_readRent_1 : decode cX5_readRent 1 = .ok (.getfield 18, 3) := by decide +kernel
theorem dX5_readRent_4 : decode cX5_readRent 4 = .ok (.ifCond .eq 12, 3) := by decide +kernel
theorem dX5_readRent_7 : decode cX5_readRent 7 = .ok (.aload_n 0, 1) := by decide +kernel
theorem dX5_readRent_8 : decode cX5_readRent 8 = .ok (.getfield 29, 3) := by decide +kernel
theorem dX5_readRent_11 : decode cX5_readRent 11 = .ok (.bipush 6, 2) := by decide +kernel
theorem dX5_readRent_13 : decode cX5_readRent 13 = .ok (.if_icmp .lt 12, 3) := by decide +kernel
theorem dX5_readRent_16 : decode cX5_readRent 16 = .ok (.aload_n 0, 1) := by decide +kernel
theorem dX5_readRent_17 : decode cX5_readRent 17 = .ok (.aload_n 0, 1) := by decide +kernel
theorem dX5_readRent_18 : decode cX5_readRent 18 = .ok (.getfield 32, 3) := by decide +kernel
theorem dX5_readRent_21 : decode cX5_readRent 21 = .ok (.putfield 35, 3) := by decide +kernel
theorem dX5_readRent_24 : decode cX5_readRent 24 = .ok (.return_, 1) := by decide +kernel
theorem dX5_readRent_25 : decode cX5_readRent 25 = .ok (.aload_n 0, 1) := by decide +kernel
theorem dX5_readRent_26 : decode cX5_readRent 26 = .ok (.dup, 1) := by decide +kernel
theorem dX5_readRent_27 : decode cX5_readRent 27 = .ok (.getfield 32, 3) := by decide +kernel
theorem dX5_readRent_30 : decode cX5_readRent 30 = .ok (.iconst 1, 1) := by decide +kernel
theorem dX5_readRent_31 : decode cX5_readRent 31 = .ok (.iadd, 1) := by decide +kernel
theorem dX5_readRent_32 : decode cX5_readRent 32 = .ok (.putfield 32, 3) := by decide +kernel
theorem dX5_readRent_35 : decode cX5_readRent 35 = .ok (.aload_n 0, 1) := by decide +kernel
theorem dX5_readRent_36 : decode cX5_readRent 36 = .ok (.getfield 32, 3) := by decide +kernel
theorem dX5_readRent_39 : decode cX5_readRent 39 = .ok (.istore_n 2, 1) := by decide +kernel
theorem dX5_readRent_40 : decode cX5_readRent 40 = .ok (.aload_n 0, 1) := by decide +kernel
theorem dX5_readRent_41 : decode cX5_readRent 41 = .ok (.aload_n 1, 1) := by decide +kernel
theorem dX5_readRent_42 : decode cX5_readRent 42 = .ok (.iconst 1, 1) := by decide +kernel
theorem dX5_readRent_43 : decode cX5_readRent 43 = .ok (.aload_n 0, 1) := by decide +kernel
theorem dX5_readRent_44 : decode cX5_readRent 44 = .ok (.getfield 22, 3) := by decide +kernel
theorem dX5_readRent_47 : decode cX5_readRent 47 = .ok (.iconst 1, 1) := by decide +kernel
theorem dX5_readRent_48 : decode cX5_readRent 48 = .ok (.isub, 1) := by decide +kernel
theorem dX5_readRent_49 : decode cX5_readRent 49 = .ok (.invokevirtual 61, 3) := by decide +kernel
theorem dX5_readRent_52 : decode cX5_readRent 52 = .ok (.istore_n 3, 1) := by decide +kernel
theorem dX5_readRent_53 : decode cX5_readRent 53 = .ok (.aload_n 0, 1) := by decide +kernel
theorem dX5_readRent_54 : decode cX5_readRent 54 = .ok (.getfield 35, 3) := by decide +kernel
theorem dX5_readRent_57 : decode cX5_readRent 57 = .ok (.bipush (-9), 2) := by decide +kernel
theorem dX5_readRent_59 : decode cX5_readRent 59 = .ok (.if_icmp .eq 4, 3) := by decide +kernel
theorem dX5_readRent_62 : decode cX5_readRent 62 = .ok (.return_, 1) := by decide +kernel
theorem dX5_readRent_63 : decode cX5_readRent 63 = .ok (.aload_n 0, 1) := by decide +kernel
theorem dX5_readRent_64 : decode cX5_readRent 64 = .ok (.getfield 25, 3) := by decide +kernel
theorem dX5_readRent_67 : decode cX5_readRent 67 = .ok (.iload_n 3, 1) := by decide +kernel
theorem dX5_readRent_68 : decode cX5_readRent 68 = .ok (.lushr, 1) := by decide +kernel
theorem dX5_readRent_69 : decode cX5_readRent 69 = .ok (.lconst 1, 1) := by decide +kernel
theorem dX5_readRent_70 : decode cX5_readRent 70 = .ok (.land, 1) := by decide +kernel
theorem dX5_readRent_71 : decode cX5_readRent 71 = .ok (.lconst 0, 1) := by decide +kernel
theorem dX5_readRent_72 : decode cX5_readRent 72 = .ok (.lcmp, 1) := by decide +kernel
theorem dX5_readRent_73 : decode cX5_readRent 73 = .ok (.ifCond .eq 9, 3) := by decide +kernel
theorem dX5_readRent_76 : decode cX5_readRent 76 = .ok (.aload_n 0, 1) := by decide +kernel
theorem dX5_readRent_77 : decode cX5_readRent 77 = .ok (.iload_n 2, 1) := by decide +kernel
theorem dX5_readRent_78 : decode cX5_readRent 78 = .ok (.putfield 35, 3) := by decide +kernel
theorem dX5_readRent_81 : decode cX5_readRent 81 = .ok (.return_, 1) := by decide +kernel
theorem dX5_readRent_82 : decode cX5_readRent 82 = .ok (.aload_n 0, 1) := by decide +kernel
theorem dX5_readRent_83 : decode cX5_readRent 83 = .ok (.dup, 1) := by decide +kernel
theorem dX5_readRent_84 : decode cX5_readRent 84 = .ok (.getfield 25, 3) := by decide +kernel
theorem dX5_readRent_87 : decode cX5_readRent 87 = .ok (.lconst 1, 1) := by decide +kernel
theorem dX5_readRent_88 : decode cX5_readRent 88 = .ok (.iload_n 3, 1) := by decide +kernel
theorem dX5_readRent_89 : decode cX5_readRent 89 = .ok (.lshl, 1) := by decide +kernel
theorem dX5_readRent_90 : decode cX5_readRent 90 = .ok (.lor, 1) := by decide +kernel
theorem dX5_readRent_91 : decode cX5_readRent 91 = .ok (.putfield 25, 3) := by decide +kernel
theorem dX5_readRent_94 : decode cX5_readRent 94 = .ok (.aload_n 0, 1) := by decide +kernel
theorem dX5_readRent_95 : decode cX5_readRent 95 = .ok (.dup, 1) := by decide +kernel
theorem dX5_readRent_96 : decode cX5_readRent 96 = .ok (.getfield 29, 3) := by decide +kernel
theorem dX5_readRent_99 : decode cX5_readRent 99 = .ok (.iconst 1, 1) := by decide +kernel
theorem dX5_readRent_100 : decode cX5_readRent 100 = .ok (.iadd, 1) := by decide +kernel
theorem dX5_readRent_101 : decode cX5_readRent 101 = .ok (.putfield 29, 3) := by decide +kernel
theorem dX5_readRent_104 : decode cX5_readRent 104 = .ok (.return_, 1) := by decide +kernel
theorem dX5_readTwoFigures_0 : decode cX5_readTwoFigures 0 = .ok (.aload_n 0, 1) := by decide +kernel
theorem dX5_readTwoFigures_1 : decode cX5_readTwoFigures 1 = .ok (.getfield 32, 3) := by decide +kernel
theorem dX5_readTwoFigures_4 : decode cX5_readTwoFigures 4 = .ok (.istore 4, 2) := by decide +kernel
theorem dX5_readTwoFigures_6 : decode cX5_readTwoFigures 6 = .ok (.aload_n 0, 1) := by decide +kernel
theorem dX5_readTwoFigures_7 : decode cX5_readTwoFigures 7 = .ok (.aload_n 1, 1) := by decide +kernel
theorem dX5_readTwoFigures_8 : decode cX5_readTwoFigures 8 = .ok (.invokevirtual 75, 3) := by decide +kernel
theorem dX5_readTwoFigures_11 : decode cX5_readTwoFigures 11 = .ok (.istore 5, 2) := by decide +kernel
theorem dX5_readTwoFigures_13 : decode cX5_readTwoFigures 13 = .ok (.aload_n 0, 1) := by decide +kernel
theorem dX5_readTwoFigures_14 : decode cX5_readTwoFigures 14 = .ok (.getfield 35, 3) := by decide +kernel
theorem dX5_readTwoFigures_17 : decode cX5_readTwoFigures 17 = .ok (.bipush (-9), 2) := by decide +kernel
theorem dX5_readTwoFigures_19 : decode cX5_readTwoFigures 19 = .ok (.if_icmp .ne 11, 3) := by decide +kernel
theorem dX5_readTwoFigures_22 : decode cX5_readTwoFigures 22 = .ok (.aload_n 0, 1) := by decide +kernel
theorem dX5_readTwoFigures_23 : decode cX5_readTwoFigures 23 = .ok (.aload_n 1, 1) := by decide +kernel
theorem dX5_readTwoFigures_24 : decode cX5_readTwoFigures 24 = .ok (.invokevirtual 75, 3) := by decide +kernel
theorem dX5_readTwoFigures_27 : decode cX5_readTwoFigures 27 = .ok (.goto 4, 3) := by decide +kernel
theorem dX5_readTwoFigures_30 : decode cX5_readTwoFigures 30 = .ok (.iconst 0, 1) := by decide +kernel
theorem dX5_readTwoFigures_31 : decode cX5_readTwoFigures 31 = .ok (.istore 6, 2) := by decide +kernel
theorem dX5_readTwoFigures_33 : decode cX5_readTwoFigures 33 = .ok (.bipush 10, 2) := by decide +kernel
theorem dX5_readTwoFigures_35 : decode cX5_readTwoFigures 35 = .ok (.iload 5, 2) := by decide +kernel
theorem dX5_readTwoFigures_37 : decode cX5_readTwoFigures 37 = .ok (.imul, 1) := by decide +kernel
theorem dX5_readTwoFigures_38 : decode cX5_readTwoFigures 38 = .ok (.iload 6, 2) := by decide +kernel
theorem dX5_readTwoFigures_40 : decode cX5_readTwoFigures 40 = .ok (.iadd, 1) := by decide +kernel
theorem dX5_readTwoFigures_41 : decode cX5_readTwoFigures 41 = .ok (.istore 7, 2) := by decide +kernel
theorem dX5_readTwoFigures_43 : decode cX5_readTwoFigures 43 = .ok (.aload_n 0, 1) := by decide +kernel
theorem dX5_readTwoFigures_44 : decode cX5_readTwoFigures 44 = .ok (.getfield 35, 3) := by decide +kernel
theorem dX5_readTwoFigures_47 : decode cX5_readTwoFigures 47 = .ok (.bipush (-9), 2) := by decide +kernel
theorem dX5_readTwoFigures_49 : decode cX5_readTwoFigures 49 = .ok (.if_icmp .ne 21, 3) := by decide +kernel
theorem dX5_readTwoFigures_52 : decode cX5_readTwoFigures 52 = .ok (.iload 7, 2) := by decide +kernel
theorem dX5_readTwoFigures_54 : decode cX5_readTwoFigures 54 = .ok (.iload_n 2, 1) := by decide +kernel
theorem dX5_readTwoFigures_55 : decode cX5_readTwoFigures 55 = .ok (.if_icmp .lt 9, 3) := by decide +kernel
theorem dX5_readTwoFigures_58 : decode cX5_readTwoFigures 58 = .ok (.iload 7, 2) := by decide +kernel
theorem dX5_readTwoFigures_60 : decode cX5_readTwoFigures 60 = .ok (.iload_n 3, 1) := by decide +kernel
theorem dX5_readTwoFigures_61 : decode cX5_readTwoFigures 61 = .ok (.if_icmp .le 9, 3) := by decide +kernel
theorem dX5_readTwoFigures_64 : decode cX5_readTwoFigures 64 = .ok (.aload_n 0, 1) := by decide +kernel
theorem dX5_readTwoFigures_65 : decode cX5_readTwoFigures 65 = .ok (.iload 4, 2) := by decide +kernel
theorem dX5_readTwoFigures_67 : decode cX5_readTwoFigures 67 = .ok (.putfield 35, 3) := by decide +kernel
theorem dX5_readTwoFigures_70 : decode cX5_readTwoFigures 70 = .ok (.iload 7, 2) := by decide +kernel
theorem dX5_readTwoFigures_72 : decode cX5_readTwoFigures 72 = .ok (.ireturn, 1) := by decide +kernel
theorem dX5_readFigure_0 : decode cX5_readFigure 0 = .ok (.aload_n 1, 1) := by decide +kernel
theorem dX5_readFigure_1 : decode cX5_readFigure 1 = .ok (.aload_n 0, 1) := by decide +kernel
theorem dX5_readFigure_2 : decode cX5_readFigure 2 = .ok (.getfield 32, 3) := by decide +kernel
theorem dX5_readFigure_5 : decode cX5_readFigure 5 = .ok (.invokevirtual 54, 3) := by decide +kernel
theorem dX5_readFigure_8 : decode cX5_readFigure 8 = .ok (.ifCond .ne 14, 3) := by decide +kernel
theorem dX5_readFigure_11 : decode cX5_readFigure 11 = .ok (.aload_n 0, 1) := by decide +kernel
theorem dX5_readFigure_12 : decode cX5_readFigure 12 = .ok (.aload_n 1, 1) := by decide +kernel
theorem dX5_readFigure_13 : decode cX5_readFigure 13 = .ok (.getfield 49, 3) := by decide +kernel
theorem dX5_readFigure_16 : decode cX5_readFigure 16 = .ok (.putfield 35, 3) := by decide +kernel
theorem dX5_readFigure_19 : decode cX5_readFigure 19 = .ok (.bipush (-9), 2) := by decide +kernel
theorem dX5_readFigure_21 : decode cX5_readFigure 21 = .ok (.ireturn, 1) := by decide +kernel
theorem dX5_readFigure_22 : decode cX5_readFigure 22 = .ok (.aload_n 1, 1) := by decide +kernel
theorem dX5_readFigure_23 : decode cX5_readFigure 23 = .ok (.getfield 58, 3) := by decide +kernel
theorem dX5_readFigure_26 : decode cX5_readFigure 26 = .ok (.aload_n 0, 1) := by decide +kernel
theorem dX5_readFigure_27 : decode cX5_readFigure 27 = .ok (.getfield 32, 3) := by decide +kernel
theorem dX5_readFigure_30 : decode cX5_readFigure 30 = .ok (.iaload, 1) := by decide +kernel
theorem dX5_readFigure_31 : decode cX5_readFigure 31 = .ok (.istore_n 2, 1) := by decide +kernel
theorem dX5_readFigure_32 : decode cX5_readFigure 32 = .ok (.iload_n 2, 1) := by decide +kernel
theorem dX5_readFigure_33 : decode cX5_readFigure 33 = .ok (.bipush 48, 2) := by decide +kernel
theorem dX5_readFigure_35 : decode cX5_readFigure 35 = .ok (.if_icmp .lt 9, 3) := by decide +kernel
theorem dX5_readFigure_38 : decode cX5_readFigure 38 = .ok (.iload_n 2, 1) := by decide +kernel
theorem dX5_readFigure_39 : decode cX5_readFigure 39 = .ok (.bipush 57, 2) := by decide +kernel
theorem dX5_readFigure_41 : decode cX5_readFigure 41 = .ok (.if_icmp .le 14, 3) := by decide +kernel
theorem dX5_readFigure_44 : decode cX5_readFigure 44 = .ok (.aload_n 0, 1) := by decide +kernel
theorem dX5_readFigure_45 : decode cX5_readFigure 45 = .ok (.aload_n 0, 1) := by decide +kernel
theorem dX5_readFigure_46 : decode cX5_readFigure 46 = .ok (.getfield 32, 3) := by decide +kernel
theorem dX5_readFigure_49 : decode cX5_readFigure 49 = .ok (.putfield 35, 3) := by decide +kernel
theorem dX5_readFigure_52 : decode cX5_readFigure 52 = .ok (.bipush (-9), 2) := by decide +kernel
theorem dX5_readFigure_54 : decode cX5_readFigure 54 = .ok (.ireturn, 1) := by decide +kernel
theorem dX5_readFigure_55 : decode cX5_readFigure 55 = .ok (.aload_n 0, 1) := by decide +kernel
theorem dX5_readFigure_56 : decode cX5_readFigure 56 = .ok (.dup, 1) := by decide +kernel
theorem dX5_readFigure_57 : decode cX5_readFigure 57 = .ok (.getfield 32, 3) := by decide +kernel
theorem dX5_readFigure_60 : decode cX5_readFigure 60 = .ok (.iconst 1, 1) := by decide +kernel
theorem dX5_readFigure_61 : decode cX5_readFigure 61 = .ok (.iadd, 1) := by decide +kernel
theorem dX5_readFigure_62 : decode cX5_readFigure 62 = .ok (.putfield 32, 3) := by decide +kernel
theorem dX5_readFigure_65 : decode cX5_readFigure 65 = .ok (.iload_n 2, 1) := by decide +kernel
theorem dX5_readFigure_66 : decode cX5_readFigure 66 = .ok (.bipush 48, 2) := by decide +kernel
theorem dX5_readFigure_68 : decode cX5_readFigure 68 = .ok (.isub, 1) := by decide +kernel
theorem dX5_readFigure_69 : decode cX5_readFigure 69 = .ok (.ireturn, 1) := by decide +kernel
theorem dX5_kindOf_0 : decode cX5_kindOf 0 = .ok (.iload_n 0, 1) := by decide +kernel
theorem dX5_kindOf_1 : decode cX5_kindOf 1 = .ok (.tableswitch 99 99 116 #[91, 99, 99, 99, 87, 89, 99, 99, 93, 99, 99, 99, 99, 99, 99, 95, 99, 97], 87) := by decide +kernel
theorem dX5_kindOf_88 : decode cX5_kindOf 88 = .ok (.iconst 0, 1) := by decide +kernel
theorem dX5_kindOf_89 : decode cX5_kindOf 89 = .ok (.ireturn, 1) := by decide +kernel
theorem dX5_kindOf_90 : decode cX5_kindOf 90 = .ok (.iconst 1, 1) := by decide +kernel
theorem dX5_kindOf_91 : decode cX5_kindOf 91 = .ok (.ireturn, 1) := by decide +kernel
theorem dX5_kindOf_92 : decode cX5_kindOf 92 = .ok (.iconst 2, 1) := by decide +kernel
theorem dX5_kindOf_93 : decode cX5_kindOf 93 = .ok (.ireturn, 1) := by decide +kernel
theorem dX5_kindOf_94 : decode cX5_kindOf 94 = .ok (.iconst 3, 1) := by decide +kernel
theorem dX5_kindOf_95 : decode cX5_kindOf 95 = .ok (.ireturn, 1) := by decide +kernel
theorem dX5_kindOf_96 : decode cX5_kindOf 96 = .ok (.iconst 4, 1) := by decide +kernel
theorem dX5_kindOf_97 : decode cX5_kindOf 97 = .ok (.ireturn, 1) := by decide +kernel
theorem dX5_kindOf_98 : decode cX5_kindOf 98 = .ok (.iconst 5, 1) := by decide +kernel
theorem dX5_kindOf_99 : decode cX5_kindOf 99 = .ok (.ireturn, 1) := by decide +kernel
theorem dX5_kindOf_100 : decode cX5_kindOf 100 = .ok (.bipush (-9), 2) := by decide +kernel
theorem dX5_kindOf_102 : decode cX5_kindOf 102 = .ok (.ireturn, 1) := by decide +kernel
theorem dX6_init_0 : decode cX6_init 0 = .ok (.aload_n 0, 1) := by decide +kernel
theorem dX6_init_1 : decode cX6_init 1 = .ok (.iload_n 1, 1) := by decide +kernel
theorem dX6_init_2 : decode cX6_init 2 = .ok (.invokespecial 3, 3) := by decide +kernel
theorem dX6_init_5 : decode cX6_init 5 = .ok (.return_, 1) := by decide +kernel
theorem dX6_kind_0 : decode cX6_kind 0 = .ok (.iconst 4, 1) := by decide +kernel
theorem dX6_kind_1 : decode cX6_kind 1 = .ok (.ireturn, 1) := by decide +kernel
theorem dX6_bareTread_0 : decode cX6_bareTread 0 = .ok (.aload_n 0, 1) := by decide +kernel
theorem dX6_bareTread_1 : decode cX6_bareTread 1 = .ok (.invokespecial 9, 3) := by decide +kernel
theorem dX6_bareTread_4 : decode cX6_bareTread 4 = .ok (.aload_n 0, 1) := by decide +kernel
theorem dX6_bareTread_5 : decode cX6_bareTread 5 = .ok (.invokevirtual 13, 3) := by decide +kernel
theorem dX6_bareTread_8 : decode cX6_bareTread 8 = .ok (.isub, 1) := by decide +kernel
theorem dX6_bareTread_9 : decode cX6_bareTread 9 = .ok (.ireturn, 1) := by decide +kernel
theorem dX6_uncountedFeet_0 : decode cX6_uncountedFeet 0 = .ok (.aload_n 0, 1) := by decide +kernel
theorem dX6_uncountedFeet_1 : decode cX6_uncountedFeet 1 = .ok (.getfield 18, 3) := by decide +kernel
theorem dX6_uncountedFeet_4 : decode cX6_uncountedFeet 4 = .ok (.iconst 2, 1) := by decide +kernel
theorem dX6_uncountedFeet_5 : decode cX6_uncountedFeet 5 = .ok (.idiv, 1) := by decide +kernel
theorem dX6_uncountedFeet_6 : decode cX6_uncountedFeet 6 = .ok (.ireturn, 1) := by decide +kernel
theorem dX7_init_0 : decode cX7_init 0 = .ok (.aload_n 0, 1) := by decide +kernel
theorem dX7_init_1 : decode cX7_init 1 = .ok (.invokespecial 3, 3) := by decide +kernel
theorem dX7_init_4 : decode cX7_init 4 = .ok (.aload_n 0, 1) := by decide +kernel
theorem dX7_init_5 : decode cX7_init 5 = .ok (.bipush 64, 2) := by decide +kernel
theorem dX7_init_7 : decode cX7_init 7 = .ok (.newarray .int, 2) := by decide +kernel
theorem dX7_init_9 : decode cX7_init 9 = .ok (.putfield 9, 3) := by decide +kernel
theorem dX7_init_12 : decode cX7_init 12 = .ok (.aload_n 0, 1) := by decide +kernel
theorem dX7_init_13 : decode cX7_init 13 = .ok (.bipush 64, 2) := by decide +kernel
theorem dX7_init_15 : decode cX7_init 15 = .ok (.newarray .int, 2) := by decide +kernel
theorem dX7_init_17 : decode cX7_init 17 = .ok (.putfield 15, 3) := by decide +kernel
theorem dX7_init_20 : decode cX7_init 20 = .ok (.aload_n 0, 1) := by decide +kernel
theorem dX7_init_21 : decode cX7_init 21 = .ok (.bipush 64, 2) := by decide +kernel
theorem dX7_init_23 : decode cX7_init 23 = .ok (.newarray .boolean, 2) := by decide +kernel
theorem dX7_init_25 : decode cX7_init 25 = .ok (.putfield 18, 3) := by decide +kernel
theorem dX7_init_28 : decode cX7_init 28 = .ok (.aload_n 0, 1) := by decide +kernel
theorem dX7_init_29 : decode cX7_init 29 = .ok (.bipush 64, 2) := by decide +kernel
theorem dX7_init_31 : decode cX7_init 31 = .ok (.newarray .int, 2) := by decide +kernel
theorem dX7_init_33 : decode cX7_init 33 = .ok (.putfield 22, 3) := by decide +kernel
theorem dX7_init_36 : decode cX7_init 36 = .ok (.aload_n 0, 1) := by decide +kernel
theorem dX7_init_37 : decode cX7_init 37 = .ok (.iconst 0, 1) := by decide +kernel
theorem dX7_init_38 : decode cX7_init 38 = .ok (.putfield 25, 3) := by decide +kernel
theorem dX7_init_41 : decode cX7_init 41 = .ok (.aload_n 0, 1) := by decide +kernel
theorem dX7_init_42 : decode cX7_init 42 = .ok (.iconst 0, 1) := by decide +kernel
theorem dX7_init_43 : decode cX7_init 43 = .ok (.putfield 29, 3) := by decide +kernel
theorem dX7_init_46 : decode cX7_init 46 = .ok (.aload_n 0, 1) := by decide +kernel
theorem dX7_init_47 : decode cX7_init 47 = .ok (.iconst (-1), 1) := by decide +kernel
theorem dX7_init_48 : decode cX7_init 48 = .ok (.putfield 32, 3) := by decide +kernel
theorem dX7_init_51 : decode cX7_init 51 = .ok (.aload_n 0, 1) := by decide +kernel
theorem dX7_init_52 : decode cX7_init 52 = .ok (.iconst 0, 1) := by decide +kernel
theorem dX7_init_53 : decode cX7_init 53 = .ok (.putfield 35, 3) := by decide +kernel
theorem dX7_init_56 : decode cX7_init 56 = .ok (.return_, 1) := by decide +kernel
theorem dX7_look_0 : decode cX7_look 0 = .ok (.aload_n 0, 1) := by decide +kernel
theorem dX7_look_1 : decode cX7_look 1 = .ok (.aload_n 1, 1) := by decide +kernel
theorem dX7_look_2 : decode cX7_look 2 = .ok (.getfield 38, 3) := by decide +kernel
theorem dX7_look_5 : decode cX7_look 5 = .ok (.bipush 6, 2) := by decide +kernel
theorem dX7_look_7 : decode cX7_look 7 = .ok (.invokestatic 41, 3) := by decide +kernel
theorem dX7_look_10 : decode cX7_look 10 = .ok (.putfield 25, 3) := by decide +kernel
theorem dX7_look_13 : decode cX7_look 13 = .ok (.aload_n 0, 1) := by decide +kernel
theorem dX7_look_14 : decode cX7_look 14 = .ok (.iconst 1, 1) := by decide +kernel
theorem dX7_look_15 : decode cX7_look 15 = .ok (.aload_n 0, 1) := by decide +kernel
theorem dX7_look_16 : decode cX7_look 16 = .ok (.getfield 25, 3) := by decide +kernel
theorem dX7_look_19 : decode cX7_look 19 = .ok (.ishl, 1) := by decide +kernel
theorem dX7_look_20 : decode cX7_look 20 = .ok (.iconst 1, 1) := by decide +kernel
theorem dX7_look_21 : decode cX7_look 21 = .ok (.isub, 1) := by decide +kernel
theorem dX7_look_22 : decode cX7_look 22 = .ok (.putfield 29, 3) := by decide +kernel
theorem dX7_look_25 : decode cX7_look 25 = .ok (.aload_n 0, 1) := by decide +kernel
theorem dX7_look_26 : decode cX7_look 26 = .ok (.getfield 9, 3) := by decide +kernel
theorem dX7_look_29 : decode cX7_look 29 = .ok (.iconst 0, 1) := by decide +kernel
theorem dX7_look_30 : decode cX7_look 30 = .ok (.iconst 0, 1) := by decide +kernel
theorem dX7_look_31 : decode cX7_look 31 = .ok (.iastore, 1) := by decide +kernel
theorem dX7_look_32 : decode cX7_look 32 = .ok (.iconst 0, 1) := by decide +kernel
theorem dX7_look_33 : decode cX7_look 33 = .ok (.istore_n 2, 1) := by decide +kernel
theorem dX7_look_34 : decode cX7_look 34 = .ok (.iload_n 2, 1) := by decide +kernel
theorem dX7_look_35 : decode cX7_look 35 = .ok (.aload_n 0, 1) := by decide +kernel
theorem dX7_look_36 : decode cX7_look 36 = .ok (.getfield 25, 3) := by decide +kernel
theorem dX7_look_39 : decode cX7_look 39 = .ok (.if_icmp .ge 54, 3) := by decide +kernel
theorem dX7_look_42 : decode cX7_look 42 = .ok (.iconst 1, 1) := by decide +kernel
theorem dX7_look_43 : decode cX7_look 43 = .ok (.iload_n 2, 1) := by decide +kernel
theorem dX7_look_44 : decode cX7_look 44 = .ok (.ishl, 1) := by decide +kernel
theorem dX7_look_45 : decode cX7_look 45 = .ok (.istore_n 3, 1) := by decide +kernel
theorem dX7_look_46 : decode cX7_look 46 = .ok (.iconst 0, 1) := by decide +kernel
theorem dX7_look_47 : decode cX7_look 47 = .ok (.istore 4, 2) := by decide +kernel
theorem dX7_look_49 : decode cX7_look 49 = .ok (.iload 4, 2) := by decide +kernel
theorem dX7_look_51 : decode cX7_look 51 = .ok (.iload_n 3, 1) := by decide +kernel
theorem dX7_look_52 : decode cX7_look 52 = .ok (.if_icmp .ge 35, 3) := by decide +kernel
theorem dX7_look_55 : decode cX7_look 55 = .ok (.aload_n 0, 1) := by decide +kernel
theorem dX7_look_56 : decode cX7_look 56 = .ok (.getfield 9, 3) := by decide +kernel
theorem dX7_look_59 : decode cX7_look 59 = .ok (.iload 4, 2) := by decide +kernel
theorem dX7_look_61 : decode cX7_look 61 = .ok (.iload_n 3, 1) := by decide +kernel
theorem dX7_look_62 : decode cX7_look 62 = .ok (.ior, 1) := by decide +kernel
theorem dX7_look_63 : decode cX7_look 63 = .ok (.aload_n 1, 1) := by decide +kernel
theorem dX7_look_64 : decode cX7_look 64 = .ok (.aload_n 0, 1) := by decide +kernel
theorem dX7_look_65 : decode cX7_look 65 = .ok (.getfield 9, 3) := by decide +kernel
theorem dX7_look_68 : decode cX7_look 68 = .ok (.iload 4, 2) := by decide +kernel
theorem dX7_look_70 : decode cX7_look 70 = .ok (.iaload, 1) := by decide +kernel
theorem dX7_look_71 : decode cX7_look 71 = .ok (.aload_n 1, 1) := by decide +kernel
theorem dX7_look_72 : decode cX7_look 72 = .ok (.iload_n 2, 1) := by decide +kernel
theorem dX7_look_73 : decode cX7_look 73 = .ok (.invokevirtual 47, 3) := by decide +kernel
theorem dX7_look_76 : decode cX7_look 76 = .ok (.iadd, 1) := by decide +kernel
theorem dX7_look_77 : decode cX7_look 77 = .ok (.invokevirtual 51, 3) := by decide +kernel
theorem dX7_look_80 : decode cX7_look 80 = .ok (.iastore, 1) := by decide +kernel
theorem dX7_look_81 : decode cX7_look 81 = .ok (.iinc 4 1, 3) := by decide +kernel
theorem dX7_look_84 : decode cX7_look 84 = .ok (.goto (-35), 3) := by decide +kernel
theorem dX7_look_87 : decode cX7_look 87 = .ok (.iinc 2 1, 3) := by decide +kernel
theorem dX7_look_90 : decode cX7_look 90 = .ok (.goto (-56), 3) := by decide +kernel
theorem dX7_look_93 : decode cX7_look 93 = .ok (.iconst 0, 1) := by decide +kernel
theorem dX7_look_94 : decode cX7_look 94 = .ok (.istore_n 2, 1) := by decide +kernel
theorem dX7_look_95 : decode cX7_look 95 = .ok (.iload_n 2, 1) := by decide +kernel
theorem dX7_look_96 : decode cX7_look 96 = .ok (.aload_n 0, 1) := by decide +kernel
theorem dX7_look_97 : decode cX7_look 97 = .ok (.getfield 29, 3) := by decide +kernel
theorem dX7_look_100 : decode cX7_look 100 = .ok (.if_icmp .gt 46, 3) := by decide +kernel
theorem dX7_look_103 : decode cX7_look 103 = .ok (.aload_n 0, 1) := by decide +kernel
theorem dX7_look_104 : decode cX7_look 104 = .ok (.getfield 15, 3) := by decide +kernel
theorem dX7_look_107 : decode cX7_look 107 = .ok (.iload_n 2, 1) := by decide +kernel
theorem dX7_look_108 : decode cX7_look 108 = .ok (.aload_n 1, 1) := by decide +kernel
theorem dX7_look_109 : decode cX7_look 109 = .ok (.aload_n 1, 1) := by decide +kernel
theorem dX7_look_110 : decode cX7_look 110 = .ok (.getfield 54, 3) := by decide +kernel
theorem dX7_look_113 : decode cX7_look 113 = .ok (.aload_n 0, 1) := by decide +kernel
theorem dX7_look_114 : decode cX7_look 114 = .ok (.getfield 9, 3) := by decide +kernel
theorem dX7_look_117 : decode cX7_look 117 = .ok (.iload_n 2, 1) := by decide +kernel
theorem dX7_look_118 : decode cX7_look 118 = .ok (.iaload, 1) := by decide +kernel
theorem dX7_look_119 : decode cX7_look 119 = .ok (.iadd, 1) := by decide +kernel
theorem dX7_look_120 : decode cX7_look 120 = .ok (.invokevirtual 51, 3) := by decide +kernel
theorem dX7_look_123 : decode cX7_look 123 = .ok (.iastore, 1) := by decide +kernel
theorem dX7_look_124 : decode cX7_look 124 = .ok (.aload_n 0, 1) := by decide +kernel
theorem dX7_look_125 : decode cX7_look 125 = .ok (.getfield 18, 3) := by decide +kernel
theorem dX7_look_128 : decode cX7_look 128 = .ok (.iload_n 2, 1) := by decide +kernel
theorem dX7_look_129 : decode cX7_look 129 = .ok (.aload_n 1, 1) := by decide +kernel
theorem dX7_look_130 : decode cX7_look 130 = .ok (.aload_n 0, 1) := by decide +kernel
theorem dX7_look_131 : decode cX7_look 131 = .ok (.getfield 15, 3) := by decide +kernel
theorem dX7_look_134 : decode cX7_look 134 = .ok (.iload_n 2, 1) := by decide +kernel
theorem dX7_look_135 : decode cX7_look 135 = .ok (.iaload, 1) := by decide +kernel
theorem dX7_look_136 : decode cX7_look 136 = .ok (.invokevirtual 57, 3) := by decide +kernel
theorem dX7_look_139 : decode cX7_look 139 = .ok (.bastore, 1) := by decide +kernel
theorem dX7_look_140 : decode cX7_look 140 = .ok (.iinc 2 1, 3) := by decide +kernel
theorem dX7_look_143 : decode cX7_look 143 = .ok (.goto (-48), 3) := by decide +kernel
theorem dX7_look_146 : decode cX7_look 146 = .ok (.return_, 1) := by decide +kernel
theorem dX7_isIn_0 : decode cX7_isIn 0 = .ok (.iload_n 0, 1) := by decide +kernel
theorem dX7_isIn_1 : decode cX7_isIn 1 = .ok (.iload_n 1, 1) := by decide +kernel
theorem dX7_isIn_2 : decode cX7_isIn 2 = .ok (.ishr, 1) := by decide +kernel
theorem dX7_isIn_3 : decode cX7_isIn 3 = .ok (.iconst 1, 1) := by decide +kernel
theorem dX7_isIn_4 : decode cX7_isIn 4 = .ok (.iand, 1) := by decide +kernel
theorem dX7_isIn_5 : decode cX7_isIn 5 = .ok (.iconst 1, 1) := by decide +kernel
theorem dX7_isIn_6 : decode cX7_isIn 6 = .ok (.if_icmp .ne 7, 3) := by decide +kernel
theorem dX7_isIn_9 : decode cX7_isIn 9 = .ok (.iconst 1, 1) := by decide +kernel
theorem dX7_isIn_10 : decode cX7_isIn 10 = .ok (.goto 4, 3) := by decide +kernel
theorem dX7_isIn_13 : decode cX7_isIn 13 = .ok (.iconst 0, 1) := by decide +kernel
theorem dX7_isIn_14 : decode cX7_isIn 14 = .ok (.ireturn, 1) := by decide +kernel
theorem dX7_weigh_0 : decode cX7_weigh 0 = .ok (.aload_n 0, 1) := by decide +kernel
theorem dX7_weigh_1 : decode cX7_weigh 1 = .ok (.iload_n 1, 1) := by decide +kernel
theorem dX7_weigh_2 : decode cX7_weigh 2 = .ok (.putfield 32, 3) := by decide +kernel
theorem dX7_weigh_5 : decode cX7_weigh 5 = .ok (.aload_n 0, 1) := by decide +kernel
theorem dX7_weigh_6 : decode cX7_weigh 6 = .ok (.iload_n 2, 1) := by decide +kernel
theorem dX7_weigh_7 : decode cX7_weigh 7 = .ok (.putfield 35, 3) := by decide +kernel
theorem dX7_weigh_10 : decode cX7_weigh 10 = .ok (.aload_n 0, 1) := by decide +kernel
theorem dX7_weigh_11 : decode cX7_weigh 11 = .ok (.getfield 22, 3) := by decide +kernel
theorem dX7_weigh_14 : decode cX7_weigh 14 = .ok (.aload_n 0, 1) := by decide +kernel
theorem dX7_weigh_15 : decode cX7_weigh 15 = .ok (.getfield 29, 3) := by decide +kernel
theorem dX7_weigh_18 : decode cX7_weigh 18 = .ok (.iconst 0, 1) := by decide +kernel
theorem dX7_weigh_19 : decode cX7_weigh 19 = .ok (.iastore, 1) := by decide +kernel
theorem dX7_weigh_20 : decode cX7_weigh 20 = .ok (.aload_n 0, 1) := by decide +kernel
theorem dX7_weigh_21 : decode cX7_weigh 21 = .ok (.getfield 29, 3) := by decide +kernel
theorem dX7_weigh_24 : decode cX7_weigh 24 = .ok (.iconst 1, 1) := by decide +kernel
theorem dX7_weigh_25 : decode cX7_weigh 25 = .ok (.isub, 1) := by decide +kernel
theorem dX7_weigh_26 : decode cX7_weigh 26 = .ok (.istore_n 3, 1) := by decide +kernel
theorem dX7_weigh_27 : decode cX7_weigh 27 = .ok (.iload_n 3, 1) := by decide +kernel
theorem dX7_weigh_28 : decode cX7_weigh 28 = .ok (.ifCond .lt 62, 3) := by decide +kernel
theorem dX7_weigh_31 : decode cX7_weigh 31 = .ok (.bipush 64, 2) := by decide +kernel
theorem dX7_weigh_33 : decode cX7_weigh 33 = .ok (.istore 4, 2) := by decide +kernel
theorem dX7_weigh_35 : decode cX7_weigh 35 = .ok (.iconst 0, 1) := by decide +kernel
theorem dX7_weigh_36 : decode cX7_weigh 36 = .ok (.istore 5, 2) := by decide +kernel
theorem dX7_weigh_38 : decode cX7_weigh 38 = .ok (.iload 5, 2) := by decide +kernel
theorem dX7_weigh_40 : decode cX7_weigh 40 = .ok (.aload_n 0, 1) := by decide +kernel
theorem dX7_weigh_41 : decode cX7_weigh 41 = .ok (.getfield 25, 3) := by decide +kernel
theorem dX7_weigh_44 : decode cX7_weigh 44 = .ok (.if_icmp .ge 32, 3) := by decide +kernel
theorem dX7_weigh_47 : decode cX7_weigh 47 = .ok (.iload_n 3, 1) := by decide +kernel
theorem dX7_weigh_48 : decode cX7_weigh 48 = .ok (.iload 5, 2) := by decide +kernel
theorem dX7_weigh_50 : decode cX7_weigh 50 = .ok (.invokestatic 61, 3) := by decide +kernel
theorem dX7_weigh_53 : decode cX7_weigh 53 = .ok (.ifCond .ne 17, 3) := by decide +kernel
theorem dX7_weigh_56 : decode cX7_weigh 56 = .ok (.iload 4, 2) := by decide +kernel
theorem dX7_weigh_58 : decode cX7_weigh 58 = .ok (.aload_n 0, 1) := by decide +kernel
theorem dX7_weigh_59 : decode cX7_weigh 59 = .ok (.iload_n 3, 1) := by decide +kernel
theorem dX7_weigh_60 : decode cX7_weigh 60 = .ok (.iload 5, 2) := by decide +kernel
theorem dX7_weigh_62 : decode cX7_weigh 62 = .ok (.invokevirtual 65, 3) := by decide +kernel
theorem dX7_weigh_65 : decode cX7_weigh 65 = .ok (.invokestatic 41, 3) := by decide +kernel
theorem dX7_weigh_68 : decode cX7_weigh 68 = .ok (.istore 4, 2) := by decide +kernel
theorem dX7_weigh_70 : decode cX7_weigh 70 = .ok (.iinc 5 1, 3) := by decide +kernel
theorem dX7_weigh_73 : decode cX7_weigh 73 = .ok (.goto (-35), 3) := by decide +kernel
theorem dX7_weigh_76 : decode cX7_weigh 76 = .ok (.aload_n 0, 1) := by decide +kernel
theorem dX7_weigh_77 : decode cX7_weigh 77 = .ok (.getfield 22, 3) := by decide +kernel
theorem dX7_weigh_80 : decode cX7_weigh 80 = .ok (.iload_n 3, 1) := by decide +kernel
theorem dX7_weigh_81 : decode cX7_weigh 81 = .ok (.iload 4, 2) := by decide +kernel
theorem dX7_weigh_83 : decode cX7_weigh 83 = .ok (.iastore, 1) := by decide +kernel
theorem dX7_weigh_84 : decode cX7_weigh 84 = .ok (.iinc 3 (-1), 3) := by decide +kernel
theorem dX7_weigh_87 : decode cX7_weigh 87 = .ok (.goto (-60), 3) := by decide +kernel
theorem dX7_weigh_90 : decode cX7_weigh 90 = .ok (.return_, 1) := by decide +kernel
theorem dX7_wrongsBy_0 : decode cX7_wrongsBy 0 = .ok (.iload_n 1, 1) := by decide +kernel
theorem dX7_wrongsBy_1 : decode cX7_wrongsBy 1 = .ok (.iconst 1, 1) := by decide +kernel
theorem dX7_wrongsBy_2 : decode cX7_wrongsBy 2 = .ok (.iload_n 2, 1) := by decide +kernel
theorem dX7_wrongsBy_3 : decode cX7_wrongsBy 3 = .ok (.ishl, 1) := by decide +kernel
theorem dX7_wrongsBy_4 : decode cX7_wrongsBy 4 = .ok (.ior, 1) := by decide +kernel
theorem dX7_wrongsBy_5 : decode cX7_wrongsBy 5 = .ok (.istore_n 3, 1) := by decide +kernel
theorem dX7_wrongsBy_6 : decode cX7_wrongsBy 6 = .ok (.aload_n 0, 1) := by decide +kernel
theorem dX7_wrongsBy_7 : decode cX7_wrongsBy 7 = .ok (.getfield 22, 3) := by decide +kernel
theorem dX7_wrongsBy_10 : decode cX7_wrongsBy 10 = .ok (.iload_n 3, 1) := by decide +kernel
theorem dX7_wrongsBy_11 : decode cX7_wrongsBy 11 = .ok (.iaload, 1) := by decide +kernel
theorem dX7_wrongsBy_12 : decode cX7_wrongsBy 12 = .ok (.istore 4, 2) := by decide +kernel
theorem dX7_wrongsBy_14 : decode cX7_wrongsBy 14 = .ok (.aload_n 0, 1) := by decide +kernel
theorem dX7_wrongsBy_15 : decode cX7_wrongsBy 15 = .ok (.getfield 18, 3) := by decide +kernel
theorem dX7_wrongsBy_18 : decode cX7_wrongsBy 18 = .ok (.iload_n 3, 1) := by decide +kernel
theorem dX7_wrongsBy_19 : decode cX7_wrongsBy 19 = .ok (.baload, 1) := by decide +kernel
theorem dX7_wrongsBy_20 : decode cX7_wrongsBy 20 = .ok (.ifCond .eq 6, 3) := by decide +kernel
theorem dX7_wrongsBy_23 : decode cX7_wrongsBy 23 = .ok (.iinc 4 1, 3) := by decide +kernel
theorem dX7_wrongsBy_26 : decode cX7_wrongsBy 26 = .ok (.iload_n 2, 1) := by decide +kernel
theorem dX7_wrongsBy_27 : decode cX7_wrongsBy 27 = .ok (.aload_n 0, 1) := by decide +kernel
theorem dX7_wrongsBy_28 : decode cX7_wrongsBy 28 = .ok (.getfield 32, 3) := by decide +kernel
theorem dX7_wrongsBy_31 : decode cX7_wrongsBy 31 = .ok (.if_icmp .ne 19, 3) := by decide +kernel
theorem dX7_wrongsBy_34 : decode cX7_wrongsBy 34 = .ok (.aload_n 0, 1) := by decide +kernel
theorem dX7_wrongsBy_35 : decode cX7_wrongsBy 35 = .ok (.getfield 15, 3) := by decide +kernel
theorem dX7_wrongsBy_38 : decode cX7_wrongsBy 38 = .ok (.iload_n 3, 1) := by decide +kernel
theorem dX7_wrongsBy_39 : decode cX7_wrongsBy 39 = .ok (.iaload, 1) := by decide +kernel
theorem dX7_wrongsBy_40 : decode cX7_wrongsBy 40 = .ok (.aload_n 0, 1) := by decide +kernel
theorem dX7_wrongsBy_41 : decode cX7_wrongsBy 41 = .ok (.getfield 35, 3) := by decide +kernel
theorem dX7_wrongsBy_44 : decode cX7_wrongsBy 44 = .ok (.if_icmp .eq 6, 3) := by decide +kernel
theorem dX7_wrongsBy_47 : decode cX7_wrongsBy 47 = .ok (.iinc 4 1, 3) := by decide +kernel
theorem dX7_wrongsBy_50 : decode cX7_wrongsBy 50 = .ok (.iload 4, 2) := by decide +kernel
theorem dX7_wrongsBy_52 : decode cX7_wrongsBy 52 = .ok (.ireturn, 1) := by decide +kernel
theorem dX7_fewestWrongs_0 : decode cX7_fewestWrongs 0 = .ok (.aload_n 0, 1) := by decide +kernel
theorem dX7_fewestWrongs_1 : decode cX7_fewestWrongs 1 = .ok (.getfield 22, 3) := by decide +kernel
theorem dX7_fewestWrongs_4 : decode cX7_fewestWrongs 4 = .ok (.iconst 0, 1) := by decide +kernel
theorem dX7_fewestWrongs_5 : decode cX7_fewestWrongs 5 = .ok (.iaload, 1) := by decide +kernel
theorem dX7_fewestWrongs_6 : decode cX7_fewestWrongs 6 = .ok (.ireturn, 1) := by decide +kernel
theorem dX7_tellFirstOrder_0 : decode cX7_tellFirstOrder 0 = .ok (.aload_n 1, 1) := by decide +kernel
theorem dX7_tellFirstOrder_1 : decode cX7_tellFirstOrder 1 = .ok (.aload_n 0, 1) := by decide +kernel
theorem dX7_tellFirstOrder_2 : decode cX7_tellFirstOrder 2 = .ok (.getfield 25, 3) := by decide +kernel
theorem dX7_tellFirstOrder_5 : decode cX7_tellFirstOrder 5 = .ok (.iconst 0, 1) := by decide +kernel
theorem dX7_tellFirstOrder_6 : decode cX7_tellFirstOrder 6 = .ok (.invokevirtual 68, 3) := by decide +kernel
theorem dX7_tellFirstOrder_9 : decode cX7_tellFirstOrder 9 = .ok (.iconst 0, 1) := by decide +kernel
theorem dX7_tellFirstOrder_10 : decode cX7_tellFirstOrder 10 = .ok (.istore_n 2, 1) := by decide +kernel
theorem dX7_tellFirstOrder_11 : decode cX7_tellFirstOrder 11 = .ok (.iconst 0, 1) := by decide +kernel
theorem dX7_tellFirstOrder_12 : decode cX7_tellFirstOrder 12 = .ok (.istore_n 3, 1) := by decide +kernel
theorem dX7_tellFirstOrder_13 : decode cX7_tellFirstOrder 13 = .ok (.iload_n 3, 1) := by decide +kernel
theorem dX7_tellFirstOrder_14 : decode cX7_tellFirstOrder 14 = .ok (.aload_n 0, 1) := by decide +kernel
theorem dX7_tellFirstOrder_15 : decode cX7_tellFirstOrder 15 = .ok (.getfield 25, 3) := by decide +kernel
theorem dX7_tellFirstOrder_18 : decode cX7_tellFirstOrder 18 = .ok (.if_icmp .ge 31, 3) := by decide +kernel
theorem dX7_tellFirstOrder_21 : decode cX7_tellFirstOrder 21 = .ok (.aload_n 0, 1) := by decide +kernel
theorem dX7_tellFirstOrder_22 : decode cX7_tellFirstOrder 22 = .ok (.iload_n 2, 1) := by decide +kernel
theorem dX7_tellFirstOrder_23 : decode cX7_tellFirstOrder 23 = .ok (.invokevirtual 74, 3) := by decide +kernel
theorem dX7_tellFirstOrder_26 : decode cX7_tellFirstOrder 26 = .ok (.istore 4, 2) := by decide +kernel
theorem dX7_tellFirstOrder_28 : decode cX7_tellFirstOrder 28 = .ok (.aload_n 1, 1) := by decide +kernel
theorem dX7_tellFirstOrder_29 : decode cX7_tellFirstOrder 29 = .ok (.iload_n 3, 1) := by decide +kernel
theorem dX7_tellFirstOrder_30 : decode cX7_tellFirstOrder 30 = .ok (.iload 4, 2) := by decide +kernel
theorem dX7_tellFirstOrder_32 : decode cX7_tellFirstOrder 32 = .ok (.invokevirtual 77, 3) := by decide +kernel
theorem dX7_tellFirstOrder_35 : decode cX7_tellFirstOrder 35 = .ok (.pop, 1) := by decide +kernel
theorem dX7_tellFirstOrder_36 : decode cX7_tellFirstOrder 36 = .ok (.iload_n 2, 1) := by decide +kernel
theorem dX7_tellFirstOrder_37 : decode cX7_tellFirstOrder 37 = .ok (.iconst 1, 1) := by decide +kernel
theorem dX7_tellFirstOrder_38 : decode cX7_tellFirstOrder 38 = .ok (.iload 4, 2) := by decide +kernel
theorem dX7_tellFirstOrder_40 : decode cX7_tellFirstOrder 40 = .ok (.ishl, 1) := by decide +kernel
theorem dX7_tellFirstOrder_41 : decode cX7_tellFirstOrder 41 = .ok (.ior, 1) := by decide +kernel
theorem dX7_tellFirstOrder_42 : decode cX7_tellFirstOrder 42 = .ok (.istore_n 2, 1) := by decide +kernel
theorem dX7_tellFirstOrder_43 : decode cX7_tellFirstOrder 43 = .ok (.iinc 3 1, 3) := by decide +kernel
theorem dX7_tellFirstOrder_46 : decode cX7_tellFirstOrder 46 = .ok (.goto (-33), 3) := by decide +kernel
theorem dX7_tellFirstOrder_49 : decode cX7_tellFirstOrder 49 = .ok (.return_, 1) := by decide +kernel
theorem dX7_firstBehind_0 : decode cX7_firstBehind 0 = .ok (.iconst 0, 1) := by decide +kernel
theorem dX7_firstBehind_1 : decode cX7_firstBehind 1 = .ok (.istore_n 2, 1) := by decide +kernel
theorem dX7_firstBehind_2 : decode cX7_firstBehind 2 = .ok (.iload_n 2, 1) := by decide +kernel
theorem dX7_firstBehind_3 : decode cX7_firstBehind 3 = .ok (.aload_n 0, 1) := by decide +kernel
theorem dX7_firstBehind_4 : decode cX7_firstBehind 4 = .ok (.getfield 25, 3) := by decide +kernel
theorem dX7_firstBehind_7 : decode cX7_firstBehind 7 = .ok (.if_icmp .ge 34, 3) := by decide +kernel
theorem dX7_firstBehind_10 : decode cX7_firstBehind 10 = .ok (.iload_n 1, 1) := by decide +kernel
theorem dX7_firstBehind_11 : decode cX7_firstBehind 11 = .ok (.iload_n 2, 1) := by decide +kernel
theorem dX7_firstBehind_12 : decode cX7_firstBehind 12 = .ok (.invokestatic 61, 3) := by decide +kernel
theorem dX7_firstBehind_15 : decode cX7_firstBehind 15 = .ok (.ifCond .ne 20, 3) := by decide +kernel
theorem dX7_firstBehind_18 : decode cX7_firstBehind 18 = .ok (.aload_n 0, 1) := by decide +kernel
theorem dX7_firstBehind_19 : decode cX7_firstBehind 19 = .ok (.iload_n 1, 1) := by decide +kernel
theorem dX7_firstBehind_20 : decode cX7_firstBehind 20 = .ok (.iload_n 2, 1) := by decide +kernel
theorem dX7_firstBehind_21 : decode cX7_firstBehind 21 = .ok (.invokevirtual 65, 3) := by decide +kernel
theorem dX7_firstBehind_24 : decode cX7_firstBehind 24 = .ok (.aload_n 0, 1) := by decide +kernel
theorem dX7_firstBehind_25 : decode cX7_firstBehind 25 = .ok (.getfield 22, 3) := by decide +kernel
theorem dX7_firstBehind_28 : decode cX7_firstBehind 28 = .ok (.iload_n 1, 1) := by decide +kernel
theorem dX7_firstBehind_29 : decode cX7_firstBehind 29 = .ok (.iaload, 1) := by decide +kernel
theorem dX7_firstBehind_30 : decode cX7_firstBehind 30 = .ok (.if_icmp .ne 5, 3) := by decide +kernel
theorem dX7_firstBehind_33 : decode cX7_firstBehind 33 = .ok (.iload_n 2, 1) := by decide +kernel
theorem dX7_firstBehind_34 : decode cX7_firstBehind 34 = .ok (.ireturn, 1) := by decide +kernel
theorem dX7_firstBehind_35 : decode cX7_firstBehind 35 = .ok (.iinc 2 1, 3) := by decide +kernel
theorem dX7_firstBehind_38 : decode cX7_firstBehind 38 = .ok (.goto (-36), 3) := by decide +kernel
theorem dX7_firstBehind_41 : decode cX7_firstBehind 41 = .ok (.iconst 0, 1) := by decide +kernel
theorem dX7_firstBehind_42 : decode cX7_firstBehind 42 = .ok (.ireturn, 1) := by decide +kernel
theorem dX7_countQuiet_0 : decode cX7_countQuiet 0 = .ok (.aload_n 0, 1) := by decide +kernel
theorem dX7_countQuiet_1 : decode cX7_countQuiet 1 = .ok (.getfield 22, 3) := by decide +kernel
theorem dX7_countQuiet_4 : decode cX7_countQuiet 4 = .ok (.iconst 0, 1) := by decide +kernel
theorem dX7_countQuiet_5 : decode cX7_countQuiet 5 = .ok (.iconst 1, 1) := by decide +kernel
theorem dX7_countQuiet_6 : decode cX7_countQuiet 6 = .ok (.iastore, 1) := by decide +kernel
theorem dX7_countQuiet_7 : decode cX7_countQuiet 7 = .ok (.iconst 1, 1) := by decide +kernel
theorem dX7_countQuiet_8 : decode cX7_countQuiet 8 = .ok (.istore_n 1, 1) := by decide +kernel
theorem dX7_countQuiet_9 : decode cX7_countQuiet 9 = .ok (.iload_n 1, 1) := by decide +kernel
theorem dX7_countQuiet_10 : decode cX7_countQuiet 10 = .ok (.aload_n 0, 1) := by decide +kernel
theorem dX7_countQuiet_11 : decode cX7_countQuiet 11 = .ok (.getfield 29, 3) := by decide +kernel
theorem dX7_countQuiet_14 : decode cX7_countQuiet 14 = .ok (.if_icmp .gt 68, 3) := by decide +kernel
theorem dX7_countQuiet_17 : decode cX7_countQuiet 17 = .ok (.iconst 0, 1) := by decide +kernel
theorem dX7_countQuiet_18 : decode cX7_countQuiet 18 = .ok (.istore_n 2, 1) := by decide +kernel
theorem dX7_countQuiet_19 : decode cX7_countQuiet 19 = .ok (.iconst 0, 1) := by decide +kernel
theorem dX7_countQuiet_20 : decode cX7_countQuiet 20 = .ok (.istore_n 3, 1) := by decide +kernel
theorem dX7_countQuiet_21 : decode cX7_countQuiet 21 = .ok (.iload_n 3, 1) := by decide +kernel
theorem dX7_countQuiet_22 : decode cX7_countQuiet 22 = .ok (.aload_n 0, 1) := by decide +kernel
theorem dX7_countQuiet_23 : decode cX7_countQuiet 23 = .ok (.getfield 25, 3) := by decide +kernel
theorem dX7_countQuiet_26 : decode cX7_countQuiet 26 = .ok (.if_icmp .ge 30, 3) := by decide +kernel
theorem dX7_countQuiet_29 : decode cX7_countQuiet 29 = .ok (.iload_n 1, 1) := by decide +kernel
theorem dX7_countQuiet_30 : decode cX7_countQuiet 30 = .ok (.iload_n 3, 1) := by decide +kernel
theorem dX7_countQuiet_31 : decode cX7_countQuiet 31 = .ok (.invokestatic 61, 3) := by decide +kernel
theorem dX7_countQuiet_34 : decode cX7_countQuiet 34 = .ok (.ifCond .eq 16, 3) := by decide +kernel
theorem dX7_countQuiet_37 : decode cX7_countQuiet 37 = .ok (.iload_n 2, 1) := by decide +kernel
theorem dX7_countQuiet_38 : decode cX7_countQuiet 38 = .ok (.aload_n 0, 1) := by decide +kernel
theorem dX7_countQuiet_39 : decode cX7_countQuiet 39 = .ok (.getfield 22, 3) := by decide +kernel
theorem dX7_countQuiet_42 : decode cX7_countQuiet 42 = .ok (.iload_n 1, 1) := by decide +kernel
theorem dX7_countQuiet_43 : decode cX7_countQuiet 43 = .ok (.iconst 1, 1) := by decide +kernel
theorem dX7_countQuiet_44 : decode cX7_countQuiet 44 = .ok (.iload_n 3, 1) := by decide +kernel
theorem dX7_countQuiet_45 : decode cX7_countQuiet 45 = .ok (.ishl, 1) := by decide +kernel
theorem dX7_countQuiet_46 : decode cX7_countQuiet 46 = .ok (.ixor, 1) := by decide +kernel
theorem dX7_countQuiet_47 : decode cX7_countQuiet 47 = .ok (.iaload, 1) := by decide +kernel
theorem dX7_countQuiet_48 : decode cX7_countQuiet 48 = .ok (.iadd, 1) := by decide +kernel
theorem dX7_countQuiet_49 : decode cX7_countQuiet 49 = .ok (.istore_n 2, 1) := by decide +kernel
theorem dX7_countQuiet_50 : decode cX7_countQuiet 50 = .ok (.iinc 3 1, 3) := by decide +kernel
theorem dX7_countQuiet_53 : decode cX7_countQuiet 53 = .ok (.goto (-32), 3) := by decide +kernel
theorem dX7_countQuiet_56 : decode cX7_countQuiet 56 = .ok (.aload_n 0, 1) := by decide +kernel
theorem dX7_countQuiet_57 : decode cX7_countQuiet 57 = .ok (.getfield 22, 3) := by decide +kernel
theorem dX7_countQuiet_60 : decode cX7_countQuiet 60 = .ok (.iload_n 1, 1) := by decide +kernel
theorem dX7_countQuiet_61 : decode cX7_countQuiet 61 = .ok (.aload_n 0, 1) := by decide +kernel
theorem dX7_countQuiet_62 : decode cX7_countQuiet 62 = .ok (.getfield 18, 3) := by decide +kernel
theorem dX7_countQuiet_65 : decode cX7_countQuiet 65 = .ok (.iload_n 1, 1) := by decide +kernel
theorem dX7_countQuiet_66 : decode cX7_countQuiet 66 = .ok (.baload, 1) := by decide +kernel
theorem dX7_countQuiet_67 : decode cX7_countQuiet 67 = .ok (.ifCond .eq 7, 3) := by decide +kernel
theorem dX7_countQuiet_70 : decode cX7_countQuiet 70 = .ok (.iconst 0, 1) := by decide +kernel
theorem dX7_countQuiet_71 : decode cX7_countQuiet 71 = .ok (.goto 4, 3) := by decide +kernel
theorem dX7_countQuiet_74 : decode cX7_countQuiet 74 = .ok (.iload_n 2, 1) := by decide +kernel
theorem dX7_countQuiet_75 : decode cX7_countQuiet 75 = .ok (.iastore, 1) := by decide +kernel
theorem dX7_countQuiet_76 : decode cX7_countQuiet 76 = .ok (.iinc 1 1, 3) := by decide +kernel
theorem dX7_countQuiet_79 : decode cX7_countQuiet 79 = .ok (.goto (-70), 3) := by decide +kernel
theorem dX7_countQuiet_82 : decode cX7_countQuiet 82 = .ok (.aload_n 0, 1) := by decide +kernel
theorem dX7_countQuiet_83 : decode cX7_countQuiet 83 = .ok (.getfield 22, 3) := by decide +kernel
theorem dX7_countQuiet_86 : decode cX7_countQuiet 86 = .ok (.aload_n 0, 1) := by decide +kernel
theorem dX7_countQuiet_87 : decode cX7_countQuiet 87 = .ok (.getfield 29, 3) := by decide +kernel
theorem dX7_countQuiet_90 : decode cX7_countQuiet 90 = .ok (.iaload, 1) := by decide +kernel
theorem dX7_countQuiet_91 : decode cX7_countQuiet 91 = .ok (.ireturn, 1) := by decide +kernel
theorem dX7_lastInQuiet_0 : decode cX7_lastInQuiet 0 = .ok (.iconst 0, 1) := by decide +kernel
theorem dX7_lastInQuiet_1 : decode cX7_lastInQuiet 1 = .ok (.istore_n 1, 1) := by decide +kernel
theorem dX7_lastInQuiet_2 : decode cX7_lastInQuiet 2 = .ok (.iconst 0, 1) := by decide +kernel
theorem dX7_lastInQuiet_3 : decode cX7_lastInQuiet 3 = .ok (.istore_n 2, 1) := by decide +kernel
theorem dX7_lastInQuiet_4 : decode cX7_lastInQuiet 4 = .ok (.iload_n 2, 1) := by decide +kernel
theorem dX7_lastInQuiet_5 : decode cX7_lastInQuiet 5 = .ok (.aload_n 0, 1) := by decide +kernel
theorem dX7_lastInQuiet_6 : decode cX7_lastInQuiet 6 = .ok (.getfield 25, 3) := by decide +kernel
theorem dX7_lastInQuiet_9 : decode cX7_lastInQuiet 9 = .ok (.if_icmp .ge 43, 3) := by decide +kernel
theorem dX7_lastInQuiet_12 : decode cX7_lastInQuiet 12 = .ok (.aload_n 0, 1) := by decide +kernel
theorem dX7_lastInQuiet_13 : decode cX7_lastInQuiet 13 = .ok (.getfield 22, 3) := by decide +kernel
theorem dX7_lastInQuiet_16 : decode cX7_lastInQuiet 16 = .ok (.aload_n 0, 1) := by decide +kernel
theorem dX7_lastInQuiet_17 : decode cX7_lastInQuiet 17 = .ok (.getfield 29, 3) := by decide +kernel
theorem dX7_lastInQuiet_20 : decode cX7_lastInQuiet 20 = .ok (.iaload, 1) := by decide +kernel
theorem dX7_lastInQuiet_21 : decode cX7_lastInQuiet 21 = .ok (.ifCond .le 25, 3) := by decide +kernel
theorem dX7_lastInQuiet_24 : decode cX7_lastInQuiet 24 = .ok (.aload_n 0, 1) := by decide +kernel
theorem dX7_lastInQuiet_25 : decode cX7_lastInQuiet 25 = .ok (.getfield 22, 3) := by decide +kernel
theorem dX7_lastInQuiet_28 : decode cX7_lastInQuiet 28 = .ok (.aload_n 0, 1) := by decide +kernel
theorem dX7_lastInQuiet_29 : decode cX7_lastInQuiet 29 = .ok (.getfield 29, 3) := by decide +kernel
theorem dX7_lastInQuiet_32 : decode cX7_lastInQuiet 32 = .ok (.iconst 1, 1) := by decide +kernel
theorem dX7_lastInQuiet_33 : decode cX7_lastInQuiet 33 = .ok (.iload_n 2, 1) := by decide +kernel
theorem dX7_lastInQuiet_34 : decode cX7_lastInQuiet 34 = .ok (.ishl, 1) := by decide +kernel
theorem dX7_lastInQuiet_35 : decode cX7_lastInQuiet 35 = .ok (.ixor, 1) := by decide +kernel
theorem dX7_lastInQuiet_36 : decode cX7_lastInQuiet 36 = .ok (.iaload, 1) := by decide +kernel
theorem dX7_lastInQuiet_37 : decode cX7_lastInQuiet 37 = .ok (.ifCond .le 9, 3) := by decide +kernel
theorem dX7_lastInQuiet_40 : decode cX7_lastInQuiet 40 = .ok (.iload_n 1, 1) := by decide +kernel
theorem dX7_lastInQuiet_41 : decode cX7_lastInQuiet 41 = .ok (.iconst 1, 1) := by decide +kernel
theorem dX7_lastInQuiet_42 : decode cX7_lastInQuiet 42 = .ok (.iload_n 2, 1) := by decide +kernel
theorem dX7_lastInQuiet_43 : decode cX7_lastInQuiet 43 = .ok (.ishl, 1) := by decide +kernel
theorem dX7_lastInQuiet_44 : decode cX7_lastInQuiet 44 = .ok (.ior, 1) := by decide +kernel
theorem dX7_lastInQuiet_45 : decode cX7_lastInQuiet 45 = .ok (.istore_n 1, 1) := by decide +kernel
theorem dX7_lastInQuiet_46 : decode cX7_lastInQuiet 46 = .ok (.iinc 2 1, 3) := by decide +kernel
theorem dX7_lastInQuiet_49 : decode cX7_lastInQuiet 49 = .ok (.goto (-45), 3) := by decide +kernel
theorem dX7_lastInQuiet_52 : decode cX7_lastInQuiet 52 = .ok (.iload_n 1, 1) := by decide +kernel
theorem dX7_lastInQuiet_53 : decode cX7_lastInQuiet 53 = .ok (.ireturn, 1) := by decide +kernel
theorem dX7_firstFit_0 : decode cX7_firstFit 0 = .ok (.iconst 0, 1) := by decide +kernel
theorem dX7_firstFit_1 : decode cX7_firstFit 1 = .ok (.istore_n 2, 1) := by decide +kernel
theorem dX7_firstFit_2 : decode cX7_firstFit 2 = .ok (.iload_n 2, 1) := by decide +kernel
theorem dX7_firstFit_3 : decode cX7_firstFit 3 = .ok (.aload_n 0, 1) := by decide +kernel
theorem dX7_firstFit_4 : decode cX7_firstFit 4 = .ok (.getfield 29, 3) := by decide +kernel
theorem dX7_firstFit_7 : decode cX7_firstFit 7 = .ok (.if_icmp .gt 21, 3) := by decide +kernel
theorem dX7_firstFit_10 : decode cX7_firstFit 10 = .ok (.aload_n 0, 1) := by decide +kernel
theorem dX7_firstFit_11 : decode cX7_firstFit 11 = .ok (.getfield 9, 3) := by decide +kernel
theorem dX7_firstFit_14 : decode cX7_firstFit 14 = .ok (.iload_n 2, 1) := by decide +kernel
theorem dX7_firstFit_15 : decode cX7_firstFit 15 = .ok (.iaload, 1) := by decide +kernel
theorem dX7_firstFit_16 : decode cX7_firstFit 16 = .ok (.iload_n 1, 1) := by decide +kernel
theorem dX7_firstFit_17 : decode cX7_firstFit 17 = .ok (.if_icmp .ne 5, 3) := by decide +kernel
theorem dX7_firstFit_20 : decode cX7_firstFit 20 = .ok (.iload_n 2, 1) := by decide +kernel
theorem dX7_firstFit_21 : decode cX7_firstFit 21 = .ok (.ireturn, 1) := by decide +kernel
theorem dX7_firstFit_22 : decode cX7_firstFit 22 = .ok (.iinc 2 1, 3) := by decide +kernel
theorem dX7_firstFit_25 : decode cX7_firstFit 25 = .ok (.goto (-23), 3) := by decide +kernel
theorem dX7_firstFit_28 : decode cX7_firstFit 28 = .ok (.bipush (-9), 2) := by decide +kernel
theorem dX7_firstFit_30 : decode cX7_firstFit 30 = .ok (.ireturn, 1) := by decide +kernel
theorem dX7_countFits_0 : decode cX7_countFits 0 = .ok (.iconst 0, 1) := by decide +kernel
theorem dX7_countFits_1 : decode cX7_countFits 1 = .ok (.istore_n 3, 1) := by decide +kernel
theorem dX7_countFits_2 : decode cX7_countFits 2 = .ok (.iconst 0, 1) := by decide +kernel
theorem dX7_countFits_3 : decode cX7_countFits 3 = .ok (.istore 4, 2) := by decide +kernel
theorem dX7_countFits_5 : decode cX7_countFits 5 = .ok (.iload 4, 2) := by decide +kernel
theorem dX7_countFits_7 : decode cX7_countFits 7 = .ok (.aload_n 0, 1) := by decide +kernel
theorem dX7_countFits_8 : decode cX7_countFits 8 = .ok (.getfield 29, 3) := by decide +kernel
theorem dX7_countFits_11 : decode cX7_countFits 11 = .ok (.if_icmp .gt 31, 3) := by decide +kernel
theorem dX7_countFits_14 : decode cX7_countFits 14 = .ok (.aload_n 0, 1) := by decide +kernel
theorem dX7_countFits_15 : decode cX7_countFits 15 = .ok (.getfield 9, 3) := by decide +kernel
theorem dX7_countFits_18 : decode cX7_countFits 18 = .ok (.iload 4, 2) := by decide +kernel
theorem dX7_countFits_20 : decode cX7_countFits 20 = .ok (.iaload, 1) := by decide +kernel
theorem dX7_countFits_21 : decode cX7_countFits 21 = .ok (.iload_n 1, 1) := by decide +kernel
theorem dX7_countFits_22 : decode cX7_countFits 22 = .ok (.if_icmp .ne 14, 3) := by decide +kernel
theorem dX7_countFits_25 : decode cX7_countFits 25 = .ok (.iload 4, 2) := by decide +kernel
theorem dX7_countFits_27 : decode cX7_countFits 27 = .ok (.iload_n 2, 1) := by decide +kernel
theorem dX7_countFits_28 : decode cX7_countFits 28 = .ok (.iand, 1) := by decide +kernel
theorem dX7_countFits_29 : decode cX7_countFits 29 = .ok (.iload_n 2, 1) := by decide +kernel
theorem dX7_countFits_30 : decode cX7_countFits 30 = .ok (.if_icmp .ne 6, 3) := by decide +kernel
theorem dX7_countFits_33 : decode cX7_countFits 33 = .ok (.iinc 3 1, 3) := by decide +kernel
theorem dX7_countFits_36 : decode cX7_countFits 36 = .ok (.iinc 4 1, 3) := by decide +kernel
theorem dX7_countFits_39 : decode cX7_countFits 39 = .ok (.goto (-34), 3) := by decide +kernel
theorem dX7_countFits_42 : decode cX7_countFits 42 = .ok (.iload_n 3, 1) := by decide +kernel
theorem dX7_countFits_43 : decode cX7_countFits 43 = .ok (.ireturn, 1) := by decide +kernel
theorem dX8_init_0 : decode cX8_init 0 = .ok (.aload_n 0, 1) := by decide +kernel
theorem dX8_init_1 : decode cX8_init 1 = .ok (.invokespecial 3, 3) := by decide +kernel
theorem dX8_init_4 : decode cX8_init 4 = .ok (.aload_n 0, 1) := by decide +kernel
theorem dX8_init_5 : decode cX8_init 5 = .ok (.iconst (-1), 1) := by decide +kernel
theorem dX8_init_6 : decode cX8_init 6 = .ok (.putfield 9, 3) := by decide +kernel
theorem dX8_init_9 : decode cX8_init 9 = .ok (.aload_n 0, 1) := by decide +kernel
theorem dX8_init_10 : decode cX8_init 10 = .ok (.iconst 0, 1) := by decide +kernel
theorem dX8_init_11 : decode cX8_init 11 = .ok (.iload_n 1, 1) := by decide +kernel
theorem dX8_init_12 : decode cX8_init 12 = .ok (.invokestatic 15, 3) := by decide +kernel
theorem dX8_init_15 : decode cX8_init 15 = .ok (.newarray .int, 2) := by decide +kernel
theorem dX8_init_17 : decode cX8_init 17 = .ok (.putfield 21, 3) := by decide +kernel
theorem dX8_init_20 : decode cX8_init 20 = .ok (.return_, 1) := by decide +kernel
theorem dX8_isThere_0 : decode cX8_isThere 0 = .ok (.aload_n 0, 1) := by decide +kernel
theorem dX8_isThere_1 : decode cX8_isThere 1 = .ok (.getfield 9, 3) := by decide +kernel
theorem dX8_isThere_4 : decode cX8_isThere 4 = .ok (.ifCond .lt 7, 3) := by decide +kernel
theorem dX8_isThere_7 : decode cX8_isThere 7 = .ok (.iconst 1, 1) := by decide +kernel
theorem dX8_isThere_8 : decode cX8_isThere 8 = .ok (.goto 4, 3) := by decide +kernel
theorem dX8_isThere_11 : decode cX8_isThere 11 = .ok (.iconst 0, 1) := by decide +kernel
theorem dX8_isThere_12 : decode cX8_isThere 12 = .ok (.ireturn, 1) := by decide +kernel
theorem dX8_has_0 : decode cX8_has 0 = .ok (.iload_n 1, 1) := by decide +kernel
theorem dX8_has_1 : decode cX8_has 1 = .ok (.ifCond .lt 15, 3) := by decide +kernel
theorem dX8_has_4 : decode cX8_has 4 = .ok (.iload_n 1, 1) := by decide +kernel
theorem dX8_has_5 : decode cX8_has 5 = .ok (.aload_n 0, 1) := by decide +kernel
theorem dX8_has_6 : decode cX8_has 6 = .ok (.getfield 9, 3) := by decide +kernel
theorem dX8_has_9 : decode cX8_has 9 = .ok (.if_icmp .ge 7, 3) := by decide +kernel
theorem dX8_has_12 : decode cX8_has 12 = .ok (.iconst 1, 1) := by decide +kernel
theorem dX8_has_13 : decode cX8_has 13 = .ok (.goto 4, 3) := by decide +kernel
theorem dX8_has_16 : decode cX8_has 16 = .ok (.iconst 0, 1) := by decide +kernel
theorem dX8_has_17 : decode cX8_has 17 = .ok (.ireturn, 1) := by decide +kernel
theorem dX8_open_0 : decode cX8_open 0 = .ok (.aload_n 0, 1) := by decide +kernel
theorem dX8_open_1 : decode cX8_open 1 = .ok (.iconst 0, 1) := by decide +kernel
theorem dX8_open_2 : decode cX8_open 2 = .ok (.iload_n 1, 1) := by decide +kernel
theorem dX8_open_3 : decode cX8_open 3 = .ok (.aload_n 0, 1) := by decide +kernel
theorem dX8_open_4 : decode cX8_open 4 = .ok (.getfield 21, 3) := by decide +kernel
theorem dX8_open_7 : decode cX8_open 7 = .ok (.arraylength, 1) := by decide +kernel
theorem dX8_open_8 : decode cX8_open 8 = .ok (.invokestatic 25, 3) := by decide +kernel
theorem dX8_open_11 : decode cX8_open 11 = .ok (.invokestatic 15, 3) := by decide +kernel
theorem dX8_open_14 : decode cX8_open 14 = .ok (.putfield 9, 3) := by decide +kernel
theorem dX8_open_17 : decode cX8_open 17 = .ok (.iconst 0, 1) := by decide +kernel
theorem dX8_open_18 : decode cX8_open 18 = .ok (.istore_n 3, 1) := by decide +kernel
theorem dX8_open_19 : decode cX8_open 19 = .ok (.iload_n 3, 1) := by decide +kernel
theorem dX8_open_20 : decode cX8_open 20 = .ok (.aload_n 0, 1) := by decide +kernel
theorem dX8_open_21 : decode cX8_open 21 = .ok (.getfield 9, 3) := by decide +kernel
theorem dX8_open_24 : decode cX8_open 24 = .ok (.if_icmp .ge 16, 3) := by decide +kernel
theorem dX8_open_27 : decode cX8_open 27 = .ok (.aload_n 0, 1) := by decide +kernel
theorem dX8_open_28 : decode cX8_open 28 = .ok (.getfield 21, 3) := by decide +kernel
theorem dX8_open_31 : decode cX8_open 31 = .ok (.iload_n 3, 1) := by decide +kernel
theorem dX8_open_32 : decode cX8_open 32 = .ok (.iload_n 2, 1) := by decide +kernel
theorem dX8_open_33 : decode cX8_open 33 = .ok (.iastore, 1) := by decide +kernel
theorem dX8_open_34 : decode cX8_open 34 = .ok (.iinc 3 1, 3) := by decide +kernel
theorem dX8_open_37 : decode cX8_open 37 = .ok (.goto (-18), 3) := by decide +kernel
theorem dX8_open_40 : decode cX8_open 40 = .ok (.return_, 1) := by decide +kernel
theorem dX8_close_0 : decode cX8_close 0 = .ok (.aload_n 0, 1) := by decide +kernel
theorem dX8_close_1 : decode cX8_close 1 = .ok (.iconst (-1), 1) := by decide +kernel
theorem dX8_close_2 : decode cX8_close 2 = .ok (.putfield 9, 3) := by decide +kernel
theorem dX8_close_5 : decode cX8_close 5 = .ok (.return_, 1) := by decide +kernel
theorem dX8_replace_0 : decode cX8_replace 0 = .ok (.aload_n 0, 1) := by decide +kernel
theorem dX8_replace_1 : decode cX8_replace 1 = .ok (.iload_n 1, 1) := by decide +kernel
theorem dX8_replace_2 : decode cX8_replace 2 = .ok (.invokevirtual 28, 3) := by decide +kernel
theorem dX8_replace_5 : decode cX8_replace 5 = .ok (.ifCond .ne 5, 3) := by decide +kernel
theorem dX8_replace_8 : decode cX8_replace 8 = .ok (.iconst 0, 1) := by decide +kernel
theorem dX8_replace_9 : decode cX8_replace 9 = .ok (.ireturn, 1) := by decide +kernel
theorem dX8_replace_10 : decode cX8_replace 10 = .ok (.aload_n 0, 1) := by decide +kernel
theorem dX8_replace_11 : decode cX8_replace 11 = .ok (.getfield 21, 3) := by decide +kernel
theorem dX8_replace_14 : decode cX8_replace 14 = .ok (.iload_n 1, 1) := by decide +kernel
theorem dX8_replace_15 : decode cX8_replace 15 = .ok (.iaload, 1) := by decide +kernel
theorem dX8_replace_16 : decode cX8_replace 16 = .ok (.istore_n 3, 1) := by decide +kernel
theorem dX8_replace_17 : decode cX8_replace 17 = .ok (.aload_n 0, 1) := by decide +kernel
theorem dX8_replace_18 : decode cX8_replace 18 = .ok (.getfield 21, 3) := by decide +kernel
theorem dX8_replace_21 : decode cX8_replace 21 = .ok (.iload_n 1, 1) := by decide +kernel
theorem dX8_replace_22 : decode cX8_replace 22 = .ok (.iload_n 2, 1) := by decide +kernel
theorem dX8_replace_23 : decode cX8_replace 23 = .ok (.iastore, 1) := by decide +kernel
theorem dX8_replace_24 : decode cX8_replace 24 = .ok (.iload_n 3, 1) := by decide +kernel
theorem dX8_replace_25 : decode cX8_replace 25 = .ok (.ireturn, 1) := by decide +kernel
theorem dX8_append_0 : decode cX8_append 0 = .ok (.aload_n 0, 1) := by decide +kernel
theorem dX8_append_1 : decode cX8_append 1 = .ok (.getfield 9, 3) := by decide +kernel
theorem dX8_append_4 : decode cX8_append 4 = .ok (.ifCond .lt 15, 3) := by decide +kernel
theorem dX8_append_7 : decode cX8_append 7 = .ok (.aload_n 0, 1) := by decide +kernel
theorem dX8_append_8 : decode cX8_append 8 = .ok (.getfield 9, 3) := by decide +kernel
theorem dX8_append_11 : decode cX8_append 11 = .ok (.aload_n 0, 1) := by decide +kernel
theorem dX8_append_12 : decode cX8_append 12 = .ok (.getfield 21, 3) := by decide +kernel
theorem dX8_append_15 : decode cX8_append 15 = .ok (.arraylength, 1) := by decide +kernel
theorem dX8_append_16 : decode cX8_append 16 = .ok (.if_icmp .lt 5, 3) := by decide +kernel
theorem dX8_append_19 : decode cX8_append 19 = .ok (.iconst 0, 1) := by decide +kernel
theorem dX8_append_20 : decode cX8_append 20 = .ok (.ireturn, 1) := by decide +kernel
theorem dX8_append_21 : decode cX8_append 21 = .ok (.aload_n 0, 1) := by decide +kernel
theorem dX8_append_22 : decode cX8_append 22 = .ok (.getfield 21, 3) := by decide +kernel
theorem dX8_append_25 : decode cX8_append 25 = .ok (.aload_n 0, 1) := by decide +kernel
theorem dX8_append_26 : decode cX8_append 26 = .ok (.getfield 9, 3) := by decide +kernel
theorem dX8_append_29 : decode cX8_append 29 = .ok (.iload_n 1, 1) := by decide +kernel
theorem dX8_append_30 : decode cX8_append 30 = .ok (.iastore, 1) := by decide +kernel
theorem dX8_append_31 : decode cX8_append 31 = .ok (.aload_n 0, 1) := by decide +kernel
theorem dX8_append_32 : decode cX8_append 32 = .ok (.dup, 1) := by decide +kernel
theorem dX8_append_33 : decode cX8_append 33 = .ok (.getfield 9, 3) := by decide +kernel
theorem dX8_append_36 : decode cX8_append 36 = .ok (.iconst 1, 1) := by decide +kernel
theorem dX8_append_37 : decode cX8_append 37 = .ok (.iadd, 1) := by decide +kernel
theorem dX8_append_38 : decode cX8_append 38 = .ok (.putfield 9, 3) := by decide +kernel
theorem dX8_append_41 : decode cX8_append 41 = .ok (.iconst 1, 1) := by decide +kernel
theorem dX8_append_42 : decode cX8_append 42 = .ok (.ireturn, 1) := by decide +kernel
theorem dX8_takeFrom_0 : decode cX8_takeFrom 0 = .ok (.aload_n 0, 1) := by decide +kernel
theorem dX8_takeFrom_1 : decode cX8_takeFrom 1 = .ok (.aload_n 1, 1) := by decide +kernel
theorem dX8_takeFrom_2 : decode cX8_takeFrom 2 = .ok (.getfield 9, 3) := by decide +kernel
theorem dX8_takeFrom_5 : decode cX8_takeFrom 5 = .ok (.aload_n 0, 1) := by decide +kernel
theorem dX8_takeFrom_6 : decode cX8_takeFrom 6 = .ok (.getfield 21, 3) := by decide +kernel
theorem dX8_takeFrom_9 : decode cX8_takeFrom 9 = .ok (.arraylength, 1) := by decide +kernel
theorem dX8_takeFrom_10 : decode cX8_takeFrom 10 = .ok (.invokestatic 25, 3) := by decide +kernel
theorem dX8_takeFrom_13 : decode cX8_takeFrom 13 = .ok (.putfield 9, 3) := by decide +kernel
theorem dX8_takeFrom_16 : decode cX8_takeFrom 16 = .ok (.iconst 0, 1) := by decide +kernel
theorem dX8_takeFrom_17 : decode cX8_takeFrom 17 = .ok (.istore_n 2, 1) := by decide +kernel
theorem dX8_takeFrom_18 : decode cX8_takeFrom 18 = .ok (.iload_n 2, 1) := by decide +kernel
theorem dX8_takeFrom_19 : decode cX8_takeFrom 19 = .ok (.aload_n 0, 1) := by decide +kernel
theorem dX8_takeFrom_20 : decode cX8_takeFrom 20 = .ok (.getfield 9, 3) := by decide +kernel
theorem dX8_takeFrom_23 : decode cX8_takeFrom 23 = .ok (.if_icmp .ge 21, 3) := by decide +kernel
theorem dX8_takeFrom_26 : decode cX8_takeFrom 26 = .ok (.aload_n 0, 1) := by decide +kernel
theorem dX8_takeFrom_27 : decode cX8_takeFrom 27 = .ok (.getfield 21, 3) := by decide +kernel
theorem dX8_takeFrom_30 : decode cX8_takeFrom 30 = .ok (.iload_n 2, 1) := by decide +kernel
theorem dX8_takeFrom_31 : decode cX8_takeFrom 31 = .ok (.aload_n 1, 1) := by decide +kernel
theorem dX8_takeFrom_32 : decode cX8_takeFrom 32 = .ok (.getfield 21, 3) := by decide +kernel
theorem dX8_takeFrom_35 : decode cX8_takeFrom 35 = .ok (.iload_n 2, 1) := by decide +kernel
theorem dX8_takeFrom_36 : decode cX8_takeFrom 36 = .ok (.iaload, 1) := by decide +kernel
theorem dX8_takeFrom_37 : decode cX8_takeFrom 37 = .ok (.iastore, 1) := by decide +kernel
theorem dX8_takeFrom_38 : decode cX8_takeFrom 38 = .ok (.iinc 2 1, 3) := by decide +kernel
theorem dX8_takeFrom_41 : decode cX8_takeFrom 41 = .ok (.goto (-23), 3) := by decide +kernel
theorem dX8_takeFrom_44 : decode cX8_takeFrom 44 = .ok (.return_, 1) := by decide +kernel
theorem dX8_placeOf_0 : decode cX8_placeOf 0 = .ok (.iconst 0, 1) := by decide +kernel
theorem dX8_placeOf_1 : decode cX8_placeOf 1 = .ok (.istore_n 2, 1) := by decide +kernel
theorem dX8_placeOf_2 : decode cX8_placeOf 2 = .ok (.iload_n 2, 1) := by decide +kernel
theorem dX8_placeOf_3 : decode cX8_placeOf 3 = .ok (.aload_n 0, 1) := by decide +kernel
theorem dX8_placeOf_4 : decode cX8_placeOf 4 = .ok (.getfield 9, 3) := by decide +kernel
theorem dX8_placeOf_7 : decode cX8_placeOf 7 = .ok (.if_icmp .ge 21, 3) := by decide +kernel
theorem dX8_placeOf_10 : decode cX8_placeOf 10 = .ok (.aload_n 0, 1) := by decide +kernel
theorem dX8_placeOf_11 : decode cX8_placeOf 11 = .ok (.getfield 21, 3) := by decide +kernel
theorem dX8_placeOf_14 : decode cX8_placeOf 14 = .ok (.iload_n 2, 1) := by decide +kernel
theorem dX8_placeOf_15 : decode cX8_placeOf 15 = .ok (.iaload, 1) := by decide +kernel
theorem dX8_placeOf_16 : decode cX8_placeOf 16 = .ok (.iload_n 1, 1) := by decide +kernel
theorem dX8_placeOf_17 : decode cX8_placeOf 17 = .ok (.if_icmp .ne 5, 3) := by decide +kernel
theorem dX8_placeOf_20 : decode cX8_placeOf 20 = .ok (.iload_n 2, 1) := by decide +kernel
theorem dX8_placeOf_21 : decode cX8_placeOf 21 = .ok (.ireturn, 1) := by decide +kernel
theorem dX8_placeOf_22 : decode cX8_placeOf 22 = .ok (.iinc 2 1, 3) := by decide +kernel
theorem dX8_placeOf_25 : decode cX8_placeOf 25 = .ok (.goto (-23), 3) := by decide +kernel
theorem dX8_placeOf_28 : decode cX8_placeOf 28 = .ok (.bipush (-9), 2) := by decide +kernel
theorem dX8_placeOf_30 : decode cX8_placeOf 30 = .ok (.ireturn, 1) := by decide +kernel
theorem dX8_mixInto_0 : decode cX8_mixInto 0 = .ok (.ldc2_w 32, 3) := by decide +kernel
theorem dX8_mixInto_3 : decode cX8_mixInto 3 = .ok (.lload_n 1, 1) := by decide +kernel
theorem dX8_mixInto_4 : decode cX8_mixInto 4 = .ok (.lmul, 1) := by decide +kernel
theorem dX8_mixInto_5 : decode cX8_mixInto 5 = .ok (.aload_n 0, 1) := by decide +kernel
theorem dX8_mixInto_6 : decode cX8_mixInto 6 = .ok (.getfield 9, 3) := by decide +kernel
theorem dX8_mixInto_9 : decode cX8_mixInto 9 = .ok (.i2l, 1) := by decide +kernel
theorem dX8_mixInto_10 : decode cX8_mixInto 10 = .ok (.ladd, 1) := by decide +kernel
theorem dX8_mixInto_11 : decode cX8_mixInto 11 = .ok (.lstore_n 3, 1) := by decide +kernel
theorem dX8_mixInto_12 : decode cX8_mixInto 12 = .ok (.iconst 0, 1) := by decide +kernel
theorem dX8_mixInto_13 : decode cX8_mixInto 13 = .ok (.istore 5, 2) := by decide +kernel
theorem dX8_mixInto_15 : decode cX8_mixInto 15 = .ok (.iload 5, 2) := by decide +kernel
theorem dX8_mixInto_17 : decode cX8_mixInto 17 = .ok (.aload_n 0, 1) := by decide +kernel
theorem dX8_mixInto_18 : decode cX8_mixInto 18 = .ok (.getfield 9, 3) := by decide +kernel
theorem dX8_mixInto_21 : decode cX8_mixInto 21 = .ok (.if_icmp .ge 24, 3) := by decide +kernel
theorem dX8_mixInto_24 : decode cX8_mixInto 24 = .ok (.ldc2_w 32, 3) := by decide +kernel
theorem dX8_mixInto_27 : decode cX8_mixInto 27 = .ok (.lload_n 3, 1) := by decide +kernel
theorem dX8_mixInto_28 : decode cX8_mixInto 28 = .ok (.lmul, 1) := by decide +kernel
theorem dX8_mixInto_29 : decode cX8_mixInto 29 = .ok (.aload_n 0, 1) := by decide +kernel
theorem dX8_mixInto_30 : decode cX8_mixInto 30 = .ok (.getfield 21, 3) := by decide +kernel
theorem dX8_mixInto_33 : decode cX8_mixInto 33 = .ok (.iload 5, 2) := by decide +kernel
theorem dX8_mixInto_35 : decode cX8_mixInto 35 = .ok (.iaload, 1) := by decide +kernel
theorem dX8_mixInto_36 : decode cX8_mixInto 36 = .ok (.i2l, 1) := by decide +kernel
theorem dX8_mixInto_37 : decode cX8_mixInto 37 = .ok (.ladd, 1) := by decide +kernel
theorem dX8_mixInto_38 : decode cX8_mixInto 38 = .ok (.lstore_n 3, 1) := by decide +kernel
theorem dX8_mixInto_39 : decode cX8_mixInto 39 = .ok (.iinc 5 1, 3) := by decide +kernel
theorem dX8_mixInto_42 : decode cX8_mixInto 42 = .ok (.goto (-27), 3) := by decide +kernel
theorem dX8_mixInto_45 : decode cX8_mixInto 45 = .ok (.lload_n 3, 1) := by decide +kernel
theorem dX8_mixInto_46 : decode cX8_mixInto 46 = .ok (.lreturn, 1) := by decide +kernel
theorem dX9_init_0 : decode cX9_init 0 = .ok (.aload_n 0, 1) := by decide +kernel
theorem dX9_init_1 : decode cX9_init 1 = .ok (.iload_n 1, 1) := by decide +kernel
theorem dX9_init_2 : decode cX9_init 2 = .ok (.invokespecial 3, 3) := by decide +kernel
theorem dX9_init_5 : decode cX9_init 5 = .ok (.return_, 1) := by decide +kernel
theorem dX9_kind_0 : decode cX9_kind 0 = .ok (.iconst 5, 1) := by decide +kernel
theorem dX9_kind_1 : decode cX9_kind 1 = .ok (.ireturn, 1) := by decide +kernel
theorem dX9_bareTread_0 : decode cX9_bareTread 0 = .ok (.aload_n 0, 1) := by decide +kernel
theorem dX9_bareTread_1 : decode cX9_bareTread 1 = .ok (.invokespecial 9, 3) := by decide +kernel
theorem dX9_bareTread_4 : decode cX9_bareTread 4 = .ok (.iconst 2, 1) := by decide +kernel
theorem dX9_bareTread_5 : decode cX9_bareTread 5 = .ok (.idiv, 1) := by decide +kernel
theorem dX9_bareTread_6 : decode cX9_bareTread 6 = .ok (.ireturn, 1) := by decide +kernel
theorem dX10_init_0 : decode cX10_init 0 = .ok (.aload_n 0, 1) := by decide +kernel
theorem dX10_init_1 : decode cX10_init 1 = .ok (.invokespecial 3, 3) := by decide +kernel
theorem dX10_init_4 : decode cX10_init 4 = .ok (.aload_n 0, 1) := by decide +kernel
theorem dX10_init_5 : decode cX10_init 5 = .ok (.bipush 60, 2) := by decide +kernel
theorem dX10_init_7 : decode cX10_init 7 = .ok (.newarray .int, 2) := by decide +kernel
theorem dX10_init_9 : decode cX10_init 9 = .ok (.putfield 9, 3) := by decide +kernel
theorem dX10_init_12 : decode cX10_init 12 = .ok (.aload_n 0, 1) := by decide +kernel
theorem dX10_init_13 : decode cX10_init 13 = .ok (.bipush 60, 2) := by decide +kernel
theorem dX10_init_15 : decode cX10_init 15 = .ok (.newarray .long, 2) := by decide +kernel
theorem dX10_init_17 : decode cX10_init 17 = .ok (.putfield 15, 3) := by decide +kernel
theorem dX10_init_20 : decode cX10_init 20 = .ok (.aload_n 0, 1) := by decide +kernel
theorem dX10_init_21 : decode cX10_init 21 = .ok (.bipush 60, 2) := by decide +kernel
theorem dX10_init_23 : decode cX10_init 23 = .ok (.newarray .long, 2) := by decide +kernel
theorem dX10_init_25 : decode cX10_init 25 = .ok (.putfield 19, 3) := by decide +kernel
theorem dX10_init_28 : decode cX10_init 28 = .ok (.return_, 1) := by decide +kernel
theorem dX10_findCosts_0 : decode cX10_findCosts 0 = .ok (.iconst 0, 1) := by decide +kernel
theorem dX10_findCosts_1 : decode cX10_findCosts 1 = .ok (.istore_n 3, 1) := by decide +kernel
theorem dX10_findCosts_2 : decode cX10_findCosts 2 = .ok (.iload_n 3, 1) := by decide +kernel
theorem dX10_findCosts_3 : decode cX10_findCosts 3 = .ok (.bipush 60, 2) := by decide +kernel
theorem dX10_findCosts_5 : decode cX10_findCosts 5 = .ok (.if_icmp .ge 25, 3) := by decide +kernel
theorem dX10_findCosts_8 : decode cX10_findCosts 8 = .ok (.aload_n 0, 1) := by decide +kernel
theorem dX10_findCosts_9 : decode cX10_findCosts 9 = .ok (.getfield 9, 3) := by decide +kernel
theorem dX10_findCosts_12 : decode cX10_findCosts 12 = .ok (.iload_n 3, 1) := by decide +kernel
theorem dX10_findCosts_13 : decode cX10_findCosts 13 = .ok (.iload_n 3, 1) := by decide +kernel
theorem dX10_findCosts_14 : decode cX10_findCosts 14 = .ok (.ifCond .ne 7, 3) := by decide +kernel
theorem dX10_findCosts_17 : decode cX10_findCosts 17 = .ok (.iconst 0, 1) := by decide +kernel
theorem dX10_findCosts_18 : decode cX10_findCosts 18 = .ok (.goto 5, 3) := by decide +kernel
theorem dX10_findCosts_21 : decode cX10_findCosts 21 = .ok (.ldc 22, 2) := by decide +kernel
theorem dX10_findCosts_23 : decode cX10_findCosts 23 = .ok (.iastore, 1) := by decide +kernel
theorem dX10_findCosts_24 : decode cX10_findCosts 24 = .ok (.iinc 3 1, 3) := by decide +kernel
theorem dX10_findCosts_27 : decode cX10_findCosts 27 = .ok (.goto (-25), 3) := by decide +kernel
theorem dX10_findCosts_30 : decode cX10_findCosts 30 = .ok (.iconst 1, 1) := by decide +kernel
theorem dX10_findCosts_31 : decode cX10_findCosts 31 = .ok (.istore_n 3, 1) := by decide +kernel
theorem dX10_findCosts_32 : decode cX10_findCosts 32 = .ok (.iconst 0, 1) := by decide +kernel
theorem dX10_findCosts_33 : decode cX10_findCosts 33 = .ok (.istore 4, 2) := by decide +kernel
theorem dX10_findCosts_35 : decode cX10_findCosts 35 = .ok (.iload 4, 2) := by decide +kernel
theorem dX10_findCosts_37 : decode cX10_findCosts 37 = .ok (.bipush 60, 2) := by decide +kernel
theorem dX10_findCosts_39 : decode cX10_findCosts 39 = .ok (.if_icmp .ge 69, 3) := by decide +kernel
theorem dX10_findCosts_42 : decode cX10_findCosts 42 = .ok (.iload_n 3, 1) := by decide +kernel
theorem dX10_findCosts_43 : decode cX10_findCosts 43 = .ok (.ifCond .eq 65, 3) := by decide +kernel
theorem dX10_findCosts_46 : decode cX10_findCosts 46 = .ok (.iconst 0, 1) := by decide +kernel
theorem dX10_findCosts_47 : decode cX10_findCosts 47 = .ok (.istore_n 3, 1) := by decide +kernel
theorem dX10_findCosts_48 : decode cX10_findCosts 48 = .ok (.iconst 0, 1) := by decide +kernel
theorem dX10_findCosts_49 : decode cX10_findCosts 49 = .ok (.istore 5, 2) := by decide +kernel
theorem dX10_findCosts_51 : decode cX10_findCosts 51 = .ok (.iload 5, 2) := by decide +kernel
theorem dX10_findCosts_53 : decode cX10_findCosts 53 = .ok (.aload_n 1, 1) := by decide +kernel
theorem dX10_findCosts_54 : decode cX10_findCosts 54 = .ok (.getfield 23, 3) := by decide +kernel
theorem dX10_findCosts_57 : decode cX10_findCosts 57 = .ok (.if_icmp .ge 45, 3) := by decide +kernel
theorem dX10_findCosts_60 : decode cX10_findCosts 60 = .ok (.iload_n 2, 1) := by decide +kernel
theorem dX10_findCosts_61 : decode cX10_findCosts 61 = .ok (.ifCond .eq 16, 3) := by decide +kernel
theorem dX10_findCosts_64 : decode cX10_findCosts 64 = .ok (.aload_n 1, 1) := by decide +kernel
theorem dX10_findCosts_65 : decode cX10_findCosts 65 = .ok (.getfield 29, 3) := by decide +kernel
theorem dX10_findCosts_68 : decode cX10_findCosts 68 = .ok (.iload 5, 2) := by decide +kernel
theorem dX10_findCosts_70 : decode cX10_findCosts 70 = .ok (.aaload, 1) := by decide +kernel
theorem dX10_findCosts_71 : decode cX10_findCosts 71 = .ok (.getfield 33, 3) := by decide +kernel
theorem dX10_findCosts_74 : decode cX10_findCosts 74 = .ok (.goto 4, 3) := by decide +kernel
theorem dX10_findCosts_77 : decode cX10_findCosts 77 = .ok (.iconst 1, 1) := by decide +kernel
theorem dX10_findCosts_78 : decode cX10_findCosts 78 = .ok (.istore 6, 2) := by decide +kernel
theorem dX10_findCosts_80 : decode cX10_findCosts 80 = .ok (.iload_n 3, 1) := by decide +kernel
theorem dX10_findCosts_81 : decode cX10_findCosts 81 = .ok (.aload_n 0, 1) := by decide +kernel
theorem dX10_findCosts_82 : decode cX10_findCosts 82 = .ok (.aload_n 1, 1) := by decide +kernel
theorem dX10_findCosts_83 : decode cX10_findCosts 83 = .ok (.aload_n 1, 1) := by decide +kernel
theorem dX10_findCosts_84 : decode cX10_findCosts 84 = .ok (.iload 5, 2) := by decide +kernel
theorem dX10_findCosts_86 : decode cX10_findCosts 86 = .ok (.invokevirtual 38, 3) := by decide +kernel
theorem dX10_findCosts_89 : decode cX10_findCosts 89 = .ok (.iload 6, 2) := by decide +kernel
theorem dX10_findCosts_91 : decode cX10_findCosts 91 = .ok (.invokevirtual 42, 3) := by decide +kernel
theorem dX10_findCosts_94 : decode cX10_findCosts 94 = .ok (.ior, 1) := by decide +kernel
theorem dX10_findCosts_95 : decode cX10_findCosts 95 = .ok (.istore_n 3, 1) := by decide +kernel
theorem dX10_findCosts_96 : decode cX10_findCosts 96 = .ok (.iinc 5 1, 3) := by decide +kernel
theorem dX10_findCosts_99 : decode cX10_findCosts 99 = .ok (.goto (-48), 3) := by decide +kernel
theorem dX10_findCosts_102 : decode cX10_findCosts 102 = .ok (.iinc 4 1, 3) := by decide +kernel
theorem dX10_findCosts_105 : decode cX10_findCosts 105 = .ok (.goto (-70), 3) := by decide +kernel
theorem dX10_findCosts_108 : decode cX10_findCosts 108 = .ok (.return_, 1) := by decide +kernel
theorem dX10_spread_0 : decode cX10_spread 0 = .ok (.iconst 0, 1) := by decide +kernel
theorem dX10_spread_1 : decode cX10_spread 1 = .ok (.istore 4, 2) := by decide +kernel
theorem dX10_spread_3 : decode cX10_spread 3 = .ok (.iconst 0, 1) := by decide +kernel
theorem dX10_spread_4 : decode cX10_spread 4 = .ok (.istore 5, 2) := by decide +kernel
theorem dX10_spread_6 : decode cX10_spread 6 = .ok (.iload 5, 2) := by decide +kernel
theorem dX10_spread_8 : decode cX10_spread 8 = .ok (.aload_n 1, 1) := by decide +kernel
theorem dX10_spread_9 : decode cX10_spread 9 = .ok (.getfield 46, 3) := by decide +kernel
theorem dX10_spread_12 : decode cX10_spread 12 = .ok (.if_icmp .ge 57, 3) := by decide +kernel
theorem dX10_spread_15 : decode cX10_spread 15 = .ok (.aload_n 1, 1) := by decide +kernel
theorem dX10_spread_16 : decode cX10_spread 16 = .ok (.iload 5, 2) := by decide +kernel
theorem dX10_spread_18 : decode cX10_spread 18 = .ok (.iload_n 2, 1) := by decide +kernel
theorem dX10_spread_19 : decode cX10_spread 19 = .ok (.iadd, 1) := by decide +kernel
theorem dX10_spread_20 : decode cX10_spread 20 = .ok (.invokevirtual 49, 3) := by decide +kernel
theorem dX10_spread_23 : decode cX10_spread 23 = .ok (.istore 6, 2) := by decide +kernel
theorem dX10_spread_25 : decode cX10_spread 25 = .ok (.aload_n 0, 1) := by decide +kernel
theorem dX10_spread_26 : decode cX10_spread 26 = .ok (.getfield 9, 3) := by decide +kernel
theorem dX10_spread_29 : decode cX10_spread 29 = .ok (.iload 5, 2) := by decide +kernel
theorem dX10_spread_31 : decode cX10_spread 31 = .ok (.iaload, 1) := by decide +kernel
theorem dX10_spread_32 : decode cX10_spread 32 = .ok (.iload_n 3, 1) := by decide +kernel
theorem dX10_spread_33 : decode cX10_spread 33 = .ok (.iadd, 1) := by decide +kernel
theorem dX10_spread_34 : decode cX10_spread 34 = .ok (.aload_n 0, 1) := by decide +kernel
theorem dX10_spread_35 : decode cX10_spread 35 = .ok (.getfield 9, 3) := by decide +kernel
theorem dX10_spread_38 : decode cX10_spread 38 = .ok (.iload 6, 2) := by decide +kernel
theorem dX10_spread_40 : decode cX10_spread 40 = .ok (.iaload, 1) := by decide +kernel
theorem dX10_spread_41 : decode cX10_spread 41 = .ok (.if_icmp .ge 22, 3) := by decide +kernel
theorem dX10_spread_44 : decode cX10_spread 44 = .ok (.aload_n 0, 1) := by decide +kernel
theorem dX10_spread_45 : decode cX10_spread 45 = .ok (.getfield 9, 3) := by decide +kernel
theorem dX10_spread_48 : decode cX10_spread 48 = .ok (.iload 6, 2) := by decide +kernel
theorem dX10_spread_50 : decode cX10_spread 50 = .ok (.aload_n 0, 1) := by decide +kernel
theorem dX10_spread_51 : decode cX10_spread 51 = .ok (.getfield 9, 3) := by decide +kernel
theorem dX10_spread_54 : decode cX10_spread 54 = .ok (.iload 5, 2) := by decide +kernel
theorem dX10_spread_56 : decode cX10_spread 56 = .ok (.iaload, 1) := by decide +kernel
theorem dX10_spread_57 : decode cX10_spread 57 = .ok (.iload_n 3, 1) := by decide +kernel
theorem dX10_spread_58 : decode cX10_spread 58 = .ok (.iadd, 1) := by decide +kernel
theorem dX10_spread_59 : decode cX10_spread 59 = .ok (.iastore, 1) := by decide +kernel
theorem dX10_spread_60 : decode cX10_spread 60 = .ok (.iconst 1, 1) := by decide +kernel
theorem dX10_spread_61 : decode cX10_spread 61 = .ok (.istore 4, 2) := by decide +kernel
theorem dX10_spread_63 : decode cX10_spread 63 = .ok (.iinc 5 1, 3) := by decide +kernel
theorem dX10_spread_66 : decode cX10_spread 66 = .ok (.goto (-60), 3) := by decide +kernel
theorem dX10_spread_69 : decode cX10_spread 69 = .ok (.iload 4, 2) := by decide +kernel
theorem dX10_spread_71 : decode cX10_spread 71 = .ok (.ireturn, 1) := by decide +kernel
theorem dX10_costOf_0 : decode cX10_costOf 0 = .ok (.aload_n 0, 1) := by decide +kernel
theorem dX10_costOf_1 : decode cX10_costOf 1 = .ok (.getfield 9, 3) := by decide +kernel
theorem dX10_costOf_4 : decode cX10_costOf 4 = .ok (.iload_n 1, 1) := by decide +kernel
theorem dX10_costOf_5 : decode cX10_costOf 5 = .ok (.iaload, 1) := by decide +kernel
theorem dX10_costOf_6 : decode cX10_costOf 6 = .ok (.ldc 22, 2) := by decide +kernel
theorem dX10_costOf_8 : decode cX10_costOf 8 = .ok (.if_icmp .lt 8, 3) := by decide +kernel
theorem dX10_costOf_11 : decode cX10_costOf 11 = .ok (.bipush (-9), 2) := by decide +kernel
theorem dX10_costOf_13 : decode cX10_costOf 13 = .ok (.goto 9, 3) := by decide +kernel
theorem dX10_costOf_16 : decode cX10_costOf 16 = .ok (.aload_n 0, 1) := by decide +kernel
theorem dX10_costOf_17 : decode cX10_costOf 17 = .ok (.getfield 9, 3) := by decide +kernel
theorem dX10_costOf_20 : decode cX10_costOf 20 = .ok (.iload_n 1, 1) := by decide +kernel
theorem dX10_costOf_21 : decode cX10_costOf 21 = .ok (.iaload, 1) := by decide +kernel
theorem dX10_costOf_22 : decode cX10_costOf 22 = .ok (.ireturn, 1) := by decide +kernel
theorem dX10_firstWalker_0 : decode cX10_firstWalker 0 = .ok (.iconst 0, 1) := by decide +kernel
theorem dX10_firstWalker_1 : decode cX10_firstWalker 1 = .ok (.istore_n 3, 1) := by decide +kernel
theorem dX10_firstWalker_2 : decode cX10_firstWalker 2 = .ok (.iload_n 3, 1) := by decide +kernel
theorem dX10_firstWalker_3 : decode cX10_firstWalker 3 = .ok (.aload_n 1, 1) := by decide +kernel
theorem dX10_firstWalker_4 : decode cX10_firstWalker 4 = .ok (.getfield 23, 3) := by decide +kernel
theorem dX10_firstWalker_7 : decode cX10_firstWalker 7 = .ok (.if_icmp .ge 38, 3) := by decide +kernel
theorem dX10_firstWalker_10 : decode cX10_firstWalker 10 = .ok (.aload_n 0, 1) := by decide +kernel
theorem dX10_firstWalker_11 : decode cX10_firstWalker 11 = .ok (.getfield 9, 3) := by decide +kernel
theorem dX10_firstWalker_14 : decode cX10_firstWalker 14 = .ok (.aload_n 1, 1) := by decide +kernel
theorem dX10_firstWalker_15 : decode cX10_firstWalker 15 = .ok (.iload_n 2, 1) := by decide +kernel
theorem dX10_firstWalker_16 : decode cX10_firstWalker 16 = .ok (.aload_n 1, 1) := by decide +kernel
theorem dX10_firstWalker_17 : decode cX10_firstWalker 17 = .ok (.iload_n 3, 1) := by decide +kernel
theorem dX10_firstWalker_18 : decode cX10_firstWalker 18 = .ok (.invokevirtual 38, 3) := by decide +kernel
theorem dX10_firstWalker_21 : decode cX10_firstWalker 21 = .ok (.isub, 1) := by decide +kernel
theorem dX10_firstWalker_22 : decode cX10_firstWalker 22 = .ok (.invokevirtual 49, 3) := by decide +kernel
theorem dX10_firstWalker_25 : decode cX10_firstWalker 25 = .ok (.iaload, 1) := by decide +kernel
theorem dX10_firstWalker_26 : decode cX10_firstWalker 26 = .ok (.aload_n 0, 1) := by decide +kernel
theorem dX10_firstWalker_27 : decode cX10_firstWalker 27 = .ok (.getfield 9, 3) := by decide +kernel
theorem dX10_firstWalker_30 : decode cX10_firstWalker 30 = .ok (.iload_n 2, 1) := by decide +kernel
theorem dX10_firstWalker_31 : decode cX10_firstWalker 31 = .ok (.iaload, 1) := by decide +kernel
theorem dX10_firstWalker_32 : decode cX10_firstWalker 32 = .ok (.iconst 1, 1) := by decide +kernel
theorem dX10_firstWalker_33 : decode cX10_firstWalker 33 = .ok (.isub, 1) := by decide +kernel
theorem dX10_firstWalker_34 : decode cX10_firstWalker 34 = .ok (.if_icmp .ne 5, 3) := by decide +kernel
theorem dX10_firstWalker_37 : decode cX10_firstWalker 37 = .ok (.iload_n 3, 1) := by decide +kernel
theorem dX10_firstWalker_38 : decode cX10_firstWalker 38 = .ok (.ireturn, 1) := by decide +kernel
theorem dX10_firstWalker_39 : decode cX10_firstWalker 39 = .ok (.iinc 3 1, 3) := by decide +kernel
theorem dX10_firstWalker_42 : decode cX10_firstWalker 42 = .ok (.goto (-40), 3) := by decide +kernel
theorem dX10_firstWalker_45 : decode cX10_firstWalker 45 = .ok (.bipush (-9), 2) := by decide +kernel
theorem dX10_firstWalker_47 : decode cX10_firstWalker 47 = .ok (.ireturn, 1) := by decide +kernel
theorem dX10_countRows_0 : decode cX10_countRows 0 = .ok (.iconst 0, 1) := by decide +kernel
theorem dX10_countRows_1 : decode cX10_countRows 1 = .ok (.istore_n 3, 1) := by decide +kernel
theorem dX10_countRows_2 : decode cX10_countRows 2 = .ok (.iload_n 3, 1) := by decide +kernel
theorem dX10_countRows_3 : decode cX10_countRows 3 = .ok (.bipush 60, 2) := by decide +kernel
theorem dX10_countRows_5 : decode cX10_countRows 5 = .ok (.if_icmp .ge 24, 3) := by decide +kernel
theorem dX10_countRows_8 : decode cX10_countRows 8 = .ok (.aload_n 0, 1) := by decide +kernel
theorem dX10_countRows_9 : decode cX10_countRows 9 = .ok (.getfield 15, 3) := by decide +kernel
theorem dX10_countRows_12 : decode cX10_countRows 12 = .ok (.iload_n 3, 1) := by decide +kernel
theorem dX10_countRows_13 : decode cX10_countRows 13 = .ok (.iload_n 3, 1) := by decide +kernel
theorem dX10_countRows_14 : decode cX10_countRows 14 = .ok (.ifCond .ne 7, 3) := by decide +kernel
theorem dX10_countRows_17 : decode cX10_countRows 17 = .ok (.lconst 1, 1) := by decide +kernel
theorem dX10_countRows_18 : decode cX10_countRows 18 = .ok (.goto 4, 3) := by decide +kernel
theorem dX10_countRows_21 : decode cX10_countRows 21 = .ok (.lconst 0, 1) := by decide +kernel
theorem dX10_countRows_22 : decode cX10_countRows 22 = .ok (.lastore, 1) := by decide +kernel
theorem dX10_countRows_23 : decode cX10_countRows 23 = .ok (.iinc 3 1, 3) := by decide +kernel
theorem dX10_countRows_26 : decode cX10_countRows 26 = .ok (.goto (-24), 3) := by decide +kernel
theorem dX10_countRows_29 : decode cX10_countRows 29 = .ok (.iconst 0, 1) := by decide +kernel
theorem dX10_countRows_30 : decode cX10_countRows 30 = .ok (.istore_n 3, 1) := by decide +kernel
theorem dX10_countRows_31 : decode cX10_countRows 31 = .ok (.iload_n 3, 1) := by decide +kernel
theorem dX10_countRows_32 : decode cX10_countRows 32 = .ok (.iload_n 2, 1) := by decide +kernel
theorem dX10_countRows_33 : decode cX10_countRows 33 = .ok (.if_icmp .ge 14, 3) := by decide +kernel
theorem dX10_countRows_36 : decode cX10_countRows 36 = .ok (.aload_n 0, 1) := by decide +kernel
theorem dX10_countRows_37 : decode cX10_countRows 37 = .ok (.aload_n 1, 1) := by decide +kernel
theorem dX10_countRows_38 : decode cX10_countRows 38 = .ok (.invokevirtual 52, 3) := by decide +kernel
theorem dX10_countRows_41 : decode cX10_countRows 41 = .ok (.iinc 3 1, 3) := by decide +kernel
theorem dX10_countRows_44 : decode cX10_countRows 44 = .ok (.goto (-13), 3) := by decide +kernel
theorem dX10_countRows_47 : decode cX10_countRows 47 = .ok (.return_, 1) := by decide +kernel
theorem dX10_countOneMore_0 : decode cX10_countOneMore 0 = .ok (.iconst 0, 1) := by decide +kernel
theorem dX10_countOneMore_1 : decode cX10_countOneMore 1 = .ok (.istore_n 2, 1) := by decide +kernel
theorem dX10_countOneMore_2 : decode cX10_countOneMore 2 = .ok (.iload_n 2, 1) := by decide +kernel
theorem dX10_countOneMore_3 : decode cX10_countOneMore 3 = .ok (.bipush 60, 2) := by decide +kernel
theorem dX10_countOneMore_5 : decode cX10_countOneMore 5 = .ok (.if_icmp .ge 28, 3) := by decide +kernel
theorem dX10_countOneMore_8 : decode cX10_countOneMore 8 = .ok (.aload_n 0, 1) := by decide +kernel
theorem dX10_countOneMore_9 : decode cX10_countOneMore 9 = .ok (.getfield 19, 3) := by decide +kernel
theorem dX10_countOneMore_12 : decode cX10_countOneMore 12 = .ok (.iload_n 2, 1) := by decide +kernel
theorem dX10_countOneMore_13 : decode cX10_countOneMore 13 = .ok (.aload_n 0, 1) := by decide +kernel
theorem dX10_countOneMore_14 : decode cX10_countOneMore 14 = .ok (.getfield 15, 3) := by decide +kernel
theorem dX10_countOneMore_17 : decode cX10_countOneMore 17 = .ok (.iload_n 2, 1) := by decide +kernel
theorem dX10_countOneMore_18 : decode cX10_countOneMore 18 = .ok (.laload, 1) := by decide +kernel
theorem dX10_countOneMore_19 : decode cX10_countOneMore 19 = .ok (.lastore, 1) := by decide +kernel
theorem dX10_countOneMore_20 : decode cX10_countOneMore 20 = .ok (.aload_n 0, 1) := by decide +kernel
theorem dX10_countOneMore_21 : decode cX10_countOneMore 21 = .ok (.getfield 15, 3) := by decide +kernel
theorem dX10_countOneMore_24 : decode cX10_countOneMore 24 = .ok (.iload_n 2, 1) := by decide +kernel
theorem dX10_countOneMore_25 : decode cX10_countOneMore 25 = .ok (.lconst 0, 1) := by decide +kernel
theorem dX10_countOneMore_26 : decode cX10_countOneMore 26 = .ok (.lastore, 1) := by decide +kernel
theorem dX10_countOneMore_27 : decode cX10_countOneMore 27 = .ok (.iinc 2 1, 3) := by decide +kernel
theorem dX10_countOneMore_30 : decode cX10_countOneMore 30 = .ok (.goto (-28), 3) := by decide +kernel
theorem dX10_countOneMore_33 : decode cX10_countOneMore 33 = .ok (.iconst 0, 1) := by decide +kernel
theorem dX10_countOneMore_34 : decode cX10_countOneMore 34 = .ok (.istore_n 2, 1) := by decide +kernel
theorem dX10_countOneMore_35 : decode cX10_countOneMore 35 = .ok (.iload_n 2, 1) := by decide +kernel
theorem dX10_countOneMore_36 : decode cX10_countOneMore 36 = .ok (.aload_n 1, 1) := by decide +kernel
theorem dX10_countOneMore_37 : decode cX10_countOneMore 37 = .ok (.getfield 23, 3) := by decide +kernel
theorem dX10_countOneMore_40 : decode cX10_countOneMore 40 = .ok (.if_icmp .ge 56, 3) := by decide +kernel
theorem dX10_countOneMore_43 : decode cX10_countOneMore 43 = .ok (.aload_n 1, 1) := by decide +kernel
theorem dX10_countOneMore_44 : decode cX10_countOneMore 44 = .ok (.iload_n 2, 1) := by decide +kernel
theorem dX10_countOneMore_45 : decode cX10_countOneMore 45 = .ok (.invokevirtual 38, 3) := by decide +kernel
theorem dX10_countOneMore_48 : decode cX10_countOneMore 48 = .ok (.istore_n 3, 1) := by decide +kernel
theorem dX10_countOneMore_49 : decode cX10_countOneMore 49 = .ok (.iconst 0, 1) := by decide +kernel
theorem dX10_countOneMore_50 : decode cX10_countOneMore 50 = .ok (.istore 4, 2) := by decide +kernel
theorem dX10_countOneMore_52 : decode cX10_countOneMore 52 = .ok (.iload 4, 2) := by decide +kernel
theorem dX10_countOneMore_54 : decode cX10_countOneMore 54 = .ok (.aload_n 1, 1) := by decide +kernel
theorem dX10_countOneMore_55 : decode cX10_countOneMore 55 = .ok (.getfield 46, 3) := by decide +kernel
theorem dX10_countOneMore_58 : decode cX10_countOneMore 58 = .ok (.if_icmp .ge 32, 3) := by decide +kernel
theorem dX10_countOneMore_61 : decode cX10_countOneMore 61 = .ok (.aload_n 0, 1) := by decide +kernel
theorem dX10_countOneMore_62 : decode cX10_countOneMore 62 = .ok (.getfield 15, 3) := by decide +kernel
theorem dX10_countOneMore_65 : decode cX10_countOneMore 65 = .ok (.aload_n 1, 1) := by decide +kernel
theorem dX10_countOneMore_66 : decode cX10_countOneMore 66 = .ok (.iload 4, 2) := by decide +kernel
theorem dX10_countOneMore_68 : decode cX10_countOneMore 68 = .ok (.iload_n 3, 1) := by decide +kernel
theorem dX10_countOneMore_69 : decode cX10_countOneMore 69 = .ok (.iadd, 1) := by decide +kernel
theorem dX10_countOneMore_70 : decode cX10_countOneMore 70 = .ok (.invokevirtual 49, 3) := by decide +kernel
theorem dX10_countOneMore_73 : decode cX10_countOneMore 73 = .ok (.dup2, 1) := by decide +kernel
theorem dX10_countOneMore_74 : decode cX10_countOneMore 74 = .ok (.laload, 1) := by decide +kernel
theorem dX10_countOneMore_75 : decode cX10_countOneMore 75 = .ok (.aload_n 0, 1) := by decide +kernel
theorem dX10_countOneMore_76 : decode cX10_countOneMore 76 = .ok (.getfield 19, 3) := by decide +kernel
theorem dX10_countOneMore_79 : decode cX10_countOneMore 79 = .ok (.iload 4, 2) := by decide +kernel
theorem dX10_countOneMore_81 : decode cX10_countOneMore 81 = .ok (.laload, 1) := by decide +kernel
theorem dX10_countOneMore_82 : decode cX10_countOneMore 82 = .ok (.ladd, 1) := by decide +kernel
theorem dX10_countOneMore_83 : decode cX10_countOneMore 83 = .ok (.lastore, 1) := by decide +kernel
theorem dX10_countOneMore_84 : decode cX10_countOneMore 84 = .ok (.iinc 4 1, 3) := by decide +kernel
theorem dX10_countOneMore_87 : decode cX10_countOneMore 87 = .ok (.goto (-35), 3) := by decide +kernel
theorem dX10_countOneMore_90 : decode cX10_countOneMore 90 = .ok (.iinc 2 1, 3) := by decide +kernel
theorem dX10_countOneMore_93 : decode cX10_countOneMore 93 = .ok (.goto (-58), 3) := by decide +kernel
theorem dX10_countOneMore_96 : decode cX10_countOneMore 96 = .ok (.return_, 1) := by decide +kernel
theorem dX10_rowsOf_0 : decode cX10_rowsOf 0 = .ok (.aload_n 0, 1) := by decide +kernel
theorem dX10_rowsOf_1 : decode cX10_rowsOf 1 = .ok (.getfield 15, 3) := by decide +kernel
theorem dX10_rowsOf_4 : decode cX10_rowsOf 4 = .ok (.iload_n 1, 1) := by decide +kernel
theorem dX10_rowsOf_5 : decode cX10_rowsOf 5 = .ok (.laload, 1) := by decide +kernel
theorem dX10_rowsOf_6 : decode cX10_rowsOf 6 = .ok (.lreturn, 1) := by decide +kernel
theorem dJ9_floorMod_7cf53_0 : decode cJ9_floorMod_7cf53 0 = .ok (.iload_n 0, 1) := by decide +kernel
theorem dJ9_floorMod_7cf53_1 : decode cJ9_floorMod_7cf53 1 = .ok (.iload_n 1, 1) := by decide +kernel
theorem dJ9_floorMod_7cf53_2 : decode cJ9_floorMod_7cf53 2 = .ok (.irem, 1) := by decide +kernel
theorem dJ9_floorMod_7cf53_3 : decode cJ9_floorMod_7cf53 3 = .ok (.istore_n 2, 1) := by decide +kernel
theorem dJ9_floorMod_7cf53_4 : decode cJ9_floorMod_7cf53 4 = .ok (.iload_n 0, 1) := by decide +kernel
theorem dJ9_floorMod_7cf53_5 : decode cJ9_floorMod_7cf53 5 = .ok (.iload_n 1, 1) := by decide +kernel
theorem dJ9_floorMod_7cf53_6 : decode cJ9_floorMod_7cf53 6 = .ok (.ixor, 1) := by decide +kernel
theorem dJ9_floorMod_7cf53_7 : decode cJ9_floorMod_7cf53 7 = .ok (.ifCond .ge 11, 3) := by decide +kernel
theorem dJ9_floorMod_7cf53_10 : decode cJ9_floorMod_7cf53 10 = .ok (.iload_n 2, 1) := by decide +kernel
theorem dJ9_floorMod_7cf53_11 : decode cJ9_floorMod_7cf53 11 = .ok (.ifCond .eq 7, 3) := by decide +kernel
theorem dJ9_floorMod_7cf53_14 : decode cJ9_floorMod_7cf53 14 = .ok (.iload_n 2, 1) := by decide +kernel
theorem dJ9_floorMod_7cf53_15 : decode cJ9_floorMod_7cf53 15 = .ok (.iload_n 1, 1) := by decide +kernel
theorem dJ9_floorMod_7cf53_16 : decode cJ9_floorMod_7cf53 16 = .ok (.iadd, 1) := by decide +kernel
theorem dJ9_floorMod_7cf53_17 : decode cJ9_floorMod_7cf53 17 = .ok (.ireturn, 1) := by decide +kernel
theorem dJ9_floorMod_7cf53_18 : decode cJ9_floorMod_7cf53 18 = .ok (.iload_n 2, 1) := by decide +kernel
theorem dJ9_floorMod_7cf53_19 : decode cJ9_floorMod_7cf53 19 = .ok (.ireturn, 1) := by decide +kernel
theorem dJ9_max_7cf53_0 : decode cJ9_max_7cf53 0 = .ok (.iload_n 0, 1) := by decide +kernel
theorem dJ9_max_7cf53_1 : decode cJ9_max_7cf53 1 = .ok (.iload_n 1, 1) := by decide +kernel
theorem dJ9_max_7cf53_2 : decode cJ9_max_7cf53 2 = .ok (.if_icmp .lt 7, 3) := by decide +kernel
theorem dJ9_max_7cf53_5 : decode cJ9_max_7cf53 5 = .ok (.iload_n 0, 1) := by decide +kernel
theorem dJ9_max_7cf53_6 : decode cJ9_max_7cf53 6 = .ok (.goto 4, 3) := by decide +kernel
theorem dJ9_max_7cf53_9 : decode cJ9_max_7cf53 9 = .ok (.iload_n 1, 1) := by decide +kernel
theorem dJ9_max_7cf53_10 : decode cJ9_max_7cf53 10 = .ok (.ireturn, 1) := by decide +kernel
theorem dJ9_min_7cf53_0 : decode cJ9_min_7cf53 0 = .ok (.iload_n 0, 1) := by decide +kernel
theorem dJ9_min_7cf53_1 : decode cJ9_min_7cf53 1 = .ok (.iload_n 1, 1) := by decide +kernel
theorem dJ9_min_7cf53_2 : decode cJ9_min_7cf53 2 = .ok (.if_icmp .gt 7, 3) := by decide +kernel
theorem dJ9_min_7cf53_5 : decode cJ9_min_7cf53 5 = .ok (.iload_n 0, 1) := by decide +kernel
theorem dJ9_min_7cf53_6 : decode cJ9_min_7cf53 6 = .ok (.goto 4, 3) := by decide +kernel
theorem dJ9_min_7cf53_9 : decode cJ9_min_7cf53 9 = .ok (.iload_n 1, 1) := by decide +kernel
theorem dJ9_min_7cf53_10 : decode cJ9_min_7cf53 10 = .ok (.ireturn, 1) := by decide +kernel
