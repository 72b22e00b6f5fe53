theorem dX12_bareOf_8 : decode cX12_bareOf 8 = .ok (.getfield 33, 3) := by decide +kernel
theorem dX12_bareOf_11 : decode cX12_bareOf 11 = .ok (.iload_n 1, 1) := by decide +kernel
theorem dX12_bareOf_12 : decode cX12_bareOf 12 = .ok (.iaload, 1) := by decide +kernel
theorem dX12_bareOf_13 : decode cX12_bareOf 13 = .ok (.tableswitch 59 1 5 #[35, 47, 57, 39, 51], 35) := by decide +kernel
theorem dX12_bareOf_48 : decode cX12_bareOf 48 = .ok (.iconst 2, 1) := by decide +kernel
theorem dX12_bareOf_49 : decode cX12_bareOf 49 = .ok (.iload_n 2, 1) := by decide +kernel
theorem dX12_bareOf_50 : decode cX12_bareOf 50 = .ok (.imul, 1) := by decide +kernel
theorem dX12_bareOf_51 : decode cX12_bareOf 51 = .ok (.ireturn, 1) := by decide +kernel
theorem dX12_bareOf_52 : decode cX12_bareOf 52 = .ok (.iconst 2, 1) := by decide +kernel
theorem dX12_bareOf_53 : decode cX12_bareOf 53 = .ok (.iload_n 2, 1) := by decide +kernel
theorem dX12_bareOf_54 : decode cX12_bareOf 54 = .ok (.imul, 1) := by decide +kernel
theorem dX12_bareOf_55 : decode cX12_bareOf 55 = .ok (.iload_n 2, 1) := by decide +kernel
theorem dX12_bareOf_56 : decode cX12_bareOf 56 = .ok (.iconst 2, 1) := by decide +kernel
theorem dX12_bareOf_57 : decode cX12_bareOf 57 = .ok (.idiv, 1) := by decide +kernel
theorem dX12_bareOf_58 : decode cX12_bareOf 58 = .ok (.isub, 1) := by decide +kernel
theorem dX12_bareOf_59 : decode cX12_bareOf 59 = .ok (.ireturn, 1) := by decide +kernel
theorem dX12_bareOf_60 : decode cX12_bareOf 60 = .ok (.iload_n 2, 1) := by decide +kernel
theorem dX12_bareOf_61 : decode cX12_bareOf 61 = .ok (.iconst 1, 1) := by decide +kernel
theorem dX12_bareOf_62 : decode cX12_bareOf 62 = .ok (.isub, 1) := by decide +kernel
theorem dX12_bareOf_63 : decode cX12_bareOf 63 = .ok (.ireturn, 1) := by decide +kernel
theorem dX12_bareOf_64 : decode cX12_bareOf 64 = .ok (.iload_n 2, 1) := by decide +kernel
theorem dX12_bareOf_65 : decode cX12_bareOf 65 = .ok (.iconst 1, 1) := by decide +kernel
theorem dX12_bareOf_66 : decode cX12_bareOf 66 = .ok (.isub, 1) := by decide +kernel
theorem dX12_bareOf_67 : decode cX12_bareOf 67 = .ok (.iconst 2, 1) := by decide +kernel
theorem dX12_bareOf_68 : decode cX12_bareOf 68 = .ok (.idiv, 1) := by decide +kernel
theorem dX12_bareOf_69 : decode cX12_bareOf 69 = .ok (.ireturn, 1) := by decide +kernel
theorem dX12_bareOf_70 : decode cX12_bareOf 70 = .ok (.iconst 0, 1) := by decide +kernel
theorem dX12_bareOf_71 : decode cX12_bareOf 71 = .ok (.ireturn, 1) := by decide +kernel
theorem dX12_bareOf_72 : decode cX12_bareOf 72 = .ok (.iload_n 2, 1) := by decide +kernel
theorem dX12_bareOf_73 : decode cX12_bareOf 73 = .ok (.ireturn, 1) := by decide +kernel
theorem dX12_treadOf_0 : decode cX12_treadOf 0 = .ok (.aload_n 0, 1) := by decide +kernel
theorem dX12_treadOf_1 : decode cX12_treadOf 1 = .ok (.getfield 45, 3) := by decide +kernel
theorem dX12_treadOf_4 : decode cX12_treadOf 4 = .ok (.iconst 2, 1) := by decide +kernel
theorem dX12_treadOf_5 : decode cX12_treadOf 5 = .ok (.iaload, 1) := by decide +kernel
theorem dX12_treadOf_6 : decode cX12_treadOf 6 = .ok (.ifCond .ne 11, 3) := by decide +kernel
theorem dX12_treadOf_9 : decode cX12_treadOf 9 = .ok (.aload_n 0, 1) := by decide +kernel
theorem dX12_treadOf_10 : decode cX12_treadOf 10 = .ok (.iload_n 1, 1) := by decide +kernel
theorem dX12_treadOf_11 : decode cX12_treadOf 11 = .ok (.invokevirtual 183, 3) := by decide +kernel
theorem dX12_treadOf_14 : decode cX12_treadOf 14 = .ok (.goto 24, 3) := by decide +kernel
theorem dX12_treadOf_17 : decode cX12_treadOf 17 = .ok (.aload_n 0, 1) := by decide +kernel
theorem dX12_treadOf_18 : decode cX12_treadOf 18 = .ok (.getfield 45, 3) := by decide +kernel
theorem dX12_treadOf_21 : decode cX12_treadOf 21 = .ok (.iconst 2, 1) := by decide +kernel
theorem dX12_treadOf_22 : decode cX12_treadOf 22 = .ok (.iaload, 1) := by decide +kernel
theorem dX12_treadOf_23 : decode cX12_treadOf 23 = .ok (.iconst 1, 1) := by decide +kernel
theorem dX12_treadOf_24 : decode cX12_treadOf 24 = .ok (.if_icmp .ne 13, 3) := by decide +kernel
theorem dX12_treadOf_27 : decode cX12_treadOf 27 = .ok (.aload_n 0, 1) := by decide +kernel
theorem dX12_treadOf_28 : decode cX12_treadOf 28 = .ok (.iload_n 1, 1) := by decide +kernel
theorem dX12_treadOf_29 : decode cX12_treadOf 29 = .ok (.invokevirtual 183, 3) := by decide +kernel
theorem dX12_treadOf_32 : decode cX12_treadOf 32 = .ok (.iconst 2, 1) := by decide +kernel
theorem dX12_treadOf_33 : decode cX12_treadOf 33 = .ok (.idiv, 1) := by decide +kernel
theorem dX12_treadOf_34 : decode cX12_treadOf 34 = .ok (.goto 4, 3) := by decide +kernel
theorem dX12_treadOf_37 : decode cX12_treadOf 37 = .ok (.iconst 0, 1) := by decide +kernel
theorem dX12_treadOf_38 : decode cX12_treadOf 38 = .ok (.ireturn, 1) := by decide +kernel
theorem dX12_isHeavy_0 : decode cX12_isHeavy 0 = .ok (.aload_n 0, 1) := by decide +kernel
theorem dX12_isHeavy_1 : decode cX12_isHeavy 1 = .ok (.getfield 33, 3) := by decide +kernel
theorem dX12_isHeavy_4 : decode cX12_isHeavy 4 = .ok (.iload_n 1, 1) := by decide +kernel
theorem dX12_isHeavy_5 : decode cX12_isHeavy 5 = .ok (.iaload, 1) := by decide +kernel
theorem dX12_isHeavy_6 : decode cX12_isHeavy 6 = .ok (.iconst 1, 1) := by decide +kernel
theorem dX12_isHeavy_7 : decode cX12_isHeavy 7 = .ok (.if_icmp .eq 13, 3) := by decide +kernel
theorem dX12_isHeavy_10 : decode cX12_isHeavy 10 = .ok (.aload_n 0, 1) := by decide +kernel
theorem dX12_isHeavy_11 : decode cX12_isHeavy 11 = .ok (.getfield 33, 3) := by decide +kernel
theorem dX12_isHeavy_14 : decode cX12_isHeavy 14 = .ok (.iload_n 1, 1) := by decide +kernel
theorem dX12_isHeavy_15 : decode cX12_isHeavy 15 = .ok (.iaload, 1) := by decide +kernel
theorem dX12_isHeavy_16 : decode cX12_isHeavy 16 = .ok (.iconst 4, 1) := by decide +kernel
theorem dX12_isHeavy_17 : decode cX12_isHeavy 17 = .ok (.if_icmp .ne 7, 3) := by decide +kernel
theorem dX12_isHeavy_20 : decode cX12_isHeavy 20 = .ok (.iconst 1, 1) := by decide +kernel
theorem dX12_isHeavy_21 : decode cX12_isHeavy 21 = .ok (.goto 4, 3) := by decide +kernel
theorem dX12_isHeavy_24 : decode cX12_isHeavy 24 = .ok (.iconst 0, 1) := by decide +kernel
theorem dX12_isHeavy_25 : decode cX12_isHeavy 25 = .ok (.ireturn, 1) := by decide +kernel
theorem dX12_isChild_0 : decode cX12_isChild 0 = .ok (.aload_n 0, 1) := by decide +kernel
theorem dX12_isChild_1 : decode cX12_isChild 1 = .ok (.getfield 33, 3) := by decide +kernel
theorem dX12_isChild_4 : decode cX12_isChild 4 = .ok (.iload_n 1, 1) := by decide +kernel
theorem dX12_isChild_5 : decode cX12_isChild 5 = .ok (.iaload, 1) := by decide +kernel
theorem dX12_isChild_6 : decode cX12_isChild 6 = .ok (.iconst 2, 1) := by decide +kernel
theorem dX12_isChild_7 : decode cX12_isChild 7 = .ok (.if_icmp .eq 13, 3) := by decide +kernel
theorem dX12_isChild_10 : decode cX12_isChild 10 = .ok (.aload_n 0, 1) := by decide +kernel
theorem dX12_isChild_11 : decode cX12_isChild 11 = .ok (.getfield 33, 3) := by decide +kernel
theorem dX12_isChild_14 : decode cX12_isChild 14 = .ok (.iload_n 1, 1) := by decide +kernel
theorem dX12_isChild_15 : decode cX12_isChild 15 = .ok (.iaload, 1) := by decide +kernel
theorem dX12_isChild_16 : decode cX12_isChild 16 = .ok (.iconst 5, 1) := by decide +kernel
theorem dX12_isChild_17 : decode cX12_isChild 17 = .ok (.if_icmp .ne 7, 3) := by decide +kernel
theorem dX12_isChild_20 : decode cX12_isChild 20 = .ok (.iconst 1, 1) := by decide +kernel
theorem dX12_isChild_21 : decode cX12_isChild 21 = .ok (.goto 4, 3) := by decide +kernel
theorem dX12_isChild_24 : decode cX12_isChild 24 = .ok (.iconst 0, 1) := by decide +kernel
theorem dX12_isChild_25 : decode cX12_isChild 25 = .ok (.ireturn, 1) := by decide +kernel
theorem dX12_guildTells_0 : decode cX12_guildTells 0 = .ok (.iload_n 2, 1) := by decide +kernel
theorem dX12_guildTells_1 : decode cX12_guildTells 1 = .ok (.tableswitch 57 0 3 #[31, 38, 45, 51], 31) := by decide +kernel
theorem dX12_guildTells_32 : decode cX12_guildTells 32 = .ok (.aload_n 0, 1) := by decide +kernel
theorem dX12_guildTells_33 : decode cX12_guildTells 33 = .ok (.getfield 33, 3) := by decide +kernel
theorem dX12_guildTells_36 : decode cX12_guildTells 36 = .ok (.iload_n 1, 1) := by decide +kernel
theorem dX12_guildTells_37 : decode cX12_guildTells 37 = .ok (.iaload, 1) := by decide +kernel
theorem dX12_guildTells_38 : decode cX12_guildTells 38 = .ok (.ireturn, 1) := by decide +kernel
theorem dX12_guildTells_39 : decode cX12_guildTells 39 = .ok (.aload_n 0, 1) := by decide +kernel
theorem dX12_guildTells_40 : decode cX12_guildTells 40 = .ok (.getfield 36, 3) := by decide +kernel
theorem dX12_guildTells_43 : decode cX12_guildTells 43 = .ok (.iload_n 1, 1) := by decide +kernel
theorem dX12_guildTells_44 : decode cX12_guildTells 44 = .ok (.iaload, 1) := by decide +kernel
theorem dX12_guildTells_45 : decode cX12_guildTells 45 = .ok (.ireturn, 1) := by decide +kernel
theorem dX12_guildTells_46 : decode cX12_guildTells 46 = .ok (.aload_n 0, 1) := by decide +kernel
theorem dX12_guildTells_47 : decode cX12_guildTells 47 = .ok (.iload_n 1, 1) := by decide +kernel
theorem dX12_guildTells_48 : decode cX12_guildTells 48 = .ok (.invokevirtual 186, 3) := by decide +kernel
theorem dX12_guildTells_51 : decode cX12_guildTells 51 = .ok (.ireturn, 1) := by decide +kernel
theorem dX12_guildTells_52 : decode cX12_guildTells 52 = .ok (.aload_n 0, 1) := by decide +kernel
theorem dX12_guildTells_53 : decode cX12_guildTells 53 = .ok (.iload_n 1, 1) := by decide +kernel
theorem dX12_guildTells_54 : decode cX12_guildTells 54 = .ok (.invokevirtual 183, 3) := by decide +kernel
theorem dX12_guildTells_57 : decode cX12_guildTells 57 = .ok (.ireturn, 1) := by decide +kernel
theorem dX12_guildTells_58 : decode cX12_guildTells 58 = .ok (.aload_n 0, 1) := by decide +kernel
theorem dX12_guildTells_59 : decode cX12_guildTells 59 = .ok (.getfield 45, 3) := by decide +kernel
theorem dX12_guildTells_62 : decode cX12_guildTells 62 = .ok (.iconst 5, 1) := by decide +kernel
theorem dX12_guildTells_63 : decode cX12_guildTells 63 = .ok (.iload_n 1, 1) := by decide +kernel
theorem dX12_guildTells_64 : decode cX12_guildTells 64 = .ok (.iadd, 1) := by decide +kernel
theorem dX12_guildTells_65 : decode cX12_guildTells 65 = .ok (.iaload, 1) := by decide +kernel
theorem dX12_guildTells_66 : decode cX12_guildTells 66 = .ok (.ireturn, 1) := by decide +kernel
theorem dX12_guild_0 : decode cX12_guild 0 = .ok (.aload_n 0, 1) := by decide +kernel
theorem dX12_guild_1 : decode cX12_guild 1 = .ok (.iload_n 1, 1) := by decide +kernel
theorem dX12_guild_2 : decode cX12_guild 2 = .ok (.invokevirtual 189, 3) := by decide +kernel
theorem dX12_guild_5 : decode cX12_guild 5 = .ok (.ifCond .eq 26, 3) := by decide +kernel
theorem dX12_guild_8 : decode cX12_guild 8 = .ok (.iload_n 2, 1) := by decide +kernel
theorem dX12_guild_9 : decode cX12_guild 9 = .ok (.iconst 0, 1) := by decide +kernel
theorem dX12_guild_10 : decode cX12_guild 10 = .ok (.iconst 4, 1) := by decide +kernel
theorem dX12_guild_11 : decode cX12_guild 11 = .ok (.invokestatic 96, 3) := by decide +kernel
theorem dX12_guild_14 : decode cX12_guild 14 = .ok (.ifCond .eq 17, 3) := by decide +kernel
theorem dX12_guild_17 : decode cX12_guild 17 = .ok (.aload_n 0, 1) := by decide +kernel
theorem dX12_guild_18 : decode cX12_guild 18 = .ok (.aload_n 0, 1) := by decide +kernel
theorem dX12_guild_19 : decode cX12_guild 19 = .ok (.iload_n 1, 1) := by decide +kernel
theorem dX12_guild_20 : decode cX12_guild 20 = .ok (.iload_n 2, 1) := by decide +kernel
theorem dX12_guild_21 : decode cX12_guild 21 = .ok (.invokevirtual 192, 3) := by decide +kernel
theorem dX12_guild_24 : decode cX12_guild 24 = .ok (.iconst 1, 1) := by decide +kernel
theorem dX12_guild_25 : decode cX12_guild 25 = .ok (.invokevirtual 118, 3) := by decide +kernel
theorem dX12_guild_28 : decode cX12_guild 28 = .ok (.goto 4, 3) := by decide +kernel
theorem dX12_guild_31 : decode cX12_guild 31 = .ok (.iconst (-1), 1) := by decide +kernel
theorem dX12_guild_32 : decode cX12_guild 32 = .ok (.ireturn, 1) := by decide +kernel
theorem dX12_idle_0 : decode cX12_idle 0 = .ok (.iconst 0, 1) := by decide +kernel
theorem dX12_idle_1 : decode cX12_idle 1 = .ok (.istore_n 1, 1) := by decide +kernel
theorem dX12_idle_2 : decode cX12_idle 2 = .ok (.iconst 0, 1) := by decide +kernel
theorem dX12_idle_3 : decode cX12_idle 3 = .ok (.istore_n 2, 1) := by decide +kernel
theorem dX12_idle_4 : decode cX12_idle 4 = .ok (.iload_n 2, 1) := by decide +kernel
theorem dX12_idle_5 : decode cX12_idle 5 = .ok (.aload_n 0, 1) := by decide +kernel
theorem dX12_idle_6 : decode cX12_idle 6 = .ok (.getfield 168, 3) := by decide +kernel
theorem dX12_idle_9 : decode cX12_idle 9 = .ok (.if_icmp .ge 25, 3) := by decide +kernel
theorem dX12_idle_12 : decode cX12_idle 12 = .ok (.iload_n 1, 1) := by decide +kernel
theorem dX12_idle_13 : decode cX12_idle 13 = .ok (.aload_n 0, 1) := by decide +kernel
theorem dX12_idle_14 : decode cX12_idle 14 = .ok (.iload_n 2, 1) := by decide +kernel
theorem dX12_idle_15 : decode cX12_idle 15 = .ok (.invokevirtual 186, 3) := by decide +kernel
theorem dX12_idle_18 : decode cX12_idle 18 = .ok (.ifCond .ne 7, 3) := by decide +kernel
theorem dX12_idle_21 : decode cX12_idle 21 = .ok (.iconst 1, 1) := by decide +kernel
theorem dX12_idle_22 : decode cX12_idle 22 = .ok (.goto 4, 3) := by decide +kernel
theorem dX12_idle_25 : decode cX12_idle 25 = .ok (.iconst 0, 1) := by decide +kernel
theorem dX12_idle_26 : decode cX12_idle 26 = .ok (.iadd, 1) := by decide +kernel
theorem dX12_idle_27 : decode cX12_idle 27 = .ok (.istore_n 1, 1) := by decide +kernel
theorem dX12_idle_28 : decode cX12_idle 28 = .ok (.iinc 2 1, 3) := by decide +kernel
theorem dX12_idle_31 : decode cX12_idle 31 = .ok (.goto (-27), 3) := by decide +kernel
theorem dX12_idle_34 : decode cX12_idle 34 = .ok (.iload_n 1, 1) := by decide +kernel
theorem dX12_idle_35 : decode cX12_idle 35 = .ok (.ireturn, 1) := by decide +kernel
theorem dX12_childMany_0 : decode cX12_childMany 0 = .ok (.iconst 0, 1) := by decide +kernel
theorem dX12_childMany_1 : decode cX12_childMany 1 = .ok (.istore_n 1, 1) := by decide +kernel
theorem dX12_childMany_2 : decode cX12_childMany 2 = .ok (.iconst 0, 1) := by decide +kernel
theorem dX12_childMany_3 : decode cX12_childMany 3 = .ok (.istore_n 2, 1) := by decide +kernel
theorem dX12_childMany_4 : decode cX12_childMany 4 = .ok (.iload_n 2, 1) := by decide +kernel
theorem dX12_childMany_5 : decode cX12_childMany 5 = .ok (.aload_n 0, 1) := by decide +kernel
theorem dX12_childMany_6 : decode cX12_childMany 6 = .ok (.getfield 168, 3) := by decide +kernel
theorem dX12_childMany_9 : decode cX12_childMany 9 = .ok (.if_icmp .ge 25, 3) := by decide +kernel
theorem dX12_childMany_12 : decode cX12_childMany 12 = .ok (.iload_n 1, 1) := by decide +kernel
theorem dX12_childMany_13 : decode cX12_childMany 13 = .ok (.aload_n 0, 1) := by decide +kernel
theorem dX12_childMany_14 : decode cX12_childMany 14 = .ok (.iload_n 2, 1) := by decide +kernel
theorem dX12_childMany_15 : decode cX12_childMany 15 = .ok (.invokevirtual 195, 3) := by decide +kernel
theorem dX12_childMany_18 : decode cX12_childMany 18 = .ok (.ifCond .eq 7, 3) := by decide +kernel
theorem dX12_childMany_21 : decode cX12_childMany 21 = .ok (.iconst 1, 1) := by decide +kernel
theorem dX12_childMany_22 : decode cX12_childMany 22 = .ok (.goto 4, 3) := by decide +kernel
theorem dX12_childMany_25 : decode cX12_childMany 25 = .ok (.iconst 0, 1) := by decide +kernel
theorem dX12_childMany_26 : decode cX12_childMany 26 = .ok (.iadd, 1) := by decide +kernel
theorem dX12_childMany_27 : decode cX12_childMany 27 = .ok (.istore_n 1, 1) := by decide +kernel
theorem dX12_childMany_28 : decode cX12_childMany 28 = .ok (.iinc 2 1, 3) := by decide +kernel
theorem dX12_childMany_31 : decode cX12_childMany 31 = .ok (.goto (-27), 3) := by decide +kernel
theorem dX12_childMany_34 : decode cX12_childMany 34 = .ok (.iload_n 1, 1) := by decide +kernel
theorem dX12_childMany_35 : decode cX12_childMany 35 = .ok (.ireturn, 1) := by decide +kernel
theorem dX12_roundBy_0 : decode cX12_roundBy 0 = .ok (.aload_n 0, 1) := by decide +kernel
theorem dX12_roundBy_1 : decode cX12_roundBy 1 = .ok (.iload_n 1, 1) := by decide +kernel
theorem dX12_roundBy_2 : decode cX12_roundBy 2 = .ok (.invokevirtual 183, 3) := by decide +kernel
theorem dX12_roundBy_5 : decode cX12_roundBy 5 = .ok (.istore_n 2, 1) := by decide +kernel
theorem dX12_roundBy_6 : decode cX12_roundBy 6 = .ok (.iload_n 2, 1) := by decide +kernel
theorem dX12_roundBy_7 : decode cX12_roundBy 7 = .ok (.ifCond .ne 8, 3) := by decide +kernel
theorem dX12_roundBy_10 : decode cX12_roundBy 10 = .ok (.bipush (-9), 2) := by decide +kernel
theorem dX12_roundBy_12 : decode cX12_roundBy 12 = .ok (.goto 13, 3) := by decide +kernel
theorem dX12_roundBy_15 : decode cX12_roundBy 15 = .ok (.aload_n 0, 1) := by decide +kernel
theorem dX12_roundBy_16 : decode cX12_roundBy 16 = .ok (.getfield 171, 3) := by decide +kernel
theorem dX12_roundBy_19 : decode cX12_roundBy 19 = .ok (.iload_n 2, 1) := by decide +kernel
theorem dX12_roundBy_20 : decode cX12_roundBy 20 = .ok (.iadd, 1) := by decide +kernel
theorem dX12_roundBy_21 : decode cX12_roundBy 21 = .ok (.iconst 1, 1) := by decide +kernel
theorem dX12_roundBy_22 : decode cX12_roundBy 22 = .ok (.isub, 1) := by decide +kernel
theorem dX12_roundBy_23 : decode cX12_roundBy 23 = .ok (.iload_n 2, 1) := by decide +kernel
theorem dX12_roundBy_24 : decode cX12_roundBy 24 = .ok (.idiv, 1) := by decide +kernel
theorem dX12_roundBy_25 : decode cX12_roundBy 25 = .ok (.ireturn, 1) := by decide +kernel
theorem dX12_mark_0 : decode cX12_mark 0 = .ok (.aload_n 0, 1) := by decide +kernel
theorem dX12_mark_1 : decode cX12_mark 1 = .ok (.iload_n 1, 1) := by decide +kernel
theorem dX12_mark_2 : decode cX12_mark 2 = .ok (.invokevirtual 189, 3) := by decide +kernel
theorem dX12_mark_5 : decode cX12_mark 5 = .ok (.ifCond .eq 12, 3) := by decide +kernel
theorem dX12_mark_8 : decode cX12_mark 8 = .ok (.iload_n 2, 1) := by decide +kernel
theorem dX12_mark_9 : decode cX12_mark 9 = .ok (.iconst 1, 1) := by decide +kernel
theorem dX12_mark_10 : decode cX12_mark 10 = .ok (.iconst 5, 1) := by decide +kernel
theorem dX12_mark_11 : decode cX12_mark 11 = .ok (.invokestatic 96, 3) := by decide +kernel
theorem dX12_mark_14 : decode cX12_mark 14 = .ok (.ifCond .ne 5, 3) := by decide +kernel
theorem dX12_mark_17 : decode cX12_mark 17 = .ok (.iconst (-1), 1) := by decide +kernel
theorem dX12_mark_18 : decode cX12_mark 18 = .ok (.ireturn, 1) := by decide +kernel
theorem dX12_mark_19 : decode cX12_mark 19 = .ok (.aload_n 0, 1) := by decide +kernel
theorem dX12_mark_20 : decode cX12_mark 20 = .ok (.getfield 33, 3) := by decide +kernel
theorem dX12_mark_23 : decode cX12_mark 23 = .ok (.iload_n 1, 1) := by decide +kernel
theorem dX12_mark_24 : decode cX12_mark 24 = .ok (.iaload, 1) := by decide +kernel
theorem dX12_mark_25 : decode cX12_mark 25 = .ok (.istore_n 3, 1) := by decide +kernel
theorem dX12_mark_26 : decode cX12_mark 26 = .ok (.iload_n 3, 1) := by decide +kernel
theorem dX12_mark_27 : decode cX12_mark 27 = .ok (.iload_n 2, 1) := by decide +kernel
theorem dX12_mark_28 : decode cX12_mark 28 = .ok (.if_icmp .eq 29, 3) := by decide +kernel
theorem dX12_mark_31 : decode cX12_mark 31 = .ok (.iload_n 2, 1) := by decide +kernel
theorem dX12_mark_32 : decode cX12_mark 32 = .ok (.iconst 1, 1) := by decide +kernel
theorem dX12_mark_33 : decode cX12_mark 33 = .ok (.if_icmp .ne 8, 3) := by decide +kernel
theorem dX12_mark_36 : decode cX12_mark 36 = .ok (.iload_n 3, 1) := by decide +kernel
theorem dX12_mark_37 : decode cX12_mark 37 = .ok (.iconst 4, 1) := by decide +kernel
theorem dX12_mark_38 : decode cX12_mark 38 = .ok (.if_icmp .eq 19, 3) := by decide +kernel
theorem dX12_mark_41 : decode cX12_mark 41 = .ok (.iload_n 2, 1) := by decide +kernel
theorem dX12_mark_42 : decode cX12_mark 42 = .ok (.iconst 2, 1) := by decide +kernel
theorem dX12_mark_43 : decode cX12_mark 43 = .ok (.if_icmp .ne 8, 3) := by decide +kernel
theorem dX12_mark_46 : decode cX12_mark 46 = .ok (.iload_n 3, 1) := by decide +kernel
theorem dX12_mark_47 : decode cX12_mark 47 = .ok (.iconst 5, 1) := by decide +kernel
theorem dX12_mark_48 : decode cX12_mark 48 = .ok (.if_icmp .eq 9, 3) := by decide +kernel
theorem dX12_mark_51 : decode cX12_mark 51 = .ok (.aload_n 0, 1) := by decide +kernel
theorem dX12_mark_52 : decode cX12_mark 52 = .ok (.iconst 3, 1) := by decide +kernel
theorem dX12_mark_53 : decode cX12_mark 53 = .ok (.invokevirtual 110, 3) := by decide +kernel
theorem dX12_mark_56 : decode cX12_mark 56 = .ok (.ireturn, 1) := by decide +kernel
theorem dX12_mark_57 : decode cX12_mark 57 = .ok (.iload_n 2, 1) := by decide +kernel
theorem dX12_mark_58 : decode cX12_mark 58 = .ok (.tableswitch 62 1 4 #[30, 43, 48, 53], 30) := by decide +kernel
theorem dX12_mark_88 : decode cX12_mark 88 = .ok (.aload_n 0, 1) := by decide +kernel
theorem dX12_mark_89 : decode cX12_mark 89 = .ok (.iload_n 1, 1) := by decide +kernel
theorem dX12_mark_90 : decode cX12_mark 90 = .ok (.invokevirtual 183, 3) := by decide +kernel
theorem dX12_mark_93 : decode cX12_mark 93 = .ok (.aload_n 0, 1) := by decide +kernel
theorem dX12_mark_94 : decode cX12_mark 94 = .ok (.getfield 36, 3) := by decide +kernel
theorem dX12_mark_97 : decode cX12_mark 97 = .ok (.iload_n 1, 1) := by decide +kernel
theorem dX12_mark_98 : decode cX12_mark 98 = .ok (.iaload, 1) := by decide +kernel
theorem dX12_mark_99 : decode cX12_mark 99 = .ok (.isub, 1) := by decide +kernel
theorem dX12_mark_100 : decode cX12_mark 100 = .ok (.ireturn, 1) := by decide +kernel
theorem dX12_mark_101 : decode cX12_mark 101 = .ok (.aload_n 0, 1) := by decide +kernel
theorem dX12_mark_102 : decode cX12_mark 102 = .ok (.invokevirtual 198, 3) := by decide +kernel
theorem dX12_mark_105 : decode cX12_mark 105 = .ok (.ireturn, 1) := by decide +kernel
theorem dX12_mark_106 : decode cX12_mark 106 = .ok (.aload_n 0, 1) := by decide +kernel
theorem dX12_mark_107 : decode cX12_mark 107 = .ok (.invokevirtual 202, 3) := by decide +kernel
theorem dX12_mark_110 : decode cX12_mark 110 = .ok (.ireturn, 1) := by decide +kernel
theorem dX12_mark_111 : decode cX12_mark 111 = .ok (.aload_n 0, 1) := by decide +kernel
theorem dX12_mark_112 : decode cX12_mark 112 = .ok (.getfield 36, 3) := by decide +kernel
theorem dX12_mark_115 : decode cX12_mark 115 = .ok (.iload_n 1, 1) := by decide +kernel
theorem dX12_mark_116 : decode cX12_mark 116 = .ok (.iaload, 1) := by decide +kernel
theorem dX12_mark_117 : decode cX12_mark 117 = .ok (.iconst 2, 1) := by decide +kernel
theorem dX12_mark_118 : decode cX12_mark 118 = .ok (.idiv, 1) := by decide +kernel
theorem dX12_mark_119 : decode cX12_mark 119 = .ok (.ireturn, 1) := by decide +kernel
theorem dX12_mark_120 : decode cX12_mark 120 = .ok (.aload_n 0, 1) := by decide +kernel
theorem dX12_mark_121 : decode cX12_mark 121 = .ok (.iload_n 1, 1) := by decide +kernel
theorem dX12_mark_122 : decode cX12_mark 122 = .ok (.invokevirtual 205, 3) := by decide +kernel
theorem dX12_mark_125 : decode cX12_mark 125 = .ok (.ireturn, 1) := by decide +kernel
theorem dX12_shoe_0 : decode cX12_shoe 0 = .ok (.aload_n 0, 1) := by decide +kernel
theorem dX12_shoe_1 : decode cX12_shoe 1 = .ok (.iload_n 1, 1) := by decide +kernel
theorem dX12_shoe_2 : decode cX12_shoe 2 = .ok (.invokevirtual 189, 3) := by decide +kernel
theorem dX12_shoe_5 : decode cX12_shoe 5 = .ok (.ifCond .eq 13, 3) := by decide +kernel
theorem dX12_shoe_8 : decode cX12_shoe 8 = .ok (.iload_n 2, 1) := by decide +kernel
theorem dX12_shoe_9 : decode cX12_shoe 9 = .ok (.iconst 1, 1) := by decide +kernel
theorem dX12_shoe_10 : decode cX12_shoe 10 = .ok (.bipush 9, 2) := by decide +kernel
theorem dX12_shoe_12 : decode cX12_shoe 12 = .ok (.invokestatic 96, 3) := by decide +kernel
theorem dX12_shoe_15 : decode cX12_shoe 15 = .ok (.ifCond .ne 5, 3) := by decide +kernel
theorem dX12_shoe_18 : decode cX12_shoe 18 = .ok (.iconst (-1), 1) := by decide +kernel
theorem dX12_shoe_19 : decode cX12_shoe 19 = .ok (.ireturn, 1) := by decide +kernel
theorem dX12_shoe_20 : decode cX12_shoe 20 = .ok (.aload_n 0, 1) := by decide +kernel
theorem dX12_shoe_21 : decode cX12_shoe 21 = .ok (.getfield 180, 3) := by decide +kernel
theorem dX12_shoe_24 : decode cX12_shoe 24 = .ok (.ifCond .le 6, 3) := by decide +kernel
theorem dX12_shoe_27 : decode cX12_shoe 27 = .ok (.bipush (-4), 2) := by decide +kernel
theorem dX12_shoe_29 : decode cX12_shoe 29 = .ok (.ireturn, 1) := by decide +kernel
theorem dX12_shoe_30 : decode cX12_shoe 30 = .ok (.aload_n 0, 1) := by decide +kernel
theorem dX12_shoe_31 : decode cX12_shoe 31 = .ok (.getfield 36, 3) := by decide +kernel
theorem dX12_shoe_34 : decode cX12_shoe 34 = .ok (.iload_n 1, 1) := by decide +kernel
theorem dX12_shoe_35 : decode cX12_shoe 35 = .ok (.iaload, 1) := by decide +kernel
theorem dX12_shoe_36 : decode cX12_shoe 36 = .ok (.istore_n 3, 1) := by decide +kernel
theorem dX12_shoe_37 : decode cX12_shoe 37 = .ok (.aload_n 0, 1) := by decide +kernel
theorem dX12_shoe_38 : decode cX12_shoe 38 = .ok (.getfield 36, 3) := by decide +kernel
theorem dX12_shoe_41 : decode cX12_shoe 41 = .ok (.iload_n 1, 1) := by decide +kernel
theorem dX12_shoe_42 : decode cX12_shoe 42 = .ok (.iload_n 2, 1) := by decide +kernel
theorem dX12_shoe_43 : decode cX12_shoe 43 = .ok (.iastore, 1) := by decide +kernel
theorem dX12_shoe_44 : decode cX12_shoe 44 = .ok (.iload_n 3, 1) := by decide +kernel
theorem dX12_shoe_45 : decode cX12_shoe 45 = .ok (.ireturn, 1) := by decide +kernel
theorem dX12_remember_0 : decode cX12_remember 0 = .ok (.iconst 0, 1) := by decide +kernel
theorem dX12_remember_1 : decode cX12_remember 1 = .ok (.istore_n 1, 1) := by decide +kernel
theorem dX12_remember_2 : decode cX12_remember 2 = .ok (.iload_n 1, 1) := by decide +kernel
theorem dX12_remember_3 : decode cX12_remember 3 = .ok (.bipush 11, 2) := by decide +kernel
theorem dX12_remember_5 : decode cX12_remember 5 = .ok (.if_icmp .ge 29, 3) := by decide +kernel
theorem dX12_remember_8 : decode cX12_remember 8 = .ok (.aload_n 0, 1) := by decide +kernel
theorem dX12_remember_9 : decode cX12_remember 9 = .ok (.getfield 51, 3) := by decide +kernel
theorem dX12_remember_12 : decode cX12_remember 12 = .ok (.bipush 11, 2) := by decide +kernel
theorem dX12_remember_14 : decode cX12_remember 14 = .ok (.aload_n 0, 1) := by decide +kernel
theorem dX12_remember_15 : decode cX12_remember 15 = .ok (.getfield 180, 3) := by decide +kernel
theorem dX12_remember_18 : decode cX12_remember 18 = .ok (.imul, 1) := by decide +kernel
theorem dX12_remember_19 : decode cX12_remember 19 = .ok (.iload_n 1, 1) := by decide +kernel
theorem dX12_remember_20 : decode cX12_remember 20 = .ok (.iadd, 1) := by decide +kernel
theorem dX12_remember_21 : decode cX12_remember 21 = .ok (.aload_n 0, 1) := by decide +kernel
theorem dX12_remember_22 : decode cX12_remember 22 = .ok (.getfield 45, 3) := by decide +kernel
theorem dX12_remember_25 : decode cX12_remember 25 = .ok (.iload_n 1, 1) := by decide +kernel
theorem dX12_remember_26 : decode cX12_remember 26 = .ok (.iaload, 1) := by decide +kernel
theorem dX12_remember_27 : decode cX12_remember 27 = .ok (.iastore, 1) := by decide +kernel
theorem dX12_remember_28 : decode cX12_remember 28 = .ok (.iinc 1 1, 3) := by decide +kernel
theorem dX12_remember_31 : decode cX12_remember 31 = .ok (.goto (-29), 3) := by decide +kernel
theorem dX12_remember_34 : decode cX12_remember 34 = .ok (.aload_n 0, 1) := by decide +kernel
theorem dX12_remember_35 : decode cX12_remember 35 = .ok (.dup, 1) := by decide +kernel
theorem dX12_remember_36 : decode cX12_remember 36 = .ok (.getfield 180, 3) := by decide +kernel
theorem dX12_remember_39 : decode cX12_remember 39 = .ok (.iconst 1, 1) := by decide +kernel
theorem dX12_remember_40 : decode cX12_remember 40 = .ok (.iadd, 1) := by decide +kernel
theorem dX12_remember_41 : decode cX12_remember 41 = .ok (.putfield 180, 3) := by decide +kernel
theorem dX12_remember_44 : decode cX12_remember 44 = .ok (.return_, 1) := by decide +kernel
theorem dX12_walks_0 : decode cX12_walks 0 = .ok (.aload_n 0, 1) := by decide +kernel
theorem dX12_walks_1 : decode cX12_walks 1 = .ok (.iload_n 2, 1) := by decide +kernel
theorem dX12_walks_2 : decode cX12_walks 2 = .ok (.invokevirtual 186, 3) := by decide +kernel
theorem dX12_walks_5 : decode cX12_walks 5 = .ok (.istore_n 3, 1) := by decide +kernel
theorem dX12_walks_6 : decode cX12_walks 6 = .ok (.aload_n 1, 1) := by decide +kernel
theorem dX12_walks_7 : decode cX12_walks 7 = .ok (.iconst 0, 1) := by decide +kernel
theorem dX12_walks_8 : decode cX12_walks 8 = .ok (.iaload, 1) := by decide +kernel
theorem dX12_walks_9 : decode cX12_walks 9 = .ok (.iload_n 3, 1) := by decide +kernel
theorem dX12_walks_10 : decode cX12_walks 10 = .ok (.iadd, 1) := by decide +kernel
theorem dX12_walks_11 : decode cX12_walks 11 = .ok (.istore 4, 2) := by decide +kernel
theorem dX12_walks_13 : decode cX12_walks 13 = .ok (.aload_n 1, 1) := by decide +kernel
theorem dX12_walks_14 : decode cX12_walks 14 = .ok (.iconst 1, 1) := by decide +kernel
theorem dX12_walks_15 : decode cX12_walks 15 = .ok (.dup2, 1) := by decide +kernel
theorem dX12_walks_16 : decode cX12_walks 16 = .ok (.iaload, 1) := by decide +kernel
theorem dX12_walks_17 : decode cX12_walks 17 = .ok (.iload 4, 2) := by decide +kernel
theorem dX12_walks_19 : decode cX12_walks 19 = .ok (.aload_n 0, 1) := by decide +kernel
theorem dX12_walks_20 : decode cX12_walks 20 = .ok (.getfield 171, 3) := by decide +kernel
theorem dX12_walks_23 : decode cX12_walks 23 = .ok (.idiv, 1) := by decide +kernel
theorem dX12_walks_24 : decode cX12_walks 24 = .ok (.iadd, 1) := by decide +kernel
theorem dX12_walks_25 : decode cX12_walks 25 = .ok (.iastore, 1) := by decide +kernel
theorem dX12_walks_26 : decode cX12_walks 26 = .ok (.aload_n 1, 1) := by decide +kernel
theorem dX12_walks_27 : decode cX12_walks 27 = .ok (.iconst 0, 1) := by decide +kernel
theorem dX12_walks_28 : decode cX12_walks 28 = .ok (.iload 4, 2) := by decide +kernel
theorem dX12_walks_30 : decode cX12_walks 30 = .ok (.aload_n 0, 1) := by decide +kernel
theorem dX12_walks_31 : decode cX12_walks 31 = .ok (.getfield 171, 3) := by decide +kernel
theorem dX12_walks_34 : decode cX12_walks 34 = .ok (.irem, 1) := by decide +kernel
theorem dX12_walks_35 : decode cX12_walks 35 = .ok (.iastore, 1) := by decide +kernel
theorem dX12_walks_36 : decode cX12_walks 36 = .ok (.aload_n 1, 1) := by decide +kernel
theorem dX12_walks_37 : decode cX12_walks 37 = .ok (.iconst 4, 1) := by decide +kernel
theorem dX12_walks_38 : decode cX12_walks 38 = .ok (.dup2, 1) := by decide +kernel
theorem dX12_walks_39 : decode cX12_walks 39 = .ok (.iaload, 1) := by decide +kernel
theorem dX12_walks_40 : decode cX12_walks 40 = .ok (.iload_n 3, 1) := by decide +kernel
theorem dX12_walks_41 : decode cX12_walks 41 = .ok (.iadd, 1) := by decide +kernel
theorem dX12_walks_42 : decode cX12_walks 42 = .ok (.iastore, 1) := by decide +kernel
theorem dX12_walks_43 : decode cX12_walks 43 = .ok (.aload_n 1, 1) := by decide +kernel
theorem dX12_walks_44 : decode cX12_walks 44 = .ok (.iconst 5, 1) := by decide +kernel
theorem dX12_walks_45 : decode cX12_walks 45 = .ok (.iload_n 2, 1) := by decide +kernel
theorem dX12_walks_46 : decode cX12_walks 46 = .ok (.iadd, 1) := by decide +kernel
theorem dX12_walks_47 : decode cX12_walks 47 = .ok (.dup2, 1) := by decide +kernel
theorem dX12_walks_48 : decode cX12_walks 48 = .ok (.iaload, 1) := by decide +kernel
theorem dX12_walks_49 : decode cX12_walks 49 = .ok (.iconst 1, 1) := by decide +kernel
theorem dX12_walks_50 : decode cX12_walks 50 = .ok (.iadd, 1) := by decide +kernel
theorem dX12_walks_51 : decode cX12_walks 51 = .ok (.iastore, 1) := by decide +kernel
theorem dX12_walks_52 : decode cX12_walks 52 = .ok (.aload_n 1, 1) := by decide +kernel
theorem dX12_walks_53 : decode cX12_walks 53 = .ok (.iconst 3, 1) := by decide +kernel
theorem dX12_walks_54 : decode cX12_walks 54 = .ok (.dup2, 1) := by decide +kernel
theorem dX12_walks_55 : decode cX12_walks 55 = .ok (.iaload, 1) := by decide +kernel
theorem dX12_walks_56 : decode cX12_walks 56 = .ok (.aload_n 0, 1) := by decide +kernel
theorem dX12_walks_57 : decode cX12_walks 57 = .ok (.aload_n 1, 1) := by decide +kernel
theorem dX12_walks_58 : decode cX12_walks 58 = .ok (.iconst 0, 1) := by decide +kernel
theorem dX12_walks_59 : decode cX12_walks 59 = .ok (.iaload, 1) := by decide +kernel
theorem dX12_walks_60 : decode cX12_walks 60 = .ok (.invokevirtual 208, 3) := by decide +kernel
theorem dX12_walks_63 : decode cX12_walks 63 = .ok (.ifCond .eq 7, 3) := by decide +kernel
theorem dX12_walks_66 : decode cX12_walks 66 = .ok (.iconst 1, 1) := by decide +kernel
theorem dX12_walks_67 : decode cX12_walks 67 = .ok (.goto 4, 3) := by decide +kernel
theorem dX12_walks_70 : decode cX12_walks 70 = .ok (.iconst 0, 1) := by decide +kernel
theorem dX12_walks_71 : decode cX12_walks 71 = .ok (.iadd, 1) := by decide +kernel
theorem dX12_walks_72 : decode cX12_walks 72 = .ok (.iastore, 1) := by decide +kernel
theorem dX12_walks_73 : decode cX12_walks 73 = .ok (.return_, 1) := by decide +kernel
theorem dX12_walk_0 : decode cX12_walk 0 = .ok (.aload_n 0, 1) := by decide +kernel
theorem dX12_walk_1 : decode cX12_walk 1 = .ok (.iload_n 1, 1) := by decide +kernel
theorem dX12_walk_2 : decode cX12_walk 2 = .ok (.invokevirtual 189, 3) := by decide +kernel
theorem dX12_walk_5 : decode cX12_walk 5 = .ok (.ifCond .ne 5, 3) := by decide +kernel
theorem dX12_walk_8 : decode cX12_walk 8 = .ok (.iconst (-1), 1) := by decide +kernel
theorem dX12_walk_9 : decode cX12_walk 9 = .ok (.ireturn, 1) := by decide +kernel
theorem dX12_walk_10 : decode cX12_walk 10 = .ok (.aload_n 0, 1) := by decide +kernel
theorem dX12_walk_11 : decode cX12_walk 11 = .ok (.getfield 180, 3) := by decide +kernel
theorem dX12_walk_14 : decode cX12_walk 14 = .ok (.bipush 60, 2) := by decide +kernel
theorem dX12_walk_16 : decode cX12_walk 16 = .ok (.if_icmp .ne 6, 3) := by decide +kernel
theorem dX12_walk_19 : decode cX12_walk 19 = .ok (.bipush (-2), 2) := by decide +kernel
theorem dX12_walk_21 : decode cX12_walk 21 = .ok (.ireturn, 1) := by decide +kernel
theorem dX12_walk_22 : decode cX12_walk 22 = .ok (.aload_n 0, 1) := by decide +kernel
theorem dX12_walk_23 : decode cX12_walk 23 = .ok (.invokevirtual 211, 3) := by decide +kernel
theorem dX12_walk_26 : decode cX12_walk 26 = .ok (.aload_n 0, 1) := by decide +kernel
theorem dX12_walk_27 : decode cX12_walk 27 = .ok (.aload_n 0, 1) := by decide +kernel
theorem dX12_walk_28 : decode cX12_walk 28 = .ok (.getfield 45, 3) := by decide +kernel
theorem dX12_walk_31 : decode cX12_walk 31 = .ok (.iload_n 1, 1) := by decide +kernel
theorem dX12_walk_32 : decode cX12_walk 32 = .ok (.invokevirtual 214, 3) := by decide +kernel
theorem dX12_walk_35 : decode cX12_walk 35 = .ok (.aload_n 0, 1) := by decide +kernel
theorem dX12_walk_36 : decode cX12_walk 36 = .ok (.getfield 45, 3) := by decide +kernel
theorem dX12_walk_39 : decode cX12_walk 39 = .ok (.iconst 0, 1) := by decide +kernel
theorem dX12_walk_40 : decode cX12_walk 40 = .ok (.iaload, 1) := by decide +kernel
theorem dX12_walk_41 : decode cX12_walk 41 = .ok (.ireturn, 1) := by decide +kernel
theorem dX12_floor_0 : decode cX12_floor 0 = .ok (.iload_n 1, 1) := by decide +kernel
theorem dX12_floor_1 : decode cX12_floor 1 = .ok (.iconst 0, 1) := by decide +kernel
theorem dX12_floor_2 : decode cX12_floor 2 = .ok (.iconst 2, 1) := by decide +kernel
theorem dX12_floor_3 : decode cX12_floor 3 = .ok (.invokestatic 96, 3) := by decide +kernel
theorem dX12_floor_6 : decode cX12_floor 6 = .ok (.ifCond .ne 5, 3) := by decide +kernel
theorem dX12_floor_9 : decode cX12_floor 9 = .ok (.iconst (-1), 1) := by decide +kernel
theorem dX12_floor_10 : decode cX12_floor 10 = .ok (.ireturn, 1) := by decide +kernel
theorem dX12_floor_11 : decode cX12_floor 11 = .ok (.aload_n 0, 1) := by decide +kernel
theorem dX12_floor_12 : decode cX12_floor 12 = .ok (.getfield 168, 3) := by decide +kernel
theorem dX12_floor_15 : decode cX12_floor 15 = .ok (.ifCond .eq 13, 3) := by decide +kernel
theorem dX12_floor_18 : decode cX12_floor 18 = .ok (.aload_n 0, 1) := by decide +kernel
theorem dX12_floor_19 : decode cX12_floor 19 = .ok (.getfield 45, 3) := by decide +kernel
theorem dX12_floor_22 : decode cX12_floor 22 = .ok (.iconst 2, 1) := by decide +kernel
theorem dX12_floor_23 : decode cX12_floor 23 = .ok (.iaload, 1) := by decide +kernel
theorem dX12_floor_24 : decode cX12_floor 24 = .ok (.iload_n 1, 1) := by decide +kernel
theorem dX12_floor_25 : decode cX12_floor 25 = .ok (.if_icmp .ne 6, 3) := by decide +kernel
theorem dX12_floor_28 : decode cX12_floor 28 = .ok (.bipush (-4), 2) := by decide +kernel
theorem dX12_floor_30 : decode cX12_floor 30 = .ok (.ireturn, 1) := by decide +kernel
theorem dX12_floor_31 : decode cX12_floor 31 = .ok (.aload_n 0, 1) := by decide +kernel
theorem dX12_floor_32 : decode cX12_floor 32 = .ok (.getfield 180, 3) := by decide +kernel
theorem dX12_floor_35 : decode cX12_floor 35 = .ok (.bipush 60, 2) := by decide +kernel
theorem dX12_floor_37 : decode cX12_floor 37 = .ok (.if_icmp .ne 6, 3) := by decide +kernel
theorem dX12_floor_40 : decode cX12_floor 40 = .ok (.bipush (-2), 2) := by decide +kernel
theorem dX12_floor_42 : decode cX12_floor 42 = .ok (.ireturn, 1) := by decide +kernel
theorem dX12_floor_43 : decode cX12_floor 43 = .ok (.aload_n 0, 1) := by decide +kernel
theorem dX12_floor_44 : decode cX12_floor 44 = .ok (.invokevirtual 211, 3) := by decide +kernel
theorem dX12_floor_47 : decode cX12_floor 47 = .ok (.aload_n 0, 1) := by decide +kernel
theorem dX12_floor_48 : decode cX12_floor 48 = .ok (.getfield 45, 3) := by decide +kernel
theorem dX12_floor_51 : decode cX12_floor 51 = .ok (.iconst 2, 1) := by decide +kernel
theorem dX12_floor_52 : decode cX12_floor 52 = .ok (.iaload, 1) := by decide +kernel
theorem dX12_floor_53 : decode cX12_floor 53 = .ok (.istore_n 2, 1) := by decide +kernel
theorem dX12_floor_54 : decode cX12_floor 54 = .ok (.aload_n 0, 1) := by decide +kernel
theorem dX12_floor_55 : decode cX12_floor 55 = .ok (.getfield 45, 3) := by decide +kernel
theorem dX12_floor_58 : decode cX12_floor 58 = .ok (.iconst 2, 1) := by decide +kernel
theorem dX12_floor_59 : decode cX12_floor 59 = .ok (.iload_n 1, 1) := by decide +kernel
theorem dX12_floor_60 : decode cX12_floor 60 = .ok (.iastore, 1) := by decide +kernel
theorem dX12_floor_61 : decode cX12_floor 61 = .ok (.iload_n 2, 1) := by decide +kernel
theorem dX12_floor_62 : decode cX12_floor 62 = .ok (.ireturn, 1) := by decide +kernel
theorem dX12_undo_0 : decode cX12_undo 0 = .ok (.iload_n 1, 1) := by decide +kernel
theorem dX12_undo_1 : decode cX12_undo 1 = .ok (.iconst 0, 1) := by decide +kernel
theorem dX12_undo_2 : decode cX12_undo 2 = .ok (.aload_n 0, 1) := by decide +kernel
theorem dX12_undo_3 : decode cX12_undo 3 = .ok (.getfield 180, 3) := by decide +kernel
theorem dX12_undo_6 : decode cX12_undo 6 = .ok (.invokestatic 96, 3) := by decide +kernel
theorem dX12_undo_9 : decode cX12_undo 9 = .ok (.ifCond .ne 5, 3) := by decide +kernel
theorem dX12_undo_12 : decode cX12_undo 12 = .ok (.iconst (-1), 1) := by decide +kernel
theorem dX12_undo_13 : decode cX12_undo 13 = .ok (.ireturn, 1) := by decide +kernel
theorem dX12_undo_14 : decode cX12_undo 14 = .ok (.aload_n 0, 1) := by decide +kernel
theorem dX12_undo_15 : decode cX12_undo 15 = .ok (.getfield 180, 3) := by decide +kernel
theorem dX12_undo_18 : decode cX12_undo 18 = .ok (.iload_n 1, 1) := by decide +kernel
theorem dX12_undo_19 : decode cX12_undo 19 = .ok (.isub, 1) := by decide +kernel
theorem dX12_undo_20 : decode cX12_undo 20 = .ok (.istore_n 2, 1) := by decide +kernel
theorem dX12_undo_21 : decode cX12_undo 21 = .ok (.iconst 0, 1) := by decide +kernel
theorem dX12_undo_22 : decode cX12_undo 22 = .ok (.istore_n 3, 1) := by decide +kernel
theorem dX12_undo_23 : decode cX12_undo 23 = .ok (.iload_n 3, 1) := by decide +kernel
theorem dX12_undo_24 : decode cX12_undo 24 = .ok (.bipush 11, 2) := by decide +kernel
theorem dX12_undo_26 : decode cX12_undo 26 = .ok (.if_icmp .ge 30, 3) := by decide +kernel
theorem dX12_undo_29 : decode cX12_undo 29 = .ok (.iload_n 2, 1) := by decide +kernel
theorem dX12_undo_30 : decode cX12_undo 30 = .ok (.ifCond .le 26, 3) := by decide +kernel
theorem dX12_undo_33 : decode cX12_undo 33 = .ok (.aload_n 0, 1) := by decide +kernel
theorem dX12_undo_34 : decode cX12_undo 34 = .ok (.getfield 45, 3) := by decide +kernel
theorem dX12_undo_37 : decode cX12_undo 37 = .ok (.iload_n 3, 1) := by decide +kernel
theorem dX12_undo_38 : decode cX12_undo 38 = .ok (.aload_n 0, 1) := by decide +kernel
theorem dX12_undo_39 : decode cX12_undo 39 = .ok (.getfield 51, 3) := by decide +kernel
theorem dX12_undo_42 : decode cX12_undo 42 = .ok (.bipush 11, 2) := by decide +kernel
theorem dX12_undo_44 : decode cX12_undo 44 = .ok (.iload_n 1, 1) := by decide +kernel
theorem dX12_undo_45 : decode cX12_undo 45 = .ok (.imul, 1) := by decide +kernel
theorem dX12_undo_46 : decode cX12_undo 46 = .ok (.iload_n 3, 1) := by decide +kernel
theorem dX12_undo_47 : decode cX12_undo 47 = .ok (.iadd, 1) := by decide +kernel
theorem dX12_undo_48 : decode cX12_undo 48 = .ok (.iaload, 1) := by decide +kernel
theorem dX12_undo_49 : decode cX12_undo 49 = .ok (.iastore, 1) := by decide +kernel
theorem dX12_undo_50 : decode cX12_undo 50 = .ok (.iinc 3 1, 3) := by decide +kernel
theorem dX12_undo_53 : decode cX12_undo 53 = .ok (.goto (-30), 3) := by decide +kernel
theorem dX12_undo_56 : decode cX12_undo 56 = .ok (.aload_n 0, 1) := by decide +kernel
theorem dX12_undo_57 : decode cX12_undo 57 = .ok (.iload_n 1, 1) := by decide +kernel
theorem dX12_undo_58 : decode cX12_undo 58 = .ok (.putfield 180, 3) := by decide +kernel
theorem dX12_undo_61 : decode cX12_undo 61 = .ok (.iload_n 2, 1) := by decide +kernel
theorem dX12_undo_62 : decode cX12_undo 62 = .ok (.ireturn, 1) := by decide +kernel
theorem dX12_keep_0 : decode cX12_keep 0 = .ok (.iload_n 1, 1) := by decide +kernel
theorem dX12_keep_1 : decode cX12_keep 1 = .ok (.iconst 0, 1) := by decide +kernel
theorem dX12_keep_2 : decode cX12_keep 2 = .ok (.iconst 2, 1) := by decide +kernel
theorem dX12_keep_3 : decode cX12_keep 3 = .ok (.invokestatic 96, 3) := by decide +kernel
theorem dX12_keep_6 : decode cX12_keep 6 = .ok (.ifCond .ne 5, 3) := by decide +kernel
theorem dX12_keep_9 : decode cX12_keep 9 = .ok (.iconst (-1), 1) := by decide +kernel
theorem dX12_keep_10 : decode cX12_keep 10 = .ok (.ireturn, 1) := by decide +kernel
theorem dX12_keep_11 : decode cX12_keep 11 = .ok (.aload_n 0, 1) := by decide +kernel
theorem dX12_keep_12 : decode cX12_keep 12 = .ok (.getfield 168, 3) := by decide +kernel
theorem dX12_keep_15 : decode cX12_keep 15 = .ok (.ifCond .ne 6, 3) := by decide +kernel
theorem dX12_keep_18 : decode cX12_keep 18 = .ok (.bipush (-4), 2) := by decide +kernel
theorem dX12_keep_20 : decode cX12_keep 20 = .ok (.ireturn, 1) := by decide +kernel
theorem dX12_keep_21 : decode cX12_keep 21 = .ok (.aload_n 0, 1) := by decide +kernel
theorem dX12_keep_22 : decode cX12_keep 22 = .ok (.getfield 54, 3) := by decide +kernel
theorem dX12_keep_25 : decode cX12_keep 25 = .ok (.iload_n 1, 1) := by decide +kernel
theorem dX12_keep_26 : decode cX12_keep 26 = .ok (.iconst 1, 1) := by decide +kernel
theorem dX12_keep_27 : decode cX12_keep 27 = .ok (.bastore, 1) := by decide +kernel
theorem dX12_keep_28 : decode cX12_keep 28 = .ok (.aload_n 0, 1) := by decide +kernel
theorem dX12_keep_29 : decode cX12_keep 29 = .ok (.getfield 58, 3) := by decide +kernel
theorem dX12_keep_32 : decode cX12_keep 32 = .ok (.iload_n 1, 1) := by decide +kernel
theorem dX12_keep_33 : decode cX12_keep 33 = .ok (.aload_n 0, 1) := by decide +kernel
theorem dX12_keep_34 : decode cX12_keep 34 = .ok (.getfield 180, 3) := by decide +kernel
theorem dX12_keep_37 : decode cX12_keep 37 = .ok (.iastore, 1) := by decide +kernel
theorem dX12_keep_38 : decode cX12_keep 38 = .ok (.iconst 0, 1) := by decide +kernel
theorem dX12_keep_39 : decode cX12_keep 39 = .ok (.istore_n 2, 1) := by decide +kernel
theorem dX12_keep_40 : decode cX12_keep 40 = .ok (.iload_n 2, 1) := by decide +kernel
theorem dX12_keep_41 : decode cX12_keep 41 = .ok (.bipush 6, 2) := by decide +kernel
theorem dX12_keep_43 : decode cX12_keep 43 = .ok (.if_icmp .ge 26, 3) := by decide +kernel
theorem dX12_keep_46 : decode cX12_keep 46 = .ok (.aload_n 0, 1) := by decide +kernel
theorem dX12_keep_47 : decode cX12_keep 47 = .ok (.getfield 61, 3) := by decide +kernel
theorem dX12_keep_50 : decode cX12_keep 50 = .ok (.bipush 6, 2) := by decide +kernel
theorem dX12_keep_52 : decode cX12_keep 52 = .ok (.iload_n 1, 1) := by decide +kernel
theorem dX12_keep_53 : decode cX12_keep 53 = .ok (.imul, 1) := by decide +kernel
theorem dX12_keep_54 : decode cX12_keep 54 = .ok (.iload_n 2, 1) := by decide +kernel
theorem dX12_keep_55 : decode cX12_keep 55 = .ok (.iadd, 1) := by decide +kernel
theorem dX12_keep_56 : decode cX12_keep 56 = .ok (.aload_n 0, 1) := by decide +kernel
theorem dX12_keep_57 : decode cX12_keep 57 = .ok (.getfield 36, 3) := by decide +kernel
theorem dX12_keep_60 : decode cX12_keep 60 = .ok (.iload_n 2, 1) := by decide +kernel
theorem dX12_keep_61 : decode cX12_keep 61 = .ok (.iaload, 1) := by decide +kernel
theorem dX12_keep_62 : decode cX12_keep 62 = .ok (.iastore, 1) := by decide +kernel
theorem dX12_keep_63 : decode cX12_keep 63 = .ok (.iinc 2 1, 3) := by decide +kernel
theorem dX12_keep_66 : decode cX12_keep 66 = .ok (.goto (-26), 3) := by decide +kernel
theorem dX12_keep_69 : decode cX12_keep 69 = .ok (.iconst 0, 1) := by decide +kernel
theorem dX12_keep_70 : decode cX12_keep 70 = .ok (.istore_n 2, 1) := by decide +kernel
theorem dX12_keep_71 : decode cX12_keep 71 = .ok (.iload_n 2, 1) := by decide +kernel
theorem dX12_keep_72 : decode cX12_keep 72 = .ok (.bipush 11, 2) := by decide +kernel
theorem dX12_keep_74 : decode cX12_keep 74 = .ok (.if_icmp .ge 26, 3) := by decide +kernel
theorem dX12_keep_77 : decode cX12_keep 77 = .ok (.aload_n 0, 1) := by decide +kernel
theorem dX12_keep_78 : decode cX12_keep 78 = .ok (.getfield 64, 3) := by decide +kernel
theorem dX12_keep_81 : decode cX12_keep 81 = .ok (.bipush 11, 2) := by decide +kernel
theorem dX12_keep_83 : decode cX12_keep 83 = .ok (.iload_n 1, 1) := by decide +kernel
theorem dX12_keep_84 : decode cX12_keep 84 = .ok (.imul, 1) := by decide +kernel
theorem dX12_keep_85 : decode cX12_keep 85 = .ok (.iload_n 2, 1) := by decide +kernel
theorem dX12_keep_86 : decode cX12_keep 86 = .ok (.iadd, 1) := by decide +kernel
theorem dX12_keep_87 : decode cX12_keep 87 = .ok (.aload_n 0, 1) := by decide +kernel
theorem dX12_keep_88 : decode cX12_keep 88 = .ok (.getfield 45, 3) := by decide +kernel
theorem dX12_keep_91 : decode cX12_keep 91 = .ok (.iload_n 2, 1) := by decide +kernel
theorem dX12_keep_92 : decode cX12_keep 92 = .ok (.iaload, 1) := by decide +kernel
theorem dX12_keep_93 : decode cX12_keep 93 = .ok (.iastore, 1) := by decide +kernel
theorem dX12_keep_94 : decode cX12_keep 94 = .ok (.iinc 2 1, 3) := by decide +kernel
theorem dX12_keep_97 : decode cX12_keep 97 = .ok (.goto (-26), 3) := by decide +kernel
theorem dX12_keep_100 : decode cX12_keep 100 = .ok (.iconst 0, 1) := by decide +kernel
theorem dX12_keep_101 : decode cX12_keep 101 = .ok (.istore_n 2, 1) := by decide +kernel
theorem dX12_keep_102 : decode cX12_keep 102 = .ok (.iload_n 2, 1) := by decide +kernel
theorem dX12_keep_103 : decode cX12_keep 103 = .ok (.bipush 11, 2) := by decide +kernel
theorem dX12_keep_105 : decode cX12_keep 105 = .ok (.aload_n 0, 1) := by decide +kernel
theorem dX12_keep_106 : decode cX12_keep 106 = .ok (.getfield 180, 3) := by decide +kernel
theorem dX12_keep_109 : decode cX12_keep 109 = .ok (.imul, 1) := by decide +kernel
theorem dX12_keep_110 : decode cX12_keep 110 = .ok (.if_icmp .ge 27, 3) := by decide +kernel
theorem dX12_keep_113 : decode cX12_keep 113 = .ok (.aload_n 0, 1) := by decide +kernel
theorem dX12_keep_114 : decode cX12_keep 114 = .ok (.getfield 67, 3) := by decide +kernel
theorem dX12_keep_117 : decode cX12_keep 117 = .ok (.sipush 660, 3) := by decide +kernel
theorem dX12_keep_120 : decode cX12_keep 120 = .ok (.iload_n 1, 1) := by decide +kernel
theorem dX12_keep_121 : decode cX12_keep 121 = .ok (.imul, 1) := by decide +kernel
theorem dX12_keep_122 : decode cX12_keep 122 = .ok (.iload_n 2, 1) := by decide +kernel
theorem dX12_keep_123 : decode cX12_keep 123 = .ok (.iadd, 1) := by decide +kernel
theorem dX12_keep_124 : decode cX12_keep 124 = .ok (.aload_n 0, 1) := by decide +kernel
theorem dX12_keep_125 : decode cX12_keep 125 = .ok (.getfield 51, 3) := by decide +kernel
theorem dX12_keep_128 : decode cX12_keep 128 = .ok (.iload_n 2, 1) := by decide +kernel
theorem dX12_keep_129 : decode cX12_keep 129 = .ok (.iaload, 1) := by decide +kernel
theorem dX12_keep_130 : decode cX12_keep 130 = .ok (.iastore, 1) := by decide +kernel
theorem dX12_keep_131 : decode cX12_keep 131 = .ok (.iinc 2 1, 3) := by decide +kernel
theorem dX12_keep_134 : decode cX12_keep 134 = .ok (.goto (-32), 3) := by decide +kernel
theorem dX12_keep_137 : decode cX12_keep 137 = .ok (.aload_n 0, 1) := by decide +kernel
theorem dX12_keep_138 : decode cX12_keep 138 = .ok (.getfield 180, 3) := by decide +kernel
theorem dX12_keep_141 : decode cX12_keep 141 = .ok (.ireturn, 1) := by decide +kernel
theorem dX12_on_0 : decode cX12_on 0 = .ok (.iload_n 1, 1) := by decide +kernel
theorem dX12_on_1 : decode cX12_on 1 = .ok (.iconst 0, 1) := by decide +kernel
theorem dX12_on_2 : decode cX12_on 2 = .ok (.iconst 2, 1) := by decide +kernel
theorem dX12_on_3 : decode cX12_on 3 = .ok (.invokestatic 96, 3) := by decide +kernel
theorem dX12_on_6 : decode cX12_on 6 = .ok (.ifCond .ne 5, 3) := by decide +kernel
theorem dX12_on_9 : decode cX12_on 9 = .ok (.iconst (-1), 1) := by decide +kernel
theorem dX12_on_10 : decode cX12_on 10 = .ok (.ireturn, 1) := by decide +kernel
theorem dX12_on_11 : decode cX12_on 11 = .ok (.aload_n 0, 1) := by decide +kernel
theorem dX12_on_12 : decode cX12_on 12 = .ok (.getfield 54, 3) := by decide +kernel
theorem dX12_on_15 : decode cX12_on 15 = .ok (.iload_n 1, 1) := by decide +kernel
theorem dX12_on_16 : decode cX12_on 16 = .ok (.baload, 1) := by decide +kernel
theorem dX12_on_17 : decode cX12_on 17 = .ok (.ifCond .ne 9, 3) := by decide +kernel
theorem dX12_on_20 : decode cX12_on 20 = .ok (.aload_n 0, 1) := by decide +kernel
theorem dX12_on_21 : decode cX12_on 21 = .ok (.iconst 1, 1) := by decide +kernel
theorem dX12_on_22 : decode cX12_on 22 = .ok (.invokevirtual 110, 3) := by decide +kernel
theorem dX12_on_25 : decode cX12_on 25 = .ok (.ireturn, 1) := by decide +kernel
theorem dX12_on_26 : decode cX12_on 26 = .ok (.aload_n 0, 1) := by decide +kernel
theorem dX12_on_27 : decode cX12_on 27 = .ok (.aload_n 0, 1) := by decide +kernel
theorem dX12_on_28 : decode cX12_on 28 = .ok (.getfield 58, 3) := by decide +kernel
theorem dX12_on_31 : decode cX12_on 31 = .ok (.iload_n 1, 1) := by decide +kernel
theorem dX12_on_32 : decode cX12_on 32 = .ok (.iaload, 1) := by decide +kernel
theorem dX12_on_33 : decode cX12_on 33 = .ok (.putfield 180, 3) := by decide +kernel
theorem dX12_on_36 : decode cX12_on 36 = .ok (.iconst 0, 1) := by decide +kernel
theorem dX12_on_37 : decode cX12_on 37 = .ok (.istore_n 2, 1) := by decide +kernel
theorem dX12_on_38 : decode cX12_on 38 = .ok (.iload_n 2, 1) := by decide +kernel
theorem dX12_on_39 : decode cX12_on 39 = .ok (.bipush 6, 2) := by decide +kernel
theorem dX12_on_41 : decode cX12_on 41 = .ok (.if_icmp .ge 26, 3) := by decide +kernel
theorem dX12_on_44 : decode cX12_on 44 = .ok (.aload_n 0, 1) := by decide +kernel
theorem dX12_on_45 : decode cX12_on 45 = .ok (.getfield 36, 3) := by decide +kernel
theorem dX12_on_48 : decode cX12_on 48 = .ok (.iload_n 2, 1) := by decide +kernel
theorem dX12_on_49 : decode cX12_on 49 = .ok (.aload_n 0, 1) := by decide +kernel
theorem dX12_on_50 : decode cX12_on 50 = .ok (.getfield 61, 3) := by decide +kernel
theorem dX12_on_53 : decode cX12_on 53 = .ok (.bipush 6, 2) := by decide +kernel
theorem dX12_on_55 : decode cX12_on 55 = .ok (.iload_n 1, 1) := by decide +kernel
theorem dX12_on_56 : decode cX12_on 56 = .ok (.imul, 1) := by decide +kernel
theorem dX12_on_57 : decode cX12_on 57 = .ok (.iload_n 2, 1) := by decide +kernel
theorem dX12_on_58 : decode cX12_on 58 = .ok (.iadd, 1) := by decide +kernel
theorem dX12_on_59 : decode cX12_on 59 = .ok (.iaload, 1) := by decide +kernel
theorem dX12_on_60 : decode cX12_on 60 = .ok (.iastore, 1) := by decide +kernel
theorem dX12_on_61 : decode cX12_on 61 = .ok (.iinc 2 1, 3) := by decide +kernel
theorem dX12_on_64 : decode cX12_on 64 = .ok (.goto (-26), 3) := by decide +kernel
theorem dX12_on_67 : decode cX12_on 67 = .ok (.iconst 0, 1) := by decide +kernel
theorem dX12_on_68 : decode cX12_on 68 = .ok (.istore_n 2, 1) := by decide +kernel
theorem dX12_on_69 : decode cX12_on 69 = .ok (.iload_n 2, 1) := by decide +kernel
theorem dX12_on_70 : decode cX12_on 70 = .ok (.bipush 11, 2) := by decide +kernel
theorem dX12_on_72 : decode cX12_on 72 = .ok (.if_icmp .ge 26, 3) := by decide +kernel
theorem dX12_on_75 : decode cX12_on 75 = .ok (.aload_n 0, 1) := by decide +kernel
theorem dX12_on_76 : decode cX12_on 76 = .ok (.getfield 45, 3) := by decide +kernel
theorem dX12_on_79 : decode cX12_on 79 = .ok (.iload_n 2, 1) := by decide +kernel
theorem dX12_on_80 : decode cX12_on 80 = .ok (.aload_n 0, 1) := by decide +kernel
theorem dX12_on_81 : decode cX12_on 81 = .ok (.getfield 64, 3) := by decide +kernel
theorem dX12_on_84 : decode cX12_on 84 = .ok (.bipush 11, 2) := by decide +kernel
theorem dX12_on_86 : decode cX12_on 86 = .ok (.iload_n 1, 1) := by decide +kernel
theorem dX12_on_87 : decode cX12_on 87 = .ok (.imul, 1) := by decide +kernel
theorem dX12_on_88 : decode cX12_on 88 = .ok (.iload_n 2, 1) := by decide +kernel
theorem dX12_on_89 : decode cX12_on 89 = .ok (.iadd, 1) := by decide +kernel
theorem dX12_on_90 : decode cX12_on 90 = .ok (.iaload, 1) := by decide +kernel
theorem dX12_on_91 : decode cX12_on 91 = .ok (.iastore, 1) := by decide +kernel
theorem dX12_on_92 : decode cX12_on 92 = .ok (.iinc 2 1, 3) := by decide +kernel
theorem dX12_on_95 : decode cX12_on 95 = .ok (.goto (-26), 3) := by decide +kernel
theorem dX12_on_98 : decode cX12_on 98 = .ok (.iconst 0, 1) := by decide +kernel
theorem dX12_on_99 : decode cX12_on 99 = .ok (.istore_n 2, 1) := by decide +kernel
theorem dX12_on_100 : decode cX12_on 100 = .ok (.iload_n 2, 1) := by decide +kernel
theorem dX12_on_101 : decode cX12_on 101 = .ok (.bipush 11, 2) := by decide +kernel
theorem dX12_on_103 : decode cX12_on 103 = .ok (.aload_n 0, 1) := by decide +kernel
theorem dX12_on_104 : decode cX12_on 104 = .ok (.getfield 180, 3) := by decide +kernel
theorem dX12_on_107 : decode cX12_on 107 = .ok (.imul, 1) := by decide +kernel
theorem dX12_on_108 : decode cX12_on 108 = .ok (.if_icmp .ge 27, 3) := by decide +kernel
theorem dX12_on_111 : decode cX12_on 111 = .ok (.aload_n 0, 1) := by decide +kernel
theorem dX12_on_112 : decode cX12_on 112 = .ok (.getfield 51, 3) := by decide +kernel
theorem dX12_on_115 : decode cX12_on 115 = .ok (.iload_n 2, 1) := by decide +kernel
theorem dX12_on_116 : decode cX12_on 116 = .ok (.aload_n 0, 1) := by decide +kernel
theorem dX12_on_117 : decode cX12_on 117 = .ok (.getfield 67, 3) := by decide +kernel
theorem dX12_on_120 : decode cX12_on 120 = .ok (.sipush 660, 3) := by decide +kernel
theorem dX12_on_123 : decode cX12_on 123 = .ok (.iload_n 1, 1) := by decide +kernel
theorem dX12_on_124 : decode cX12_on 124 = .ok (.imul, 1) := by decide +kernel
theorem dX12_on_125 : decode cX12_on 125 = .ok (.iload_n 2, 1) := by decide +kernel
theorem dX12_on_126 : decode cX12_on 126 = .ok (.iadd, 1) := by decide +kernel
theorem dX12_on_127 : decode cX12_on 127 = .ok (.iaload, 1) := by decide +kernel
theorem dX12_on_128 : decode cX12_on 128 = .ok (.iastore, 1) := by decide +kernel
theorem dX12_on_129 : decode cX12_on 129 = .ok (.iinc 2 1, 3) := by decide +kernel
theorem dX12_on_132 : decode cX12_on 132 = .ok (.goto (-32), 3) := by decide +kernel
theorem dX12_on_135 : decode cX12_on 135 = .ok (.aload_n 0, 1) := by decide +kernel
theorem dX12_on_136 : decode cX12_on 136 = .ok (.getfield 180, 3) := by decide +kernel
theorem dX12_on_139 : decode cX12_on 139 = .ok (.ireturn, 1) := by decide +kernel
theorem dX12_hour_0 : decode cX12_hour 0 = .ok (.aload_n 0, 1) := by decide +kernel
theorem dX12_hour_1 : decode cX12_hour 1 = .ok (.getfield 168, 3) := by decide +kernel
theorem dX12_hour_4 : decode cX12_hour 4 = .ok (.ifCond .ne 8, 3) := by decide +kernel
theorem dX12_hour_7 : decode cX12_hour 7 = .ok (.bipush (-4), 2) := by decide +kernel
theorem dX12_hour_9 : decode cX12_hour 9 = .ok (.goto 27, 3) := by decide +kernel
theorem dX12_hour_12 : decode cX12_hour 12 = .ok (.aload_n 0, 1) := by decide +kernel
theorem dX12_hour_13 : decode cX12_hour 13 = .ok (.aload_n 0, 1) := by decide +kernel
theorem dX12_hour_14 : decode cX12_hour 14 = .ok (.getfield 45, 3) := by decide +kernel
theorem dX12_hour_17 : decode cX12_hour 17 = .ok (.iconst 1, 1) := by decide +kernel
theorem dX12_hour_18 : decode cX12_hour 18 = .ok (.iaload, 1) := by decide +kernel
theorem dX12_hour_19 : decode cX12_hour 19 = .ok (.bipush 12, 2) := by decide +kernel
theorem dX12_hour_21 : decode cX12_hour 21 = .ok (.aload_n 0, 1) := by decide +kernel
theorem dX12_hour_22 : decode cX12_hour 22 = .ok (.getfield 45, 3) := by decide +kernel
theorem dX12_hour_25 : decode cX12_hour 25 = .ok (.iconst 0, 1) := by decide +kernel
theorem dX12_hour_26 : decode cX12_hour 26 = .ok (.iaload, 1) := by decide +kernel
theorem dX12_hour_27 : decode cX12_hour 27 = .ok (.imul, 1) := by decide +kernel
theorem dX12_hour_28 : decode cX12_hour 28 = .ok (.aload_n 0, 1) := by decide +kernel
theorem dX12_hour_29 : decode cX12_hour 29 = .ok (.getfield 171, 3) := by decide +kernel
theorem dX12_hour_32 : decode cX12_hour 32 = .ok (.idiv, 1) := by decide +kernel
theorem dX12_hour_33 : decode cX12_hour 33 = .ok (.invokevirtual 118, 3) := by decide +kernel
theorem dX12_hour_36 : decode cX12_hour 36 = .ok (.ireturn, 1) := by decide +kernel
theorem dX12_due_0 : decode cX12_due 0 = .ok (.aload_n 0, 1) := by decide +kernel
theorem dX12_due_1 : decode cX12_due 1 = .ok (.aload_n 0, 1) := by decide +kernel
theorem dX12_due_2 : decode cX12_due 2 = .ok (.aload_n 0, 1) := by decide +kernel
theorem dX12_due_3 : decode cX12_due 3 = .ok (.getfield 45, 3) := by decide +kernel
theorem dX12_due_6 : decode cX12_due 6 = .ok (.iconst 0, 1) := by decide +kernel
theorem dX12_due_7 : decode cX12_due 7 = .ok (.iaload, 1) := by decide +kernel
theorem dX12_due_8 : decode cX12_due 8 = .ok (.invokevirtual 208, 3) := by decide +kernel
theorem dX12_due_11 : decode cX12_due 11 = .ok (.ifCond .eq 7, 3) := by decide +kernel
theorem dX12_due_14 : decode cX12_due 14 = .ok (.iconst 1, 1) := by decide +kernel
theorem dX12_due_15 : decode cX12_due 15 = .ok (.goto 4, 3) := by decide +kernel
theorem dX12_due_18 : decode cX12_due 18 = .ok (.iconst 0, 1) := by decide +kernel
theorem dX12_due_19 : decode cX12_due 19 = .ok (.aload_n 0, 1) := by decide +kernel
theorem dX12_due_20 : decode cX12_due 20 = .ok (.getfield 45, 3) := by decide +kernel
theorem dX12_due_23 : decode cX12_due 23 = .ok (.iconst 3, 1) := by decide +kernel
theorem dX12_due_24 : decode cX12_due 24 = .ok (.iaload, 1) := by decide +kernel
theorem dX12_due_25 : decode cX12_due 25 = .ok (.invokevirtual 118, 3) := by decide +kernel
theorem dX12_due_28 : decode cX12_due 28 = .ok (.ireturn, 1) := by decide +kernel
theorem dX12_copyNow_0 : decode cX12_copyNow 0 = .ok (.iconst 0, 1) := by decide +kernel
theorem dX12_copyNow_1 : decode cX12_copyNow 1 = .ok (.istore_n 1, 1) := by decide +kernel
theorem dX12_copyNow_2 : decode cX12_copyNow 2 = .ok (.iload_n 1, 1) := by decide +kernel
theorem dX12_copyNow_3 : decode cX12_copyNow 3 = .ok (.bipush 11, 2) := by decide +kernel
theorem dX12_copyNow_5 : decode cX12_copyNow 5 = .ok (.if_icmp .ge 21, 3) := by decide +kernel
theorem dX12_copyNow_8 : decode cX12_copyNow 8 = .ok (.aload_n 0, 1) := by decide +kernel
theorem dX12_copyNow_9 : decode cX12_copyNow 9 = .ok (.getfield 48, 3) := by decide +kernel
theorem dX12_copyNow_12 : decode cX12_copyNow 12 = .ok (.iload_n 1, 1) := by decide +kernel
theorem dX12_copyNow_13 : decode cX12_copyNow 13 = .ok (.aload_n 0, 1) := by decide +kernel
theorem dX12_copyNow_14 : decode cX12_copyNow 14 = .ok (.getfield 45, 3) := by decide +kernel
theorem dX12_copyNow_17 : decode cX12_copyNow 17 = .ok (.iload_n 1, 1) := by decide +kernel
theorem dX12_copyNow_18 : decode cX12_copyNow 18 = .ok (.iaload, 1) := by decide +kernel
theorem dX12_copyNow_19 : decode cX12_copyNow 19 = .ok (.iastore, 1) := by decide +kernel
theorem dX12_copyNow_20 : decode cX12_copyNow 20 = .ok (.iinc 1 1, 3) := by decide +kernel
theorem dX12_copyNow_23 : decode cX12_copyNow 23 = .ok (.goto (-21), 3) := by decide +kernel
theorem dX12_copyNow_26 : decode cX12_copyNow 26 = .ok (.return_, 1) := by decide +kernel
theorem dX12_after_0 : decode cX12_after 0 = .ok (.iload_n 1, 1) := by decide +kernel
theorem dX12_after_1 : decode cX12_after 1 = .ok (.invokestatic 106, 3) := by decide +kernel
theorem dX12_after_4 : decode cX12_after 4 = .ok (.ifCond .ne 5, 3) := by decide +kernel
theorem dX12_after_7 : decode cX12_after 7 = .ok (.iconst (-1), 1) := by decide +kernel
theorem dX12_after_8 : decode cX12_after 8 = .ok (.ireturn, 1) := by decide +kernel
theorem dX12_after_9 : decode cX12_after 9 = .ok (.aload_n 0, 1) := by decide +kernel
theorem dX12_after_10 : decode cX12_after 10 = .ok (.getfield 168, 3) := by decide +kernel
theorem dX12_after_13 : decode cX12_after 13 = .ok (.ifCond .ne 6, 3) := by decide +kernel
theorem dX12_after_16 : decode cX12_after 16 = .ok (.bipush (-4), 2) := by decide +kernel
theorem dX12_after_18 : decode cX12_after 18 = .ok (.ireturn, 1) := by decide +kernel
theorem dX12_after_19 : decode cX12_after 19 = .ok (.aload_n 0, 1) := by decide +kernel
theorem dX12_after_20 : decode cX12_after 20 = .ok (.getfield 17, 3) := by decide +kernel
theorem dX12_after_23 : decode cX12_after 23 = .ok (.iload_n 1, 1) := by decide +kernel
theorem dX12_after_24 : decode cX12_after 24 = .ok (.iaload, 1) := by decide +kernel
theorem dX12_after_25 : decode cX12_after 25 = .ok (.ifCond .ge 9, 3) := by decide +kernel
theorem dX12_after_28 : decode cX12_after 28 = .ok (.aload_n 0, 1) := by decide +kernel
theorem dX12_after_29 : decode cX12_after 29 = .ok (.iconst 1, 1) := by decide +kernel
theorem dX12_after_30 : decode cX12_after 30 = .ok (.invokevirtual 110, 3) := by decide +kernel
theorem dX12_after_33 : decode cX12_after 33 = .ok (.ireturn, 1) := by decide +kernel
theorem dX12_after_34 : decode cX12_after 34 = .ok (.iconst 1, 1) := by decide +kernel
theorem dX12_after_35 : decode cX12_after 35 = .ok (.istore_n 2, 1) := by decide +kernel
theorem dX12_after_36 : decode cX12_after 36 = .ok (.iconst 0, 1) := by decide +kernel
theorem dX12_after_37 : decode cX12_after 37 = .ok (.istore_n 3, 1) := by decide +kernel
theorem dX12_after_38 : decode cX12_after 38 = .ok (.iload_n 3, 1) := by decide +kernel
theorem dX12_after_39 : decode cX12_after 39 = .ok (.aload_n 0, 1) := by decide +kernel
theorem dX12_after_40 : decode cX12_after 40 = .ok (.getfield 17, 3) := by decide +kernel
theorem dX12_after_43 : decode cX12_after 43 = .ok (.iload_n 1, 1) := by decide +kernel
theorem dX12_after_44 : decode cX12_after 44 = .ok (.iaload, 1) := by decide +kernel
theorem dX12_after_45 : decode cX12_after 45 = .ok (.if_icmp .ge 32, 3) := by decide +kernel
theorem dX12_after_48 : decode cX12_after 48 = .ok (.iload_n 2, 1) := by decide +kernel
theorem dX12_after_49 : decode cX12_after 49 = .ok (.ifCond .eq 20, 3) := by decide +kernel
theorem dX12_after_52 : decode cX12_after 52 = .ok (.aload_n 0, 1) := by decide +kernel
theorem dX12_after_53 : decode cX12_after 53 = .ok (.aload_n 0, 1) := by decide +kernel
theorem dX12_after_54 : decode cX12_after 54 = .ok (.iload_n 1, 1) := by decide +kernel
theorem dX12_after_55 : decode cX12_after 55 = .ok (.iload_n 3, 1) := by decide +kernel
theorem dX12_after_56 : decode cX12_after 56 = .ok (.invokevirtual 114, 3) := by decide +kernel
theorem dX12_after_59 : decode cX12_after 59 = .ok (.invokevirtual 189, 3) := by decide +kernel
theorem dX12_after_62 : decode cX12_after 62 = .ok (.ifCond .eq 7, 3) := by decide +kernel
theorem dX12_after_65 : decode cX12_after 65 = .ok (.iconst 1, 1) := by decide +kernel
theorem dX12_after_66 : decode cX12_after 66 = .ok (.goto 4, 3) := by decide +kernel
theorem dX12_after_69 : decode cX12_after 69 = .ok (.iconst 0, 1) := by decide +kernel
theorem dX12_after_70 : decode cX12_after 70 = .ok (.istore_n 2, 1) := by decide +kernel
theorem dX12_after_71 : decode cX12_after 71 = .ok (.iinc 3 1, 3) := by decide +kernel
theorem dX12_after_74 : decode cX12_after 74 = .ok (.goto (-36), 3) := by decide +kernel
theorem dX12_after_77 : decode cX12_after 77 = .ok (.iload_n 2, 1) := by decide +kernel
theorem dX12_after_78 : decode cX12_after 78 = .ok (.ifCond .ne 9, 3) := by decide +kernel
theorem dX12_after_81 : decode cX12_after 81 = .ok (.aload_n 0, 1) := by decide +kernel
theorem dX12_after_82 : decode cX12_after 82 = .ok (.iconst 3, 1) := by decide +kernel
theorem dX12_after_83 : decode cX12_after 83 = .ok (.invokevirtual 110, 3) := by decide +kernel
theorem dX12_after_86 : decode cX12_after 86 = .ok (.ireturn, 1) := by decide +kernel
theorem dX12_after_87 : decode cX12_after 87 = .ok (.aload_n 0, 1) := by decide +kernel
theorem dX12_after_88 : decode cX12_after 88 = .ok (.invokevirtual 218, 3) := by decide +kernel
theorem dX12_after_91 : decode cX12_after 91 = .ok (.iconst 0, 1) := by decide +kernel
theorem dX12_after_92 : decode cX12_after 92 = .ok (.istore_n 3, 1) := by decide +kernel
theorem dX12_after_93 : decode cX12_after 93 = .ok (.iload_n 3, 1) := by decide +kernel
theorem dX12_after_94 : decode cX12_after 94 = .ok (.aload_n 0, 1) := by decide +kernel
theorem dX12_after_95 : decode cX12_after 95 = .ok (.getfield 17, 3) := by decide +kernel
theorem dX12_after_98 : decode cX12_after 98 = .ok (.iload_n 1, 1) := by decide +kernel
theorem dX12_after_99 : decode cX12_after 99 = .ok (.iaload, 1) := by decide +kernel
theorem dX12_after_100 : decode cX12_after 100 = .ok (.if_icmp .ge 23, 3) := by decide +kernel
theorem dX12_after_103 : decode cX12_after 103 = .ok (.aload_n 0, 1) := by decide +kernel
theorem dX12_after_104 : decode cX12_after 104 = .ok (.aload_n 0, 1) := by decide +kernel
theorem dX12_after_105 : decode cX12_after 105 = .ok (.getfield 48, 3) := by decide +kernel
theorem dX12_after_108 : decode cX12_after 108 = .ok (.aload_n 0, 1) := by decide +kernel
theorem dX12_after_109 : decode cX12_after 109 = .ok (.iload_n 1, 1) := by decide +kernel
theorem dX12_after_110 : decode cX12_after 110 = .ok (.iload_n 3, 1) := by decide +kernel
theorem dX12_after_111 : decode cX12_after 111 = .ok (.invokevirtual 114, 3) := by decide +kernel
theorem dX12_after_114 : decode cX12_after 114 = .ok (.invokevirtual 214, 3) := by decide +kernel
theorem dX12_after_117 : decode cX12_after 117 = .ok (.iinc 3 1, 3) := by decide +kernel
theorem dX12_after_120 : decode cX12_after 120 = .ok (.goto (-27), 3) := by decide +kernel
theorem dX12_after_123 : decode cX12_after 123 = .ok (.aload_n 0, 1) := by decide +kernel
theorem dX12_after_124 : decode cX12_after 124 = .ok (.aload_n 0, 1) := by decide +kernel
theorem dX12_after_125 : decode cX12_after 125 = .ok (.getfield 48, 3) := by decide +kernel
theorem dX12_after_128 : decode cX12_after 128 = .ok (.iconst 3, 1) := by decide +kernel
theorem dX12_after_129 : decode cX12_after 129 = .ok (.iaload, 1) := by decide +kernel
theorem dX12_after_130 : decode cX12_after 130 = .ok (.aload_n 0, 1) := by decide +kernel
theorem dX12_after_131 : decode cX12_after 131 = .ok (.getfield 45, 3) := by decide +kernel
theorem dX12_after_134 : decode cX12_after 134 = .ok (.iconst 3, 1) := by decide +kernel
theorem dX12_after_135 : decode cX12_after 135 = .ok (.iaload, 1) := by decide +kernel
theorem dX12_after_136 : decode cX12_after 136 = .ok (.isub, 1) := by decide +kernel
theorem dX12_after_137 : decode cX12_after 137 = .ok (.aload_n 0, 1) := by decide +kernel
theorem dX12_after_138 : decode cX12_after 138 = .ok (.getfield 48, 3) := by decide +kernel
theorem dX12_after_141 : decode cX12_after 141 = .ok (.iconst 0, 1) := by decide +kernel
theorem dX12_after_142 : decode cX12_after 142 = .ok (.iaload, 1) := by decide +kernel
theorem dX12_after_143 : decode cX12_after 143 = .ok (.invokevirtual 118, 3) := by decide +kernel
theorem dX12_after_146 : decode cX12_after 146 = .ok (.ireturn, 1) := by decide +kernel
theorem dX12_pace_0 : decode cX12_pace 0 = .ok (.iconst 0, 1) := by decide +kernel
theorem dX12_pace_1 : decode cX12_pace 1 = .ok (.istore_n 1, 1) := by decide +kernel
theorem dX12_pace_2 : decode cX12_pace 2 = .ok (.iconst 0, 1) := by decide +kernel
theorem dX12_pace_3 : decode cX12_pace 3 = .ok (.istore_n 2, 1) := by decide +kernel
theorem dX12_pace_4 : decode cX12_pace 4 = .ok (.iload_n 2, 1) := by decide +kernel
theorem dX12_pace_5 : decode cX12_pace 5 = .ok (.aload_n 0, 1) := by decide +kernel
theorem dX12_pace_6 : decode cX12_pace 6 = .ok (.getfield 168, 3) := by decide +kernel
theorem dX12_pace_9 : decode cX12_pace 9 = .ok (.if_icmp .ge 20, 3) := by decide +kernel
theorem dX12_pace_12 : decode cX12_pace 12 = .ok (.iload_n 1, 1) := by decide +kernel
theorem dX12_pace_13 : decode cX12_pace 13 = .ok (.aload_n 0, 1) := by decide +kernel
theorem dX12_pace_14 : decode cX12_pace 14 = .ok (.getfield 45, 3) := by decide +kernel
theorem dX12_pace_17 : decode cX12_pace 17 = .ok (.iconst 5, 1) := by decide +kernel
theorem dX12_pace_18 : decode cX12_pace 18 = .ok (.iload_n 2, 1) := by decide +kernel
theorem dX12_pace_19 : decode cX12_pace 19 = .ok (.iadd, 1) := by decide +kernel
theorem dX12_pace_20 : decode cX12_pace 20 = .ok (.iaload, 1) := by decide +kernel
theorem dX12_pace_21 : decode cX12_pace 21 = .ok (.iadd, 1) := by decide +kernel
theorem dX12_pace_22 : decode cX12_pace 22 = .ok (.istore_n 1, 1) := by decide +kernel
theorem dX12_pace_23 : decode cX12_pace 23 = .ok (.iinc 2 1, 3) := by decide +kernel
theorem dX12_pace_26 : decode cX12_pace 26 = .ok (.goto (-22), 3) := by decide +kernel
theorem dX12_pace_29 : decode cX12_pace 29 = .ok (.iload_n 1, 1) := by decide +kernel
theorem dX12_pace_30 : decode cX12_pace 30 = .ok (.ifCond .ne 11, 3) := by decide +kernel
theorem dX12_pace_33 : decode cX12_pace 33 = .ok (.aload_n 0, 1) := by decide +kernel
theorem dX12_pace_34 : decode cX12_pace 34 = .ok (.iconst 4, 1) := by decide +kernel
theorem dX12_pace_35 : decode cX12_pace 35 = .ok (.invokevirtual 110, 3) := by decide +kernel
theorem dX12_pace_38 : decode cX12_pace 38 = .ok (.goto 16, 3) := by decide +kernel
theorem dX12_pace_41 : decode cX12_pace 41 = .ok (.aload_n 0, 1) := by decide +kernel
theorem dX12_pace_42 : decode cX12_pace 42 = .ok (.aload_n 0, 1) := by decide +kernel
theorem dX12_pace_43 : decode cX12_pace 43 = .ok (.getfield 45, 3) := by decide +kernel
theorem dX12_pace_46 : decode cX12_pace 46 = .ok (.iconst 4, 1) := by decide +kernel
theorem dX12_pace_47 : decode cX12_pace 47 = .ok (.iaload, 1) := by decide +kernel
theorem dX12_pace_48 : decode cX12_pace 48 = .ok (.i2l, 1) := by decide +kernel
theorem dX12_pace_49 : decode cX12_pace 49 = .ok (.iload_n 1, 1) := by decide +kernel
theorem dX12_pace_50 : decode cX12_pace 50 = .ok (.i2l, 1) := by decide +kernel
theorem dX12_pace_51 : decode cX12_pace 51 = .ok (.invokevirtual 221, 3) := by decide +kernel
theorem dX12_pace_54 : decode cX12_pace 54 = .ok (.ireturn, 1) := by decide +kernel
theorem dX12_ends_0 : decode cX12_ends 0 = .ok (.iload_n 1, 1) := by decide +kernel
theorem dX12_ends_1 : decode cX12_ends 1 = .ok (.ifCond .ne 35, 3) := by decide +kernel
theorem dX12_ends_4 : decode cX12_ends 4 = .ok (.aload_n 0, 1) := by decide +kernel
theorem dX12_ends_5 : decode cX12_ends 5 = .ok (.dup, 1) := by decide +kernel
theorem dX12_ends_6 : decode cX12_ends 6 = .ok (.getfield 225, 3) := by decide +kernel
theorem dX12_ends_9 : decode cX12_ends 9 = .ok (.lconst 1, 1) := by decide +kernel
theorem dX12_ends_10 : decode cX12_ends 10 = .ok (.ladd, 1) := by decide +kernel
theorem dX12_ends_11 : decode cX12_ends 11 = .ok (.putfield 225, 3) := by decide +kernel
theorem dX12_ends_14 : decode cX12_ends 14 = .ok (.aload_n 0, 1) := by decide +kernel
theorem dX12_ends_15 : decode cX12_ends 15 = .ok (.dup, 1) := by decide +kernel
theorem dX12_ends_16 : decode cX12_ends 16 = .ok (.getfield 228, 3) := by decide +kernel
theorem dX12_ends_19 : decode cX12_ends 19 = .ok (.iconst 1, 1) := by decide +kernel
theorem dX12_ends_20 : decode cX12_ends 20 = .ok (.aload_n 0, 1) := by decide +kernel
theorem dX12_ends_21 : decode cX12_ends 21 = .ok (.getfield 70, 3) := by decide +kernel
theorem dX12_ends_24 : decode cX12_ends 24 = .ok (.aload_n 0, 1) := by decide +kernel
theorem dX12_ends_25 : decode cX12_ends 25 = .ok (.getfield 168, 3) := by decide +kernel
theorem dX12_ends_28 : decode cX12_ends 28 = .ok (.iconst 1, 1) := by decide +kernel
theorem dX12_ends_29 : decode cX12_ends 29 = .ok (.isub, 1) := by decide +kernel
theorem dX12_ends_30 : decode cX12_ends 30 = .ok (.iaload, 1) := by decide +kernel
theorem dX12_ends_31 : decode cX12_ends 31 = .ok (.ishl, 1) := by decide +kernel
theorem dX12_ends_32 : decode cX12_ends 32 = .ok (.ior, 1) := by decide +kernel
theorem dX12_ends_33 : decode cX12_ends 33 = .ok (.putfield 228, 3) := by decide +kernel
theorem dX12_ends_36 : decode cX12_ends 36 = .ok (.aload_n 0, 1) := by decide +kernel
theorem dX12_ends_37 : decode cX12_ends 37 = .ok (.getfield 231, 3) := by decide +kernel
theorem dX12_ends_40 : decode cX12_ends 40 = .ok (.bipush (-9), 2) := by decide +kernel
theorem dX12_ends_42 : decode cX12_ends 42 = .ok (.if_icmp .ne 19, 3) := by decide +kernel
theorem dX12_ends_45 : decode cX12_ends 45 = .ok (.iload_n 1, 1) := by decide +kernel
theorem dX12_ends_46 : decode cX12_ends 46 = .ok (.aload_n 0, 1) := by decide +kernel
theorem dX12_ends_47 : decode cX12_ends 47 = .ok (.getfield 234, 3) := by decide +kernel
theorem dX12_ends_50 : decode cX12_ends 50 = .ok (.if_icmp .ge 7, 3) := by decide +kernel
theorem dX12_ends_53 : decode cX12_ends 53 = .ok (.iconst 1, 1) := by decide +kernel
theorem dX12_ends_54 : decode cX12_ends 54 = .ok (.goto 27, 3) := by decide +kernel
theorem dX12_ends_57 : decode cX12_ends 57 = .ok (.iconst 0, 1) := by decide +kernel
theorem dX12_ends_58 : decode cX12_ends 58 = .ok (.goto 23, 3) := by decide +kernel
theorem dX12_ends_61 : decode cX12_ends 61 = .ok (.aload_n 0, 1) := by decide +kernel
theorem dX12_ends_62 : decode cX12_ends 62 = .ok (.getfield 237, 3) := by decide +kernel
theorem dX12_ends_65 : decode cX12_ends 65 = .ok (.ifCond .ne 15, 3) := by decide +kernel
theorem dX12_ends_68 : decode cX12_ends 68 = .ok (.iload_n 1, 1) := by decide +kernel
theorem dX12_ends_69 : decode cX12_ends 69 = .ok (.ifCond .ne 11, 3) := by decide +kernel
theorem dX12_ends_72 : decode cX12_ends 72 = .ok (.iload_n 2, 1) := by decide +kernel
theorem dX12_ends_73 : decode cX12_ends 73 = .ok (.ifCond .eq 7, 3) := by decide +kernel
theorem dX12_ends_76 : decode cX12_ends 76 = .ok (.iconst 1, 1) := by decide +kernel
theorem dX12_ends_77 : decode cX12_ends 77 = .ok (.goto 4, 3) := by decide +kernel
theorem dX12_ends_80 : decode cX12_ends 80 = .ok (.iconst 0, 1) := by decide +kernel
theorem dX12_ends_81 : decode cX12_ends 81 = .ok (.istore_n 3, 1) := by decide +kernel
theorem dX12_ends_82 : decode cX12_ends 82 = .ok (.aload_n 0, 1) := by decide +kernel
theorem dX12_ends_83 : decode cX12_ends 83 = .ok (.iload_n 1, 1) := by decide +kernel
theorem dX12_ends_84 : decode cX12_ends 84 = .ok (.aload_n 0, 1) := by decide +kernel
theorem dX12_ends_85 : decode cX12_ends 85 = .ok (.getfield 234, 3) := by decide +kernel
theorem dX12_ends_88 : decode cX12_ends 88 = .ok (.if_icmp .ge 7, 3) := by decide +kernel
theorem dX12_ends_91 : decode cX12_ends 91 = .ok (.iload_n 1, 1) := by decide +kernel
theorem dX12_ends_92 : decode cX12_ends 92 = .ok (.goto 7, 3) := by decide +kernel
theorem dX12_ends_95 : decode cX12_ends 95 = .ok (.aload_n 0, 1) := by decide +kernel
theorem dX12_ends_96 : decode cX12_ends 96 = .ok (.getfield 234, 3) := by decide +kernel
theorem dX12_ends_99 : decode cX12_ends 99 = .ok (.putfield 234, 3) := by decide +kernel
theorem dX12_ends_102 : decode cX12_ends 102 = .ok (.iload_n 3, 1) := by decide +kernel
theorem dX12_ends_103 : decode cX12_ends 103 = .ok (.ifCond .eq 40, 3) := by decide +kernel
theorem dX12_ends_106 : decode cX12_ends 106 = .ok (.aload_n 0, 1) := by decide +kernel
theorem dX12_ends_107 : decode cX12_ends 107 = .ok (.iconst 1, 1) := by decide +kernel
theorem dX12_ends_108 : decode cX12_ends 108 = .ok (.putfield 237, 3) := by decide +kernel
theorem dX12_ends_111 : decode cX12_ends 111 = .ok (.iconst 0, 1) := by decide +kernel
theorem dX12_ends_112 : decode cX12_ends 112 = .ok (.istore 4, 2) := by decide +kernel
theorem dX12_ends_114 : decode cX12_ends 114 = .ok (.iload 4, 2) := by decide +kernel
theorem dX12_ends_116 : decode cX12_ends 116 = .ok (.aload_n 0, 1) := by decide +kernel
theorem dX12_ends_117 : decode cX12_ends 117 = .ok (.getfield 168, 3) := by decide +kernel
theorem dX12_ends_120 : decode cX12_ends 120 = .ok (.if_icmp .ge 23, 3) := by decide +kernel
theorem dX12_ends_123 : decode cX12_ends 123 = .ok (.aload_n 0, 1) := by decide +kernel
theorem dX12_ends_124 : decode cX12_ends 124 = .ok (.getfield 73, 3) := by decide +kernel
theorem dX12_ends_127 : decode cX12_ends 127 = .ok (.iload 4, 2) := by decide +kernel
theorem dX12_ends_129 : decode cX12_ends 129 = .ok (.aload_n 0, 1) := by decide +kernel
theorem dX12_ends_130 : decode cX12_ends 130 = .ok (.getfield 70, 3) := by decide +kernel
theorem dX12_ends_133 : decode cX12_ends 133 = .ok (.iload 4, 2) := by decide +kernel
theorem dX12_ends_135 : decode cX12_ends 135 = .ok (.iaload, 1) := by decide +kernel
theorem dX12_ends_136 : decode cX12_ends 136 = .ok (.iastore, 1) := by decide +kernel
theorem dX12_ends_137 : decode cX12_ends 137 = .ok (.iinc 4 1, 3) := by decide +kernel
theorem dX12_ends_140 : decode cX12_ends 140 = .ok (.goto (-26), 3) := by decide +kernel
theorem dX12_ends_143 : decode cX12_ends 143 = .ok (.return_, 1) := by decide +kernel
theorem dX12_layOrders_0 : decode cX12_layOrders 0 = .ok (.iload_n 1, 1) := by decide +kernel
theorem dX12_layOrders_1 : decode cX12_layOrders 1 = .ok (.aload_n 0, 1) := by decide +kernel
theorem dX12_layOrders_2 : decode cX12_layOrders 2 = .ok (.getfield 168, 3) := by decide +kernel
theorem dX12_layOrders_5 : decode cX12_layOrders 5 = .ok (.if_icmp .ne 12, 3) := by decide +kernel
theorem dX12_layOrders_8 : decode cX12_layOrders 8 = .ok (.aload_n 0, 1) := by decide +kernel
theorem dX12_layOrders_9 : decode cX12_layOrders 9 = .ok (.iload 4, 2) := by decide +kernel
theorem dX12_layOrders_11 : decode cX12_layOrders 11 = .ok (.iload 5, 2) := by decide +kernel
theorem dX12_layOrders_13 : decode cX12_layOrders 13 = .ok (.invokevirtual 241, 3) := by decide +kernel
theorem dX12_layOrders_16 : decode cX12_layOrders 16 = .ok (.return_, 1) := by decide +kernel
theorem dX12_layOrders_17 : decode cX12_layOrders 17 = .ok (.iconst 0, 1) := by decide +kernel
theorem dX12_layOrders_18 : decode cX12_layOrders 18 = .ok (.istore 6, 2) := by decide +kernel
theorem dX12_layOrders_20 : decode cX12_layOrders 20 = .ok (.iload 6, 2) := by decide +kernel
theorem dX12_layOrders_22 : decode cX12_layOrders 22 = .ok (.aload_n 0, 1) := by decide +kernel
theorem dX12_layOrders_23 : decode cX12_layOrders 23 = .ok (.getfield 168, 3) := by decide +kernel
theorem dX12_layOrders_26 : decode cX12_layOrders 26 = .ok (.if_icmp .ge 101, 3) := by decide +kernel
theorem dX12_layOrders_29 : decode cX12_layOrders 29 = .ok (.iload_n 2, 1) := by decide +kernel
theorem dX12_layOrders_30 : decode cX12_layOrders 30 = .ok (.iload 6, 2) := by decide +kernel
theorem dX12_layOrders_32 : decode cX12_layOrders 32 = .ok (.invokestatic 245, 3) := by decide +kernel
theorem dX12_layOrders_35 : decode cX12_layOrders 35 = .ok (.ifCond .ne 86, 3) := by decide +kernel
theorem dX12_layOrders_38 : decode cX12_layOrders 38 = .ok (.iload_n 3, 1) := by decide +kernel
theorem dX12_layOrders_39 : decode cX12_layOrders 39 = .ok (.aload_n 0, 1) := by decide +kernel
theorem dX12_layOrders_40 : decode cX12_layOrders 40 = .ok (.iload 6, 2) := by decide +kernel
theorem dX12_layOrders_42 : decode cX12_layOrders 42 = .ok (.invokevirtual 186, 3) := by decide +kernel
theorem dX12_layOrders_45 : decode cX12_layOrders 45 = .ok (.iadd, 1) := by decide +kernel
theorem dX12_layOrders_46 : decode cX12_layOrders 46 = .ok (.aload_n 0, 1) := by decide +kernel
theorem dX12_layOrders_47 : decode cX12_layOrders 47 = .ok (.getfield 171, 3) := by decide +kernel
theorem dX12_layOrders_50 : decode cX12_layOrders 50 = .ok (.irem, 1) := by decide +kernel
theorem dX12_layOrders_51 : decode cX12_layOrders 51 = .ok (.istore 7, 2) := by decide +kernel
theorem dX12_layOrders_53 : decode cX12_layOrders 53 = .ok (.aload_n 0, 1) := by decide +kernel
theorem dX12_layOrders_54 : decode cX12_layOrders 54 = .ok (.getfield 70, 3) := by decide +kernel
theorem dX12_layOrders_57 : decode cX12_layOrders 57 = .ok (.iload_n 1, 1) := by decide +kernel
theorem dX12_layOrders_58 : decode cX12_layOrders 58 = .ok (.iload 6, 2) := by decide +kernel
theorem dX12_layOrders_60 : decode cX12_layOrders 60 = .ok (.iastore, 1) := by decide +kernel
theorem dX12_layOrders_61 : decode cX12_layOrders 61 = .ok (.aload_n 0, 1) := by decide +kernel
theorem dX12_layOrders_62 : decode cX12_layOrders 62 = .ok (.iload_n 1, 1) := by decide +kernel
theorem dX12_layOrders_63 : decode cX12_layOrders 63 = .ok (.iconst 1, 1) := by decide +kernel
theorem dX12_layOrders_64 : decode cX12_layOrders 64 = .ok (.iadd, 1) := by decide +kernel
theorem dX12_layOrders_65 : decode cX12_layOrders 65 = .ok (.iload_n 2, 1) := by decide +kernel
theorem dX12_layOrders_66 : decode cX12_layOrders 66 = .ok (.iconst 1, 1) := by decide +kernel
theorem dX12_layOrders_67 : decode cX12_layOrders 67 = .ok (.iload 6, 2) := by decide +kernel
theorem dX12_layOrders_69 : decode cX12_layOrders 69 = .ok (.ishl, 1) := by decide +kernel
theorem dX12_layOrders_70 : decode cX12_layOrders 70 = .ok (.ior, 1) := by decide +kernel
theorem dX12_layOrders_71 : decode cX12_layOrders 71 = .ok (.iload 7, 2) := by decide +kernel
theorem dX12_layOrders_73 : decode cX12_layOrders 73 = .ok (.iload 4, 2) := by decide +kernel
theorem dX12_layOrders_75 : decode cX12_layOrders 75 = .ok (.aload_n 0, 1) := by decide +kernel
theorem dX12_layOrders_76 : decode cX12_layOrders 76 = .ok (.iload 7, 2) := by decide +kernel
theorem dX12_layOrders_78 : decode cX12_layOrders 78 = .ok (.invokevirtual 208, 3) := by decide +kernel
theorem dX12_layOrders_81 : decode cX12_layOrders 81 = .ok (.ifCond .eq 7, 3) := by decide +kernel
theorem dX12_layOrders_84 : decode cX12_layOrders 84 = .ok (.iconst 1, 1) := by decide +kernel
theorem dX12_layOrders_85 : decode cX12_layOrders 85 = .ok (.goto 4, 3) := by decide +kernel
theorem dX12_layOrders_88 : decode cX12_layOrders 88 = .ok (.iconst 0, 1) := by decide +kernel
theorem dX12_layOrders_89 : decode cX12_layOrders 89 = .ok (.iadd, 1) := by decide +kernel
theorem dX12_layOrders_90 : decode cX12_layOrders 90 = .ok (.iload 5, 2) := by decide +kernel
theorem dX12_layOrders_92 : decode cX12_layOrders 92 = .ok (.ifCond .ne 21, 3) := by decide +kernel
theorem dX12_layOrders_95 : decode cX12_layOrders 95 = .ok (.iload 6, 2) := by decide +kernel
theorem dX12_layOrders_97 : decode cX12_layOrders 97 = .ok (.aload_n 0, 1) := by decide +kernel
theorem dX12_layOrders_98 : decode cX12_layOrders 98 = .ok (.getfield 231, 3) := by decide +kernel
theorem dX12_layOrders_101 : decode cX12_layOrders 101 = .ok (.if_icmp .ne 16, 3) := by decide +kernel
theorem dX12_layOrders_104 : decode cX12_layOrders 104 = .ok (.iload 7, 2) := by decide +kernel
theorem dX12_layOrders_106 : decode cX12_layOrders 106 = .ok (.aload_n 0, 1) := by decide +kernel
theorem dX12_layOrders_107 : decode cX12_layOrders 107 = .ok (.getfield 248, 3) := by decide +kernel
theorem dX12_layOrders_110 : decode cX12_layOrders 110 = .ok (.if_icmp .ne 7, 3) := by decide +kernel
theorem dX12_layOrders_113 : decode cX12_layOrders 113 = .ok (.iconst 1, 1) := by decide +kernel
theorem dX12_layOrders_114 : decode cX12_layOrders 114 = .ok (.goto 4, 3) := by decide +kernel
theorem dX12_layOrders_117 : decode cX12_layOrders 117 = .ok (.iconst 0, 1) := by decide +kernel
theorem dX12_layOrders_118 : decode cX12_layOrders 118 = .ok (.invokevirtual 251, 3) := by decide +kernel
theorem dX12_layOrders_121 : decode cX12_layOrders 121 = .ok (.iinc 6 1, 3) := by decide +kernel
theorem dX12_layOrders_124 : decode cX12_layOrders 124 = .ok (.goto (-104), 3) := by decide +kernel
theorem dX12_layOrders_127 : decode cX12_layOrders 127 = .ok (.return_, 1) := by decide +kernel
theorem dX12_allOrders_0 : decode cX12_allOrders 0 = .ok (.aload_n 0, 1) := by decide +kernel
theorem dX12_allOrders_1 : decode cX12_allOrders 1 = .ok (.iconst 0, 1) := by decide +kernel
theorem dX12_allOrders_2 : decode cX12_allOrders 2 = .ok (.putfield 237, 3) := by decide +kernel
theorem dX12_allOrders_5 : decode cX12_allOrders 5 = .ok (.aload_n 0, 1) := by decide +kernel
theorem dX12_allOrders_6 : decode cX12_allOrders 6 = .ok (.iload_n 1, 1) := by decide +kernel
theorem dX12_allOrders_7 : decode cX12_allOrders 7 = .ok (.putfield 231, 3) := by decide +kernel
theorem dX12_allOrders_10 : decode cX12_allOrders 10 = .ok (.aload_n 0, 1) := by decide +kernel
theorem dX12_allOrders_11 : decode cX12_allOrders 11 = .ok (.iload_n 2, 1) := by decide +kernel
theorem dX12_allOrders_12 : decode cX12_allOrders 12 = .ok (.putfield 248, 3) := by decide +kernel
theorem dX12_allOrders_15 : decode cX12_allOrders 15 = .ok (.aload_n 0, 1) := by decide +kernel
theorem dX12_allOrders_16 : decode cX12_allOrders 16 = .ok (.lconst 0, 1) := by decide +kernel
theorem dX12_allOrders_17 : decode cX12_allOrders 17 = .ok (.putfield 225, 3) := by decide +kernel
theorem dX12_allOrders_20 : decode cX12_allOrders 20 = .ok (.aload_n 0, 1) := by decide +kernel
theorem dX12_allOrders_21 : decode cX12_allOrders 21 = .ok (.iconst 0, 1) := by decide +kernel
theorem dX12_allOrders_22 : decode cX12_allOrders 22 = .ok (.putfield 228, 3) := by decide +kernel
theorem dX12_allOrders_25 : decode cX12_allOrders 25 = .ok (.aload_n 0, 1) := by decide +kernel
theorem dX12_allOrders_26 : decode cX12_allOrders 26 = .ok (.ldc 255, 2) := by decide +kernel
theorem dX12_allOrders_28 : decode cX12_allOrders 28 = .ok (.putfield 234, 3) := by decide +kernel
theorem dX12_allOrders_31 : decode cX12_allOrders 31 = .ok (.aload_n 0, 1) := by decide +kernel
theorem dX12_allOrders_32 : decode cX12_allOrders 32 = .ok (.iconst 0, 1) := by decide +kernel
theorem dX12_allOrders_33 : decode cX12_allOrders 33 = .ok (.iconst 0, 1) := by decide +kernel
theorem dX12_allOrders_34 : decode cX12_allOrders 34 = .ok (.aload_n 0, 1) := by decide +kernel
theorem dX12_allOrders_35 : decode cX12_allOrders 35 = .ok (.getfield 45, 3) := by decide +kernel
theorem dX12_allOrders_38 : decode cX12_allOrders 38 = .ok (.iconst 0, 1) := by decide +kernel
theorem dX12_allOrders_39 : decode cX12_allOrders 39 = .ok (.iaload, 1) := by decide +kernel
theorem dX12_allOrders_40 : decode cX12_allOrders 40 = .ok (.iconst 0, 1) := by decide +kernel
theorem dX12_allOrders_41 : decode cX12_allOrders 41 = .ok (.iconst 0, 1) := by decide +kernel
theorem dX12_allOrders_42 : decode cX12_allOrders 42 = .ok (.invokevirtual 251, 3) := by decide +kernel
theorem dX12_allOrders_45 : decode cX12_allOrders 45 = .ok (.return_, 1) := by decide +kernel
theorem dX12_order_0 : decode cX12_order 0 = .ok (.aload_n 0, 1) := by decide +kernel
theorem dX12_order_1 : decode cX12_order 1 = .ok (.iload_n 1, 1) := by decide +kernel
theorem dX12_order_2 : decode cX12_order 2 = .ok (.invokevirtual 189, 3) := by decide +kernel
theorem dX12_order_5 : decode cX12_order 5 = .ok (.ifCond .eq 18, 3) := by decide +kernel
theorem dX12_order_8 : decode cX12_order 8 = .ok (.aload_n 0, 1) := by decide +kernel
theorem dX12_order_9 : decode cX12_order 9 = .ok (.iload_n 2, 1) := by decide +kernel
theorem dX12_order_10 : decode cX12_order 10 = .ok (.invokevirtual 256, 3) := by decide +kernel
theorem dX12_order_13 : decode cX12_order 13 = .ok (.ifCond .eq 10, 3) := by decide +kernel
theorem dX12_order_16 : decode cX12_order 16 = .ok (.iload_n 3, 1) := by decide +kernel
theorem dX12_order_17 : decode cX12_order 17 = .ok (.invokestatic 106, 3) := by decide +kernel
theorem dX12_order_20 : decode cX12_order 20 = .ok (.ifCond .ne 5, 3) := by decide +kernel
theorem dX12_order_23 : decode cX12_order 23 = .ok (.iconst (-1), 1) := by decide +kernel
theorem dX12_order_24 : decode cX12_order 24 = .ok (.ireturn, 1) := by decide +kernel
theorem dX12_order_25 : decode cX12_order 25 = .ok (.aload_n 0, 1) := by decide +kernel
theorem dX12_order_26 : decode cX12_order 26 = .ok (.iload_n 1, 1) := by decide +kernel
theorem dX12_order_27 : decode cX12_order 27 = .ok (.iload_n 2, 1) := by decide +kernel
theorem dX12_order_28 : decode cX12_order 28 = .ok (.invokevirtual 259, 3) := by decide +kernel
theorem dX12_order_31 : decode cX12_order 31 = .ok (.aload_n 0, 1) := by decide +kernel
theorem dX12_order_32 : decode cX12_order 32 = .ok (.getfield 237, 3) := by decide +kernel
theorem dX12_order_35 : decode cX12_order 35 = .ok (.ifCond .ne 6, 3) := by decide +kernel
theorem dX12_order_38 : decode cX12_order 38 = .ok (.bipush (-9), 2) := by decide +kernel
theorem dX12_order_40 : decode cX12_order 40 = .ok (.ireturn, 1) := by decide +kernel
theorem dX12_order_41 : decode cX12_order 41 = .ok (.aload_n 0, 1) := by decide +kernel
theorem dX12_order_42 : decode cX12_order 42 = .ok (.iload_n 3, 1) := by decide +kernel
theorem dX12_order_43 : decode cX12_order 43 = .ok (.aload_n 0, 1) := by decide +kernel
theorem dX12_order_44 : decode cX12_order 44 = .ok (.getfield 73, 3) := by decide +kernel
theorem dX12_order_47 : decode cX12_order 47 = .ok (.aload_n 0, 1) := by decide +kernel
theorem dX12_order_48 : decode cX12_order 48 = .ok (.getfield 168, 3) := by decide +kernel
theorem dX12_order_51 : decode cX12_order 51 = .ok (.invokevirtual 263, 3) := by decide +kernel
theorem dX12_order_54 : decode cX12_order 54 = .ok (.iconst 0, 1) := by decide +kernel
theorem dX12_order_55 : decode cX12_order 55 = .ok (.istore 4, 2) := by decide +kernel
theorem dX12_order_57 : decode cX12_order 57 = .ok (.aload_n 0, 1) := by decide +kernel
theorem dX12_order_58 : decode cX12_order 58 = .ok (.getfield 73, 3) := by decide +kernel
theorem dX12_order_61 : decode cX12_order 61 = .ok (.iload 4, 2) := by decide +kernel
theorem dX12_order_63 : decode cX12_order 63 = .ok (.iaload, 1) := by decide +kernel
theorem dX12_order_64 : decode cX12_order 64 = .ok (.iload_n 1, 1) := by decide +kernel
theorem dX12_order_65 : decode cX12_order 65 = .ok (.if_icmp .eq 9, 3) := by decide +kernel
theorem dX12_order_68 : decode cX12_order 68 = .ok (.iinc 4 1, 3) := by decide +kernel
theorem dX12_order_71 : decode cX12_order 71 = .ok (.goto (-14), 3) := by decide +kernel
theorem dX12_order_74 : decode cX12_order 74 = .ok (.iload 4, 2) := by decide +kernel
theorem dX12_order_76 : decode cX12_order 76 = .ok (.ireturn, 1) := by decide +kernel
theorem dX12_quiet_0 : decode cX12_quiet 0 = .ok (.aload_n 0, 1) := by decide +kernel
theorem dX12_quiet_1 : decode cX12_quiet 1 = .ok (.getfield 168, 3) := by decide +kernel
theorem dX12_quiet_4 : decode cX12_quiet 4 = .ok (.ifCond .ne 6, 3) := by decide +kernel
theorem dX12_quiet_7 : decode cX12_quiet 7 = .ok (.bipush (-4), 2) := by decide +kernel
theorem dX12_quiet_9 : decode cX12_quiet 9 = .ok (.ireturn, 1) := by decide +kernel
theorem dX12_quiet_10 : decode cX12_quiet 10 = .ok (.aload_n 0, 1) := by decide +kernel
theorem dX12_quiet_11 : decode cX12_quiet 11 = .ok (.bipush (-9), 2) := by decide +kernel
theorem dX12_quiet_13 : decode cX12_quiet 13 = .ok (.bipush (-9), 2) := by decide +kernel
theorem dX12_quiet_15 : decode cX12_quiet 15 = .ok (.invokevirtual 259, 3) := by decide +kernel
theorem dX12_quiet_18 : decode cX12_quiet 18 = .ok (.aload_n 0, 1) := by decide +kernel
theorem dX12_quiet_19 : decode cX12_quiet 19 = .ok (.aload_n 0, 1) := by decide +kernel
theorem dX12_quiet_20 : decode cX12_quiet 20 = .ok (.getfield 225, 3) := by decide +kernel
theorem dX12_quiet_23 : decode cX12_quiet 23 = .ok (.lconst 1, 1) := by decide +kernel
theorem dX12_quiet_24 : decode cX12_quiet 24 = .ok (.invokevirtual 221, 3) := by decide +kernel
theorem dX12_quiet_27 : decode cX12_quiet 27 = .ok (.pop, 1) := by decide +kernel
theorem dX12_quiet_28 : decode cX12_quiet 28 = .ok (.aload_n 0, 1) := by decide +kernel
theorem dX12_quiet_29 : decode cX12_quiet 29 = .ok (.aload_n 0, 1) := by decide +kernel
theorem dX12_quiet_30 : decode cX12_quiet 30 = .ok (.getfield 228, 3) := by decide +kernel
theorem dX12_quiet_33 : decode cX12_quiet 33 = .ok (.iconst 1, 1) := by decide +kernel
theorem dX12_quiet_34 : decode cX12_quiet 34 = .ok (.invokevirtual 118, 3) := by decide +kernel
theorem dX12_quiet_37 : decode cX12_quiet 37 = .ok (.ireturn, 1) := by decide +kernel
theorem dX12_cheap_0 : decode cX12_cheap 0 = .ok (.aload_n 0, 1) := by decide +kernel
theorem dX12_cheap_1 : decode cX12_cheap 1 = .ok (.getfield 168, 3) := by decide +kernel
theorem dX12_cheap_4 : decode cX12_cheap 4 = .ok (.ifCond .ne 6, 3) := by decide +kernel
theorem dX12_cheap_7 : decode cX12_cheap 7 = .ok (.bipush (-4), 2) := by decide +kernel
theorem dX12_cheap_9 : decode cX12_cheap 9 = .ok (.ireturn, 1) := by decide +kernel
theorem dX12_cheap_10 : decode cX12_cheap 10 = .ok (.aload_n 0, 1) := by decide +kernel
theorem dX12_cheap_11 : decode cX12_cheap 11 = .ok (.bipush (-9), 2) := by decide +kernel
theorem dX12_cheap_13 : decode cX12_cheap 13 = .ok (.bipush (-9), 2) := by decide +kernel
theorem dX12_cheap_15 : decode cX12_cheap 15 = .ok (.invokevirtual 259, 3) := by decide +kernel
theorem dX12_cheap_18 : decode cX12_cheap 18 = .ok (.iconst 0, 1) := by decide +kernel
theorem dX12_cheap_19 : decode cX12_cheap 19 = .ok (.istore_n 1, 1) := by decide +kernel
theorem dX12_cheap_20 : decode cX12_cheap 20 = .ok (.iconst 0, 1) := by decide +kernel
theorem dX12_cheap_21 : decode cX12_cheap 21 = .ok (.istore_n 2, 1) := by decide +kernel
theorem dX12_cheap_22 : decode cX12_cheap 22 = .ok (.iload_n 2, 1) := by decide +kernel
theorem dX12_cheap_23 : decode cX12_cheap 23 = .ok (.aload_n 0, 1) := by decide +kernel
theorem dX12_cheap_24 : decode cX12_cheap 24 = .ok (.getfield 168, 3) := by decide +kernel
theorem dX12_cheap_27 : decode cX12_cheap 27 = .ok (.if_icmp .ge 21, 3) := by decide +kernel
theorem dX12_cheap_30 : decode cX12_cheap 30 = .ok (.bipush 6, 2) := by decide +kernel
theorem dX12_cheap_32 : decode cX12_cheap 32 = .ok (.iload_n 1, 1) := by decide +kernel
theorem dX12_cheap_33 : decode cX12_cheap 33 = .ok (.imul, 1) := by decide +kernel
theorem dX12_cheap_34 : decode cX12_cheap 34 = .ok (.aload_n 0, 1) := by decide +kernel
theorem dX12_cheap_35 : decode cX12_cheap 35 = .ok (.getfield 73, 3) := by decide +kernel
theorem dX12_cheap_38 : decode cX12_cheap 38 = .ok (.iload_n 2, 1) := by decide +kernel
theorem dX12_cheap_39 : decode cX12_cheap 39 = .ok (.iaload, 1) := by decide +kernel
theorem dX12_cheap_40 : decode cX12_cheap 40 = .ok (.iadd, 1) := by decide +kernel
theorem dX12_cheap_41 : decode cX12_cheap 41 = .ok (.istore_n 1, 1) := by decide +kernel
theorem dX12_cheap_42 : decode cX12_cheap 42 = .ok (.iinc 2 1, 3) := by decide +kernel
theorem dX12_cheap_45 : decode cX12_cheap 45 = .ok (.goto (-23), 3) := by decide +kernel
theorem dX12_cheap_48 : decode cX12_cheap 48 = .ok (.aload_n 0, 1) := by decide +kernel
theorem dX12_cheap_49 : decode cX12_cheap 49 = .ok (.iload_n 1, 1) := by decide +kernel
theorem dX12_cheap_50 : decode cX12_cheap 50 = .ok (.aload_n 0, 1) := by decide +kernel
theorem dX12_cheap_51 : decode cX12_cheap 51 = .ok (.getfield 234, 3) := by decide +kernel
theorem dX12_cheap_54 : decode cX12_cheap 54 = .ok (.invokevirtual 118, 3) := by decide +kernel
theorem dX12_cheap_57 : decode cX12_cheap 57 = .ok (.ireturn, 1) := by decide +kernel
theorem dX12_layCosts_0 : decode cX12_layCosts 0 = .ok (.iconst 0, 1) := by decide +kernel
theorem dX12_layCosts_1 : decode cX12_layCosts 1 = .ok (.istore_n 3, 1) := by decide +kernel
theorem dX12_layCosts_2 : decode cX12_layCosts 2 = .ok (.iload_n 3, 1) := by decide +kernel
theorem dX12_layCosts_3 : decode cX12_layCosts 3 = .ok (.aload_n 0, 1) := by decide +kernel
theorem dX12_layCosts_4 : decode cX12_layCosts 4 = .ok (.getfield 171, 3) := by decide +kernel
theorem dX12_layCosts_7 : decode cX12_layCosts 7 = .ok (.if_icmp .ge 26, 3) := by decide +kernel
theorem dX12_layCosts_10 : decode cX12_layCosts 10 = .ok (.aload_n 0, 1) := by decide +kernel
theorem dX12_layCosts_11 : decode cX12_layCosts 11 = .ok (.getfield 76, 3) := by decide +kernel
theorem dX12_layCosts_14 : decode cX12_layCosts 14 = .ok (.iload_n 3, 1) := by decide +kernel
theorem dX12_layCosts_15 : decode cX12_layCosts 15 = .ok (.iload_n 3, 1) := by decide +kernel
theorem dX12_layCosts_16 : decode cX12_layCosts 16 = .ok (.iload_n 1, 1) := by decide +kernel
theorem dX12_layCosts_17 : decode cX12_layCosts 17 = .ok (.if_icmp .ne 7, 3) := by decide +kernel
theorem dX12_layCosts_20 : decode cX12_layCosts 20 = .ok (.iconst 0, 1) := by decide +kernel
theorem dX12_layCosts_21 : decode cX12_layCosts 21 = .ok (.goto 5, 3) := by decide +kernel
theorem dX12_layCosts_24 : decode cX12_layCosts 24 = .ok (.ldc 255, 2) := by decide +kernel
theorem dX12_layCosts_26 : decode cX12_layCosts 26 = .ok (.iastore, 1) := by decide +kernel
theorem dX12_layCosts_27 : decode cX12_layCosts 27 = .ok (.iinc 3 1, 3) := by decide +kernel
theorem dX12_layCosts_30 : decode cX12_layCosts 30 = .ok (.goto (-28), 3) := by decide +kernel
theorem dX12_layCosts_33 : decode cX12_layCosts 33 = .ok (.iconst 1, 1) := by decide +kernel
theorem dX12_layCosts_34 : decode cX12_layCosts 34 = .ok (.istore_n 3, 1) := by decide +kernel
theorem dX12_layCosts_35 : decode cX12_layCosts 35 = .ok (.iload_n 3, 1) := by decide +kernel
theorem dX12_layCosts_36 : decode cX12_layCosts 36 = .ok (.ifCond .eq 104, 3) := by decide +kernel
theorem dX12_layCosts_39 : decode cX12_layCosts 39 = .ok (.iconst 0, 1) := by decide +kernel
theorem dX12_layCosts_40 : decode cX12_layCosts 40 = .ok (.istore_n 3, 1) := by decide +kernel
theorem dX12_layCosts_41 : decode cX12_layCosts 41 = .ok (.iconst 0, 1) := by decide +kernel
theorem dX12_layCosts_42 : decode cX12_layCosts 42 = .ok (.istore 4, 2) := by decide +kernel
theorem dX12_layCosts_44 : decode cX12_layCosts 44 = .ok (.iload 4, 2) := by decide +kernel
theorem dX12_layCosts_46 : decode cX12_layCosts 46 = .ok (.aload_n 0, 1) := by decide +kernel
theorem dX12_layCosts_47 : decode cX12_layCosts 47 = .ok (.getfield 171, 3) := by decide +kernel
theorem dX12_layCosts_50 : decode cX12_layCosts 50 = .ok (.if_icmp .ge 87, 3) := by decide +kernel
theorem dX12_layCosts_53 : decode cX12_layCosts 53 = .ok (.iconst 0, 1) := by decide +kernel
theorem dX12_layCosts_54 : decode cX12_layCosts 54 = .ok (.istore 5, 2) := by decide +kernel
theorem dX12_layCosts_56 : decode cX12_layCosts 56 = .ok (.iload 5, 2) := by decide +kernel
theorem dX12_layCosts_58 : decode cX12_layCosts 58 = .ok (.aload_n 0, 1) := by decide +kernel
theorem dX12_layCosts_59 : decode cX12_layCosts 59 = .ok (.getfield 168, 3) := by decide +kernel
theorem dX12_layCosts_62 : decode cX12_layCosts 62 = .ok (.if_icmp .ge 69, 3) := by decide +kernel
theorem dX12_layCosts_65 : decode cX12_layCosts 65 = .ok (.iload_n 2, 1) := by decide +kernel
theorem dX12_layCosts_66 : decode cX12_layCosts 66 = .ok (.ifCond .eq 13, 3) := by decide +kernel
theorem dX12_layCosts_69 : decode cX12_layCosts 69 = .ok (.aload_n 0, 1) := by decide +kernel
theorem dX12_layCosts_70 : decode cX12_layCosts 70 = .ok (.getfield 36, 3) := by decide +kernel
theorem dX12_layCosts_73 : decode cX12_layCosts 73 = .ok (.iload 5, 2) := by decide +kernel
theorem dX12_layCosts_75 : decode cX12_layCosts 75 = .ok (.iaload, 1) := by decide +kernel
