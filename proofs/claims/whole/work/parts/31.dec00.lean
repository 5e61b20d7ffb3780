theorem d_PW_init_0 : decode q_mPW_init.1 0 = .ok (.aload_n 0, 1) := by decide +kernel
theorem d_PW_init_1 : decode q_mPW_init.1 1 = .ok (.invokespecial 3, 3) := by decide +kernel
theorem d_PW_init_4 : decode q_mPW_init.1 4 = .ok (.aload_n 0, 1) := by decide +kernel
theorem d_PW_init_5 : decode q_mPW_init.1 5 = .ok (.bipush 48, 2) := by decide +kernel
theorem d_PW_init_7 : decode q_mPW_init.1 7 = .ok (.newarray .char, 2) := by decide +kernel
theorem d_PW_init_9 : decode q_mPW_init.1 9 = .ok (.putfield 9, 3) := by decide +kernel
theorem d_PW_init_12 : decode q_mPW_init.1 12 = .ok (.aload_n 0, 1) := by decide +kernel
theorem d_PW_init_13 : decode q_mPW_init.1 13 = .ok (.iconst 0, 1) := by decide +kernel
theorem d_PW_init_14 : decode q_mPW_init.1 14 = .ok (.putfield 13, 3) := by decide +kernel
theorem d_PW_init_17 : decode q_mPW_init.1 17 = .ok (.aload_n 0, 1) := by decide +kernel
theorem d_PW_init_18 : decode q_mPW_init.1 18 = .ok (.iconst (-1), 1) := by decide +kernel
theorem d_PW_init_19 : decode q_mPW_init.1 19 = .ok (.putfield 17, 3) := by decide +kernel
theorem d_PW_init_22 : decode q_mPW_init.1 22 = .ok (.aload_n 0, 1) := by decide +kernel
theorem d_PW_init_23 : decode q_mPW_init.1 23 = .ok (.new 20, 3) := by decide +kernel
theorem d_PW_init_26 : decode q_mPW_init.1 26 = .ok (.dup, 1) := by decide +kernel
theorem d_PW_init_27 : decode q_mPW_init.1 27 = .ok (.invokespecial 22, 3) := by decide +kernel
theorem d_PW_init_30 : decode q_mPW_init.1 30 = .ok (.putfield 23, 3) := by decide +kernel
theorem d_PW_init_33 : decode q_mPW_init.1 33 = .ok (.aload_n 0, 1) := by decide +kernel
theorem d_PW_init_34 : decode q_mPW_init.1 34 = .ok (.new 27, 3) := by decide +kernel
theorem d_PW_init_37 : decode q_mPW_init.1 37 = .ok (.dup, 1) := by decide +kernel
theorem d_PW_init_38 : decode q_mPW_init.1 38 = .ok (.aload_n 0, 1) := by decide +kernel
theorem d_PW_init_39 : decode q_mPW_init.1 39 = .ok (.getfield 9, 3) := by decide +kernel
theorem d_PW_init_42 : decode q_mPW_init.1 42 = .ok (.aload_n 0, 1) := by decide +kernel
theorem d_PW_init_43 : decode q_mPW_init.1 43 = .ok (.getfield 23, 3) := by decide +kernel
theorem d_PW_init_46 : decode q_mPW_init.1 46 = .ok (.invokespecial 29, 3) := by decide +kernel
theorem d_PW_init_49 : decode q_mPW_init.1 49 = .ok (.putfield 32, 3) := by decide +kernel
theorem d_PW_init_52 : decode q_mPW_init.1 52 = .ok (.aload_n 0, 1) := by decide +kernel
theorem d_PW_init_53 : decode q_mPW_init.1 53 = .ok (.new 36, 3) := by decide +kernel
theorem d_PW_init_56 : decode q_mPW_init.1 56 = .ok (.dup, 1) := by decide +kernel
theorem d_PW_init_57 : decode q_mPW_init.1 57 = .ok (.invokespecial 38, 3) := by decide +kernel
theorem d_PW_init_60 : decode q_mPW_init.1 60 = .ok (.putfield 39, 3) := by decide +kernel
theorem d_PW_init_63 : decode q_mPW_init.1 63 = .ok (.aload_n 0, 1) := by decide +kernel
theorem d_PW_init_64 : decode q_mPW_init.1 64 = .ok (.new 43, 3) := by decide +kernel
theorem d_PW_init_67 : decode q_mPW_init.1 67 = .ok (.dup, 1) := by decide +kernel
theorem d_PW_init_68 : decode q_mPW_init.1 68 = .ok (.aload_n 0, 1) := by decide +kernel
theorem d_PW_init_69 : decode q_mPW_init.1 69 = .ok (.getfield 39, 3) := by decide +kernel
theorem d_PW_init_72 : decode q_mPW_init.1 72 = .ok (.aload_n 0, 1) := by decide +kernel
theorem d_PW_init_73 : decode q_mPW_init.1 73 = .ok (.getfield 23, 3) := by decide +kernel
theorem d_PW_init_76 : decode q_mPW_init.1 76 = .ok (.invokespecial 45, 3) := by decide +kernel
theorem d_PW_init_79 : decode q_mPW_init.1 79 = .ok (.putfield 48, 3) := by decide +kernel
theorem d_PW_init_82 : decode q_mPW_init.1 82 = .ok (.return_, 1) := by decide +kernel
theorem d_PW_pattern_0 : decode q_mPW_pattern.1 0 = .ok (.iload_n 1, 1) := by decide +kernel
theorem d_PW_pattern_1 : decode q_mPW_pattern.1 1 = .ok (.bipush 32, 2) := by decide +kernel
theorem d_PW_pattern_3 : decode q_mPW_pattern.1 3 = .ok (.if_icmp .lt 19, 3) := by decide +kernel
theorem d_PW_pattern_6 : decode q_mPW_pattern.1 6 = .ok (.iload_n 1, 1) := by decide +kernel
theorem d_PW_pattern_7 : decode q_mPW_pattern.1 7 = .ok (.bipush 126, 2) := by decide +kernel
theorem d_PW_pattern_9 : decode q_mPW_pattern.1 9 = .ok (.if_icmp .gt 13, 3) := by decide +kernel
theorem d_PW_pattern_12 : decode q_mPW_pattern.1 12 = .ok (.aload_n 0, 1) := by decide +kernel
theorem d_PW_pattern_13 : decode q_mPW_pattern.1 13 = .ok (.getfield 39, 3) := by decide +kernel
theorem d_PW_pattern_16 : decode q_mPW_pattern.1 16 = .ok (.invokevirtual 52, 3) := by decide +kernel
theorem d_PW_pattern_19 : decode q_mPW_pattern.1 19 = .ok (.ifCond .eq 5, 3) := by decide +kernel
theorem d_PW_pattern_22 : decode q_mPW_pattern.1 22 = .ok (.iconst 0, 1) := by decide +kernel
theorem d_PW_pattern_23 : decode q_mPW_pattern.1 23 = .ok (.ireturn, 1) := by decide +kernel
theorem d_PW_pattern_24 : decode q_mPW_pattern.1 24 = .ok (.aload_n 0, 1) := by decide +kernel
theorem d_PW_pattern_25 : decode q_mPW_pattern.1 25 = .ok (.getfield 13, 3) := by decide +kernel
theorem d_PW_pattern_28 : decode q_mPW_pattern.1 28 = .ok (.ifCond .lt 12, 3) := by decide +kernel
theorem d_PW_pattern_31 : decode q_mPW_pattern.1 31 = .ok (.aload_n 0, 1) := by decide +kernel
theorem d_PW_pattern_32 : decode q_mPW_pattern.1 32 = .ok (.getfield 13, 3) := by decide +kernel
theorem d_PW_pattern_35 : decode q_mPW_pattern.1 35 = .ok (.bipush 48, 2) := by decide +kernel
theorem d_PW_pattern_37 : decode q_mPW_pattern.1 37 = .ok (.if_icmp .lt 5, 3) := by decide +kernel
theorem d_PW_pattern_40 : decode q_mPW_pattern.1 40 = .ok (.iconst 0, 1) := by decide +kernel
theorem d_PW_pattern_41 : decode q_mPW_pattern.1 41 = .ok (.ireturn, 1) := by decide +kernel
theorem d_PW_pattern_42 : decode q_mPW_pattern.1 42 = .ok (.aload_n 0, 1) := by decide +kernel
theorem d_PW_pattern_43 : decode q_mPW_pattern.1 43 = .ok (.getfield 9, 3) := by decide +kernel
theorem d_PW_pattern_46 : decode q_mPW_pattern.1 46 = .ok (.aload_n 0, 1) := by decide +kernel
theorem d_PW_pattern_47 : decode q_mPW_pattern.1 47 = .ok (.getfield 13, 3) := by decide +kernel
theorem d_PW_pattern_50 : decode q_mPW_pattern.1 50 = .ok (.iload_n 1, 1) := by decide +kernel
theorem d_PW_pattern_51 : decode q_mPW_pattern.1 51 = .ok (.castore, 1) := by decide +kernel
theorem d_PW_pattern_52 : decode q_mPW_pattern.1 52 = .ok (.aload_n 0, 1) := by decide +kernel
theorem d_PW_pattern_53 : decode q_mPW_pattern.1 53 = .ok (.dup, 1) := by decide +kernel
theorem d_PW_pattern_54 : decode q_mPW_pattern.1 54 = .ok (.getfield 13, 3) := by decide +kernel
theorem d_PW_pattern_57 : decode q_mPW_pattern.1 57 = .ok (.iconst 1, 1) := by decide +kernel
theorem d_PW_pattern_58 : decode q_mPW_pattern.1 58 = .ok (.iadd, 1) := by decide +kernel
theorem d_PW_pattern_59 : decode q_mPW_pattern.1 59 = .ok (.putfield 13, 3) := by decide +kernel
theorem d_PW_pattern_62 : decode q_mPW_pattern.1 62 = .ok (.iconst 1, 1) := by decide +kernel
theorem d_PW_pattern_63 : decode q_mPW_pattern.1 63 = .ok (.ireturn, 1) := by decide +kernel
theorem d_PW_position_0 : decode q_mPW_position.1 0 = .ok (.aload_n 0, 1) := by decide +kernel
theorem d_PW_position_1 : decode q_mPW_position.1 1 = .ok (.getfield 17, 3) := by decide +kernel
theorem d_PW_position_4 : decode q_mPW_position.1 4 = .ok (.ireturn, 1) := by decide +kernel
theorem d_PW_clear_0 : decode q_mPW_clear.1 0 = .ok (.aload_n 0, 1) := by decide +kernel
theorem d_PW_clear_1 : decode q_mPW_clear.1 1 = .ok (.iconst 0, 1) := by decide +kernel
theorem d_PW_clear_2 : decode q_mPW_clear.1 2 = .ok (.putfield 13, 3) := by decide +kernel
theorem d_PW_clear_5 : decode q_mPW_clear.1 5 = .ok (.aload_n 0, 1) := by decide +kernel
theorem d_PW_clear_6 : decode q_mPW_clear.1 6 = .ok (.iconst (-1), 1) := by decide +kernel
theorem d_PW_clear_7 : decode q_mPW_clear.1 7 = .ok (.putfield 17, 3) := by decide +kernel
theorem d_PW_clear_10 : decode q_mPW_clear.1 10 = .ok (.aload_n 0, 1) := by decide +kernel
theorem d_PW_clear_11 : decode q_mPW_clear.1 11 = .ok (.getfield 39, 3) := by decide +kernel
theorem d_PW_clear_14 : decode q_mPW_clear.1 14 = .ok (.invokevirtual 93, 3) := by decide +kernel
theorem d_PW_clear_17 : decode q_mPW_clear.1 17 = .ok (.aload_n 0, 1) := by decide +kernel
theorem d_PW_clear_18 : decode q_mPW_clear.1 18 = .ok (.getfield 48, 3) := by decide +kernel
theorem d_PW_clear_21 : decode q_mPW_clear.1 21 = .ok (.invokevirtual 96, 3) := by decide +kernel
theorem d_PW_clear_24 : decode q_mPW_clear.1 24 = .ok (.return_, 1) := by decide +kernel
theorem d_PW_instruction_0 : decode q_mPW_instruction.1 0 = .ok (.aload_n 0, 1) := by decide +kernel
theorem d_PW_instruction_1 : decode q_mPW_instruction.1 1 = .ok (.getfield 39, 3) := by decide +kernel
theorem d_PW_instruction_4 : decode q_mPW_instruction.1 4 = .ok (.iload_n 1, 1) := by decide +kernel
theorem d_PW_instruction_5 : decode q_mPW_instruction.1 5 = .ok (.invokevirtual 99, 3) := by decide +kernel
theorem d_PW_instruction_8 : decode q_mPW_instruction.1 8 = .ok (.ifCond .ne 5, 3) := by decide +kernel
theorem d_PW_instruction_11 : decode q_mPW_instruction.1 11 = .ok (.iconst (-1), 1) := by decide +kernel
theorem d_PW_instruction_12 : decode q_mPW_instruction.1 12 = .ok (.ireturn, 1) := by decide +kernel
theorem d_PW_instruction_13 : decode q_mPW_instruction.1 13 = .ok (.iload_n 2, 1) := by decide +kernel
theorem d_PW_instruction_14 : decode q_mPW_instruction.1 14 = .ok (.tableswitch 82 0 2 #[26, 35, 73], 26) := by decide +kernel
theorem d_PW_instruction_40 : decode q_mPW_instruction.1 40 = .ok (.aload_n 0, 1) := by decide +kernel
theorem d_PW_instruction_41 : decode q_mPW_instruction.1 41 = .ok (.getfield 39, 3) := by decide +kernel
theorem d_PW_instruction_44 : decode q_mPW_instruction.1 44 = .ok (.iload_n 1, 1) := by decide +kernel
theorem d_PW_instruction_45 : decode q_mPW_instruction.1 45 = .ok (.invokevirtual 103, 3) := by decide +kernel
theorem d_PW_instruction_48 : decode q_mPW_instruction.1 48 = .ok (.ireturn, 1) := by decide +kernel
theorem d_PW_instruction_49 : decode q_mPW_instruction.1 49 = .ok (.aload_n 0, 1) := by decide +kernel
theorem d_PW_instruction_50 : decode q_mPW_instruction.1 50 = .ok (.getfield 39, 3) := by decide +kernel
theorem d_PW_instruction_53 : decode q_mPW_instruction.1 53 = .ok (.iload_n 1, 1) := by decide +kernel
theorem d_PW_instruction_54 : decode q_mPW_instruction.1 54 = .ok (.invokevirtual 103, 3) := by decide +kernel
theorem d_PW_instruction_57 : decode q_mPW_instruction.1 57 = .ok (.ifCond .ne 21, 3) := by decide +kernel
theorem d_PW_instruction_60 : decode q_mPW_instruction.1 60 = .ok (.aload_n 0, 1) := by decide +kernel
theorem d_PW_instruction_61 : decode q_mPW_instruction.1 61 = .ok (.getfield 23, 3) := by decide +kernel
theorem d_PW_instruction_64 : decode q_mPW_instruction.1 64 = .ok (.aload_n 0, 1) := by decide +kernel
theorem d_PW_instruction_65 : decode q_mPW_instruction.1 65 = .ok (.getfield 39, 3) := by decide +kernel
theorem d_PW_instruction_68 : decode q_mPW_instruction.1 68 = .ok (.iload_n 1, 1) := by decide +kernel
theorem d_PW_instruction_69 : decode q_mPW_instruction.1 69 = .ok (.invokevirtual 107, 3) := by decide +kernel
theorem d_PW_instruction_72 : decode q_mPW_instruction.1 72 = .ok (.invokevirtual 110, 3) := by decide +kernel
theorem d_PW_instruction_75 : decode q_mPW_instruction.1 75 = .ok (.goto 11, 3) := by decide +kernel
theorem d_PW_instruction_78 : decode q_mPW_instruction.1 78 = .ok (.aload_n 0, 1) := by decide +kernel
theorem d_PW_instruction_79 : decode q_mPW_instruction.1 79 = .ok (.getfield 39, 3) := by decide +kernel
theorem d_PW_instruction_82 : decode q_mPW_instruction.1 82 = .ok (.iload_n 1, 1) := by decide +kernel
theorem d_PW_instruction_83 : decode q_mPW_instruction.1 83 = .ok (.invokevirtual 107, 3) := by decide +kernel
theorem d_PW_instruction_86 : decode q_mPW_instruction.1 86 = .ok (.ireturn, 1) := by decide +kernel
theorem d_PW_instruction_87 : decode q_mPW_instruction.1 87 = .ok (.aload_n 0, 1) := by decide +kernel
theorem d_PW_instruction_88 : decode q_mPW_instruction.1 88 = .ok (.getfield 39, 3) := by decide +kernel
theorem d_PW_instruction_91 : decode q_mPW_instruction.1 91 = .ok (.iload_n 1, 1) := by decide +kernel
theorem d_PW_instruction_92 : decode q_mPW_instruction.1 92 = .ok (.invokevirtual 113, 3) := by decide +kernel
theorem d_PW_instruction_95 : decode q_mPW_instruction.1 95 = .ok (.ireturn, 1) := by decide +kernel
theorem d_PW_instruction_96 : decode q_mPW_instruction.1 96 = .ok (.iconst (-1), 1) := by decide +kernel
theorem d_PW_instruction_97 : decode q_mPW_instruction.1 97 = .ok (.ireturn, 1) := by decide +kernel
theorem d_PW_groups_0 : decode q_mPW_groups.1 0 = .ok (.aload_n 0, 1) := by decide +kernel
theorem d_PW_groups_1 : decode q_mPW_groups.1 1 = .ok (.getfield 39, 3) := by decide +kernel
theorem d_PW_groups_4 : decode q_mPW_groups.1 4 = .ok (.invokevirtual 52, 3) := by decide +kernel
theorem d_PW_groups_7 : decode q_mPW_groups.1 7 = .ok (.ifCond .eq 13, 3) := by decide +kernel
theorem d_PW_groups_10 : decode q_mPW_groups.1 10 = .ok (.aload_n 0, 1) := by decide +kernel
theorem d_PW_groups_11 : decode q_mPW_groups.1 11 = .ok (.getfield 39, 3) := by decide +kernel
theorem d_PW_groups_14 : decode q_mPW_groups.1 14 = .ok (.getfield 116, 3) := by decide +kernel
theorem d_PW_groups_17 : decode q_mPW_groups.1 17 = .ok (.goto 4, 3) := by decide +kernel
theorem d_PW_groups_20 : decode q_mPW_groups.1 20 = .ok (.iconst (-1), 1) := by decide +kernel
theorem d_PW_groups_21 : decode q_mPW_groups.1 21 = .ok (.ireturn, 1) := by decide +kernel
theorem d_PW_start_0 : decode q_mPW_start.1 0 = .ok (.aload_n 0, 1) := by decide +kernel
theorem d_PW_start_1 : decode q_mPW_start.1 1 = .ok (.getfield 39, 3) := by decide +kernel
theorem d_PW_start_4 : decode q_mPW_start.1 4 = .ok (.invokevirtual 52, 3) := by decide +kernel
theorem d_PW_start_7 : decode q_mPW_start.1 7 = .ok (.ifCond .ne 5, 3) := by decide +kernel
theorem d_PW_start_10 : decode q_mPW_start.1 10 = .ok (.iconst 0, 1) := by decide +kernel
theorem d_PW_start_11 : decode q_mPW_start.1 11 = .ok (.ireturn, 1) := by decide +kernel
theorem d_PW_start_12 : decode q_mPW_start.1 12 = .ok (.aload_n 0, 1) := by decide +kernel
theorem d_PW_start_13 : decode q_mPW_start.1 13 = .ok (.getfield 48, 3) := by decide +kernel
theorem d_PW_start_16 : decode q_mPW_start.1 16 = .ok (.iload_n 1, 1) := by decide +kernel
theorem d_PW_start_17 : decode q_mPW_start.1 17 = .ok (.invokevirtual 119, 3) := by decide +kernel
theorem d_PW_start_20 : decode q_mPW_start.1 20 = .ok (.iconst 1, 1) := by decide +kernel
theorem d_PW_start_21 : decode q_mPW_start.1 21 = .ok (.ireturn, 1) := by decide +kernel
theorem d_PW_feed_0 : decode q_mPW_feed.1 0 = .ok (.aload_n 0, 1) := by decide +kernel
theorem d_PW_feed_1 : decode q_mPW_feed.1 1 = .ok (.getfield 48, 3) := by decide +kernel
theorem d_PW_feed_4 : decode q_mPW_feed.1 4 = .ok (.getfield 123, 3) := by decide +kernel
theorem d_PW_feed_7 : decode q_mPW_feed.1 7 = .ok (.ifCond .eq 23, 3) := by decide +kernel
theorem d_PW_feed_10 : decode q_mPW_feed.1 10 = .ok (.iload_n 1, 1) := by decide +kernel
theorem d_PW_feed_11 : decode q_mPW_feed.1 11 = .ok (.sipush 256, 3) := by decide +kernel
theorem d_PW_feed_14 : decode q_mPW_feed.1 14 = .ok (.if_icmp .ge 16, 3) := by decide +kernel
theorem d_PW_feed_17 : decode q_mPW_feed.1 17 = .ok (.aload_n 0, 1) := by decide +kernel
theorem d_PW_feed_18 : decode q_mPW_feed.1 18 = .ok (.getfield 48, 3) := by decide +kernel
theorem d_PW_feed_21 : decode q_mPW_feed.1 21 = .ok (.getfield 127, 3) := by decide +kernel
theorem d_PW_feed_24 : decode q_mPW_feed.1 24 = .ok (.sipush 200, 3) := by decide +kernel
theorem d_PW_feed_27 : decode q_mPW_feed.1 27 = .ok (.if_icmp .lt 5, 3) := by decide +kernel
theorem d_PW_feed_30 : decode q_mPW_feed.1 30 = .ok (.iconst 0, 1) := by decide +kernel
theorem d_PW_feed_31 : decode q_mPW_feed.1 31 = .ok (.ireturn, 1) := by decide +kernel
theorem d_PW_feed_32 : decode q_mPW_feed.1 32 = .ok (.aload_n 0, 1) := by decide +kernel
theorem d_PW_feed_33 : decode q_mPW_feed.1 33 = .ok (.getfield 48, 3) := by decide +kernel
theorem d_PW_feed_36 : decode q_mPW_feed.1 36 = .ok (.iload_n 1, 1) := by decide +kernel
theorem d_PW_feed_37 : decode q_mPW_feed.1 37 = .ok (.invokevirtual 130, 3) := by decide +kernel
theorem d_PW_feed_40 : decode q_mPW_feed.1 40 = .ok (.iconst 1, 1) := by decide +kernel
theorem d_PW_feed_41 : decode q_mPW_feed.1 41 = .ok (.ireturn, 1) := by decide +kernel
theorem d_PW_matched_0 : decode q_mPW_matched.1 0 = .ok (.aload_n 0, 1) := by decide +kernel
theorem d_PW_matched_1 : decode q_mPW_matched.1 1 = .ok (.getfield 48, 3) := by decide +kernel
theorem d_PW_matched_4 : decode q_mPW_matched.1 4 = .ok (.getfield 123, 3) := by decide +kernel
theorem d_PW_matched_7 : decode q_mPW_matched.1 7 = .ok (.ifCond .eq 17, 3) := by decide +kernel
theorem d_PW_matched_10 : decode q_mPW_matched.1 10 = .ok (.aload_n 0, 1) := by decide +kernel
theorem d_PW_matched_11 : decode q_mPW_matched.1 11 = .ok (.getfield 48, 3) := by decide +kernel
theorem d_PW_matched_14 : decode q_mPW_matched.1 14 = .ok (.getfield 134, 3) := by decide +kernel
theorem d_PW_matched_17 : decode q_mPW_matched.1 17 = .ok (.ifCond .eq 7, 3) := by decide +kernel
theorem d_PW_matched_20 : decode q_mPW_matched.1 20 = .ok (.iconst 1, 1) := by decide +kernel
theorem d_PW_matched_21 : decode q_mPW_matched.1 21 = .ok (.goto 4, 3) := by decide +kernel
theorem d_PW_matched_24 : decode q_mPW_matched.1 24 = .ok (.iconst 0, 1) := by decide +kernel
theorem d_PW_matched_25 : decode q_mPW_matched.1 25 = .ok (.ireturn, 1) := by decide +kernel
theorem d_PW_live_0 : decode q_mPW_live.1 0 = .ok (.aload_n 0, 1) := by decide +kernel
theorem d_PW_live_1 : decode q_mPW_live.1 1 = .ok (.getfield 48, 3) := by decide +kernel
theorem d_PW_live_4 : decode q_mPW_live.1 4 = .ok (.getfield 123, 3) := by decide +kernel
theorem d_PW_live_7 : decode q_mPW_live.1 7 = .ok (.ifCond .eq 16, 3) := by decide +kernel
theorem d_PW_live_10 : decode q_mPW_live.1 10 = .ok (.aload_n 0, 1) := by decide +kernel
theorem d_PW_live_11 : decode q_mPW_live.1 11 = .ok (.getfield 48, 3) := by decide +kernel
theorem d_PW_live_14 : decode q_mPW_live.1 14 = .ok (.getfield 137, 3) := by decide +kernel
theorem d_PW_live_17 : decode q_mPW_live.1 17 = .ok (.getfield 141, 3) := by decide +kernel
theorem d_PW_live_20 : decode q_mPW_live.1 20 = .ok (.goto 4, 3) := by decide +kernel
theorem d_PW_live_23 : decode q_mPW_live.1 23 = .ok (.iconst 0, 1) := by decide +kernel
theorem d_PW_live_24 : decode q_mPW_live.1 24 = .ok (.ireturn, 1) := by decide +kernel
theorem d_PW_isLive_0 : decode q_mPW_isLive.1 0 = .ok (.aload_n 0, 1) := by decide +kernel
theorem d_PW_isLive_1 : decode q_mPW_isLive.1 1 = .ok (.getfield 48, 3) := by decide +kernel
theorem d_PW_isLive_4 : decode q_mPW_isLive.1 4 = .ok (.getfield 123, 3) := by decide +kernel
theorem d_PW_isLive_7 : decode q_mPW_isLive.1 7 = .ok (.ifCond .eq 18, 3) := by decide +kernel
theorem d_PW_isLive_10 : decode q_mPW_isLive.1 10 = .ok (.aload_n 0, 1) := by decide +kernel
theorem d_PW_isLive_11 : decode q_mPW_isLive.1 11 = .ok (.getfield 48, 3) := by decide +kernel
theorem d_PW_isLive_14 : decode q_mPW_isLive.1 14 = .ok (.iload_n 1, 1) := by decide +kernel
theorem d_PW_isLive_15 : decode q_mPW_isLive.1 15 = .ok (.invokevirtual 145, 3) := by decide +kernel
theorem d_PW_isLive_18 : decode q_mPW_isLive.1 18 = .ok (.ifCond .eq 7, 3) := by decide +kernel
theorem d_PW_isLive_21 : decode q_mPW_isLive.1 21 = .ok (.iconst 1, 1) := by decide +kernel
theorem d_PW_isLive_22 : decode q_mPW_isLive.1 22 = .ok (.goto 4, 3) := by decide +kernel
theorem d_PW_isLive_25 : decode q_mPW_isLive.1 25 = .ok (.iconst 0, 1) := by decide +kernel
theorem d_PW_isLive_26 : decode q_mPW_isLive.1 26 = .ok (.ireturn, 1) := by decide +kernel
theorem d_PW_mark_0 : decode q_mPW_mark.1 0 = .ok (.aload_n 0, 1) := by decide +kernel
theorem d_PW_mark_1 : decode q_mPW_mark.1 1 = .ok (.getfield 48, 3) := by decide +kernel
theorem d_PW_mark_4 : decode q_mPW_mark.1 4 = .ok (.getfield 123, 3) := by decide +kernel
theorem d_PW_mark_7 : decode q_mPW_mark.1 7 = .ok (.ifCond .eq 14, 3) := by decide +kernel
theorem d_PW_mark_10 : decode q_mPW_mark.1 10 = .ok (.aload_n 0, 1) := by decide +kernel
theorem d_PW_mark_11 : decode q_mPW_mark.1 11 = .ok (.getfield 48, 3) := by decide +kernel
theorem d_PW_mark_14 : decode q_mPW_mark.1 14 = .ok (.iload_n 1, 1) := by decide +kernel
theorem d_PW_mark_15 : decode q_mPW_mark.1 15 = .ok (.invokevirtual 148, 3) := by decide +kernel
theorem d_PW_mark_18 : decode q_mPW_mark.1 18 = .ok (.goto 4, 3) := by decide +kernel
theorem d_PW_mark_21 : decode q_mPW_mark.1 21 = .ok (.iconst (-1), 1) := by decide +kernel
theorem d_PW_mark_22 : decode q_mPW_mark.1 22 = .ok (.ireturn, 1) := by decide +kernel
theorem d_PW_fed_0 : decode q_mPW_fed.1 0 = .ok (.aload_n 0, 1) := by decide +kernel
theorem d_PW_fed_1 : decode q_mPW_fed.1 1 = .ok (.getfield 48, 3) := by decide +kernel
theorem d_PW_fed_4 : decode q_mPW_fed.1 4 = .ok (.getfield 123, 3) := by decide +kernel
theorem d_PW_fed_7 : decode q_mPW_fed.1 7 = .ok (.ifCond .eq 13, 3) := by decide +kernel
theorem d_PW_fed_10 : decode q_mPW_fed.1 10 = .ok (.aload_n 0, 1) := by decide +kernel
theorem d_PW_fed_11 : decode q_mPW_fed.1 11 = .ok (.getfield 48, 3) := by decide +kernel
theorem d_PW_fed_14 : decode q_mPW_fed.1 14 = .ok (.getfield 127, 3) := by decide +kernel
theorem d_PW_fed_17 : decode q_mPW_fed.1 17 = .ok (.goto 4, 3) := by decide +kernel
theorem d_PW_fed_20 : decode q_mPW_fed.1 20 = .ok (.iconst (-1), 1) := by decide +kernel
theorem d_PW_fed_21 : decode q_mPW_fed.1 21 = .ok (.ireturn, 1) := by decide +kernel
theorem d_PW_compile_0 : decode q_mPW_compile.1 0 = .ok (.aload_n 0, 1) := by decide +kernel
theorem d_PW_compile_1 : decode q_mPW_compile.1 1 = .ok (.getfield 39, 3) := by decide +kernel
theorem d_PW_compile_4 : decode q_mPW_compile.1 4 = .ok (.invokevirtual 52, 3) := by decide +kernel
theorem d_PW_compile_7 : decode q_mPW_compile.1 7 = .ok (.ifCond .eq 13, 3) := by decide +kernel
theorem d_PW_compile_10 : decode q_mPW_compile.1 10 = .ok (.new 56, 3) := by decide +kernel
theorem d_PW_compile_13 : decode q_mPW_compile.1 13 = .ok (.dup, 1) := by decide +kernel
theorem d_PW_compile_14 : decode q_mPW_compile.1 14 = .ok (.ldc 58, 2) := by decide +kernel
theorem d_PW_compile_16 : decode q_mPW_compile.1 16 = .ok (.invokespecial 60, 3) := by decide +kernel
theorem d_PW_compile_19 : decode q_mPW_compile.1 19 = .ok (.athrow, 1) := by decide +kernel
theorem d_PW_compile_20 : decode q_mPW_compile.1 20 = .ok (.aload_n 0, 1) := by decide +kernel
theorem d_PW_compile_21 : decode q_mPW_compile.1 21 = .ok (.getfield 32, 3) := by decide +kernel
theorem d_PW_compile_24 : decode q_mPW_compile.1 24 = .ok (.aload_n 0, 1) := by decide +kernel
theorem d_PW_compile_25 : decode q_mPW_compile.1 25 = .ok (.getfield 13, 3) := by decide +kernel
theorem d_PW_compile_28 : decode q_mPW_compile.1 28 = .ok (.invokevirtual 63, 3) := by decide +kernel
theorem d_PW_compile_31 : decode q_mPW_compile.1 31 = .ok (.astore_n 1, 1) := by decide +kernel
theorem d_PW_compile_32 : decode q_mPW_compile.1 32 = .ok (.aload_n 0, 1) := by decide +kernel
theorem d_PW_compile_33 : decode q_mPW_compile.1 33 = .ok (.aload_n 0, 1) := by decide +kernel
theorem d_PW_compile_34 : decode q_mPW_compile.1 34 = .ok (.getfield 32, 3) := by decide +kernel
theorem d_PW_compile_37 : decode q_mPW_compile.1 37 = .ok (.getfield 67, 3) := by decide +kernel
theorem d_PW_compile_40 : decode q_mPW_compile.1 40 = .ok (.putfield 17, 3) := by decide +kernel
theorem d_PW_compile_43 : decode q_mPW_compile.1 43 = .ok (.aload_n 0, 1) := by decide +kernel
theorem d_PW_compile_44 : decode q_mPW_compile.1 44 = .ok (.getfield 17, 3) := by decide +kernel
theorem d_PW_compile_47 : decode q_mPW_compile.1 47 = .ok (.iconst (-1), 1) := by decide +kernel
theorem d_PW_compile_48 : decode q_mPW_compile.1 48 = .ok (.if_icmp .eq 13, 3) := by decide +kernel
theorem d_PW_compile_51 : decode q_mPW_compile.1 51 = .ok (.new 70, 3) := by decide +kernel
theorem d_PW_compile_54 : decode q_mPW_compile.1 54 = .ok (.dup, 1) := by decide +kernel
theorem d_PW_compile_55 : decode q_mPW_compile.1 55 = .ok (.ldc 72, 2) := by decide +kernel
theorem d_PW_compile_57 : decode q_mPW_compile.1 57 = .ok (.invokespecial 74, 3) := by decide +kernel
theorem d_PW_compile_60 : decode q_mPW_compile.1 60 = .ok (.athrow, 1) := by decide +kernel
theorem d_PW_compile_61 : decode q_mPW_compile.1 61 = .ok (.aload_n 1, 1) := by decide +kernel
theorem d_PW_compile_62 : decode q_mPW_compile.1 62 = .ok (.invokevirtual 75, 3) := by decide +kernel
theorem d_PW_compile_65 : decode q_mPW_compile.1 65 = .ok (.iconst 3, 1) := by decide +kernel
theorem d_PW_compile_66 : decode q_mPW_compile.1 66 = .ok (.iadd, 1) := by decide +kernel
theorem d_PW_compile_67 : decode q_mPW_compile.1 67 = .ok (.sipush 160, 3) := by decide +kernel
theorem d_PW_compile_70 : decode q_mPW_compile.1 70 = .ok (.if_icmp .le 13, 3) := by decide +kernel
theorem d_PW_compile_73 : decode q_mPW_compile.1 73 = .ok (.new 56, 3) := by decide +kernel
theorem d_PW_compile_76 : decode q_mPW_compile.1 76 = .ok (.dup, 1) := by decide +kernel
theorem d_PW_compile_77 : decode q_mPW_compile.1 77 = .ok (.ldc 81, 2) := by decide +kernel
theorem d_PW_compile_79 : decode q_mPW_compile.1 79 = .ok (.invokespecial 60, 3) := by decide +kernel
theorem d_PW_compile_82 : decode q_mPW_compile.1 82 = .ok (.athrow, 1) := by decide +kernel
theorem d_PW_compile_83 : decode q_mPW_compile.1 83 = .ok (.aload_n 0, 1) := by decide +kernel
theorem d_PW_compile_84 : decode q_mPW_compile.1 84 = .ok (.getfield 39, 3) := by decide +kernel
theorem d_PW_compile_87 : decode q_mPW_compile.1 87 = .ok (.aload_n 1, 1) := by decide +kernel
theorem d_PW_compile_88 : decode q_mPW_compile.1 88 = .ok (.aload_n 0, 1) := by decide +kernel
theorem d_PW_compile_89 : decode q_mPW_compile.1 89 = .ok (.getfield 32, 3) := by decide +kernel
theorem d_PW_compile_92 : decode q_mPW_compile.1 92 = .ok (.getfield 83, 3) := by decide +kernel
theorem d_PW_compile_95 : decode q_mPW_compile.1 95 = .ok (.invokevirtual 86, 3) := by decide +kernel
theorem d_PW_compile_98 : decode q_mPW_compile.1 98 = .ok (.aload_n 0, 1) := by decide +kernel
theorem d_PW_compile_99 : decode q_mPW_compile.1 99 = .ok (.getfield 39, 3) := by decide +kernel
theorem d_PW_compile_102 : decode q_mPW_compile.1 102 = .ok (.getfield 90, 3) := by decide +kernel
theorem d_PW_compile_105 : decode q_mPW_compile.1 105 = .ok (.ireturn, 1) := by decide +kernel
theorem d_Cs_init_0 : decode q_mCs_init.1 0 = .ok (.aload_n 0, 1) := by decide +kernel
theorem d_Cs_init_1 : decode q_mCs_init.1 1 = .ok (.invokespecial 3, 3) := by decide +kernel
theorem d_Cs_init_4 : decode q_mCs_init.1 4 = .ok (.aload_n 0, 1) := by decide +kernel
theorem d_Cs_init_5 : decode q_mCs_init.1 5 = .ok (.sipush 192, 3) := by decide +kernel
theorem d_Cs_init_8 : decode q_mCs_init.1 8 = .ok (.newarray .long, 2) := by decide +kernel
theorem d_Cs_init_10 : decode q_mCs_init.1 10 = .ok (.putfield 11, 3) := by decide +kernel
theorem d_Cs_init_13 : decode q_mCs_init.1 13 = .ok (.aload_n 0, 1) := by decide +kernel
theorem d_Cs_init_14 : decode q_mCs_init.1 14 = .ok (.iconst 0, 1) := by decide +kernel
theorem d_Cs_init_15 : decode q_mCs_init.1 15 = .ok (.putfield 15, 3) := by decide +kernel
theorem d_Cs_init_18 : decode q_mCs_init.1 18 = .ok (.return_, 1) := by decide +kernel
theorem d_Cs_count_0 : decode q_mCs_count.1 0 = .ok (.iconst 0, 1) := by decide +kernel
theorem d_Cs_count_1 : decode q_mCs_count.1 1 = .ok (.istore_n 2, 1) := by decide +kernel
theorem d_Cs_count_2 : decode q_mCs_count.1 2 = .ok (.iconst 0, 1) := by decide +kernel
theorem d_Cs_count_3 : decode q_mCs_count.1 3 = .ok (.istore_n 3, 1) := by decide +kernel
theorem d_Cs_count_4 : decode q_mCs_count.1 4 = .ok (.iload_n 3, 1) := by decide +kernel
theorem d_Cs_count_5 : decode q_mCs_count.1 5 = .ok (.iconst 4, 1) := by decide +kernel
theorem d_Cs_count_6 : decode q_mCs_count.1 6 = .ok (.if_icmp .ge 33, 3) := by decide +kernel
theorem d_Cs_count_9 : decode q_mCs_count.1 9 = .ok (.aload_n 0, 1) := by decide +kernel
theorem d_Cs_count_10 : decode q_mCs_count.1 10 = .ok (.iload_n 1, 1) := by decide +kernel
theorem d_Cs_count_11 : decode q_mCs_count.1 11 = .ok (.invokevirtual 25, 3) := by decide +kernel
theorem d_Cs_count_14 : decode q_mCs_count.1 14 = .ok (.ifCond .eq 25, 3) := by decide +kernel
theorem d_Cs_count_17 : decode q_mCs_count.1 17 = .ok (.iload_n 2, 1) := by decide +kernel
theorem d_Cs_count_18 : decode q_mCs_count.1 18 = .ok (.aload_n 0, 1) := by decide +kernel
theorem d_Cs_count_19 : decode q_mCs_count.1 19 = .ok (.getfield 11, 3) := by decide +kernel
theorem d_Cs_count_22 : decode q_mCs_count.1 22 = .ok (.iload_n 1, 1) := by decide +kernel
theorem d_Cs_count_23 : decode q_mCs_count.1 23 = .ok (.iconst 4, 1) := by decide +kernel
theorem d_Cs_count_24 : decode q_mCs_count.1 24 = .ok (.imul, 1) := by decide +kernel
theorem d_Cs_count_25 : decode q_mCs_count.1 25 = .ok (.iload_n 3, 1) := by decide +kernel
theorem d_Cs_count_26 : decode q_mCs_count.1 26 = .ok (.iadd, 1) := by decide +kernel
theorem d_Cs_count_27 : decode q_mCs_count.1 27 = .ok (.laload, 1) := by decide +kernel
theorem d_Cs_count_28 : decode q_mCs_count.1 28 = .ok (.invokestatic 37, 3) := by decide +kernel
theorem d_Cs_count_31 : decode q_mCs_count.1 31 = .ok (.iadd, 1) := by decide +kernel
theorem d_Cs_count_32 : decode q_mCs_count.1 32 = .ok (.istore_n 2, 1) := by decide +kernel
theorem d_Cs_count_33 : decode q_mCs_count.1 33 = .ok (.iinc 3 1, 3) := by decide +kernel
theorem d_Cs_count_36 : decode q_mCs_count.1 36 = .ok (.goto (-32), 3) := by decide +kernel
theorem d_Cs_count_39 : decode q_mCs_count.1 39 = .ok (.iload_n 2, 1) := by decide +kernel
theorem d_Cs_count_40 : decode q_mCs_count.1 40 = .ok (.ireturn, 1) := by decide +kernel
theorem d_Cs_isOpen_0 : decode q_mCs_isOpen.1 0 = .ok (.iload_n 1, 1) := by decide +kernel
theorem d_Cs_isOpen_1 : decode q_mCs_isOpen.1 1 = .ok (.ifCond .lt 21, 3) := by decide +kernel
theorem d_Cs_isOpen_4 : decode q_mCs_isOpen.1 4 = .ok (.iload_n 1, 1) := by decide +kernel
theorem d_Cs_isOpen_5 : decode q_mCs_isOpen.1 5 = .ok (.aload_n 0, 1) := by decide +kernel
theorem d_Cs_isOpen_6 : decode q_mCs_isOpen.1 6 = .ok (.getfield 15, 3) := by decide +kernel
theorem d_Cs_isOpen_9 : decode q_mCs_isOpen.1 9 = .ok (.if_icmp .ge 13, 3) := by decide +kernel
theorem d_Cs_isOpen_12 : decode q_mCs_isOpen.1 12 = .ok (.iload_n 1, 1) := by decide +kernel
theorem d_Cs_isOpen_13 : decode q_mCs_isOpen.1 13 = .ok (.bipush 48, 2) := by decide +kernel
theorem d_Cs_isOpen_15 : decode q_mCs_isOpen.1 15 = .ok (.if_icmp .ge 7, 3) := by decide +kernel
theorem d_Cs_isOpen_18 : decode q_mCs_isOpen.1 18 = .ok (.iconst 1, 1) := by decide +kernel
theorem d_Cs_isOpen_19 : decode q_mCs_isOpen.1 19 = .ok (.goto 4, 3) := by decide +kernel
theorem d_Cs_isOpen_22 : decode q_mCs_isOpen.1 22 = .ok (.iconst 0, 1) := by decide +kernel
theorem d_Cs_isOpen_23 : decode q_mCs_isOpen.1 23 = .ok (.ireturn, 1) := by decide +kernel
theorem d_Cs_has_0 : decode q_mCs_has.1 0 = .ok (.aload_n 0, 1) := by decide +kernel
theorem d_Cs_has_1 : decode q_mCs_has.1 1 = .ok (.iload_n 1, 1) := by decide +kernel
theorem d_Cs_has_2 : decode q_mCs_has.1 2 = .ok (.invokevirtual 25, 3) := by decide +kernel
theorem d_Cs_has_5 : decode q_mCs_has.1 5 = .ok (.ifCond .eq 14, 3) := by decide +kernel
theorem d_Cs_has_8 : decode q_mCs_has.1 8 = .ok (.iload_n 2, 1) := by decide +kernel
theorem d_Cs_has_9 : decode q_mCs_has.1 9 = .ok (.ifCond .lt 10, 3) := by decide +kernel
theorem d_Cs_has_12 : decode q_mCs_has.1 12 = .ok (.iload_n 2, 1) := by decide +kernel
theorem d_Cs_has_13 : decode q_mCs_has.1 13 = .ok (.sipush 256, 3) := by decide +kernel
theorem d_Cs_has_16 : decode q_mCs_has.1 16 = .ok (.if_icmp .lt 5, 3) := by decide +kernel
theorem d_Cs_has_19 : decode q_mCs_has.1 19 = .ok (.iconst 0, 1) := by decide +kernel
theorem d_Cs_has_20 : decode q_mCs_has.1 20 = .ok (.ireturn, 1) := by decide +kernel
theorem d_Cs_has_21 : decode q_mCs_has.1 21 = .ok (.aload_n 0, 1) := by decide +kernel
theorem d_Cs_has_22 : decode q_mCs_has.1 22 = .ok (.getfield 11, 3) := by decide +kernel
theorem d_Cs_has_25 : decode q_mCs_has.1 25 = .ok (.iload_n 1, 1) := by decide +kernel
theorem d_Cs_has_26 : decode q_mCs_has.1 26 = .ok (.iconst 4, 1) := by decide +kernel
theorem d_Cs_has_27 : decode q_mCs_has.1 27 = .ok (.imul, 1) := by decide +kernel
theorem d_Cs_has_28 : decode q_mCs_has.1 28 = .ok (.iload_n 2, 1) := by decide +kernel
theorem d_Cs_has_29 : decode q_mCs_has.1 29 = .ok (.bipush 6, 2) := by decide +kernel
theorem d_Cs_has_31 : decode q_mCs_has.1 31 = .ok (.ishr, 1) := by decide +kernel
theorem d_Cs_has_32 : decode q_mCs_has.1 32 = .ok (.iadd, 1) := by decide +kernel
theorem d_Cs_has_33 : decode q_mCs_has.1 33 = .ok (.laload, 1) := by decide +kernel
theorem d_Cs_has_34 : decode q_mCs_has.1 34 = .ok (.iload_n 2, 1) := by decide +kernel
theorem d_Cs_has_35 : decode q_mCs_has.1 35 = .ok (.bipush 63, 2) := by decide +kernel
theorem d_Cs_has_37 : decode q_mCs_has.1 37 = .ok (.iand, 1) := by decide +kernel
theorem d_Cs_has_38 : decode q_mCs_has.1 38 = .ok (.lshr, 1) := by decide +kernel
theorem d_Cs_has_39 : decode q_mCs_has.1 39 = .ok (.lconst 1, 1) := by decide +kernel
theorem d_Cs_has_40 : decode q_mCs_has.1 40 = .ok (.land, 1) := by decide +kernel
theorem d_Cs_has_41 : decode q_mCs_has.1 41 = .ok (.lconst 0, 1) := by decide +kernel
theorem d_Cs_has_42 : decode q_mCs_has.1 42 = .ok (.lcmp, 1) := by decide +kernel
theorem d_Cs_has_43 : decode q_mCs_has.1 43 = .ok (.ifCond .eq 7, 3) := by decide +kernel
theorem d_Cs_has_46 : decode q_mCs_has.1 46 = .ok (.iconst 1, 1) := by decide +kernel
theorem d_Cs_has_47 : decode q_mCs_has.1 47 = .ok (.goto 4, 3) := by decide +kernel
theorem d_Cs_has_50 : decode q_mCs_has.1 50 = .ok (.iconst 0, 1) := by decide +kernel
theorem d_Cs_has_51 : decode q_mCs_has.1 51 = .ok (.ireturn, 1) := by decide +kernel
theorem d_Cs_forgetAll_0 : decode q_mCs_forgetAll.1 0 = .ok (.aload_n 0, 1) := by decide +kernel
theorem d_Cs_forgetAll_1 : decode q_mCs_forgetAll.1 1 = .ok (.iconst 0, 1) := by decide +kernel
theorem d_Cs_forgetAll_2 : decode q_mCs_forgetAll.1 2 = .ok (.putfield 15, 3) := by decide +kernel
theorem d_Cs_forgetAll_5 : decode q_mCs_forgetAll.1 5 = .ok (.aload_n 0, 1) := by decide +kernel
theorem d_Cs_forgetAll_6 : decode q_mCs_forgetAll.1 6 = .ok (.getfield 11, 3) := by decide +kernel
theorem d_Cs_forgetAll_9 : decode q_mCs_forgetAll.1 9 = .ok (.lconst 0, 1) := by decide +kernel
theorem d_Cs_forgetAll_10 : decode q_mCs_forgetAll.1 10 = .ok (.invokestatic 19, 3) := by decide +kernel
theorem d_Cs_forgetAll_13 : decode q_mCs_forgetAll.1 13 = .ok (.return_, 1) := by decide +kernel
theorem d_Cs_open_0 : decode q_mCs_open.1 0 = .ok (.aload_n 0, 1) := by decide +kernel
theorem d_Cs_open_1 : decode q_mCs_open.1 1 = .ok (.getfield 15, 3) := by decide +kernel
theorem d_Cs_open_4 : decode q_mCs_open.1 4 = .ok (.bipush 48, 2) := by decide +kernel
theorem d_Cs_open_6 : decode q_mCs_open.1 6 = .ok (.if_icmp .lt 5, 3) := by decide +kernel
theorem d_Cs_open_9 : decode q_mCs_open.1 9 = .ok (.iconst (-1), 1) := by decide +kernel
theorem d_Cs_open_10 : decode q_mCs_open.1 10 = .ok (.ireturn, 1) := by decide +kernel
theorem d_Cs_open_11 : decode q_mCs_open.1 11 = .ok (.aload_n 0, 1) := by decide +kernel
theorem d_Cs_open_12 : decode q_mCs_open.1 12 = .ok (.dup, 1) := by decide +kernel
theorem d_Cs_open_13 : decode q_mCs_open.1 13 = .ok (.getfield 15, 3) := by decide +kernel
theorem d_Cs_open_16 : decode q_mCs_open.1 16 = .ok (.iconst 1, 1) := by decide +kernel
theorem d_Cs_open_17 : decode q_mCs_open.1 17 = .ok (.iadd, 1) := by decide +kernel
theorem d_Cs_open_18 : decode q_mCs_open.1 18 = .ok (.putfield 15, 3) := by decide +kernel
theorem d_Cs_open_21 : decode q_mCs_open.1 21 = .ok (.aload_n 0, 1) := by decide +kernel
theorem d_Cs_open_22 : decode q_mCs_open.1 22 = .ok (.getfield 15, 3) := by decide +kernel
theorem d_Cs_open_25 : decode q_mCs_open.1 25 = .ok (.iconst 1, 1) := by decide +kernel
theorem d_Cs_open_26 : decode q_mCs_open.1 26 = .ok (.isub, 1) := by decide +kernel
theorem d_Cs_open_27 : decode q_mCs_open.1 27 = .ok (.ireturn, 1) := by decide +kernel
theorem d_Cs_addRange_0 : decode q_mCs_addRange.1 0 = .ok (.aload_n 0, 1) := by decide +kernel
theorem d_Cs_addRange_1 : decode q_mCs_addRange.1 1 = .ok (.iload_n 1, 1) := by decide +kernel
theorem d_Cs_addRange_2 : decode q_mCs_addRange.1 2 = .ok (.invokevirtual 25, 3) := by decide +kernel
theorem d_Cs_addRange_5 : decode q_mCs_addRange.1 5 = .ok (.ifCond .ne 4, 3) := by decide +kernel
theorem d_Cs_addRange_8 : decode q_mCs_addRange.1 8 = .ok (.return_, 1) := by decide +kernel
theorem d_Cs_addRange_9 : decode q_mCs_addRange.1 9 = .ok (.iload_n 2, 1) := by decide +kernel
theorem d_Cs_addRange_10 : decode q_mCs_addRange.1 10 = .ok (.iconst 0, 1) := by decide +kernel
theorem d_Cs_addRange_11 : decode q_mCs_addRange.1 11 = .ok (.invokestatic 29, 3) := by decide +kernel
theorem d_Cs_addRange_14 : decode q_mCs_addRange.1 14 = .ok (.istore 4, 2) := by decide +kernel
theorem d_Cs_addRange_16 : decode q_mCs_addRange.1 16 = .ok (.iload 4, 2) := by decide +kernel
theorem d_Cs_addRange_18 : decode q_mCs_addRange.1 18 = .ok (.iload_n 3, 1) := by decide +kernel
theorem d_Cs_addRange_19 : decode q_mCs_addRange.1 19 = .ok (.if_icmp .gt 41, 3) := by decide +kernel
theorem d_Cs_addRange_22 : decode q_mCs_addRange.1 22 = .ok (.iload 4, 2) := by decide +kernel
theorem d_Cs_addRange_24 : decode q_mCs_addRange.1 24 = .ok (.sipush 256, 3) := by decide +kernel
theorem d_Cs_addRange_27 : decode q_mCs_addRange.1 27 = .ok (.if_icmp .ge 33, 3) := by decide +kernel
theorem d_Cs_addRange_30 : decode q_mCs_addRange.1 30 = .ok (.aload_n 0, 1) := by decide +kernel
theorem d_Cs_addRange_31 : decode q_mCs_addRange.1 31 = .ok (.getfield 11, 3) := by decide +kernel
theorem d_Cs_addRange_34 : decode q_mCs_addRange.1 34 = .ok (.iload_n 1, 1) := by decide +kernel
theorem d_Cs_addRange_35 : decode q_mCs_addRange.1 35 = .ok (.iconst 4, 1) := by decide +kernel
theorem d_Cs_addRange_36 : decode q_mCs_addRange.1 36 = .ok (.imul, 1) := by decide +kernel
theorem d_Cs_addRange_37 : decode q_mCs_addRange.1 37 = .ok (.iload 4, 2) := by decide +kernel
theorem d_Cs_addRange_39 : decode q_mCs_addRange.1 39 = .ok (.bipush 6, 2) := by decide +kernel
theorem d_Cs_addRange_41 : decode q_mCs_addRange.1 41 = .ok (.ishr, 1) := by decide +kernel
theorem d_Cs_addRange_42 : decode q_mCs_addRange.1 42 = .ok (.iadd, 1) := by decide +kernel
theorem d_Cs_addRange_43 : decode q_mCs_addRange.1 43 = .ok (.dup2, 1) := by decide +kernel
theorem d_Cs_addRange_44 : decode q_mCs_addRange.1 44 = .ok (.laload, 1) := by decide +kernel
theorem d_Cs_addRange_45 : decode q_mCs_addRange.1 45 = .ok (.lconst 1, 1) := by decide +kernel
theorem d_Cs_addRange_46 : decode q_mCs_addRange.1 46 = .ok (.iload 4, 2) := by decide +kernel
theorem d_Cs_addRange_48 : decode q_mCs_addRange.1 48 = .ok (.bipush 63, 2) := by decide +kernel
theorem d_Cs_addRange_50 : decode q_mCs_addRange.1 50 = .ok (.iand, 1) := by decide +kernel
theorem d_Cs_addRange_51 : decode q_mCs_addRange.1 51 = .ok (.lshl, 1) := by decide +kernel
theorem d_Cs_addRange_52 : decode q_mCs_addRange.1 52 = .ok (.lor, 1) := by decide +kernel
theorem d_Cs_addRange_53 : decode q_mCs_addRange.1 53 = .ok (.lastore, 1) := by decide +kernel
theorem d_Cs_addRange_54 : decode q_mCs_addRange.1 54 = .ok (.iinc 4 1, 3) := by decide +kernel
theorem d_Cs_addRange_57 : decode q_mCs_addRange.1 57 = .ok (.goto (-41), 3) := by decide +kernel
theorem d_Cs_addRange_60 : decode q_mCs_addRange.1 60 = .ok (.return_, 1) := by decide +kernel
theorem d_Cs_invert_0 : decode q_mCs_invert.1 0 = .ok (.aload_n 0, 1) := by decide +kernel
theorem d_Cs_invert_1 : decode q_mCs_invert.1 1 = .ok (.iload_n 1, 1) := by decide +kernel
theorem d_Cs_invert_2 : decode q_mCs_invert.1 2 = .ok (.invokevirtual 25, 3) := by decide +kernel
theorem d_Cs_invert_5 : decode q_mCs_invert.1 5 = .ok (.ifCond .ne 4, 3) := by decide +kernel
theorem d_Cs_invert_8 : decode q_mCs_invert.1 8 = .ok (.return_, 1) := by decide +kernel
theorem d_Cs_invert_9 : decode q_mCs_invert.1 9 = .ok (.iconst 0, 1) := by decide +kernel
theorem d_Cs_invert_10 : decode q_mCs_invert.1 10 = .ok (.istore_n 2, 1) := by decide +kernel
theorem d_Cs_invert_11 : decode q_mCs_invert.1 11 = .ok (.iload_n 2, 1) := by decide +kernel
theorem d_Cs_invert_12 : decode q_mCs_invert.1 12 = .ok (.iconst 4, 1) := by decide +kernel
theorem d_Cs_invert_13 : decode q_mCs_invert.1 13 = .ok (.if_icmp .ge 33, 3) := by decide +kernel
theorem d_Cs_invert_16 : decode q_mCs_invert.1 16 = .ok (.aload_n 0, 1) := by decide +kernel
theorem d_Cs_invert_17 : decode q_mCs_invert.1 17 = .ok (.getfield 11, 3) := by decide +kernel
theorem d_Cs_invert_20 : decode q_mCs_invert.1 20 = .ok (.iload_n 1, 1) := by decide +kernel
theorem d_Cs_invert_21 : decode q_mCs_invert.1 21 = .ok (.iconst 4, 1) := by decide +kernel
theorem d_Cs_invert_22 : decode q_mCs_invert.1 22 = .ok (.imul, 1) := by decide +kernel
theorem d_Cs_invert_23 : decode q_mCs_invert.1 23 = .ok (.iload_n 2, 1) := by decide +kernel
theorem d_Cs_invert_24 : decode q_mCs_invert.1 24 = .ok (.iadd, 1) := by decide +kernel
theorem d_Cs_invert_25 : decode q_mCs_invert.1 25 = .ok (.aload_n 0, 1) := by decide +kernel
theorem d_Cs_invert_26 : decode q_mCs_invert.1 26 = .ok (.getfield 11, 3) := by decide +kernel
theorem d_Cs_invert_29 : decode q_mCs_invert.1 29 = .ok (.iload_n 1, 1) := by decide +kernel
theorem d_Cs_invert_30 : decode q_mCs_invert.1 30 = .ok (.iconst 4, 1) := by decide +kernel
theorem d_Cs_invert_31 : decode q_mCs_invert.1 31 = .ok (.imul, 1) := by decide +kernel
theorem d_Cs_invert_32 : decode q_mCs_invert.1 32 = .ok (.iload_n 2, 1) := by decide +kernel
theorem d_Cs_invert_33 : decode q_mCs_invert.1 33 = .ok (.iadd, 1) := by decide +kernel
theorem d_Cs_invert_34 : decode q_mCs_invert.1 34 = .ok (.laload, 1) := by decide +kernel
theorem d_Cs_invert_35 : decode q_mCs_invert.1 35 = .ok (.ldc2_w 35, 3) := by decide +kernel
theorem d_Cs_invert_38 : decode q_mCs_invert.1 38 = .ok (.lxor, 1) := by decide +kernel
theorem d_Cs_invert_39 : decode q_mCs_invert.1 39 = .ok (.lastore, 1) := by decide +kernel
theorem d_Cs_invert_40 : decode q_mCs_invert.1 40 = .ok (.iinc 2 1, 3) := by decide +kernel
theorem d_Cs_invert_43 : decode q_mCs_invert.1 43 = .ok (.goto (-32), 3) := by decide +kernel
theorem d_Cs_invert_46 : decode q_mCs_invert.1 46 = .ok (.return_, 1) := by decide +kernel
theorem d_Pa_init_0 : decode q_mPa_init.1 0 = .ok (.aload_n 0, 1) := by decide +kernel
theorem d_Pa_init_1 : decode q_mPa_init.1 1 = .ok (.invokespecial 3, 3) := by decide +kernel
theorem d_Pa_init_4 : decode q_mPa_init.1 4 = .ok (.aload_n 0, 1) := by decide +kernel
theorem d_Pa_init_5 : decode q_mPa_init.1 5 = .ok (.iconst 0, 1) := by decide +kernel
theorem d_Pa_init_6 : decode q_mPa_init.1 6 = .ok (.putfield 9, 3) := by decide +kernel
theorem d_Pa_init_9 : decode q_mPa_init.1 9 = .ok (.aload_n 0, 1) := by decide +kernel
theorem d_Pa_init_10 : decode q_mPa_init.1 10 = .ok (.iconst 0, 1) := by decide +kernel
theorem d_Pa_init_11 : decode q_mPa_init.1 11 = .ok (.putfield 15, 3) := by decide +kernel
theorem d_Pa_init_14 : decode q_mPa_init.1 14 = .ok (.aload_n 0, 1) := by decide +kernel
theorem d_Pa_init_15 : decode q_mPa_init.1 15 = .ok (.iconst 0, 1) := by decide +kernel
theorem d_Pa_init_16 : decode q_mPa_init.1 16 = .ok (.putfield 18, 3) := by decide +kernel
theorem d_Pa_init_19 : decode q_mPa_init.1 19 = .ok (.aload_n 0, 1) := by decide +kernel
theorem d_Pa_init_20 : decode q_mPa_init.1 20 = .ok (.iconst (-1), 1) := by decide +kernel
theorem d_Pa_init_21 : decode q_mPa_init.1 21 = .ok (.putfield 21, 3) := by decide +kernel
theorem d_Pa_init_24 : decode q_mPa_init.1 24 = .ok (.aload_n 0, 1) := by decide +kernel
theorem d_Pa_init_25 : decode q_mPa_init.1 25 = .ok (.aload_n 1, 1) := by decide +kernel
theorem d_Pa_init_26 : decode q_mPa_init.1 26 = .ok (.putfield 24, 3) := by decide +kernel
theorem d_Pa_init_29 : decode q_mPa_init.1 29 = .ok (.aload_n 0, 1) := by decide +kernel
theorem d_Pa_init_30 : decode q_mPa_init.1 30 = .ok (.aload_n 2, 1) := by decide +kernel
theorem d_Pa_init_31 : decode q_mPa_init.1 31 = .ok (.putfield 28, 3) := by decide +kernel
theorem d_Pa_init_34 : decode q_mPa_init.1 34 = .ok (.return_, 1) := by decide +kernel
theorem d_Pa_parse_0 : decode q_mPa_parse.1 0 = .ok (.aload_n 0, 1) := by decide +kernel
theorem d_Pa_parse_1 : decode q_mPa_parse.1 1 = .ok (.iload_n 1, 1) := by decide +kernel
theorem d_Pa_parse_2 : decode q_mPa_parse.1 2 = .ok (.aload_n 0, 1) := by decide +kernel
theorem d_Pa_parse_3 : decode q_mPa_parse.1 3 = .ok (.getfield 24, 3) := by decide +kernel
theorem d_Pa_parse_6 : decode q_mPa_parse.1 6 = .ok (.arraylength, 1) := by decide +kernel
theorem d_Pa_parse_7 : decode q_mPa_parse.1 7 = .ok (.invokestatic 32, 3) := by decide +kernel
theorem d_Pa_parse_10 : decode q_mPa_parse.1 10 = .ok (.putfield 9, 3) := by decide +kernel
theorem d_Pa_parse_13 : decode q_mPa_parse.1 13 = .ok (.aload_n 0, 1) := by decide +kernel
theorem d_Pa_parse_14 : decode q_mPa_parse.1 14 = .ok (.iconst 0, 1) := by decide +kernel
theorem d_Pa_parse_15 : decode q_mPa_parse.1 15 = .ok (.putfield 15, 3) := by decide +kernel
theorem d_Pa_parse_18 : decode q_mPa_parse.1 18 = .ok (.aload_n 0, 1) := by decide +kernel
theorem d_Pa_parse_19 : decode q_mPa_parse.1 19 = .ok (.iconst 0, 1) := by decide +kernel
theorem d_Pa_parse_20 : decode q_mPa_parse.1 20 = .ok (.putfield 18, 3) := by decide +kernel
theorem d_Pa_parse_23 : decode q_mPa_parse.1 23 = .ok (.aload_n 0, 1) := by decide +kernel
theorem d_Pa_parse_24 : decode q_mPa_parse.1 24 = .ok (.iconst (-1), 1) := by decide +kernel
theorem d_Pa_parse_25 : decode q_mPa_parse.1 25 = .ok (.putfield 21, 3) := by decide +kernel
theorem d_Pa_parse_28 : decode q_mPa_parse.1 28 = .ok (.aload_n 0, 1) := by decide +kernel
theorem d_Pa_parse_29 : decode q_mPa_parse.1 29 = .ok (.getfield 28, 3) := by decide +kernel
theorem d_Pa_parse_32 : decode q_mPa_parse.1 32 = .ok (.invokevirtual 38, 3) := by decide +kernel
theorem d_Pa_parse_35 : decode q_mPa_parse.1 35 = .ok (.aload_n 0, 1) := by decide +kernel
theorem d_Pa_parse_36 : decode q_mPa_parse.1 36 = .ok (.iconst 0, 1) := by decide +kernel
theorem d_Pa_parse_37 : decode q_mPa_parse.1 37 = .ok (.invokevirtual 43, 3) := by decide +kernel
theorem d_Pa_parse_40 : decode q_mPa_parse.1 40 = .ok (.astore_n 2, 1) := by decide +kernel
theorem d_Pa_parse_41 : decode q_mPa_parse.1 41 = .ok (.aload_n 0, 1) := by decide +kernel
theorem d_Pa_parse_42 : decode q_mPa_parse.1 42 = .ok (.getfield 15, 3) := by decide +kernel
theorem d_Pa_parse_45 : decode q_mPa_parse.1 45 = .ok (.aload_n 0, 1) := by decide +kernel
theorem d_Pa_parse_46 : decode q_mPa_parse.1 46 = .ok (.getfield 9, 3) := by decide +kernel
theorem d_Pa_parse_49 : decode q_mPa_parse.1 49 = .ok (.if_icmp .ge 7, 3) := by decide +kernel
theorem d_Pa_parse_52 : decode q_mPa_parse.1 52 = .ok (.aload_n 0, 1) := by decide +kernel
theorem d_Pa_parse_53 : decode q_mPa_parse.1 53 = .ok (.invokevirtual 47, 3) := by decide +kernel
theorem d_Pa_parse_56 : decode q_mPa_parse.1 56 = .ok (.aload_n 2, 1) := by decide +kernel
theorem d_Pa_parse_57 : decode q_mPa_parse.1 57 = .ok (.areturn, 1) := by decide +kernel
theorem d_Pa_readChoice_0 : decode q_mPa_readChoice.1 0 = .ok (.new 50, 3) := by decide +kernel
theorem d_Pa_readChoice_3 : decode q_mPa_readChoice.1 3 = .ok (.dup, 1) := by decide +kernel
theorem d_Pa_readChoice_4 : decode q_mPa_readChoice.1 4 = .ok (.invokespecial 52, 3) := by decide +kernel
theorem d_Pa_readChoice_7 : decode q_mPa_readChoice.1 7 = .ok (.astore_n 2, 1) := by decide +kernel
theorem d_Pa_readChoice_8 : decode q_mPa_readChoice.1 8 = .ok (.aload_n 2, 1) := by decide +kernel
theorem d_Pa_readChoice_9 : decode q_mPa_readChoice.1 9 = .ok (.astore_n 3, 1) := by decide +kernel
theorem d_Pa_readChoice_10 : decode q_mPa_readChoice.1 10 = .ok (.iconst 0, 1) := by decide +kernel
theorem d_Pa_readChoice_11 : decode q_mPa_readChoice.1 11 = .ok (.istore 4, 2) := by decide +kernel
theorem d_Pa_readChoice_13 : decode q_mPa_readChoice.1 13 = .ok (.iload 4, 2) := by decide +kernel
theorem d_Pa_readChoice_15 : decode q_mPa_readChoice.1 15 = .ok (.bipush 48, 2) := by decide +kernel
theorem d_Pa_readChoice_17 : decode q_mPa_readChoice.1 17 = .ok (.if_icmp .ge 84, 3) := by decide +kernel
theorem d_Pa_readChoice_20 : decode q_mPa_readChoice.1 20 = .ok (.aload_n 0, 1) := by decide +kernel
theorem d_Pa_readChoice_21 : decode q_mPa_readChoice.1 21 = .ok (.getfield 21, 3) := by decide +kernel
theorem d_Pa_readChoice_24 : decode q_mPa_readChoice.1 24 = .ok (.iconst (-1), 1) := by decide +kernel
theorem d_Pa_readChoice_25 : decode q_mPa_readChoice.1 25 = .ok (.if_icmp .ne 76, 3) := by decide +kernel
theorem d_Pa_readChoice_28 : decode q_mPa_readChoice.1 28 = .ok (.aload_n 0, 1) := by decide +kernel
theorem d_Pa_readChoice_29 : decode q_mPa_readChoice.1 29 = .ok (.invokevirtual 53, 3) := by decide +kernel
theorem d_Pa_readChoice_32 : decode q_mPa_readChoice.1 32 = .ok (.istore 5, 2) := by decide +kernel
theorem d_Pa_readChoice_34 : decode q_mPa_readChoice.1 34 = .ok (.iload 5, 2) := by decide +kernel
theorem d_Pa_readChoice_36 : decode q_mPa_readChoice.1 36 = .ok (.iconst (-1), 1) := by decide +kernel
theorem d_Pa_readChoice_37 : decode q_mPa_readChoice.1 37 = .ok (.if_icmp .eq 64, 3) := by decide +kernel
theorem d_Pa_readChoice_40 : decode q_mPa_readChoice.1 40 = .ok (.iload 5, 2) := by decide +kernel
theorem d_Pa_readChoice_42 : decode q_mPa_readChoice.1 42 = .ok (.bipush 41, 2) := by decide +kernel
theorem d_Pa_readChoice_44 : decode q_mPa_readChoice.1 44 = .ok (.if_icmp .ne 6, 3) := by decide +kernel
theorem d_Pa_readChoice_47 : decode q_mPa_readChoice.1 47 = .ok (.goto 54, 3) := by decide +kernel
theorem d_Pa_readChoice_50 : decode q_mPa_readChoice.1 50 = .ok (.iload 5, 2) := by decide +kernel
theorem d_Pa_readChoice_52 : decode q_mPa_readChoice.1 52 = .ok (.bipush 124, 2) := by decide +kernel
theorem d_Pa_readChoice_54 : decode q_mPa_readChoice.1 54 = .ok (.if_icmp .ne 32, 3) := by decide +kernel
theorem d_Pa_readChoice_57 : decode q_mPa_readChoice.1 57 = .ok (.aload_n 0, 1) := by decide +kernel
theorem d_Pa_readChoice_58 : decode q_mPa_readChoice.1 58 = .ok (.dup, 1) := by decide +kernel
theorem d_Pa_readChoice_59 : decode q_mPa_readChoice.1 59 = .ok (.getfield 15, 3) := by decide +kernel
theorem d_Pa_readChoice_62 : decode q_mPa_readChoice.1 62 = .ok (.iconst 1, 1) := by decide +kernel
theorem d_Pa_readChoice_63 : decode q_mPa_readChoice.1 63 = .ok (.iadd, 1) := by decide +kernel
theorem d_Pa_readChoice_64 : decode q_mPa_readChoice.1 64 = .ok (.putfield 15, 3) := by decide +kernel
theorem d_Pa_readChoice_67 : decode q_mPa_readChoice.1 67 = .ok (.aload_n 3, 1) := by decide +kernel
theorem d_Pa_readChoice_68 : decode q_mPa_readChoice.1 68 = .ok (.new 50, 3) := by decide +kernel
theorem d_Pa_readChoice_71 : decode q_mPa_readChoice.1 71 = .ok (.dup, 1) := by decide +kernel
theorem d_Pa_readChoice_72 : decode q_mPa_readChoice.1 72 = .ok (.invokespecial 52, 3) := by decide +kernel
theorem d_Pa_readChoice_75 : decode q_mPa_readChoice.1 75 = .ok (.putfield 57, 3) := by decide +kernel
theorem d_Pa_readChoice_78 : decode q_mPa_readChoice.1 78 = .ok (.aload_n 3, 1) := by decide +kernel
theorem d_Pa_readChoice_79 : decode q_mPa_readChoice.1 79 = .ok (.getfield 57, 3) := by decide +kernel
theorem d_Pa_readChoice_82 : decode q_mPa_readChoice.1 82 = .ok (.astore_n 3, 1) := by decide +kernel
theorem d_Pa_readChoice_83 : decode q_mPa_readChoice.1 83 = .ok (.goto 12, 3) := by decide +kernel
theorem d_Pa_readChoice_86 : decode q_mPa_readChoice.1 86 = .ok (.aload_n 3, 1) := by decide +kernel
theorem d_Pa_readChoice_87 : decode q_mPa_readChoice.1 87 = .ok (.aload_n 0, 1) := by decide +kernel
theorem d_Pa_readChoice_88 : decode q_mPa_readChoice.1 88 = .ok (.iload_n 1, 1) := by decide +kernel
theorem d_Pa_readChoice_89 : decode q_mPa_readChoice.1 89 = .ok (.invokevirtual 61, 3) := by decide +kernel
theorem d_Pa_readChoice_92 : decode q_mPa_readChoice.1 92 = .ok (.invokevirtual 65, 3) := by decide +kernel
theorem d_Pa_readChoice_95 : decode q_mPa_readChoice.1 95 = .ok (.iinc 4 1, 3) := by decide +kernel
theorem d_Pa_readChoice_98 : decode q_mPa_readChoice.1 98 = .ok (.goto (-85), 3) := by decide +kernel
theorem d_Pa_readChoice_101 : decode q_mPa_readChoice.1 101 = .ok (.aload_n 2, 1) := by decide +kernel
theorem d_Pa_readChoice_102 : decode q_mPa_readChoice.1 102 = .ok (.areturn, 1) := by decide +kernel
theorem d_Pa_peek_0 : decode q_mPa_peek.1 0 = .ok (.aload_n 0, 1) := by decide +kernel
theorem d_Pa_peek_1 : decode q_mPa_peek.1 1 = .ok (.getfield 15, 3) := by decide +kernel
theorem d_Pa_peek_4 : decode q_mPa_peek.1 4 = .ok (.ifCond .lt 38, 3) := by decide +kernel
theorem d_Pa_peek_7 : decode q_mPa_peek.1 7 = .ok (.aload_n 0, 1) := by decide +kernel
theorem d_Pa_peek_8 : decode q_mPa_peek.1 8 = .ok (.getfield 15, 3) := by decide +kernel
theorem d_Pa_peek_11 : decode q_mPa_peek.1 11 = .ok (.aload_n 0, 1) := by decide +kernel
theorem d_Pa_peek_12 : decode q_mPa_peek.1 12 = .ok (.getfield 9, 3) := by decide +kernel
theorem d_Pa_peek_15 : decode q_mPa_peek.1 15 = .ok (.if_icmp .ge 27, 3) := by decide +kernel
theorem d_Pa_peek_18 : decode q_mPa_peek.1 18 = .ok (.aload_n 0, 1) := by decide +kernel
theorem d_Pa_peek_19 : decode q_mPa_peek.1 19 = .ok (.getfield 15, 3) := by decide +kernel
theorem d_Pa_peek_22 : decode q_mPa_peek.1 22 = .ok (.aload_n 0, 1) := by decide +kernel
theorem d_Pa_peek_23 : decode q_mPa_peek.1 23 = .ok (.getfield 24, 3) := by decide +kernel
theorem d_Pa_peek_26 : decode q_mPa_peek.1 26 = .ok (.arraylength, 1) := by decide +kernel
theorem d_Pa_peek_27 : decode q_mPa_peek.1 27 = .ok (.if_icmp .ge 15, 3) := by decide +kernel
theorem d_Pa_peek_30 : decode q_mPa_peek.1 30 = .ok (.aload_n 0, 1) := by decide +kernel
theorem d_Pa_peek_31 : decode q_mPa_peek.1 31 = .ok (.getfield 24, 3) := by decide +kernel
theorem d_Pa_peek_34 : decode q_mPa_peek.1 34 = .ok (.aload_n 0, 1) := by decide +kernel
theorem d_Pa_peek_35 : decode q_mPa_peek.1 35 = .ok (.getfield 15, 3) := by decide +kernel
theorem d_Pa_peek_38 : decode q_mPa_peek.1 38 = .ok (.caload, 1) := by decide +kernel
theorem d_Pa_peek_39 : decode q_mPa_peek.1 39 = .ok (.goto 4, 3) := by decide +kernel
theorem d_Pa_peek_42 : decode q_mPa_peek.1 42 = .ok (.iconst (-1), 1) := by decide +kernel
theorem d_Pa_peek_43 : decode q_mPa_peek.1 43 = .ok (.ireturn, 1) := by decide +kernel
theorem d_Pa_readRepeat_0 : decode q_mPa_readRepeat.1 0 = .ok (.new 69, 3) := by decide +kernel
theorem d_Pa_readRepeat_3 : decode q_mPa_readRepeat.1 3 = .ok (.dup, 1) := by decide +kernel
theorem d_Pa_readRepeat_4 : decode q_mPa_readRepeat.1 4 = .ok (.invokespecial 71, 3) := by decide +kernel
theorem d_Pa_readRepeat_7 : decode q_mPa_readRepeat.1 7 = .ok (.astore_n 2, 1) := by decide +kernel
theorem d_Pa_readRepeat_8 : decode q_mPa_readRepeat.1 8 = .ok (.aload_n 0, 1) := by decide +kernel
theorem d_Pa_readRepeat_9 : decode q_mPa_readRepeat.1 9 = .ok (.invokevirtual 53, 3) := by decide +kernel
theorem d_Pa_readRepeat_12 : decode q_mPa_readRepeat.1 12 = .ok (.istore_n 3, 1) := by decide +kernel
theorem d_Pa_readRepeat_13 : decode q_mPa_readRepeat.1 13 = .ok (.iload_n 3, 1) := by decide +kernel
theorem d_Pa_readRepeat_14 : decode q_mPa_readRepeat.1 14 = .ok (.bipush 40, 2) := by decide +kernel
theorem d_Pa_readRepeat_16 : decode q_mPa_readRepeat.1 16 = .ok (.if_icmp .ne 12, 3) := by decide +kernel
theorem d_Pa_readRepeat_19 : decode q_mPa_readRepeat.1 19 = .ok (.aload_n 0, 1) := by decide +kernel
theorem d_Pa_readRepeat_20 : decode q_mPa_readRepeat.1 20 = .ok (.aload_n 2, 1) := by decide +kernel
theorem d_Pa_readRepeat_21 : decode q_mPa_readRepeat.1 21 = .ok (.iload_n 1, 1) := by decide +kernel
theorem d_Pa_readRepeat_22 : decode q_mPa_readRepeat.1 22 = .ok (.invokevirtual 72, 3) := by decide +kernel
theorem d_Pa_readRepeat_25 : decode q_mPa_readRepeat.1 25 = .ok (.goto 39, 3) := by decide +kernel
theorem d_Pa_readRepeat_28 : decode q_mPa_readRepeat.1 28 = .ok (.aload_n 2, 1) := by decide +kernel
theorem d_Pa_readRepeat_29 : decode q_mPa_readRepeat.1 29 = .ok (.aload_n 0, 1) := by decide +kernel
theorem d_Pa_readRepeat_30 : decode q_mPa_readRepeat.1 30 = .ok (.getfield 28, 3) := by decide +kernel
theorem d_Pa_readRepeat_33 : decode q_mPa_readRepeat.1 33 = .ok (.invokevirtual 76, 3) := by decide +kernel
theorem d_Pa_readRepeat_36 : decode q_mPa_readRepeat.1 36 = .ok (.putfield 79, 3) := by decide +kernel
theorem d_Pa_readRepeat_39 : decode q_mPa_readRepeat.1 39 = .ok (.iload_n 3, 1) := by decide +kernel
theorem d_Pa_readRepeat_40 : decode q_mPa_readRepeat.1 40 = .ok (.bipush 91, 2) := by decide +kernel
theorem d_Pa_readRepeat_42 : decode q_mPa_readRepeat.1 42 = .ok (.if_icmp .ne 14, 3) := by decide +kernel
theorem d_Pa_readRepeat_45 : decode q_mPa_readRepeat.1 45 = .ok (.aload_n 0, 1) := by decide +kernel
theorem d_Pa_readRepeat_46 : decode q_mPa_readRepeat.1 46 = .ok (.aload_n 2, 1) := by decide +kernel
theorem d_Pa_readRepeat_47 : decode q_mPa_readRepeat.1 47 = .ok (.getfield 79, 3) := by decide +kernel
theorem d_Pa_readRepeat_50 : decode q_mPa_readRepeat.1 50 = .ok (.invokevirtual 82, 3) := by decide +kernel
theorem d_Pa_readRepeat_53 : decode q_mPa_readRepeat.1 53 = .ok (.goto 11, 3) := by decide +kernel
theorem d_Pa_readRepeat_56 : decode q_mPa_readRepeat.1 56 = .ok (.aload_n 0, 1) := by decide +kernel
theorem d_Pa_readRepeat_57 : decode q_mPa_readRepeat.1 57 = .ok (.aload_n 2, 1) := by decide +kernel
theorem d_Pa_readRepeat_58 : decode q_mPa_readRepeat.1 58 = .ok (.getfield 79, 3) := by decide +kernel
theorem d_Pa_readRepeat_61 : decode q_mPa_readRepeat.1 61 = .ok (.invokevirtual 86, 3) := by decide +kernel
theorem d_Pa_readRepeat_64 : decode q_mPa_readRepeat.1 64 = .ok (.aload_n 0, 1) := by decide +kernel
theorem d_Pa_readRepeat_65 : decode q_mPa_readRepeat.1 65 = .ok (.getfield 21, 3) := by decide +kernel
theorem d_Pa_readRepeat_68 : decode q_mPa_readRepeat.1 68 = .ok (.iconst (-1), 1) := by decide +kernel
theorem d_Pa_readRepeat_69 : decode q_mPa_readRepeat.1 69 = .ok (.if_icmp .ne 8, 3) := by decide +kernel
theorem d_Pa_readRepeat_72 : decode q_mPa_readRepeat.1 72 = .ok (.aload_n 0, 1) := by decide +kernel
theorem d_Pa_readRepeat_73 : decode q_mPa_readRepeat.1 73 = .ok (.aload_n 2, 1) := by decide +kernel
theorem d_Pa_readRepeat_74 : decode q_mPa_readRepeat.1 74 = .ok (.invokevirtual 89, 3) := by decide +kernel
theorem d_Pa_readRepeat_77 : decode q_mPa_readRepeat.1 77 = .ok (.aload_n 2, 1) := by decide +kernel
theorem d_Pa_readRepeat_78 : decode q_mPa_readRepeat.1 78 = .ok (.areturn, 1) := by decide +kernel
theorem d_Pa_readGroup_0 : decode q_mPa_readGroup.1 0 = .ok (.iload_n 2, 1) := by decide +kernel
theorem d_Pa_readGroup_1 : decode q_mPa_readGroup.1 1 = .ok (.bipush 8, 2) := by decide +kernel
theorem d_Pa_readGroup_3 : decode q_mPa_readGroup.1 3 = .ok (.if_icmp .lt 8, 3) := by decide +kernel
theorem d_Pa_readGroup_6 : decode q_mPa_readGroup.1 6 = .ok (.aload_n 0, 1) := by decide +kernel
theorem d_Pa_readGroup_7 : decode q_mPa_readGroup.1 7 = .ok (.invokevirtual 47, 3) := by decide +kernel
theorem d_Pa_readGroup_10 : decode q_mPa_readGroup.1 10 = .ok (.return_, 1) := by decide +kernel
theorem d_Pa_readGroup_11 : decode q_mPa_readGroup.1 11 = .ok (.aload_n 0, 1) := by decide +kernel
theorem d_Pa_readGroup_12 : decode q_mPa_readGroup.1 12 = .ok (.dup, 1) := by decide +kernel
theorem d_Pa_readGroup_13 : decode q_mPa_readGroup.1 13 = .ok (.getfield 15, 3) := by decide +kernel
theorem d_Pa_readGroup_16 : decode q_mPa_readGroup.1 16 = .ok (.iconst 1, 1) := by decide +kernel
theorem d_Pa_readGroup_17 : decode q_mPa_readGroup.1 17 = .ok (.iadd, 1) := by decide +kernel
theorem d_Pa_readGroup_18 : decode q_mPa_readGroup.1 18 = .ok (.putfield 15, 3) := by decide +kernel
theorem d_Pa_readGroup_21 : decode q_mPa_readGroup.1 21 = .ok (.aload_n 0, 1) := by decide +kernel
theorem d_Pa_readGroup_22 : decode q_mPa_readGroup.1 22 = .ok (.invokevirtual 53, 3) := by decide +kernel
theorem d_Pa_readGroup_25 : decode q_mPa_readGroup.1 25 = .ok (.bipush 63, 2) := by decide +kernel
theorem d_Pa_readGroup_27 : decode q_mPa_readGroup.1 27 = .ok (.if_icmp .ne 22, 3) := by decide +kernel
theorem d_Pa_readGroup_30 : decode q_mPa_readGroup.1 30 = .ok (.aload_n 0, 1) := by decide +kernel
theorem d_Pa_readGroup_31 : decode q_mPa_readGroup.1 31 = .ok (.dup, 1) := by decide +kernel
theorem d_Pa_readGroup_32 : decode q_mPa_readGroup.1 32 = .ok (.getfield 15, 3) := by decide +kernel
theorem d_Pa_readGroup_35 : decode q_mPa_readGroup.1 35 = .ok (.iconst 1, 1) := by decide +kernel
theorem d_Pa_readGroup_36 : decode q_mPa_readGroup.1 36 = .ok (.iadd, 1) := by decide +kernel
theorem d_Pa_readGroup_37 : decode q_mPa_readGroup.1 37 = .ok (.putfield 15, 3) := by decide +kernel
theorem d_Pa_readGroup_40 : decode q_mPa_readGroup.1 40 = .ok (.aload_n 0, 1) := by decide +kernel
theorem d_Pa_readGroup_41 : decode q_mPa_readGroup.1 41 = .ok (.bipush 58, 2) := by decide +kernel
theorem d_Pa_readGroup_43 : decode q_mPa_readGroup.1 43 = .ok (.invokevirtual 92, 3) := by decide +kernel
theorem d_Pa_readGroup_46 : decode q_mPa_readGroup.1 46 = .ok (.goto 37, 3) := by decide +kernel
theorem d_Pa_readGroup_49 : decode q_mPa_readGroup.1 49 = .ok (.aload_n 0, 1) := by decide +kernel
theorem d_Pa_readGroup_50 : decode q_mPa_readGroup.1 50 = .ok (.getfield 18, 3) := by decide +kernel
theorem d_Pa_readGroup_53 : decode q_mPa_readGroup.1 53 = .ok (.bipush 6, 2) := by decide +kernel
theorem d_Pa_readGroup_55 : decode q_mPa_readGroup.1 55 = .ok (.if_icmp .lt 10, 3) := by decide +kernel
theorem d_Pa_readGroup_58 : decode q_mPa_readGroup.1 58 = .ok (.aload_n 0, 1) := by decide +kernel
theorem d_Pa_readGroup_59 : decode q_mPa_readGroup.1 59 = .ok (.invokevirtual 47, 3) := by decide +kernel
theorem d_Pa_readGroup_62 : decode q_mPa_readGroup.1 62 = .ok (.goto 21, 3) := by decide +kernel
theorem d_Pa_readGroup_65 : decode q_mPa_readGroup.1 65 = .ok (.aload_n 0, 1) := by decide +kernel
theorem d_Pa_readGroup_66 : decode q_mPa_readGroup.1 66 = .ok (.dup, 1) := by decide +kernel
theorem d_Pa_readGroup_67 : decode q_mPa_readGroup.1 67 = .ok (.getfield 18, 3) := by decide +kernel
theorem d_Pa_readGroup_70 : decode q_mPa_readGroup.1 70 = .ok (.iconst 1, 1) := by decide +kernel
theorem d_Pa_readGroup_71 : decode q_mPa_readGroup.1 71 = .ok (.iadd, 1) := by decide +kernel
theorem d_Pa_readGroup_72 : decode q_mPa_readGroup.1 72 = .ok (.putfield 18, 3) := by decide +kernel
theorem d_Pa_readGroup_75 : decode q_mPa_readGroup.1 75 = .ok (.aload_n 1, 1) := by decide +kernel
theorem d_Pa_readGroup_76 : decode q_mPa_readGroup.1 76 = .ok (.aload_n 0, 1) := by decide +kernel
theorem d_Pa_readGroup_77 : decode q_mPa_readGroup.1 77 = .ok (.getfield 18, 3) := by decide +kernel
theorem d_Pa_readGroup_80 : decode q_mPa_readGroup.1 80 = .ok (.putfield 95, 3) := by decide +kernel
theorem d_Pa_readGroup_83 : decode q_mPa_readGroup.1 83 = .ok (.aload_n 0, 1) := by decide +kernel
theorem d_Pa_readGroup_84 : decode q_mPa_readGroup.1 84 = .ok (.getfield 21, 3) := by decide +kernel
theorem d_Pa_readGroup_87 : decode q_mPa_readGroup.1 87 = .ok (.iconst (-1), 1) := by decide +kernel
theorem d_Pa_readGroup_88 : decode q_mPa_readGroup.1 88 = .ok (.if_icmp .eq 4, 3) := by decide +kernel
theorem d_Pa_readGroup_91 : decode q_mPa_readGroup.1 91 = .ok (.return_, 1) := by decide +kernel
theorem d_Pa_readGroup_92 : decode q_mPa_readGroup.1 92 = .ok (.aload_n 0, 1) := by decide +kernel
theorem d_Pa_readGroup_93 : decode q_mPa_readGroup.1 93 = .ok (.iload_n 2, 1) := by decide +kernel
theorem d_Pa_readGroup_94 : decode q_mPa_readGroup.1 94 = .ok (.iconst 1, 1) := by decide +kernel
theorem d_Pa_readGroup_95 : decode q_mPa_readGroup.1 95 = .ok (.iadd, 1) := by decide +kernel
theorem d_Pa_readGroup_96 : decode q_mPa_readGroup.1 96 = .ok (.invokevirtual 43, 3) := by decide +kernel
theorem d_Pa_readGroup_99 : decode q_mPa_readGroup.1 99 = .ok (.astore_n 3, 1) := by decide +kernel
theorem d_Pa_readGroup_100 : decode q_mPa_readGroup.1 100 = .ok (.aload_n 0, 1) := by decide +kernel
theorem d_Pa_readGroup_101 : decode q_mPa_readGroup.1 101 = .ok (.bipush 41, 2) := by decide +kernel
theorem d_Pa_readGroup_103 : decode q_mPa_readGroup.1 103 = .ok (.invokevirtual 92, 3) := by decide +kernel
theorem d_Pa_readGroup_106 : decode q_mPa_readGroup.1 106 = .ok (.aload_n 1, 1) := by decide +kernel
theorem d_Pa_readGroup_107 : decode q_mPa_readGroup.1 107 = .ok (.aload_n 3, 1) := by decide +kernel
theorem d_Pa_readGroup_108 : decode q_mPa_readGroup.1 108 = .ok (.putfield 98, 3) := by decide +kernel
theorem d_Pa_readGroup_111 : decode q_mPa_readGroup.1 111 = .ok (.aload_n 1, 1) := by decide +kernel
theorem d_Pa_readGroup_112 : decode q_mPa_readGroup.1 112 = .ok (.aload_n 3, 1) := by decide +kernel
theorem d_Pa_readGroup_113 : decode q_mPa_readGroup.1 113 = .ok (.invokevirtual 101, 3) := by decide +kernel
theorem d_Pa_readGroup_116 : decode q_mPa_readGroup.1 116 = .ok (.aload_n 1, 1) := by decide +kernel
theorem d_Pa_readGroup_117 : decode q_mPa_readGroup.1 117 = .ok (.getfield 95, 3) := by decide +kernel
theorem d_Pa_readGroup_120 : decode q_mPa_readGroup.1 120 = .ok (.ifCond .le 7, 3) := by decide +kernel
theorem d_Pa_readGroup_123 : decode q_mPa_readGroup.1 123 = .ok (.iconst 2, 1) := by decide +kernel
theorem d_Pa_readGroup_124 : decode q_mPa_readGroup.1 124 = .ok (.goto 4, 3) := by decide +kernel
theorem d_Pa_readGroup_127 : decode q_mPa_readGroup.1 127 = .ok (.iconst 0, 1) := by decide +kernel
theorem d_Pa_readGroup_128 : decode q_mPa_readGroup.1 128 = .ok (.iadd, 1) := by decide +kernel
theorem d_Pa_readGroup_129 : decode q_mPa_readGroup.1 129 = .ok (.putfield 104, 3) := by decide +kernel
theorem d_Pa_readGroup_132 : decode q_mPa_readGroup.1 132 = .ok (.return_, 1) := by decide +kernel
