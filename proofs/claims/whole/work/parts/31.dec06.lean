theorem d_Md_many_0 : decode q_mMd_many.1 0 = .ok (.iconst 0, 1) := by decide +kernel
theorem d_Md_many_1 : decode q_mMd_many.1 1 = .ok (.istore_n 2, 1) := by decide +kernel
theorem d_Md_many_2 : decode q_mMd_many.1 2 = .ok (.iconst 0, 1) := by decide +kernel
theorem d_Md_many_3 : decode q_mMd_many.1 3 = .ok (.istore_n 3, 1) := by decide +kernel
theorem d_Md_many_4 : decode q_mMd_many.1 4 = .ok (.iload_n 3, 1) := by decide +kernel
theorem d_Md_many_5 : decode q_mMd_many.1 5 = .ok (.sipush 256, 3) := by decide +kernel
theorem d_Md_many_8 : decode q_mMd_many.1 8 = .ok (.if_icmp .ge 26, 3) := by decide +kernel
theorem d_Md_many_11 : decode q_mMd_many.1 11 = .ok (.aload_n 0, 1) := by decide +kernel
theorem d_Md_many_12 : decode q_mMd_many.1 12 = .ok (.iload_n 1, 1) := by decide +kernel
theorem d_Md_many_13 : decode q_mMd_many.1 13 = .ok (.iload_n 3, 1) := by decide +kernel
theorem d_Md_many_14 : decode q_mMd_many.1 14 = .ok (.invokevirtual 122, 3) := by decide +kernel
theorem d_Md_many_17 : decode q_mMd_many.1 17 = .ok (.ifCond .eq 9, 3) := by decide +kernel
theorem d_Md_many_20 : decode q_mMd_many.1 20 = .ok (.iload_n 2, 1) := by decide +kernel
theorem d_Md_many_21 : decode q_mMd_many.1 21 = .ok (.iconst 1, 1) := by decide +kernel
theorem d_Md_many_22 : decode q_mMd_many.1 22 = .ok (.iadd, 1) := by decide +kernel
theorem d_Md_many_23 : decode q_mMd_many.1 23 = .ok (.goto 4, 3) := by decide +kernel
theorem d_Md_many_26 : decode q_mMd_many.1 26 = .ok (.iload_n 2, 1) := by decide +kernel
theorem d_Md_many_27 : decode q_mMd_many.1 27 = .ok (.istore_n 2, 1) := by decide +kernel
theorem d_Md_many_28 : decode q_mMd_many.1 28 = .ok (.iinc 3 1, 3) := by decide +kernel
theorem d_Md_many_31 : decode q_mMd_many.1 31 = .ok (.goto (-27), 3) := by decide +kernel
theorem d_Md_many_34 : decode q_mMd_many.1 34 = .ok (.iload_n 2, 1) := by decide +kernel
theorem d_Md_many_35 : decode q_mMd_many.1 35 = .ok (.ireturn, 1) := by decide +kernel
theorem d_Md_has_0 : decode q_mMd_has.1 0 = .ok (.aload_n 0, 1) := by decide +kernel
theorem d_Md_has_1 : decode q_mMd_has.1 1 = .ok (.getfield 55, 3) := by decide +kernel
theorem d_Md_has_4 : decode q_mMd_has.1 4 = .ok (.bipush 8, 2) := by decide +kernel
theorem d_Md_has_6 : decode q_mMd_has.1 6 = .ok (.iload_n 1, 1) := by decide +kernel
theorem d_Md_has_7 : decode q_mMd_has.1 7 = .ok (.imul, 1) := by decide +kernel
theorem d_Md_has_8 : decode q_mMd_has.1 8 = .ok (.iload_n 2, 1) := by decide +kernel
theorem d_Md_has_9 : decode q_mMd_has.1 9 = .ok (.bipush 32, 2) := by decide +kernel
theorem d_Md_has_11 : decode q_mMd_has.1 11 = .ok (.idiv, 1) := by decide +kernel
theorem d_Md_has_12 : decode q_mMd_has.1 12 = .ok (.iadd, 1) := by decide +kernel
theorem d_Md_has_13 : decode q_mMd_has.1 13 = .ok (.iaload, 1) := by decide +kernel
theorem d_Md_has_14 : decode q_mMd_has.1 14 = .ok (.iload_n 2, 1) := by decide +kernel
theorem d_Md_has_15 : decode q_mMd_has.1 15 = .ok (.bipush 32, 2) := by decide +kernel
theorem d_Md_has_17 : decode q_mMd_has.1 17 = .ok (.irem, 1) := by decide +kernel
theorem d_Md_has_18 : decode q_mMd_has.1 18 = .ok (.ishr, 1) := by decide +kernel
theorem d_Md_has_19 : decode q_mMd_has.1 19 = .ok (.iconst 1, 1) := by decide +kernel
theorem d_Md_has_20 : decode q_mMd_has.1 20 = .ok (.iand, 1) := by decide +kernel
theorem d_Md_has_21 : decode q_mMd_has.1 21 = .ok (.iconst 1, 1) := by decide +kernel
theorem d_Md_has_22 : decode q_mMd_has.1 22 = .ok (.if_icmp .ne 7, 3) := by decide +kernel
theorem d_Md_has_25 : decode q_mMd_has.1 25 = .ok (.iconst 1, 1) := by decide +kernel
theorem d_Md_has_26 : decode q_mMd_has.1 26 = .ok (.goto 4, 3) := by decide +kernel
theorem d_Md_has_29 : decode q_mMd_has.1 29 = .ok (.iconst 0, 1) := by decide +kernel
theorem d_Md_has_30 : decode q_mMd_has.1 30 = .ok (.ireturn, 1) := by decide +kernel
theorem d_Md_groups_0 : decode q_mMd_groups.1 0 = .ok (.aload_n 0, 1) := by decide +kernel
theorem d_Md_groups_1 : decode q_mMd_groups.1 1 = .ok (.iconst 0, 1) := by decide +kernel
theorem d_Md_groups_2 : decode q_mMd_groups.1 2 = .ok (.putfield 103, 3) := by decide +kernel
theorem d_Md_groups_5 : decode q_mMd_groups.1 5 = .ok (.aload_n 0, 1) := by decide +kernel
theorem d_Md_groups_6 : decode q_mMd_groups.1 6 = .ok (.getfield 109, 3) := by decide +kernel
theorem d_Md_groups_9 : decode q_mMd_groups.1 9 = .ok (.ifCond .le 10, 3) := by decide +kernel
theorem d_Md_groups_12 : decode q_mMd_groups.1 12 = .ok (.aload_n 0, 1) := by decide +kernel
theorem d_Md_groups_13 : decode q_mMd_groups.1 13 = .ok (.getfield 164, 3) := by decide +kernel
theorem d_Md_groups_16 : decode q_mMd_groups.1 16 = .ok (.goto 4, 3) := by decide +kernel
theorem d_Md_groups_19 : decode q_mMd_groups.1 19 = .ok (.iconst (-1), 1) := by decide +kernel
theorem d_Md_groups_20 : decode q_mMd_groups.1 20 = .ok (.ireturn, 1) := by decide +kernel
theorem d_Md_start_0 : decode q_mMd_start.1 0 = .ok (.aload_n 0, 1) := by decide +kernel
theorem d_Md_start_1 : decode q_mMd_start.1 1 = .ok (.iconst 0, 1) := by decide +kernel
theorem d_Md_start_2 : decode q_mMd_start.1 2 = .ok (.putfield 103, 3) := by decide +kernel
theorem d_Md_start_5 : decode q_mMd_start.1 5 = .ok (.aload_n 0, 1) := by decide +kernel
theorem d_Md_start_6 : decode q_mMd_start.1 6 = .ok (.getfield 109, 3) := by decide +kernel
theorem d_Md_start_9 : decode q_mMd_start.1 9 = .ok (.ifCond .ne 5, 3) := by decide +kernel
theorem d_Md_start_12 : decode q_mMd_start.1 12 = .ok (.iconst 0, 1) := by decide +kernel
theorem d_Md_start_13 : decode q_mMd_start.1 13 = .ok (.ireturn, 1) := by decide +kernel
theorem d_Md_start_14 : decode q_mMd_start.1 14 = .ok (.aload_n 0, 1) := by decide +kernel
theorem d_Md_start_15 : decode q_mMd_start.1 15 = .ok (.iconst 1, 1) := by decide +kernel
theorem d_Md_start_16 : decode q_mMd_start.1 16 = .ok (.putfield 212, 3) := by decide +kernel
theorem d_Md_start_19 : decode q_mMd_start.1 19 = .ok (.aload_n 0, 1) := by decide +kernel
theorem d_Md_start_20 : decode q_mMd_start.1 20 = .ok (.iload_n 1, 1) := by decide +kernel
theorem d_Md_start_21 : decode q_mMd_start.1 21 = .ok (.putfield 219, 3) := by decide +kernel
theorem d_Md_start_24 : decode q_mMd_start.1 24 = .ok (.aload_n 0, 1) := by decide +kernel
theorem d_Md_start_25 : decode q_mMd_start.1 25 = .ok (.iconst 0, 1) := by decide +kernel
theorem d_Md_start_26 : decode q_mMd_start.1 26 = .ok (.putfield 222, 3) := by decide +kernel
theorem d_Md_start_29 : decode q_mMd_start.1 29 = .ok (.aload_n 0, 1) := by decide +kernel
theorem d_Md_start_30 : decode q_mMd_start.1 30 = .ok (.iconst 0, 1) := by decide +kernel
theorem d_Md_start_31 : decode q_mMd_start.1 31 = .ok (.putfield 225, 3) := by decide +kernel
theorem d_Md_start_34 : decode q_mMd_start.1 34 = .ok (.iconst 1, 1) := by decide +kernel
theorem d_Md_start_35 : decode q_mMd_start.1 35 = .ok (.ireturn, 1) := by decide +kernel
theorem d_Md_feed_0 : decode q_mMd_feed.1 0 = .ok (.aload_n 0, 1) := by decide +kernel
theorem d_Md_feed_1 : decode q_mMd_feed.1 1 = .ok (.iconst 0, 1) := by decide +kernel
theorem d_Md_feed_2 : decode q_mMd_feed.1 2 = .ok (.putfield 103, 3) := by decide +kernel
theorem d_Md_feed_5 : decode q_mMd_feed.1 5 = .ok (.aload_n 0, 1) := by decide +kernel
theorem d_Md_feed_6 : decode q_mMd_feed.1 6 = .ok (.getfield 212, 3) := by decide +kernel
theorem d_Md_feed_9 : decode q_mMd_feed.1 9 = .ok (.ifCond .eq 20, 3) := by decide +kernel
theorem d_Md_feed_12 : decode q_mMd_feed.1 12 = .ok (.iload_n 1, 1) := by decide +kernel
theorem d_Md_feed_13 : decode q_mMd_feed.1 13 = .ok (.sipush 255, 3) := by decide +kernel
theorem d_Md_feed_16 : decode q_mMd_feed.1 16 = .ok (.if_icmp .gt 13, 3) := by decide +kernel
theorem d_Md_feed_19 : decode q_mMd_feed.1 19 = .ok (.aload_n 0, 1) := by decide +kernel
theorem d_Md_feed_20 : decode q_mMd_feed.1 20 = .ok (.getfield 222, 3) := by decide +kernel
theorem d_Md_feed_23 : decode q_mMd_feed.1 23 = .ok (.sipush 200, 3) := by decide +kernel
theorem d_Md_feed_26 : decode q_mMd_feed.1 26 = .ok (.if_icmp .ne 5, 3) := by decide +kernel
theorem d_Md_feed_29 : decode q_mMd_feed.1 29 = .ok (.iconst 0, 1) := by decide +kernel
theorem d_Md_feed_30 : decode q_mMd_feed.1 30 = .ok (.ireturn, 1) := by decide +kernel
theorem d_Md_feed_31 : decode q_mMd_feed.1 31 = .ok (.aload_n 0, 1) := by decide +kernel
theorem d_Md_feed_32 : decode q_mMd_feed.1 32 = .ok (.getfield 73, 3) := by decide +kernel
theorem d_Md_feed_35 : decode q_mMd_feed.1 35 = .ok (.aload_n 0, 1) := by decide +kernel
theorem d_Md_feed_36 : decode q_mMd_feed.1 36 = .ok (.getfield 222, 3) := by decide +kernel
theorem d_Md_feed_39 : decode q_mMd_feed.1 39 = .ok (.iload_n 1, 1) := by decide +kernel
theorem d_Md_feed_40 : decode q_mMd_feed.1 40 = .ok (.iastore, 1) := by decide +kernel
theorem d_Md_feed_41 : decode q_mMd_feed.1 41 = .ok (.aload_n 0, 1) := by decide +kernel
theorem d_Md_feed_42 : decode q_mMd_feed.1 42 = .ok (.dup, 1) := by decide +kernel
theorem d_Md_feed_43 : decode q_mMd_feed.1 43 = .ok (.getfield 222, 3) := by decide +kernel
theorem d_Md_feed_46 : decode q_mMd_feed.1 46 = .ok (.iconst 1, 1) := by decide +kernel
theorem d_Md_feed_47 : decode q_mMd_feed.1 47 = .ok (.iadd, 1) := by decide +kernel
theorem d_Md_feed_48 : decode q_mMd_feed.1 48 = .ok (.putfield 222, 3) := by decide +kernel
theorem d_Md_feed_51 : decode q_mMd_feed.1 51 = .ok (.aload_n 0, 1) := by decide +kernel
theorem d_Md_feed_52 : decode q_mMd_feed.1 52 = .ok (.iconst 0, 1) := by decide +kernel
theorem d_Md_feed_53 : decode q_mMd_feed.1 53 = .ok (.putfield 225, 3) := by decide +kernel
theorem d_Md_feed_56 : decode q_mMd_feed.1 56 = .ok (.iconst 1, 1) := by decide +kernel
theorem d_Md_feed_57 : decode q_mMd_feed.1 57 = .ok (.ireturn, 1) := by decide +kernel
theorem d_Md_matched_0 : decode q_mMd_matched.1 0 = .ok (.aload_n 0, 1) := by decide +kernel
theorem d_Md_matched_1 : decode q_mMd_matched.1 1 = .ok (.iconst 0, 1) := by decide +kernel
theorem d_Md_matched_2 : decode q_mMd_matched.1 2 = .ok (.putfield 103, 3) := by decide +kernel
theorem d_Md_matched_5 : decode q_mMd_matched.1 5 = .ok (.aload_n 0, 1) := by decide +kernel
theorem d_Md_matched_6 : decode q_mMd_matched.1 6 = .ok (.getfield 212, 3) := by decide +kernel
theorem d_Md_matched_9 : decode q_mMd_matched.1 9 = .ok (.ifCond .ne 5, 3) := by decide +kernel
theorem d_Md_matched_12 : decode q_mMd_matched.1 12 = .ok (.iconst 0, 1) := by decide +kernel
theorem d_Md_matched_13 : decode q_mMd_matched.1 13 = .ok (.ireturn, 1) := by decide +kernel
theorem d_Md_matched_14 : decode q_mMd_matched.1 14 = .ok (.aload_n 0, 1) := by decide +kernel
theorem d_Md_matched_15 : decode q_mMd_matched.1 15 = .ok (.invokevirtual 263, 3) := by decide +kernel
theorem d_Md_matched_18 : decode q_mMd_matched.1 18 = .ok (.aload_n 0, 1) := by decide +kernel
theorem d_Md_matched_19 : decode q_mMd_matched.1 19 = .ok (.getfield 246, 3) := by decide +kernel
theorem d_Md_matched_22 : decode q_mMd_matched.1 22 = .ok (.ireturn, 1) := by decide +kernel
theorem d_Md_work_0 : decode q_mMd_work.1 0 = .ok (.aload_n 0, 1) := by decide +kernel
theorem d_Md_work_1 : decode q_mMd_work.1 1 = .ok (.getfield 225, 3) := by decide +kernel
theorem d_Md_work_4 : decode q_mMd_work.1 4 = .ok (.ifCond .eq 4, 3) := by decide +kernel
theorem d_Md_work_7 : decode q_mMd_work.1 7 = .ok (.return_, 1) := by decide +kernel
theorem d_Md_work_8 : decode q_mMd_work.1 8 = .ok (.aload_n 0, 1) := by decide +kernel
theorem d_Md_work_9 : decode q_mMd_work.1 9 = .ok (.iconst 1, 1) := by decide +kernel
theorem d_Md_work_10 : decode q_mMd_work.1 10 = .ok (.putfield 225, 3) := by decide +kernel
theorem d_Md_work_13 : decode q_mMd_work.1 13 = .ok (.aload_n 0, 1) := by decide +kernel
theorem d_Md_work_14 : decode q_mMd_work.1 14 = .ok (.invokevirtual 243, 3) := by decide +kernel
theorem d_Md_work_17 : decode q_mMd_work.1 17 = .ok (.iconst 0, 1) := by decide +kernel
theorem d_Md_work_18 : decode q_mMd_work.1 18 = .ok (.istore_n 1, 1) := by decide +kernel
theorem d_Md_work_19 : decode q_mMd_work.1 19 = .ok (.iload_n 1, 1) := by decide +kernel
theorem d_Md_work_20 : decode q_mMd_work.1 20 = .ok (.bipush 14, 2) := by decide +kernel
theorem d_Md_work_22 : decode q_mMd_work.1 22 = .ok (.if_icmp .ge 16, 3) := by decide +kernel
theorem d_Md_work_25 : decode q_mMd_work.1 25 = .ok (.aload_n 0, 1) := by decide +kernel
theorem d_Md_work_26 : decode q_mMd_work.1 26 = .ok (.getfield 79, 3) := by decide +kernel
theorem d_Md_work_29 : decode q_mMd_work.1 29 = .ok (.iload_n 1, 1) := by decide +kernel
theorem d_Md_work_30 : decode q_mMd_work.1 30 = .ok (.iconst (-1), 1) := by decide +kernel
theorem d_Md_work_31 : decode q_mMd_work.1 31 = .ok (.iastore, 1) := by decide +kernel
theorem d_Md_work_32 : decode q_mMd_work.1 32 = .ok (.iinc 1 1, 3) := by decide +kernel
theorem d_Md_work_35 : decode q_mMd_work.1 35 = .ok (.goto (-16), 3) := by decide +kernel
theorem d_Md_work_38 : decode q_mMd_work.1 38 = .ok (.iconst 0, 1) := by decide +kernel
theorem d_Md_work_39 : decode q_mMd_work.1 39 = .ok (.istore_n 1, 1) := by decide +kernel
theorem d_Md_work_40 : decode q_mMd_work.1 40 = .ok (.iload_n 1, 1) := by decide +kernel
theorem d_Md_work_41 : decode q_mMd_work.1 41 = .ok (.aload_n 0, 1) := by decide +kernel
theorem d_Md_work_42 : decode q_mMd_work.1 42 = .ok (.getfield 222, 3) := by decide +kernel
theorem d_Md_work_45 : decode q_mMd_work.1 45 = .ok (.if_icmp .gt 18, 3) := by decide +kernel
theorem d_Md_work_48 : decode q_mMd_work.1 48 = .ok (.aload_n 0, 1) := by decide +kernel
theorem d_Md_work_49 : decode q_mMd_work.1 49 = .ok (.iconst 0, 1) := by decide +kernel
theorem d_Md_work_50 : decode q_mMd_work.1 50 = .ok (.iload_n 1, 1) := by decide +kernel
theorem d_Md_work_51 : decode q_mMd_work.1 51 = .ok (.invokevirtual 231, 3) := by decide +kernel
theorem d_Md_work_54 : decode q_mMd_work.1 54 = .ok (.ifCond .ne 9, 3) := by decide +kernel
theorem d_Md_work_57 : decode q_mMd_work.1 57 = .ok (.iinc 1 1, 3) := by decide +kernel
theorem d_Md_work_60 : decode q_mMd_work.1 60 = .ok (.goto (-20), 3) := by decide +kernel
theorem d_Md_work_63 : decode q_mMd_work.1 63 = .ok (.aload_n 0, 1) := by decide +kernel
theorem d_Md_work_64 : decode q_mMd_work.1 64 = .ok (.aload_n 0, 1) := by decide +kernel
theorem d_Md_work_65 : decode q_mMd_work.1 65 = .ok (.getfield 219, 3) := by decide +kernel
theorem d_Md_work_68 : decode q_mMd_work.1 68 = .ok (.ifCond .eq 19, 3) := by decide +kernel
theorem d_Md_work_71 : decode q_mMd_work.1 71 = .ok (.iload_n 1, 1) := by decide +kernel
theorem d_Md_work_72 : decode q_mMd_work.1 72 = .ok (.aload_n 0, 1) := by decide +kernel
theorem d_Md_work_73 : decode q_mMd_work.1 73 = .ok (.getfield 222, 3) := by decide +kernel
theorem d_Md_work_76 : decode q_mMd_work.1 76 = .ok (.if_icmp .gt 7, 3) := by decide +kernel
theorem d_Md_work_79 : decode q_mMd_work.1 79 = .ok (.iconst 1, 1) := by decide +kernel
theorem d_Md_work_80 : decode q_mMd_work.1 80 = .ok (.goto 16, 3) := by decide +kernel
theorem d_Md_work_83 : decode q_mMd_work.1 83 = .ok (.iconst 0, 1) := by decide +kernel
theorem d_Md_work_84 : decode q_mMd_work.1 84 = .ok (.goto 12, 3) := by decide +kernel
theorem d_Md_work_87 : decode q_mMd_work.1 87 = .ok (.iload_n 1, 1) := by decide +kernel
theorem d_Md_work_88 : decode q_mMd_work.1 88 = .ok (.ifCond .ne 7, 3) := by decide +kernel
theorem d_Md_work_91 : decode q_mMd_work.1 91 = .ok (.iconst 1, 1) := by decide +kernel
theorem d_Md_work_92 : decode q_mMd_work.1 92 = .ok (.goto 4, 3) := by decide +kernel
theorem d_Md_work_95 : decode q_mMd_work.1 95 = .ok (.iconst 0, 1) := by decide +kernel
theorem d_Md_work_96 : decode q_mMd_work.1 96 = .ok (.putfield 246, 3) := by decide +kernel
theorem d_Md_work_99 : decode q_mMd_work.1 99 = .ok (.iconst (-1), 1) := by decide +kernel
theorem d_Md_work_100 : decode q_mMd_work.1 100 = .ok (.istore_n 2, 1) := by decide +kernel
theorem d_Md_work_101 : decode q_mMd_work.1 101 = .ok (.iconst 0, 1) := by decide +kernel
theorem d_Md_work_102 : decode q_mMd_work.1 102 = .ok (.istore_n 3, 1) := by decide +kernel
theorem d_Md_work_103 : decode q_mMd_work.1 103 = .ok (.iload_n 3, 1) := by decide +kernel
theorem d_Md_work_104 : decode q_mMd_work.1 104 = .ok (.aload_n 0, 1) := by decide +kernel
theorem d_Md_work_105 : decode q_mMd_work.1 105 = .ok (.getfield 109, 3) := by decide +kernel
theorem d_Md_work_108 : decode q_mMd_work.1 108 = .ok (.if_icmp .ge 16, 3) := by decide +kernel
theorem d_Md_work_111 : decode q_mMd_work.1 111 = .ok (.aload_n 0, 1) := by decide +kernel
theorem d_Md_work_112 : decode q_mMd_work.1 112 = .ok (.getfield 85, 3) := by decide +kernel
theorem d_Md_work_115 : decode q_mMd_work.1 115 = .ok (.iload_n 3, 1) := by decide +kernel
theorem d_Md_work_116 : decode q_mMd_work.1 116 = .ok (.iconst 0, 1) := by decide +kernel
theorem d_Md_work_117 : decode q_mMd_work.1 117 = .ok (.bastore, 1) := by decide +kernel
theorem d_Md_work_118 : decode q_mMd_work.1 118 = .ok (.iinc 3 1, 3) := by decide +kernel
theorem d_Md_work_121 : decode q_mMd_work.1 121 = .ok (.goto (-18), 3) := by decide +kernel
theorem d_Md_work_124 : decode q_mMd_work.1 124 = .ok (.iconst 0, 1) := by decide +kernel
theorem d_Md_work_125 : decode q_mMd_work.1 125 = .ok (.istore_n 3, 1) := by decide +kernel
theorem d_Md_work_126 : decode q_mMd_work.1 126 = .ok (.iload_n 3, 1) := by decide +kernel
theorem d_Md_work_127 : decode q_mMd_work.1 127 = .ok (.aload_n 0, 1) := by decide +kernel
theorem d_Md_work_128 : decode q_mMd_work.1 128 = .ok (.getfield 222, 3) := by decide +kernel
theorem d_Md_work_131 : decode q_mMd_work.1 131 = .ok (.if_icmp .gt 141, 3) := by decide +kernel
theorem d_Md_work_134 : decode q_mMd_work.1 134 = .ok (.aload_n 0, 1) := by decide +kernel
theorem d_Md_work_135 : decode q_mMd_work.1 135 = .ok (.getfield 219, 3) := by decide +kernel
theorem d_Md_work_138 : decode q_mMd_work.1 138 = .ok (.ifCond .eq 23, 3) := by decide +kernel
theorem d_Md_work_141 : decode q_mMd_work.1 141 = .ok (.aload_n 0, 1) := by decide +kernel
theorem d_Md_work_142 : decode q_mMd_work.1 142 = .ok (.getfield 246, 3) := by decide +kernel
theorem d_Md_work_145 : decode q_mMd_work.1 145 = .ok (.ifCond .eq 8, 3) := by decide +kernel
theorem d_Md_work_148 : decode q_mMd_work.1 148 = .ok (.iload_n 3, 1) := by decide +kernel
theorem d_Md_work_149 : decode q_mMd_work.1 149 = .ok (.iload_n 1, 1) := by decide +kernel
theorem d_Md_work_150 : decode q_mMd_work.1 150 = .ok (.if_icmp .ge 7, 3) := by decide +kernel
theorem d_Md_work_153 : decode q_mMd_work.1 153 = .ok (.iconst 1, 1) := by decide +kernel
theorem d_Md_work_154 : decode q_mMd_work.1 154 = .ok (.goto 16, 3) := by decide +kernel
theorem d_Md_work_157 : decode q_mMd_work.1 157 = .ok (.iconst 0, 1) := by decide +kernel
theorem d_Md_work_158 : decode q_mMd_work.1 158 = .ok (.goto 12, 3) := by decide +kernel
theorem d_Md_work_161 : decode q_mMd_work.1 161 = .ok (.iload_n 3, 1) := by decide +kernel
theorem d_Md_work_162 : decode q_mMd_work.1 162 = .ok (.ifCond .ne 7, 3) := by decide +kernel
theorem d_Md_work_165 : decode q_mMd_work.1 165 = .ok (.iconst 1, 1) := by decide +kernel
theorem d_Md_work_166 : decode q_mMd_work.1 166 = .ok (.goto 4, 3) := by decide +kernel
theorem d_Md_work_169 : decode q_mMd_work.1 169 = .ok (.iconst 0, 1) := by decide +kernel
theorem d_Md_work_170 : decode q_mMd_work.1 170 = .ok (.istore 4, 2) := by decide +kernel
theorem d_Md_work_172 : decode q_mMd_work.1 172 = .ok (.iload 4, 2) := by decide +kernel
theorem d_Md_work_174 : decode q_mMd_work.1 174 = .ok (.ifCond .eq 12, 3) := by decide +kernel
theorem d_Md_work_177 : decode q_mMd_work.1 177 = .ok (.aload_n 0, 1) := by decide +kernel
theorem d_Md_work_178 : decode q_mMd_work.1 178 = .ok (.aload_n 0, 1) := by decide +kernel
theorem d_Md_work_179 : decode q_mMd_work.1 179 = .ok (.getfield 85, 3) := by decide +kernel
theorem d_Md_work_182 : decode q_mMd_work.1 182 = .ok (.iconst 0, 1) := by decide +kernel
theorem d_Md_work_183 : decode q_mMd_work.1 183 = .ok (.invokevirtual 249, 3) := by decide +kernel
theorem d_Md_work_186 : decode q_mMd_work.1 186 = .ok (.aload_n 0, 1) := by decide +kernel
theorem d_Md_work_187 : decode q_mMd_work.1 187 = .ok (.getfield 246, 3) := by decide +kernel
theorem d_Md_work_190 : decode q_mMd_work.1 190 = .ok (.ifCond .eq 23, 3) := by decide +kernel
theorem d_Md_work_193 : decode q_mMd_work.1 193 = .ok (.iload_n 3, 1) := by decide +kernel
theorem d_Md_work_194 : decode q_mMd_work.1 194 = .ok (.aload_n 0, 1) := by decide +kernel
theorem d_Md_work_195 : decode q_mMd_work.1 195 = .ok (.getfield 219, 3) := by decide +kernel
theorem d_Md_work_198 : decode q_mMd_work.1 198 = .ok (.ifCond .eq 7, 3) := by decide +kernel
theorem d_Md_work_201 : decode q_mMd_work.1 201 = .ok (.iload_n 1, 1) := by decide +kernel
theorem d_Md_work_202 : decode q_mMd_work.1 202 = .ok (.goto 4, 3) := by decide +kernel
theorem d_Md_work_205 : decode q_mMd_work.1 205 = .ok (.iconst 0, 1) := by decide +kernel
theorem d_Md_work_206 : decode q_mMd_work.1 206 = .ok (.if_icmp .ne 7, 3) := by decide +kernel
theorem d_Md_work_209 : decode q_mMd_work.1 209 = .ok (.iconst 0, 1) := by decide +kernel
theorem d_Md_work_210 : decode q_mMd_work.1 210 = .ok (.goto 4, 3) := by decide +kernel
theorem d_Md_work_213 : decode q_mMd_work.1 213 = .ok (.iload_n 2, 1) := by decide +kernel
theorem d_Md_work_214 : decode q_mMd_work.1 214 = .ok (.istore_n 2, 1) := by decide +kernel
theorem d_Md_work_215 : decode q_mMd_work.1 215 = .ok (.iload_n 2, 1) := by decide +kernel
theorem d_Md_work_216 : decode q_mMd_work.1 216 = .ok (.ifCond .lt 37, 3) := by decide +kernel
theorem d_Md_work_219 : decode q_mMd_work.1 219 = .ok (.aload_n 0, 1) := by decide +kernel
theorem d_Md_work_220 : decode q_mMd_work.1 220 = .ok (.iload_n 2, 1) := by decide +kernel
theorem d_Md_work_221 : decode q_mMd_work.1 221 = .ok (.iload_n 3, 1) := by decide +kernel
theorem d_Md_work_222 : decode q_mMd_work.1 222 = .ok (.invokevirtual 253, 3) := by decide +kernel
theorem d_Md_work_225 : decode q_mMd_work.1 225 = .ok (.istore 5, 2) := by decide +kernel
theorem d_Md_work_227 : decode q_mMd_work.1 227 = .ok (.aload_n 0, 1) := by decide +kernel
theorem d_Md_work_228 : decode q_mMd_work.1 228 = .ok (.iload 5, 2) := by decide +kernel
theorem d_Md_work_230 : decode q_mMd_work.1 230 = .ok (.iload_n 3, 1) := by decide +kernel
theorem d_Md_work_231 : decode q_mMd_work.1 231 = .ok (.invokevirtual 256, 3) := by decide +kernel
theorem d_Md_work_234 : decode q_mMd_work.1 234 = .ok (.aload_n 0, 1) := by decide +kernel
theorem d_Md_work_235 : decode q_mMd_work.1 235 = .ok (.getfield 58, 3) := by decide +kernel
theorem d_Md_work_238 : decode q_mMd_work.1 238 = .ok (.iload 5, 2) := by decide +kernel
theorem d_Md_work_240 : decode q_mMd_work.1 240 = .ok (.iaload, 1) := by decide +kernel
theorem d_Md_work_241 : decode q_mMd_work.1 241 = .ok (.ifCond .ne 10, 3) := by decide +kernel
theorem d_Md_work_244 : decode q_mMd_work.1 244 = .ok (.iload 5, 2) := by decide +kernel
theorem d_Md_work_246 : decode q_mMd_work.1 246 = .ok (.iconst 1, 1) := by decide +kernel
theorem d_Md_work_247 : decode q_mMd_work.1 247 = .ok (.iadd, 1) := by decide +kernel
theorem d_Md_work_248 : decode q_mMd_work.1 248 = .ok (.goto 4, 3) := by decide +kernel
theorem d_Md_work_251 : decode q_mMd_work.1 251 = .ok (.iconst (-1), 1) := by decide +kernel
theorem d_Md_work_252 : decode q_mMd_work.1 252 = .ok (.istore_n 2, 1) := by decide +kernel
theorem d_Md_work_253 : decode q_mMd_work.1 253 = .ok (.iload_n 3, 1) := by decide +kernel
theorem d_Md_work_254 : decode q_mMd_work.1 254 = .ok (.aload_n 0, 1) := by decide +kernel
theorem d_Md_work_255 : decode q_mMd_work.1 255 = .ok (.getfield 222, 3) := by decide +kernel
theorem d_Md_work_258 : decode q_mMd_work.1 258 = .ok (.if_icmp .ge 8, 3) := by decide +kernel
theorem d_Md_work_261 : decode q_mMd_work.1 261 = .ok (.aload_n 0, 1) := by decide +kernel
theorem d_Md_work_262 : decode q_mMd_work.1 262 = .ok (.iload_n 3, 1) := by decide +kernel
theorem d_Md_work_263 : decode q_mMd_work.1 263 = .ok (.invokevirtual 259, 3) := by decide +kernel
theorem d_Md_work_266 : decode q_mMd_work.1 266 = .ok (.iinc 3 1, 3) := by decide +kernel
theorem d_Md_work_269 : decode q_mMd_work.1 269 = .ok (.goto (-143), 3) := by decide +kernel
theorem d_Md_work_272 : decode q_mMd_work.1 272 = .ok (.iconst 0, 1) := by decide +kernel
theorem d_Md_work_273 : decode q_mMd_work.1 273 = .ok (.istore_n 3, 1) := by decide +kernel
theorem d_Md_work_274 : decode q_mMd_work.1 274 = .ok (.iload_n 3, 1) := by decide +kernel
theorem d_Md_work_275 : decode q_mMd_work.1 275 = .ok (.aload_n 0, 1) := by decide +kernel
theorem d_Md_work_276 : decode q_mMd_work.1 276 = .ok (.getfield 109, 3) := by decide +kernel
theorem d_Md_work_279 : decode q_mMd_work.1 279 = .ok (.if_icmp .ge 38, 3) := by decide +kernel
theorem d_Md_work_282 : decode q_mMd_work.1 282 = .ok (.aload_n 0, 1) := by decide +kernel
theorem d_Md_work_283 : decode q_mMd_work.1 283 = .ok (.getfield 82, 3) := by decide +kernel
theorem d_Md_work_286 : decode q_mMd_work.1 286 = .ok (.iload_n 3, 1) := by decide +kernel
theorem d_Md_work_287 : decode q_mMd_work.1 287 = .ok (.aload_n 0, 1) := by decide +kernel
theorem d_Md_work_288 : decode q_mMd_work.1 288 = .ok (.getfield 85, 3) := by decide +kernel
theorem d_Md_work_291 : decode q_mMd_work.1 291 = .ok (.iload_n 3, 1) := by decide +kernel
theorem d_Md_work_292 : decode q_mMd_work.1 292 = .ok (.baload, 1) := by decide +kernel
theorem d_Md_work_293 : decode q_mMd_work.1 293 = .ok (.ifCond .eq 16, 3) := by decide +kernel
theorem d_Md_work_296 : decode q_mMd_work.1 296 = .ok (.aload_n 0, 1) := by decide +kernel
theorem d_Md_work_297 : decode q_mMd_work.1 297 = .ok (.getfield 58, 3) := by decide +kernel
theorem d_Md_work_300 : decode q_mMd_work.1 300 = .ok (.iload_n 3, 1) := by decide +kernel
theorem d_Md_work_301 : decode q_mMd_work.1 301 = .ok (.iaload, 1) := by decide +kernel
theorem d_Md_work_302 : decode q_mMd_work.1 302 = .ok (.ifCond .ne 7, 3) := by decide +kernel
theorem d_Md_work_305 : decode q_mMd_work.1 305 = .ok (.iconst 1, 1) := by decide +kernel
theorem d_Md_work_306 : decode q_mMd_work.1 306 = .ok (.goto 4, 3) := by decide +kernel
theorem d_Md_work_309 : decode q_mMd_work.1 309 = .ok (.iconst 0, 1) := by decide +kernel
theorem d_Md_work_310 : decode q_mMd_work.1 310 = .ok (.bastore, 1) := by decide +kernel
theorem d_Md_work_311 : decode q_mMd_work.1 311 = .ok (.iinc 3 1, 3) := by decide +kernel
theorem d_Md_work_314 : decode q_mMd_work.1 314 = .ok (.goto (-40), 3) := by decide +kernel
theorem d_Md_work_317 : decode q_mMd_work.1 317 = .ok (.return_, 1) := by decide +kernel
theorem d_Md_fill_0 : decode q_mMd_fill.1 0 = .ok (.iconst 0, 1) := by decide +kernel
theorem d_Md_fill_1 : decode q_mMd_fill.1 1 = .ok (.istore_n 1, 1) := by decide +kernel
theorem d_Md_fill_2 : decode q_mMd_fill.1 2 = .ok (.iload_n 1, 1) := by decide +kernel
theorem d_Md_fill_3 : decode q_mMd_fill.1 3 = .ok (.sipush 1120, 3) := by decide +kernel
theorem d_Md_fill_6 : decode q_mMd_fill.1 6 = .ok (.if_icmp .ge 16, 3) := by decide +kernel
theorem d_Md_fill_9 : decode q_mMd_fill.1 9 = .ok (.aload_n 0, 1) := by decide +kernel
theorem d_Md_fill_10 : decode q_mMd_fill.1 10 = .ok (.getfield 76, 3) := by decide +kernel
theorem d_Md_fill_13 : decode q_mMd_fill.1 13 = .ok (.iload_n 1, 1) := by decide +kernel
theorem d_Md_fill_14 : decode q_mMd_fill.1 14 = .ok (.iconst 0, 1) := by decide +kernel
theorem d_Md_fill_15 : decode q_mMd_fill.1 15 = .ok (.iastore, 1) := by decide +kernel
theorem d_Md_fill_16 : decode q_mMd_fill.1 16 = .ok (.iinc 1 1, 3) := by decide +kernel
theorem d_Md_fill_19 : decode q_mMd_fill.1 19 = .ok (.goto (-17), 3) := by decide +kernel
theorem d_Md_fill_22 : decode q_mMd_fill.1 22 = .ok (.aload_n 0, 1) := by decide +kernel
theorem d_Md_fill_23 : decode q_mMd_fill.1 23 = .ok (.getfield 222, 3) := by decide +kernel
theorem d_Md_fill_26 : decode q_mMd_fill.1 26 = .ok (.istore_n 1, 1) := by decide +kernel
theorem d_Md_fill_27 : decode q_mMd_fill.1 27 = .ok (.iload_n 1, 1) := by decide +kernel
theorem d_Md_fill_28 : decode q_mMd_fill.1 28 = .ok (.ifCond .lt 111, 3) := by decide +kernel
theorem d_Md_fill_31 : decode q_mMd_fill.1 31 = .ok (.iconst 1, 1) := by decide +kernel
theorem d_Md_fill_32 : decode q_mMd_fill.1 32 = .ok (.istore_n 2, 1) := by decide +kernel
theorem d_Md_fill_33 : decode q_mMd_fill.1 33 = .ok (.iconst 0, 1) := by decide +kernel
theorem d_Md_fill_34 : decode q_mMd_fill.1 34 = .ok (.istore_n 3, 1) := by decide +kernel
theorem d_Md_fill_35 : decode q_mMd_fill.1 35 = .ok (.iload_n 3, 1) := by decide +kernel
theorem d_Md_fill_36 : decode q_mMd_fill.1 36 = .ok (.aload_n 0, 1) := by decide +kernel
theorem d_Md_fill_37 : decode q_mMd_fill.1 37 = .ok (.getfield 109, 3) := by decide +kernel
theorem d_Md_fill_40 : decode q_mMd_fill.1 40 = .ok (.if_icmp .gt 93, 3) := by decide +kernel
theorem d_Md_fill_43 : decode q_mMd_fill.1 43 = .ok (.iload_n 2, 1) := by decide +kernel
theorem d_Md_fill_44 : decode q_mMd_fill.1 44 = .ok (.ifCond .eq 89, 3) := by decide +kernel
theorem d_Md_fill_47 : decode q_mMd_fill.1 47 = .ok (.iconst 0, 1) := by decide +kernel
theorem d_Md_fill_48 : decode q_mMd_fill.1 48 = .ok (.istore_n 2, 1) := by decide +kernel
theorem d_Md_fill_49 : decode q_mMd_fill.1 49 = .ok (.aload_n 0, 1) := by decide +kernel
theorem d_Md_fill_50 : decode q_mMd_fill.1 50 = .ok (.getfield 109, 3) := by decide +kernel
theorem d_Md_fill_53 : decode q_mMd_fill.1 53 = .ok (.iconst 1, 1) := by decide +kernel
theorem d_Md_fill_54 : decode q_mMd_fill.1 54 = .ok (.isub, 1) := by decide +kernel
theorem d_Md_fill_55 : decode q_mMd_fill.1 55 = .ok (.istore 4, 2) := by decide +kernel
theorem d_Md_fill_57 : decode q_mMd_fill.1 57 = .ok (.iload 4, 2) := by decide +kernel
theorem d_Md_fill_59 : decode q_mMd_fill.1 59 = .ok (.ifCond .lt 68, 3) := by decide +kernel
theorem d_Md_fill_62 : decode q_mMd_fill.1 62 = .ok (.aload_n 0, 1) := by decide +kernel
theorem d_Md_fill_63 : decode q_mMd_fill.1 63 = .ok (.iload 4, 2) := by decide +kernel
theorem d_Md_fill_65 : decode q_mMd_fill.1 65 = .ok (.iload_n 1, 1) := by decide +kernel
theorem d_Md_fill_66 : decode q_mMd_fill.1 66 = .ok (.invokevirtual 231, 3) := by decide +kernel
theorem d_Md_fill_69 : decode q_mMd_fill.1 69 = .ok (.ifCond .ne 52, 3) := by decide +kernel
theorem d_Md_fill_72 : decode q_mMd_fill.1 72 = .ok (.aload_n 0, 1) := by decide +kernel
theorem d_Md_fill_73 : decode q_mMd_fill.1 73 = .ok (.iload 4, 2) := by decide +kernel
theorem d_Md_fill_75 : decode q_mMd_fill.1 75 = .ok (.iload_n 1, 1) := by decide +kernel
theorem d_Md_fill_76 : decode q_mMd_fill.1 76 = .ok (.invokevirtual 237, 3) := by decide +kernel
theorem d_Md_fill_79 : decode q_mMd_fill.1 79 = .ok (.ifCond .eq 42, 3) := by decide +kernel
theorem d_Md_fill_82 : decode q_mMd_fill.1 82 = .ok (.aload_n 0, 1) := by decide +kernel
theorem d_Md_fill_83 : decode q_mMd_fill.1 83 = .ok (.getfield 76, 3) := by decide +kernel
theorem d_Md_fill_86 : decode q_mMd_fill.1 86 = .ok (.bipush 7, 2) := by decide +kernel
theorem d_Md_fill_88 : decode q_mMd_fill.1 88 = .ok (.iload 4, 2) := by decide +kernel
theorem d_Md_fill_90 : decode q_mMd_fill.1 90 = .ok (.imul, 1) := by decide +kernel
theorem d_Md_fill_91 : decode q_mMd_fill.1 91 = .ok (.iload_n 1, 1) := by decide +kernel
theorem d_Md_fill_92 : decode q_mMd_fill.1 92 = .ok (.bipush 32, 2) := by decide +kernel
theorem d_Md_fill_94 : decode q_mMd_fill.1 94 = .ok (.idiv, 1) := by decide +kernel
theorem d_Md_fill_95 : decode q_mMd_fill.1 95 = .ok (.iadd, 1) := by decide +kernel
theorem d_Md_fill_96 : decode q_mMd_fill.1 96 = .ok (.aload_n 0, 1) := by decide +kernel
theorem d_Md_fill_97 : decode q_mMd_fill.1 97 = .ok (.getfield 76, 3) := by decide +kernel
theorem d_Md_fill_100 : decode q_mMd_fill.1 100 = .ok (.bipush 7, 2) := by decide +kernel
theorem d_Md_fill_102 : decode q_mMd_fill.1 102 = .ok (.iload 4, 2) := by decide +kernel
theorem d_Md_fill_104 : decode q_mMd_fill.1 104 = .ok (.imul, 1) := by decide +kernel
theorem d_Md_fill_105 : decode q_mMd_fill.1 105 = .ok (.iload_n 1, 1) := by decide +kernel
theorem d_Md_fill_106 : decode q_mMd_fill.1 106 = .ok (.bipush 32, 2) := by decide +kernel
theorem d_Md_fill_108 : decode q_mMd_fill.1 108 = .ok (.idiv, 1) := by decide +kernel
theorem d_Md_fill_109 : decode q_mMd_fill.1 109 = .ok (.iadd, 1) := by decide +kernel
theorem d_Md_fill_110 : decode q_mMd_fill.1 110 = .ok (.iaload, 1) := by decide +kernel
theorem d_Md_fill_111 : decode q_mMd_fill.1 111 = .ok (.iconst 1, 1) := by decide +kernel
theorem d_Md_fill_112 : decode q_mMd_fill.1 112 = .ok (.iload_n 1, 1) := by decide +kernel
theorem d_Md_fill_113 : decode q_mMd_fill.1 113 = .ok (.bipush 32, 2) := by decide +kernel
theorem d_Md_fill_115 : decode q_mMd_fill.1 115 = .ok (.irem, 1) := by decide +kernel
theorem d_Md_fill_116 : decode q_mMd_fill.1 116 = .ok (.ishl, 1) := by decide +kernel
theorem d_Md_fill_117 : decode q_mMd_fill.1 117 = .ok (.ior, 1) := by decide +kernel
theorem d_Md_fill_118 : decode q_mMd_fill.1 118 = .ok (.iastore, 1) := by decide +kernel
theorem d_Md_fill_119 : decode q_mMd_fill.1 119 = .ok (.iconst 1, 1) := by decide +kernel
theorem d_Md_fill_120 : decode q_mMd_fill.1 120 = .ok (.istore_n 2, 1) := by decide +kernel
theorem d_Md_fill_121 : decode q_mMd_fill.1 121 = .ok (.iinc 4 (-1), 3) := by decide +kernel
theorem d_Md_fill_124 : decode q_mMd_fill.1 124 = .ok (.goto (-67), 3) := by decide +kernel
theorem d_Md_fill_127 : decode q_mMd_fill.1 127 = .ok (.iinc 3 1, 3) := by decide +kernel
theorem d_Md_fill_130 : decode q_mMd_fill.1 130 = .ok (.goto (-95), 3) := by decide +kernel
theorem d_Md_fill_133 : decode q_mMd_fill.1 133 = .ok (.iinc 1 (-1), 3) := by decide +kernel
theorem d_Md_fill_136 : decode q_mMd_fill.1 136 = .ok (.goto (-109), 3) := by decide +kernel
theorem d_Md_fill_139 : decode q_mMd_fill.1 139 = .ok (.return_, 1) := by decide +kernel
theorem d_Md_reaches_0 : decode q_mMd_reaches.1 0 = .ok (.aload_n 0, 1) := by decide +kernel
theorem d_Md_reaches_1 : decode q_mMd_reaches.1 1 = .ok (.getfield 76, 3) := by decide +kernel
theorem d_Md_reaches_4 : decode q_mMd_reaches.1 4 = .ok (.bipush 7, 2) := by decide +kernel
theorem d_Md_reaches_6 : decode q_mMd_reaches.1 6 = .ok (.iload_n 1, 1) := by decide +kernel
theorem d_Md_reaches_7 : decode q_mMd_reaches.1 7 = .ok (.imul, 1) := by decide +kernel
theorem d_Md_reaches_8 : decode q_mMd_reaches.1 8 = .ok (.iload_n 2, 1) := by decide +kernel
theorem d_Md_reaches_9 : decode q_mMd_reaches.1 9 = .ok (.bipush 32, 2) := by decide +kernel
theorem d_Md_reaches_11 : decode q_mMd_reaches.1 11 = .ok (.idiv, 1) := by decide +kernel
theorem d_Md_reaches_12 : decode q_mMd_reaches.1 12 = .ok (.iadd, 1) := by decide +kernel
theorem d_Md_reaches_13 : decode q_mMd_reaches.1 13 = .ok (.iaload, 1) := by decide +kernel
theorem d_Md_reaches_14 : decode q_mMd_reaches.1 14 = .ok (.iload_n 2, 1) := by decide +kernel
theorem d_Md_reaches_15 : decode q_mMd_reaches.1 15 = .ok (.bipush 32, 2) := by decide +kernel
theorem d_Md_reaches_17 : decode q_mMd_reaches.1 17 = .ok (.irem, 1) := by decide +kernel
theorem d_Md_reaches_18 : decode q_mMd_reaches.1 18 = .ok (.ishr, 1) := by decide +kernel
theorem d_Md_reaches_19 : decode q_mMd_reaches.1 19 = .ok (.iconst 1, 1) := by decide +kernel
theorem d_Md_reaches_20 : decode q_mMd_reaches.1 20 = .ok (.iand, 1) := by decide +kernel
theorem d_Md_reaches_21 : decode q_mMd_reaches.1 21 = .ok (.iconst 1, 1) := by decide +kernel
theorem d_Md_reaches_22 : decode q_mMd_reaches.1 22 = .ok (.if_icmp .ne 7, 3) := by decide +kernel
theorem d_Md_reaches_25 : decode q_mMd_reaches.1 25 = .ok (.iconst 1, 1) := by decide +kernel
theorem d_Md_reaches_26 : decode q_mMd_reaches.1 26 = .ok (.goto 4, 3) := by decide +kernel
theorem d_Md_reaches_29 : decode q_mMd_reaches.1 29 = .ok (.iconst 0, 1) := by decide +kernel
theorem d_Md_reaches_30 : decode q_mMd_reaches.1 30 = .ok (.ireturn, 1) := by decide +kernel
theorem d_Md_may_0 : decode q_mMd_may.1 0 = .ok (.aload_n 0, 1) := by decide +kernel
theorem d_Md_may_1 : decode q_mMd_may.1 1 = .ok (.getfield 58, 3) := by decide +kernel
theorem d_Md_may_4 : decode q_mMd_may.1 4 = .ok (.iload_n 1, 1) := by decide +kernel
theorem d_Md_may_5 : decode q_mMd_may.1 5 = .ok (.iaload, 1) := by decide +kernel
theorem d_Md_may_6 : decode q_mMd_may.1 6 = .ok (.ifCond .ne 31, 3) := by decide +kernel
theorem d_Md_may_9 : decode q_mMd_may.1 9 = .ok (.aload_n 0, 1) := by decide +kernel
theorem d_Md_may_10 : decode q_mMd_may.1 10 = .ok (.iload_n 1, 1) := by decide +kernel
theorem d_Md_may_11 : decode q_mMd_may.1 11 = .ok (.iload_n 2, 1) := by decide +kernel
theorem d_Md_may_12 : decode q_mMd_may.1 12 = .ok (.invokevirtual 228, 3) := by decide +kernel
theorem d_Md_may_15 : decode q_mMd_may.1 15 = .ok (.ifCond .eq 20, 3) := by decide +kernel
theorem d_Md_may_18 : decode q_mMd_may.1 18 = .ok (.aload_n 0, 1) := by decide +kernel
theorem d_Md_may_19 : decode q_mMd_may.1 19 = .ok (.iload_n 1, 1) := by decide +kernel
theorem d_Md_may_20 : decode q_mMd_may.1 20 = .ok (.iconst 1, 1) := by decide +kernel
theorem d_Md_may_21 : decode q_mMd_may.1 21 = .ok (.iadd, 1) := by decide +kernel
theorem d_Md_may_22 : decode q_mMd_may.1 22 = .ok (.iload_n 2, 1) := by decide +kernel
theorem d_Md_may_23 : decode q_mMd_may.1 23 = .ok (.iconst 1, 1) := by decide +kernel
theorem d_Md_may_24 : decode q_mMd_may.1 24 = .ok (.iadd, 1) := by decide +kernel
theorem d_Md_may_25 : decode q_mMd_may.1 25 = .ok (.invokevirtual 231, 3) := by decide +kernel
theorem d_Md_may_28 : decode q_mMd_may.1 28 = .ok (.ifCond .eq 7, 3) := by decide +kernel
theorem d_Md_may_31 : decode q_mMd_may.1 31 = .ok (.iconst 1, 1) := by decide +kernel
theorem d_Md_may_32 : decode q_mMd_may.1 32 = .ok (.goto 4, 3) := by decide +kernel
theorem d_Md_may_35 : decode q_mMd_may.1 35 = .ok (.iconst 0, 1) := by decide +kernel
theorem d_Md_may_36 : decode q_mMd_may.1 36 = .ok (.ireturn, 1) := by decide +kernel
theorem d_Md_may_37 : decode q_mMd_may.1 37 = .ok (.aload_n 0, 1) := by decide +kernel
theorem d_Md_may_38 : decode q_mMd_may.1 38 = .ok (.getfield 58, 3) := by decide +kernel
theorem d_Md_may_41 : decode q_mMd_may.1 41 = .ok (.iload_n 1, 1) := by decide +kernel
theorem d_Md_may_42 : decode q_mMd_may.1 42 = .ok (.iaload, 1) := by decide +kernel
theorem d_Md_may_43 : decode q_mMd_may.1 43 = .ok (.iconst 1, 1) := by decide +kernel
theorem d_Md_may_44 : decode q_mMd_may.1 44 = .ok (.if_icmp .ne 37, 3) := by decide +kernel
theorem d_Md_may_47 : decode q_mMd_may.1 47 = .ok (.aload_n 0, 1) := by decide +kernel
theorem d_Md_may_48 : decode q_mMd_may.1 48 = .ok (.aload_n 0, 1) := by decide +kernel
theorem d_Md_may_49 : decode q_mMd_may.1 49 = .ok (.getfield 61, 3) := by decide +kernel
theorem d_Md_may_52 : decode q_mMd_may.1 52 = .ok (.iload_n 1, 1) := by decide +kernel
theorem d_Md_may_53 : decode q_mMd_may.1 53 = .ok (.iaload, 1) := by decide +kernel
theorem d_Md_may_54 : decode q_mMd_may.1 54 = .ok (.iload_n 2, 1) := by decide +kernel
theorem d_Md_may_55 : decode q_mMd_may.1 55 = .ok (.invokevirtual 231, 3) := by decide +kernel
theorem d_Md_may_58 : decode q_mMd_may.1 58 = .ok (.ifCond .ne 17, 3) := by decide +kernel
theorem d_Md_may_61 : decode q_mMd_may.1 61 = .ok (.aload_n 0, 1) := by decide +kernel
theorem d_Md_may_62 : decode q_mMd_may.1 62 = .ok (.aload_n 0, 1) := by decide +kernel
theorem d_Md_may_63 : decode q_mMd_may.1 63 = .ok (.getfield 64, 3) := by decide +kernel
theorem d_Md_may_66 : decode q_mMd_may.1 66 = .ok (.iload_n 1, 1) := by decide +kernel
theorem d_Md_may_67 : decode q_mMd_may.1 67 = .ok (.iaload, 1) := by decide +kernel
theorem d_Md_may_68 : decode q_mMd_may.1 68 = .ok (.iload_n 2, 1) := by decide +kernel
theorem d_Md_may_69 : decode q_mMd_may.1 69 = .ok (.invokevirtual 231, 3) := by decide +kernel
theorem d_Md_may_72 : decode q_mMd_may.1 72 = .ok (.ifCond .eq 7, 3) := by decide +kernel
theorem d_Md_may_75 : decode q_mMd_may.1 75 = .ok (.iconst 1, 1) := by decide +kernel
theorem d_Md_may_76 : decode q_mMd_may.1 76 = .ok (.goto 4, 3) := by decide +kernel
theorem d_Md_may_79 : decode q_mMd_may.1 79 = .ok (.iconst 0, 1) := by decide +kernel
theorem d_Md_may_80 : decode q_mMd_may.1 80 = .ok (.ireturn, 1) := by decide +kernel
theorem d_Md_may_81 : decode q_mMd_may.1 81 = .ok (.aload_n 0, 1) := by decide +kernel
theorem d_Md_may_82 : decode q_mMd_may.1 82 = .ok (.getfield 58, 3) := by decide +kernel
theorem d_Md_may_85 : decode q_mMd_may.1 85 = .ok (.iload_n 1, 1) := by decide +kernel
theorem d_Md_may_86 : decode q_mMd_may.1 86 = .ok (.iaload, 1) := by decide +kernel
theorem d_Md_may_87 : decode q_mMd_may.1 87 = .ok (.iconst 4, 1) := by decide +kernel
theorem d_Md_may_88 : decode q_mMd_may.1 88 = .ok (.if_icmp .ne 11, 3) := by decide +kernel
theorem d_Md_may_91 : decode q_mMd_may.1 91 = .ok (.aload_n 0, 1) := by decide +kernel
theorem d_Md_may_92 : decode q_mMd_may.1 92 = .ok (.iload_n 2, 1) := by decide +kernel
theorem d_Md_may_93 : decode q_mMd_may.1 93 = .ok (.invokevirtual 234, 3) := by decide +kernel
theorem d_Md_may_96 : decode q_mMd_may.1 96 = .ok (.goto 35, 3) := by decide +kernel
theorem d_Md_may_99 : decode q_mMd_may.1 99 = .ok (.aload_n 0, 1) := by decide +kernel
theorem d_Md_may_100 : decode q_mMd_may.1 100 = .ok (.getfield 58, 3) := by decide +kernel
theorem d_Md_may_103 : decode q_mMd_may.1 103 = .ok (.iload_n 1, 1) := by decide +kernel
theorem d_Md_may_104 : decode q_mMd_may.1 104 = .ok (.iaload, 1) := by decide +kernel
theorem d_Md_may_105 : decode q_mMd_may.1 105 = .ok (.iconst 2, 1) := by decide +kernel
theorem d_Md_may_106 : decode q_mMd_may.1 106 = .ok (.if_icmp .ne 17, 3) := by decide +kernel
theorem d_Md_may_109 : decode q_mMd_may.1 109 = .ok (.aload_n 0, 1) := by decide +kernel
theorem d_Md_may_110 : decode q_mMd_may.1 110 = .ok (.aload_n 0, 1) := by decide +kernel
theorem d_Md_may_111 : decode q_mMd_may.1 111 = .ok (.getfield 61, 3) := by decide +kernel
theorem d_Md_may_114 : decode q_mMd_may.1 114 = .ok (.iload_n 1, 1) := by decide +kernel
theorem d_Md_may_115 : decode q_mMd_may.1 115 = .ok (.iaload, 1) := by decide +kernel
theorem d_Md_may_116 : decode q_mMd_may.1 116 = .ok (.iload_n 2, 1) := by decide +kernel
theorem d_Md_may_117 : decode q_mMd_may.1 117 = .ok (.invokevirtual 231, 3) := by decide +kernel
theorem d_Md_may_120 : decode q_mMd_may.1 120 = .ok (.goto 11, 3) := by decide +kernel
theorem d_Md_may_123 : decode q_mMd_may.1 123 = .ok (.aload_n 0, 1) := by decide +kernel
theorem d_Md_may_124 : decode q_mMd_may.1 124 = .ok (.iload_n 1, 1) := by decide +kernel
theorem d_Md_may_125 : decode q_mMd_may.1 125 = .ok (.iconst 1, 1) := by decide +kernel
theorem d_Md_may_126 : decode q_mMd_may.1 126 = .ok (.iadd, 1) := by decide +kernel
theorem d_Md_may_127 : decode q_mMd_may.1 127 = .ok (.iload_n 2, 1) := by decide +kernel
theorem d_Md_may_128 : decode q_mMd_may.1 128 = .ok (.invokevirtual 231, 3) := by decide +kernel
theorem d_Md_may_131 : decode q_mMd_may.1 131 = .ok (.ireturn, 1) := by decide +kernel
theorem d_Md_takes_0 : decode q_mMd_takes.1 0 = .ok (.iload_n 2, 1) := by decide +kernel
theorem d_Md_takes_1 : decode q_mMd_takes.1 1 = .ok (.aload_n 0, 1) := by decide +kernel
theorem d_Md_takes_2 : decode q_mMd_takes.1 2 = .ok (.getfield 222, 3) := by decide +kernel
theorem d_Md_takes_5 : decode q_mMd_takes.1 5 = .ok (.if_icmp .ge 26, 3) := by decide +kernel
theorem d_Md_takes_8 : decode q_mMd_takes.1 8 = .ok (.aload_n 0, 1) := by decide +kernel
theorem d_Md_takes_9 : decode q_mMd_takes.1 9 = .ok (.aload_n 0, 1) := by decide +kernel
theorem d_Md_takes_10 : decode q_mMd_takes.1 10 = .ok (.getfield 61, 3) := by decide +kernel
theorem d_Md_takes_13 : decode q_mMd_takes.1 13 = .ok (.iload_n 1, 1) := by decide +kernel
theorem d_Md_takes_14 : decode q_mMd_takes.1 14 = .ok (.iaload, 1) := by decide +kernel
theorem d_Md_takes_15 : decode q_mMd_takes.1 15 = .ok (.aload_n 0, 1) := by decide +kernel
theorem d_Md_takes_16 : decode q_mMd_takes.1 16 = .ok (.getfield 73, 3) := by decide +kernel
theorem d_Md_takes_19 : decode q_mMd_takes.1 19 = .ok (.iload_n 2, 1) := by decide +kernel
theorem d_Md_takes_20 : decode q_mMd_takes.1 20 = .ok (.iaload, 1) := by decide +kernel
theorem d_Md_takes_21 : decode q_mMd_takes.1 21 = .ok (.invokevirtual 122, 3) := by decide +kernel
theorem d_Md_takes_24 : decode q_mMd_takes.1 24 = .ok (.ifCond .eq 7, 3) := by decide +kernel
theorem d_Md_takes_27 : decode q_mMd_takes.1 27 = .ok (.iconst 1, 1) := by decide +kernel
theorem d_Md_takes_28 : decode q_mMd_takes.1 28 = .ok (.goto 4, 3) := by decide +kernel
theorem d_Md_takes_31 : decode q_mMd_takes.1 31 = .ok (.iconst 0, 1) := by decide +kernel
theorem d_Md_takes_32 : decode q_mMd_takes.1 32 = .ok (.ireturn, 1) := by decide +kernel
theorem d_Md_isMatch_0 : decode q_mMd_isMatch.1 0 = .ok (.aload_n 0, 1) := by decide +kernel
theorem d_Md_isMatch_1 : decode q_mMd_isMatch.1 1 = .ok (.getfield 219, 3) := by decide +kernel
theorem d_Md_isMatch_4 : decode q_mMd_isMatch.1 4 = .ok (.ifCond .ne 11, 3) := by decide +kernel
theorem d_Md_isMatch_7 : decode q_mMd_isMatch.1 7 = .ok (.iload_n 1, 1) := by decide +kernel
theorem d_Md_isMatch_8 : decode q_mMd_isMatch.1 8 = .ok (.aload_n 0, 1) := by decide +kernel
theorem d_Md_isMatch_9 : decode q_mMd_isMatch.1 9 = .ok (.getfield 222, 3) := by decide +kernel
theorem d_Md_isMatch_12 : decode q_mMd_isMatch.1 12 = .ok (.if_icmp .ne 7, 3) := by decide +kernel
theorem d_Md_isMatch_15 : decode q_mMd_isMatch.1 15 = .ok (.iconst 1, 1) := by decide +kernel
theorem d_Md_isMatch_16 : decode q_mMd_isMatch.1 16 = .ok (.goto 4, 3) := by decide +kernel
theorem d_Md_isMatch_19 : decode q_mMd_isMatch.1 19 = .ok (.iconst 0, 1) := by decide +kernel
theorem d_Md_isMatch_20 : decode q_mMd_isMatch.1 20 = .ok (.ireturn, 1) := by decide +kernel
theorem d_Md_spread_0 : decode q_mMd_spread.1 0 = .ok (.aload_n 0, 1) := by decide +kernel
theorem d_Md_spread_1 : decode q_mMd_spread.1 1 = .ok (.iconst 1, 1) := by decide +kernel
theorem d_Md_spread_2 : decode q_mMd_spread.1 2 = .ok (.putfield 240, 3) := by decide +kernel
theorem d_Md_spread_5 : decode q_mMd_spread.1 5 = .ok (.aload_n 0, 1) := by decide +kernel
theorem d_Md_spread_6 : decode q_mMd_spread.1 6 = .ok (.getfield 91, 3) := by decide +kernel
theorem d_Md_spread_9 : decode q_mMd_spread.1 9 = .ok (.iconst 0, 1) := by decide +kernel
theorem d_Md_spread_10 : decode q_mMd_spread.1 10 = .ok (.iload_n 2, 1) := by decide +kernel
theorem d_Md_spread_11 : decode q_mMd_spread.1 11 = .ok (.iastore, 1) := by decide +kernel
theorem d_Md_spread_12 : decode q_mMd_spread.1 12 = .ok (.aload_n 0, 1) := by decide +kernel
theorem d_Md_spread_13 : decode q_mMd_spread.1 13 = .ok (.getfield 240, 3) := by decide +kernel
theorem d_Md_spread_16 : decode q_mMd_spread.1 16 = .ok (.ifCond .le 152, 3) := by decide +kernel
theorem d_Md_spread_19 : decode q_mMd_spread.1 19 = .ok (.aload_n 0, 1) := by decide +kernel
theorem d_Md_spread_20 : decode q_mMd_spread.1 20 = .ok (.dup, 1) := by decide +kernel
theorem d_Md_spread_21 : decode q_mMd_spread.1 21 = .ok (.getfield 240, 3) := by decide +kernel
theorem d_Md_spread_24 : decode q_mMd_spread.1 24 = .ok (.iconst 1, 1) := by decide +kernel
theorem d_Md_spread_25 : decode q_mMd_spread.1 25 = .ok (.isub, 1) := by decide +kernel
theorem d_Md_spread_26 : decode q_mMd_spread.1 26 = .ok (.putfield 240, 3) := by decide +kernel
theorem d_Md_spread_29 : decode q_mMd_spread.1 29 = .ok (.aload_n 0, 1) := by decide +kernel
theorem d_Md_spread_30 : decode q_mMd_spread.1 30 = .ok (.getfield 91, 3) := by decide +kernel
theorem d_Md_spread_33 : decode q_mMd_spread.1 33 = .ok (.aload_n 0, 1) := by decide +kernel
theorem d_Md_spread_34 : decode q_mMd_spread.1 34 = .ok (.getfield 240, 3) := by decide +kernel
theorem d_Md_spread_37 : decode q_mMd_spread.1 37 = .ok (.iaload, 1) := by decide +kernel
theorem d_Md_spread_38 : decode q_mMd_spread.1 38 = .ok (.istore_n 3, 1) := by decide +kernel
theorem d_Md_spread_39 : decode q_mMd_spread.1 39 = .ok (.aload_n 1, 1) := by decide +kernel
theorem d_Md_spread_40 : decode q_mMd_spread.1 40 = .ok (.iload_n 3, 1) := by decide +kernel
theorem d_Md_spread_41 : decode q_mMd_spread.1 41 = .ok (.baload, 1) := by decide +kernel
theorem d_Md_spread_42 : decode q_mMd_spread.1 42 = .ok (.ifCond .ne 123, 3) := by decide +kernel
theorem d_Md_spread_45 : decode q_mMd_spread.1 45 = .ok (.aload_n 1, 1) := by decide +kernel
theorem d_Md_spread_46 : decode q_mMd_spread.1 46 = .ok (.iload_n 3, 1) := by decide +kernel
theorem d_Md_spread_47 : decode q_mMd_spread.1 47 = .ok (.iconst 1, 1) := by decide +kernel
theorem d_Md_spread_48 : decode q_mMd_spread.1 48 = .ok (.bastore, 1) := by decide +kernel
theorem d_Md_spread_49 : decode q_mMd_spread.1 49 = .ok (.aload_n 0, 1) := by decide +kernel
theorem d_Md_spread_50 : decode q_mMd_spread.1 50 = .ok (.getfield 58, 3) := by decide +kernel
theorem d_Md_spread_53 : decode q_mMd_spread.1 53 = .ok (.iload_n 3, 1) := by decide +kernel
theorem d_Md_spread_54 : decode q_mMd_spread.1 54 = .ok (.iaload, 1) := by decide +kernel
theorem d_Md_spread_55 : decode q_mMd_spread.1 55 = .ok (.iconst 1, 1) := by decide +kernel
theorem d_Md_spread_56 : decode q_mMd_spread.1 56 = .ok (.if_icmp .ne 48, 3) := by decide +kernel
theorem d_Md_spread_59 : decode q_mMd_spread.1 59 = .ok (.aload_n 0, 1) := by decide +kernel
theorem d_Md_spread_60 : decode q_mMd_spread.1 60 = .ok (.getfield 91, 3) := by decide +kernel
theorem d_Md_spread_63 : decode q_mMd_spread.1 63 = .ok (.aload_n 0, 1) := by decide +kernel
theorem d_Md_spread_64 : decode q_mMd_spread.1 64 = .ok (.getfield 240, 3) := by decide +kernel
theorem d_Md_spread_67 : decode q_mMd_spread.1 67 = .ok (.aload_n 0, 1) := by decide +kernel
theorem d_Md_spread_68 : decode q_mMd_spread.1 68 = .ok (.getfield 64, 3) := by decide +kernel
theorem d_Md_spread_71 : decode q_mMd_spread.1 71 = .ok (.iload_n 3, 1) := by decide +kernel
theorem d_Md_spread_72 : decode q_mMd_spread.1 72 = .ok (.iaload, 1) := by decide +kernel
theorem d_Md_spread_73 : decode q_mMd_spread.1 73 = .ok (.iastore, 1) := by decide +kernel
theorem d_Md_spread_74 : decode q_mMd_spread.1 74 = .ok (.aload_n 0, 1) := by decide +kernel
theorem d_Md_spread_75 : decode q_mMd_spread.1 75 = .ok (.getfield 91, 3) := by decide +kernel
theorem d_Md_spread_78 : decode q_mMd_spread.1 78 = .ok (.aload_n 0, 1) := by decide +kernel
theorem d_Md_spread_79 : decode q_mMd_spread.1 79 = .ok (.getfield 240, 3) := by decide +kernel
theorem d_Md_spread_82 : decode q_mMd_spread.1 82 = .ok (.iconst 1, 1) := by decide +kernel
theorem d_Md_spread_83 : decode q_mMd_spread.1 83 = .ok (.iadd, 1) := by decide +kernel
theorem d_Md_spread_84 : decode q_mMd_spread.1 84 = .ok (.aload_n 0, 1) := by decide +kernel
theorem d_Md_spread_85 : decode q_mMd_spread.1 85 = .ok (.getfield 61, 3) := by decide +kernel
theorem d_Md_spread_88 : decode q_mMd_spread.1 88 = .ok (.iload_n 3, 1) := by decide +kernel
theorem d_Md_spread_89 : decode q_mMd_spread.1 89 = .ok (.iaload, 1) := by decide +kernel
theorem d_Md_spread_90 : decode q_mMd_spread.1 90 = .ok (.iastore, 1) := by decide +kernel
theorem d_Md_spread_91 : decode q_mMd_spread.1 91 = .ok (.aload_n 0, 1) := by decide +kernel
theorem d_Md_spread_92 : decode q_mMd_spread.1 92 = .ok (.dup, 1) := by decide +kernel
theorem d_Md_spread_93 : decode q_mMd_spread.1 93 = .ok (.getfield 240, 3) := by decide +kernel
theorem d_Md_spread_96 : decode q_mMd_spread.1 96 = .ok (.iconst 2, 1) := by decide +kernel
theorem d_Md_spread_97 : decode q_mMd_spread.1 97 = .ok (.iadd, 1) := by decide +kernel
theorem d_Md_spread_98 : decode q_mMd_spread.1 98 = .ok (.putfield 240, 3) := by decide +kernel
theorem d_Md_spread_101 : decode q_mMd_spread.1 101 = .ok (.goto 64, 3) := by decide +kernel
theorem d_Md_spread_104 : decode q_mMd_spread.1 104 = .ok (.aload_n 0, 1) := by decide +kernel
theorem d_Md_spread_105 : decode q_mMd_spread.1 105 = .ok (.getfield 58, 3) := by decide +kernel
theorem d_Md_spread_108 : decode q_mMd_spread.1 108 = .ok (.iload_n 3, 1) := by decide +kernel
theorem d_Md_spread_109 : decode q_mMd_spread.1 109 = .ok (.iaload, 1) := by decide +kernel
theorem d_Md_spread_110 : decode q_mMd_spread.1 110 = .ok (.iconst 2, 1) := by decide +kernel
theorem d_Md_spread_111 : decode q_mMd_spread.1 111 = .ok (.if_icmp .eq 13, 3) := by decide +kernel
theorem d_Md_spread_114 : decode q_mMd_spread.1 114 = .ok (.aload_n 0, 1) := by decide +kernel
theorem d_Md_spread_115 : decode q_mMd_spread.1 115 = .ok (.getfield 58, 3) := by decide +kernel
theorem d_Md_spread_118 : decode q_mMd_spread.1 118 = .ok (.iload_n 3, 1) := by decide +kernel
theorem d_Md_spread_119 : decode q_mMd_spread.1 119 = .ok (.iaload, 1) := by decide +kernel
theorem d_Md_spread_120 : decode q_mMd_spread.1 120 = .ok (.iconst 3, 1) := by decide +kernel
theorem d_Md_spread_121 : decode q_mMd_spread.1 121 = .ok (.if_icmp .ne 44, 3) := by decide +kernel
theorem d_Md_spread_124 : decode q_mMd_spread.1 124 = .ok (.aload_n 0, 1) := by decide +kernel
theorem d_Md_spread_125 : decode q_mMd_spread.1 125 = .ok (.getfield 91, 3) := by decide +kernel
theorem d_Md_spread_128 : decode q_mMd_spread.1 128 = .ok (.aload_n 0, 1) := by decide +kernel
theorem d_Md_spread_129 : decode q_mMd_spread.1 129 = .ok (.getfield 240, 3) := by decide +kernel
theorem d_Md_spread_132 : decode q_mMd_spread.1 132 = .ok (.aload_n 0, 1) := by decide +kernel
theorem d_Md_spread_133 : decode q_mMd_spread.1 133 = .ok (.getfield 58, 3) := by decide +kernel
theorem d_Md_spread_136 : decode q_mMd_spread.1 136 = .ok (.iload_n 3, 1) := by decide +kernel
theorem d_Md_spread_137 : decode q_mMd_spread.1 137 = .ok (.iaload, 1) := by decide +kernel
theorem d_Md_spread_138 : decode q_mMd_spread.1 138 = .ok (.iconst 2, 1) := by decide +kernel
theorem d_Md_spread_139 : decode q_mMd_spread.1 139 = .ok (.if_icmp .ne 12, 3) := by decide +kernel
theorem d_Md_spread_142 : decode q_mMd_spread.1 142 = .ok (.aload_n 0, 1) := by decide +kernel
theorem d_Md_spread_143 : decode q_mMd_spread.1 143 = .ok (.getfield 61, 3) := by decide +kernel
theorem d_Md_spread_146 : decode q_mMd_spread.1 146 = .ok (.iload_n 3, 1) := by decide +kernel
theorem d_Md_spread_147 : decode q_mMd_spread.1 147 = .ok (.iaload, 1) := by decide +kernel
theorem d_Md_spread_148 : decode q_mMd_spread.1 148 = .ok (.goto 6, 3) := by decide +kernel
theorem d_Md_spread_151 : decode q_mMd_spread.1 151 = .ok (.iload_n 3, 1) := by decide +kernel
theorem d_Md_spread_152 : decode q_mMd_spread.1 152 = .ok (.iconst 1, 1) := by decide +kernel
theorem d_Md_spread_153 : decode q_mMd_spread.1 153 = .ok (.iadd, 1) := by decide +kernel
theorem d_Md_spread_154 : decode q_mMd_spread.1 154 = .ok (.iastore, 1) := by decide +kernel
theorem d_Md_spread_155 : decode q_mMd_spread.1 155 = .ok (.aload_n 0, 1) := by decide +kernel
theorem d_Md_spread_156 : decode q_mMd_spread.1 156 = .ok (.dup, 1) := by decide +kernel
theorem d_Md_spread_157 : decode q_mMd_spread.1 157 = .ok (.getfield 240, 3) := by decide +kernel
theorem d_Md_spread_160 : decode q_mMd_spread.1 160 = .ok (.iconst 1, 1) := by decide +kernel
theorem d_Md_spread_161 : decode q_mMd_spread.1 161 = .ok (.iadd, 1) := by decide +kernel
theorem d_Md_spread_162 : decode q_mMd_spread.1 162 = .ok (.putfield 240, 3) := by decide +kernel
theorem d_Md_spread_165 : decode q_mMd_spread.1 165 = .ok (.goto (-153), 3) := by decide +kernel
theorem d_Md_spread_168 : decode q_mMd_spread.1 168 = .ok (.return_, 1) := by decide +kernel
