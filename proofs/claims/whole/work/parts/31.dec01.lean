theorem d_Pa_fail_0 : decode q_mPa_fail.1 0 = .ok (.aload_n 0, 1) := by decide +kernel
theorem d_Pa_fail_1 : decode q_mPa_fail.1 1 = .ok (.getfield 21, 3) := by decide +kernel
theorem d_Pa_fail_4 : decode q_mPa_fail.1 4 = .ok (.iconst (-1), 1) := by decide +kernel
theorem d_Pa_fail_5 : decode q_mPa_fail.1 5 = .ok (.if_icmp .ne 11, 3) := by decide +kernel
theorem d_Pa_fail_8 : decode q_mPa_fail.1 8 = .ok (.aload_n 0, 1) := by decide +kernel
theorem d_Pa_fail_9 : decode q_mPa_fail.1 9 = .ok (.aload_n 0, 1) := by decide +kernel
theorem d_Pa_fail_10 : decode q_mPa_fail.1 10 = .ok (.getfield 15, 3) := by decide +kernel
theorem d_Pa_fail_13 : decode q_mPa_fail.1 13 = .ok (.putfield 21, 3) := by decide +kernel
theorem d_Pa_fail_16 : decode q_mPa_fail.1 16 = .ok (.return_, 1) := by decide +kernel
theorem d_Pa_expect_0 : decode q_mPa_expect.1 0 = .ok (.aload_n 0, 1) := by decide +kernel
theorem d_Pa_expect_1 : decode q_mPa_expect.1 1 = .ok (.invokevirtual 53, 3) := by decide +kernel
theorem d_Pa_expect_4 : decode q_mPa_expect.1 4 = .ok (.iload_n 1, 1) := by decide +kernel
theorem d_Pa_expect_5 : decode q_mPa_expect.1 5 = .ok (.if_icmp .ne 16, 3) := by decide +kernel
theorem d_Pa_expect_8 : decode q_mPa_expect.1 8 = .ok (.aload_n 0, 1) := by decide +kernel
theorem d_Pa_expect_9 : decode q_mPa_expect.1 9 = .ok (.dup, 1) := by decide +kernel
theorem d_Pa_expect_10 : decode q_mPa_expect.1 10 = .ok (.getfield 15, 3) := by decide +kernel
theorem d_Pa_expect_13 : decode q_mPa_expect.1 13 = .ok (.iconst 1, 1) := by decide +kernel
theorem d_Pa_expect_14 : decode q_mPa_expect.1 14 = .ok (.iadd, 1) := by decide +kernel
theorem d_Pa_expect_15 : decode q_mPa_expect.1 15 = .ok (.putfield 15, 3) := by decide +kernel
theorem d_Pa_expect_18 : decode q_mPa_expect.1 18 = .ok (.goto 7, 3) := by decide +kernel
theorem d_Pa_expect_21 : decode q_mPa_expect.1 21 = .ok (.aload_n 0, 1) := by decide +kernel
theorem d_Pa_expect_22 : decode q_mPa_expect.1 22 = .ok (.invokevirtual 47, 3) := by decide +kernel
theorem d_Pa_expect_25 : decode q_mPa_expect.1 25 = .ok (.return_, 1) := by decide +kernel
theorem d_Pa_readSet_0 : decode q_mPa_readSet.1 0 = .ok (.aload_n 0, 1) := by decide +kernel
theorem d_Pa_readSet_1 : decode q_mPa_readSet.1 1 = .ok (.dup, 1) := by decide +kernel
theorem d_Pa_readSet_2 : decode q_mPa_readSet.1 2 = .ok (.getfield 15, 3) := by decide +kernel
theorem d_Pa_readSet_5 : decode q_mPa_readSet.1 5 = .ok (.iconst 1, 1) := by decide +kernel
theorem d_Pa_readSet_6 : decode q_mPa_readSet.1 6 = .ok (.iadd, 1) := by decide +kernel
theorem d_Pa_readSet_7 : decode q_mPa_readSet.1 7 = .ok (.putfield 15, 3) := by decide +kernel
theorem d_Pa_readSet_10 : decode q_mPa_readSet.1 10 = .ok (.aload_n 0, 1) := by decide +kernel
theorem d_Pa_readSet_11 : decode q_mPa_readSet.1 11 = .ok (.invokevirtual 53, 3) := by decide +kernel
theorem d_Pa_readSet_14 : decode q_mPa_readSet.1 14 = .ok (.bipush 94, 2) := by decide +kernel
theorem d_Pa_readSet_16 : decode q_mPa_readSet.1 16 = .ok (.if_icmp .ne 7, 3) := by decide +kernel
theorem d_Pa_readSet_19 : decode q_mPa_readSet.1 19 = .ok (.iconst 1, 1) := by decide +kernel
theorem d_Pa_readSet_20 : decode q_mPa_readSet.1 20 = .ok (.goto 4, 3) := by decide +kernel
theorem d_Pa_readSet_23 : decode q_mPa_readSet.1 23 = .ok (.iconst 0, 1) := by decide +kernel
theorem d_Pa_readSet_24 : decode q_mPa_readSet.1 24 = .ok (.istore_n 2, 1) := by decide +kernel
theorem d_Pa_readSet_25 : decode q_mPa_readSet.1 25 = .ok (.iload_n 2, 1) := by decide +kernel
theorem d_Pa_readSet_26 : decode q_mPa_readSet.1 26 = .ok (.ifCond .eq 13, 3) := by decide +kernel
theorem d_Pa_readSet_29 : decode q_mPa_readSet.1 29 = .ok (.aload_n 0, 1) := by decide +kernel
theorem d_Pa_readSet_30 : decode q_mPa_readSet.1 30 = .ok (.dup, 1) := by decide +kernel
theorem d_Pa_readSet_31 : decode q_mPa_readSet.1 31 = .ok (.getfield 15, 3) := by decide +kernel
theorem d_Pa_readSet_34 : decode q_mPa_readSet.1 34 = .ok (.iconst 1, 1) := by decide +kernel
theorem d_Pa_readSet_35 : decode q_mPa_readSet.1 35 = .ok (.iadd, 1) := by decide +kernel
theorem d_Pa_readSet_36 : decode q_mPa_readSet.1 36 = .ok (.putfield 15, 3) := by decide +kernel
theorem d_Pa_readSet_39 : decode q_mPa_readSet.1 39 = .ok (.iconst 1, 1) := by decide +kernel
theorem d_Pa_readSet_40 : decode q_mPa_readSet.1 40 = .ok (.istore_n 3, 1) := by decide +kernel
theorem d_Pa_readSet_41 : decode q_mPa_readSet.1 41 = .ok (.iconst 0, 1) := by decide +kernel
theorem d_Pa_readSet_42 : decode q_mPa_readSet.1 42 = .ok (.istore 4, 2) := by decide +kernel
theorem d_Pa_readSet_44 : decode q_mPa_readSet.1 44 = .ok (.iload 4, 2) := by decide +kernel
theorem d_Pa_readSet_46 : decode q_mPa_readSet.1 46 = .ok (.bipush 48, 2) := by decide +kernel
theorem d_Pa_readSet_48 : decode q_mPa_readSet.1 48 = .ok (.if_icmp .ge 58, 3) := by decide +kernel
theorem d_Pa_readSet_51 : decode q_mPa_readSet.1 51 = .ok (.iload_n 3, 1) := by decide +kernel
theorem d_Pa_readSet_52 : decode q_mPa_readSet.1 52 = .ok (.ifCond .eq 54, 3) := by decide +kernel
theorem d_Pa_readSet_55 : decode q_mPa_readSet.1 55 = .ok (.aload_n 0, 1) := by decide +kernel
theorem d_Pa_readSet_56 : decode q_mPa_readSet.1 56 = .ok (.invokevirtual 53, 3) := by decide +kernel
theorem d_Pa_readSet_59 : decode q_mPa_readSet.1 59 = .ok (.bipush 92, 2) := by decide +kernel
theorem d_Pa_readSet_61 : decode q_mPa_readSet.1 61 = .ok (.if_icmp .ne 11, 3) := by decide +kernel
theorem d_Pa_readSet_64 : decode q_mPa_readSet.1 64 = .ok (.aload_n 0, 1) := by decide +kernel
theorem d_Pa_readSet_65 : decode q_mPa_readSet.1 65 = .ok (.iload_n 1, 1) := by decide +kernel
theorem d_Pa_readSet_66 : decode q_mPa_readSet.1 66 = .ok (.invokevirtual 107, 3) := by decide +kernel
theorem d_Pa_readSet_69 : decode q_mPa_readSet.1 69 = .ok (.goto 8, 3) := by decide +kernel
theorem d_Pa_readSet_72 : decode q_mPa_readSet.1 72 = .ok (.aload_n 0, 1) := by decide +kernel
theorem d_Pa_readSet_73 : decode q_mPa_readSet.1 73 = .ok (.iload_n 1, 1) := by decide +kernel
theorem d_Pa_readSet_74 : decode q_mPa_readSet.1 74 = .ok (.invokevirtual 118, 3) := by decide +kernel
theorem d_Pa_readSet_77 : decode q_mPa_readSet.1 77 = .ok (.aload_n 0, 1) := by decide +kernel
theorem d_Pa_readSet_78 : decode q_mPa_readSet.1 78 = .ok (.getfield 21, 3) := by decide +kernel
theorem d_Pa_readSet_81 : decode q_mPa_readSet.1 81 = .ok (.iconst (-1), 1) := by decide +kernel
theorem d_Pa_readSet_82 : decode q_mPa_readSet.1 82 = .ok (.if_icmp .ne 16, 3) := by decide +kernel
theorem d_Pa_readSet_85 : decode q_mPa_readSet.1 85 = .ok (.aload_n 0, 1) := by decide +kernel
theorem d_Pa_readSet_86 : decode q_mPa_readSet.1 86 = .ok (.invokevirtual 53, 3) := by decide +kernel
theorem d_Pa_readSet_89 : decode q_mPa_readSet.1 89 = .ok (.bipush 93, 2) := by decide +kernel
theorem d_Pa_readSet_91 : decode q_mPa_readSet.1 91 = .ok (.if_icmp .eq 7, 3) := by decide +kernel
theorem d_Pa_readSet_94 : decode q_mPa_readSet.1 94 = .ok (.iconst 1, 1) := by decide +kernel
theorem d_Pa_readSet_95 : decode q_mPa_readSet.1 95 = .ok (.goto 4, 3) := by decide +kernel
theorem d_Pa_readSet_98 : decode q_mPa_readSet.1 98 = .ok (.iconst 0, 1) := by decide +kernel
theorem d_Pa_readSet_99 : decode q_mPa_readSet.1 99 = .ok (.istore_n 3, 1) := by decide +kernel
theorem d_Pa_readSet_100 : decode q_mPa_readSet.1 100 = .ok (.iinc 4 1, 3) := by decide +kernel
theorem d_Pa_readSet_103 : decode q_mPa_readSet.1 103 = .ok (.goto (-59), 3) := by decide +kernel
theorem d_Pa_readSet_106 : decode q_mPa_readSet.1 106 = .ok (.aload_n 0, 1) := by decide +kernel
theorem d_Pa_readSet_107 : decode q_mPa_readSet.1 107 = .ok (.getfield 21, 3) := by decide +kernel
theorem d_Pa_readSet_110 : decode q_mPa_readSet.1 110 = .ok (.iconst (-1), 1) := by decide +kernel
theorem d_Pa_readSet_111 : decode q_mPa_readSet.1 111 = .ok (.if_icmp .ne 9, 3) := by decide +kernel
theorem d_Pa_readSet_114 : decode q_mPa_readSet.1 114 = .ok (.aload_n 0, 1) := by decide +kernel
theorem d_Pa_readSet_115 : decode q_mPa_readSet.1 115 = .ok (.bipush 93, 2) := by decide +kernel
theorem d_Pa_readSet_117 : decode q_mPa_readSet.1 117 = .ok (.invokevirtual 92, 3) := by decide +kernel
theorem d_Pa_readSet_120 : decode q_mPa_readSet.1 120 = .ok (.iload_n 2, 1) := by decide +kernel
theorem d_Pa_readSet_121 : decode q_mPa_readSet.1 121 = .ok (.ifCond .eq 11, 3) := by decide +kernel
theorem d_Pa_readSet_124 : decode q_mPa_readSet.1 124 = .ok (.aload_n 0, 1) := by decide +kernel
theorem d_Pa_readSet_125 : decode q_mPa_readSet.1 125 = .ok (.getfield 28, 3) := by decide +kernel
theorem d_Pa_readSet_128 : decode q_mPa_readSet.1 128 = .ok (.iload_n 1, 1) := by decide +kernel
theorem d_Pa_readSet_129 : decode q_mPa_readSet.1 129 = .ok (.invokevirtual 121, 3) := by decide +kernel
theorem d_Pa_readSet_132 : decode q_mPa_readSet.1 132 = .ok (.return_, 1) := by decide +kernel
theorem d_Pa_readEscaped_0 : decode q_mPa_readEscaped.1 0 = .ok (.aload_n 0, 1) := by decide +kernel
theorem d_Pa_readEscaped_1 : decode q_mPa_readEscaped.1 1 = .ok (.dup, 1) := by decide +kernel
theorem d_Pa_readEscaped_2 : decode q_mPa_readEscaped.1 2 = .ok (.getfield 15, 3) := by decide +kernel
theorem d_Pa_readEscaped_5 : decode q_mPa_readEscaped.1 5 = .ok (.iconst 1, 1) := by decide +kernel
theorem d_Pa_readEscaped_6 : decode q_mPa_readEscaped.1 6 = .ok (.iadd, 1) := by decide +kernel
theorem d_Pa_readEscaped_7 : decode q_mPa_readEscaped.1 7 = .ok (.putfield 15, 3) := by decide +kernel
theorem d_Pa_readEscaped_10 : decode q_mPa_readEscaped.1 10 = .ok (.aload_n 0, 1) := by decide +kernel
theorem d_Pa_readEscaped_11 : decode q_mPa_readEscaped.1 11 = .ok (.invokevirtual 53, 3) := by decide +kernel
theorem d_Pa_readEscaped_14 : decode q_mPa_readEscaped.1 14 = .ok (.istore_n 2, 1) := by decide +kernel
theorem d_Pa_readEscaped_15 : decode q_mPa_readEscaped.1 15 = .ok (.iload_n 2, 1) := by decide +kernel
theorem d_Pa_readEscaped_16 : decode q_mPa_readEscaped.1 16 = .ok (.iconst (-1), 1) := by decide +kernel
theorem d_Pa_readEscaped_17 : decode q_mPa_readEscaped.1 17 = .ok (.if_icmp .ne 8, 3) := by decide +kernel
theorem d_Pa_readEscaped_20 : decode q_mPa_readEscaped.1 20 = .ok (.aload_n 0, 1) := by decide +kernel
theorem d_Pa_readEscaped_21 : decode q_mPa_readEscaped.1 21 = .ok (.invokevirtual 47, 3) := by decide +kernel
theorem d_Pa_readEscaped_24 : decode q_mPa_readEscaped.1 24 = .ok (.return_, 1) := by decide +kernel
theorem d_Pa_readEscaped_25 : decode q_mPa_readEscaped.1 25 = .ok (.aload_n 0, 1) := by decide +kernel
theorem d_Pa_readEscaped_26 : decode q_mPa_readEscaped.1 26 = .ok (.dup, 1) := by decide +kernel
theorem d_Pa_readEscaped_27 : decode q_mPa_readEscaped.1 27 = .ok (.getfield 15, 3) := by decide +kernel
theorem d_Pa_readEscaped_30 : decode q_mPa_readEscaped.1 30 = .ok (.iconst 1, 1) := by decide +kernel
theorem d_Pa_readEscaped_31 : decode q_mPa_readEscaped.1 31 = .ok (.iadd, 1) := by decide +kernel
theorem d_Pa_readEscaped_32 : decode q_mPa_readEscaped.1 32 = .ok (.putfield 15, 3) := by decide +kernel
theorem d_Pa_readEscaped_35 : decode q_mPa_readEscaped.1 35 = .ok (.iload_n 2, 1) := by decide +kernel
theorem d_Pa_readEscaped_36 : decode q_mPa_readEscaped.1 36 = .ok (.bipush 100, 2) := by decide +kernel
theorem d_Pa_readEscaped_38 : decode q_mPa_readEscaped.1 38 = .ok (.if_icmp .ne 18, 3) := by decide +kernel
theorem d_Pa_readEscaped_41 : decode q_mPa_readEscaped.1 41 = .ok (.aload_n 0, 1) := by decide +kernel
theorem d_Pa_readEscaped_42 : decode q_mPa_readEscaped.1 42 = .ok (.getfield 28, 3) := by decide +kernel
theorem d_Pa_readEscaped_45 : decode q_mPa_readEscaped.1 45 = .ok (.iload_n 1, 1) := by decide +kernel
theorem d_Pa_readEscaped_46 : decode q_mPa_readEscaped.1 46 = .ok (.bipush 48, 2) := by decide +kernel
theorem d_Pa_readEscaped_48 : decode q_mPa_readEscaped.1 48 = .ok (.bipush 57, 2) := by decide +kernel
theorem d_Pa_readEscaped_50 : decode q_mPa_readEscaped.1 50 = .ok (.invokevirtual 110, 3) := by decide +kernel
theorem d_Pa_readEscaped_53 : decode q_mPa_readEscaped.1 53 = .ok (.goto 70, 3) := by decide +kernel
theorem d_Pa_readEscaped_56 : decode q_mPa_readEscaped.1 56 = .ok (.iload_n 2, 1) := by decide +kernel
theorem d_Pa_readEscaped_57 : decode q_mPa_readEscaped.1 57 = .ok (.bipush 119, 2) := by decide +kernel
theorem d_Pa_readEscaped_59 : decode q_mPa_readEscaped.1 59 = .ok (.if_icmp .ne 54, 3) := by decide +kernel
theorem d_Pa_readEscaped_62 : decode q_mPa_readEscaped.1 62 = .ok (.aload_n 0, 1) := by decide +kernel
theorem d_Pa_readEscaped_63 : decode q_mPa_readEscaped.1 63 = .ok (.getfield 28, 3) := by decide +kernel
theorem d_Pa_readEscaped_66 : decode q_mPa_readEscaped.1 66 = .ok (.iload_n 1, 1) := by decide +kernel
theorem d_Pa_readEscaped_67 : decode q_mPa_readEscaped.1 67 = .ok (.bipush 97, 2) := by decide +kernel
theorem d_Pa_readEscaped_69 : decode q_mPa_readEscaped.1 69 = .ok (.bipush 122, 2) := by decide +kernel
theorem d_Pa_readEscaped_71 : decode q_mPa_readEscaped.1 71 = .ok (.invokevirtual 110, 3) := by decide +kernel
theorem d_Pa_readEscaped_74 : decode q_mPa_readEscaped.1 74 = .ok (.aload_n 0, 1) := by decide +kernel
theorem d_Pa_readEscaped_75 : decode q_mPa_readEscaped.1 75 = .ok (.getfield 28, 3) := by decide +kernel
theorem d_Pa_readEscaped_78 : decode q_mPa_readEscaped.1 78 = .ok (.iload_n 1, 1) := by decide +kernel
theorem d_Pa_readEscaped_79 : decode q_mPa_readEscaped.1 79 = .ok (.bipush 65, 2) := by decide +kernel
theorem d_Pa_readEscaped_81 : decode q_mPa_readEscaped.1 81 = .ok (.bipush 90, 2) := by decide +kernel
theorem d_Pa_readEscaped_83 : decode q_mPa_readEscaped.1 83 = .ok (.invokevirtual 110, 3) := by decide +kernel
theorem d_Pa_readEscaped_86 : decode q_mPa_readEscaped.1 86 = .ok (.aload_n 0, 1) := by decide +kernel
theorem d_Pa_readEscaped_87 : decode q_mPa_readEscaped.1 87 = .ok (.getfield 28, 3) := by decide +kernel
theorem d_Pa_readEscaped_90 : decode q_mPa_readEscaped.1 90 = .ok (.iload_n 1, 1) := by decide +kernel
theorem d_Pa_readEscaped_91 : decode q_mPa_readEscaped.1 91 = .ok (.bipush 48, 2) := by decide +kernel
theorem d_Pa_readEscaped_93 : decode q_mPa_readEscaped.1 93 = .ok (.bipush 57, 2) := by decide +kernel
theorem d_Pa_readEscaped_95 : decode q_mPa_readEscaped.1 95 = .ok (.invokevirtual 110, 3) := by decide +kernel
theorem d_Pa_readEscaped_98 : decode q_mPa_readEscaped.1 98 = .ok (.aload_n 0, 1) := by decide +kernel
theorem d_Pa_readEscaped_99 : decode q_mPa_readEscaped.1 99 = .ok (.getfield 28, 3) := by decide +kernel
theorem d_Pa_readEscaped_102 : decode q_mPa_readEscaped.1 102 = .ok (.iload_n 1, 1) := by decide +kernel
theorem d_Pa_readEscaped_103 : decode q_mPa_readEscaped.1 103 = .ok (.bipush 95, 2) := by decide +kernel
theorem d_Pa_readEscaped_105 : decode q_mPa_readEscaped.1 105 = .ok (.bipush 95, 2) := by decide +kernel
theorem d_Pa_readEscaped_107 : decode q_mPa_readEscaped.1 107 = .ok (.invokevirtual 110, 3) := by decide +kernel
theorem d_Pa_readEscaped_110 : decode q_mPa_readEscaped.1 110 = .ok (.goto 13, 3) := by decide +kernel
theorem d_Pa_readEscaped_113 : decode q_mPa_readEscaped.1 113 = .ok (.aload_n 0, 1) := by decide +kernel
theorem d_Pa_readEscaped_114 : decode q_mPa_readEscaped.1 114 = .ok (.getfield 28, 3) := by decide +kernel
theorem d_Pa_readEscaped_117 : decode q_mPa_readEscaped.1 117 = .ok (.iload_n 1, 1) := by decide +kernel
theorem d_Pa_readEscaped_118 : decode q_mPa_readEscaped.1 118 = .ok (.iload_n 2, 1) := by decide +kernel
theorem d_Pa_readEscaped_119 : decode q_mPa_readEscaped.1 119 = .ok (.iload_n 2, 1) := by decide +kernel
theorem d_Pa_readEscaped_120 : decode q_mPa_readEscaped.1 120 = .ok (.invokevirtual 110, 3) := by decide +kernel
theorem d_Pa_readEscaped_123 : decode q_mPa_readEscaped.1 123 = .ok (.return_, 1) := by decide +kernel
theorem d_Pa_readItem_0 : decode q_mPa_readItem.1 0 = .ok (.aload_n 0, 1) := by decide +kernel
theorem d_Pa_readItem_1 : decode q_mPa_readItem.1 1 = .ok (.invokevirtual 53, 3) := by decide +kernel
theorem d_Pa_readItem_4 : decode q_mPa_readItem.1 4 = .ok (.istore_n 2, 1) := by decide +kernel
theorem d_Pa_readItem_5 : decode q_mPa_readItem.1 5 = .ok (.iload_n 2, 1) := by decide +kernel
theorem d_Pa_readItem_6 : decode q_mPa_readItem.1 6 = .ok (.invokestatic 124, 3) := by decide +kernel
theorem d_Pa_readItem_9 : decode q_mPa_readItem.1 9 = .ok (.ifCond .ne 8, 3) := by decide +kernel
theorem d_Pa_readItem_12 : decode q_mPa_readItem.1 12 = .ok (.aload_n 0, 1) := by decide +kernel
theorem d_Pa_readItem_13 : decode q_mPa_readItem.1 13 = .ok (.invokevirtual 47, 3) := by decide +kernel
theorem d_Pa_readItem_16 : decode q_mPa_readItem.1 16 = .ok (.return_, 1) := by decide +kernel
theorem d_Pa_readItem_17 : decode q_mPa_readItem.1 17 = .ok (.aload_n 0, 1) := by decide +kernel
theorem d_Pa_readItem_18 : decode q_mPa_readItem.1 18 = .ok (.dup, 1) := by decide +kernel
theorem d_Pa_readItem_19 : decode q_mPa_readItem.1 19 = .ok (.getfield 15, 3) := by decide +kernel
theorem d_Pa_readItem_22 : decode q_mPa_readItem.1 22 = .ok (.iconst 1, 1) := by decide +kernel
theorem d_Pa_readItem_23 : decode q_mPa_readItem.1 23 = .ok (.iadd, 1) := by decide +kernel
theorem d_Pa_readItem_24 : decode q_mPa_readItem.1 24 = .ok (.putfield 15, 3) := by decide +kernel
theorem d_Pa_readItem_27 : decode q_mPa_readItem.1 27 = .ok (.iload_n 2, 1) := by decide +kernel
theorem d_Pa_readItem_28 : decode q_mPa_readItem.1 28 = .ok (.istore_n 3, 1) := by decide +kernel
theorem d_Pa_readItem_29 : decode q_mPa_readItem.1 29 = .ok (.aload_n 0, 1) := by decide +kernel
theorem d_Pa_readItem_30 : decode q_mPa_readItem.1 30 = .ok (.invokevirtual 53, 3) := by decide +kernel
theorem d_Pa_readItem_33 : decode q_mPa_readItem.1 33 = .ok (.bipush 45, 2) := by decide +kernel
theorem d_Pa_readItem_35 : decode q_mPa_readItem.1 35 = .ok (.if_icmp .ne 45, 3) := by decide +kernel
theorem d_Pa_readItem_38 : decode q_mPa_readItem.1 38 = .ok (.aload_n 0, 1) := by decide +kernel
theorem d_Pa_readItem_39 : decode q_mPa_readItem.1 39 = .ok (.dup, 1) := by decide +kernel
theorem d_Pa_readItem_40 : decode q_mPa_readItem.1 40 = .ok (.getfield 15, 3) := by decide +kernel
theorem d_Pa_readItem_43 : decode q_mPa_readItem.1 43 = .ok (.iconst 1, 1) := by decide +kernel
theorem d_Pa_readItem_44 : decode q_mPa_readItem.1 44 = .ok (.iadd, 1) := by decide +kernel
theorem d_Pa_readItem_45 : decode q_mPa_readItem.1 45 = .ok (.putfield 15, 3) := by decide +kernel
theorem d_Pa_readItem_48 : decode q_mPa_readItem.1 48 = .ok (.aload_n 0, 1) := by decide +kernel
theorem d_Pa_readItem_49 : decode q_mPa_readItem.1 49 = .ok (.invokevirtual 53, 3) := by decide +kernel
theorem d_Pa_readItem_52 : decode q_mPa_readItem.1 52 = .ok (.istore_n 3, 1) := by decide +kernel
theorem d_Pa_readItem_53 : decode q_mPa_readItem.1 53 = .ok (.iload_n 3, 1) := by decide +kernel
theorem d_Pa_readItem_54 : decode q_mPa_readItem.1 54 = .ok (.invokestatic 124, 3) := by decide +kernel
theorem d_Pa_readItem_57 : decode q_mPa_readItem.1 57 = .ok (.ifCond .eq 8, 3) := by decide +kernel
theorem d_Pa_readItem_60 : decode q_mPa_readItem.1 60 = .ok (.iload_n 3, 1) := by decide +kernel
theorem d_Pa_readItem_61 : decode q_mPa_readItem.1 61 = .ok (.iload_n 2, 1) := by decide +kernel
theorem d_Pa_readItem_62 : decode q_mPa_readItem.1 62 = .ok (.if_icmp .ge 8, 3) := by decide +kernel
theorem d_Pa_readItem_65 : decode q_mPa_readItem.1 65 = .ok (.aload_n 0, 1) := by decide +kernel
theorem d_Pa_readItem_66 : decode q_mPa_readItem.1 66 = .ok (.invokevirtual 47, 3) := by decide +kernel
theorem d_Pa_readItem_69 : decode q_mPa_readItem.1 69 = .ok (.return_, 1) := by decide +kernel
theorem d_Pa_readItem_70 : decode q_mPa_readItem.1 70 = .ok (.aload_n 0, 1) := by decide +kernel
theorem d_Pa_readItem_71 : decode q_mPa_readItem.1 71 = .ok (.dup, 1) := by decide +kernel
theorem d_Pa_readItem_72 : decode q_mPa_readItem.1 72 = .ok (.getfield 15, 3) := by decide +kernel
theorem d_Pa_readItem_75 : decode q_mPa_readItem.1 75 = .ok (.iconst 1, 1) := by decide +kernel
theorem d_Pa_readItem_76 : decode q_mPa_readItem.1 76 = .ok (.iadd, 1) := by decide +kernel
theorem d_Pa_readItem_77 : decode q_mPa_readItem.1 77 = .ok (.putfield 15, 3) := by decide +kernel
theorem d_Pa_readItem_80 : decode q_mPa_readItem.1 80 = .ok (.aload_n 0, 1) := by decide +kernel
theorem d_Pa_readItem_81 : decode q_mPa_readItem.1 81 = .ok (.getfield 28, 3) := by decide +kernel
theorem d_Pa_readItem_84 : decode q_mPa_readItem.1 84 = .ok (.iload_n 1, 1) := by decide +kernel
theorem d_Pa_readItem_85 : decode q_mPa_readItem.1 85 = .ok (.iload_n 2, 1) := by decide +kernel
theorem d_Pa_readItem_86 : decode q_mPa_readItem.1 86 = .ok (.iload_n 3, 1) := by decide +kernel
theorem d_Pa_readItem_87 : decode q_mPa_readItem.1 87 = .ok (.invokevirtual 110, 3) := by decide +kernel
theorem d_Pa_readItem_90 : decode q_mPa_readItem.1 90 = .ok (.return_, 1) := by decide +kernel
theorem d_Pa_isItem_0 : decode q_mPa_isItem.1 0 = .ok (.iload_n 0, 1) := by decide +kernel
theorem d_Pa_isItem_1 : decode q_mPa_isItem.1 1 = .ok (.iconst (-1), 1) := by decide +kernel
theorem d_Pa_isItem_2 : decode q_mPa_isItem.1 2 = .ok (.if_icmp .eq 37, 3) := by decide +kernel
theorem d_Pa_isItem_5 : decode q_mPa_isItem.1 5 = .ok (.iload_n 0, 1) := by decide +kernel
theorem d_Pa_isItem_6 : decode q_mPa_isItem.1 6 = .ok (.bipush 93, 2) := by decide +kernel
theorem d_Pa_isItem_8 : decode q_mPa_isItem.1 8 = .ok (.if_icmp .eq 31, 3) := by decide +kernel
theorem d_Pa_isItem_11 : decode q_mPa_isItem.1 11 = .ok (.iload_n 0, 1) := by decide +kernel
theorem d_Pa_isItem_12 : decode q_mPa_isItem.1 12 = .ok (.bipush 91, 2) := by decide +kernel
theorem d_Pa_isItem_14 : decode q_mPa_isItem.1 14 = .ok (.if_icmp .eq 25, 3) := by decide +kernel
theorem d_Pa_isItem_17 : decode q_mPa_isItem.1 17 = .ok (.iload_n 0, 1) := by decide +kernel
theorem d_Pa_isItem_18 : decode q_mPa_isItem.1 18 = .ok (.bipush 92, 2) := by decide +kernel
theorem d_Pa_isItem_20 : decode q_mPa_isItem.1 20 = .ok (.if_icmp .eq 19, 3) := by decide +kernel
theorem d_Pa_isItem_23 : decode q_mPa_isItem.1 23 = .ok (.iload_n 0, 1) := by decide +kernel
theorem d_Pa_isItem_24 : decode q_mPa_isItem.1 24 = .ok (.bipush 45, 2) := by decide +kernel
theorem d_Pa_isItem_26 : decode q_mPa_isItem.1 26 = .ok (.if_icmp .eq 13, 3) := by decide +kernel
theorem d_Pa_isItem_29 : decode q_mPa_isItem.1 29 = .ok (.iload_n 0, 1) := by decide +kernel
theorem d_Pa_isItem_30 : decode q_mPa_isItem.1 30 = .ok (.bipush 94, 2) := by decide +kernel
theorem d_Pa_isItem_32 : decode q_mPa_isItem.1 32 = .ok (.if_icmp .eq 7, 3) := by decide +kernel
theorem d_Pa_isItem_35 : decode q_mPa_isItem.1 35 = .ok (.iconst 1, 1) := by decide +kernel
theorem d_Pa_isItem_36 : decode q_mPa_isItem.1 36 = .ok (.goto 4, 3) := by decide +kernel
theorem d_Pa_isItem_39 : decode q_mPa_isItem.1 39 = .ok (.iconst 0, 1) := by decide +kernel
theorem d_Pa_isItem_40 : decode q_mPa_isItem.1 40 = .ok (.ireturn, 1) := by decide +kernel
theorem d_Pa_readCharacter_0 : decode q_mPa_readCharacter.1 0 = .ok (.aload_n 0, 1) := by decide +kernel
theorem d_Pa_readCharacter_1 : decode q_mPa_readCharacter.1 1 = .ok (.invokevirtual 53, 3) := by decide +kernel
theorem d_Pa_readCharacter_4 : decode q_mPa_readCharacter.1 4 = .ok (.istore_n 2, 1) := by decide +kernel
theorem d_Pa_readCharacter_5 : decode q_mPa_readCharacter.1 5 = .ok (.iload_n 2, 1) := by decide +kernel
theorem d_Pa_readCharacter_6 : decode q_mPa_readCharacter.1 6 = .ok (.bipush 92, 2) := by decide +kernel
theorem d_Pa_readCharacter_8 : decode q_mPa_readCharacter.1 8 = .ok (.if_icmp .ne 11, 3) := by decide +kernel
theorem d_Pa_readCharacter_11 : decode q_mPa_readCharacter.1 11 = .ok (.aload_n 0, 1) := by decide +kernel
theorem d_Pa_readCharacter_12 : decode q_mPa_readCharacter.1 12 = .ok (.iload_n 1, 1) := by decide +kernel
theorem d_Pa_readCharacter_13 : decode q_mPa_readCharacter.1 13 = .ok (.invokevirtual 107, 3) := by decide +kernel
theorem d_Pa_readCharacter_16 : decode q_mPa_readCharacter.1 16 = .ok (.goto 68, 3) := by decide +kernel
theorem d_Pa_readCharacter_19 : decode q_mPa_readCharacter.1 19 = .ok (.iload_n 2, 1) := by decide +kernel
theorem d_Pa_readCharacter_20 : decode q_mPa_readCharacter.1 20 = .ok (.bipush 46, 2) := by decide +kernel
theorem d_Pa_readCharacter_22 : decode q_mPa_readCharacter.1 22 = .ok (.if_icmp .ne 28, 3) := by decide +kernel
theorem d_Pa_readCharacter_25 : decode q_mPa_readCharacter.1 25 = .ok (.aload_n 0, 1) := by decide +kernel
theorem d_Pa_readCharacter_26 : decode q_mPa_readCharacter.1 26 = .ok (.dup, 1) := by decide +kernel
theorem d_Pa_readCharacter_27 : decode q_mPa_readCharacter.1 27 = .ok (.getfield 15, 3) := by decide +kernel
theorem d_Pa_readCharacter_30 : decode q_mPa_readCharacter.1 30 = .ok (.iconst 1, 1) := by decide +kernel
theorem d_Pa_readCharacter_31 : decode q_mPa_readCharacter.1 31 = .ok (.iadd, 1) := by decide +kernel
theorem d_Pa_readCharacter_32 : decode q_mPa_readCharacter.1 32 = .ok (.putfield 15, 3) := by decide +kernel
theorem d_Pa_readCharacter_35 : decode q_mPa_readCharacter.1 35 = .ok (.aload_n 0, 1) := by decide +kernel
theorem d_Pa_readCharacter_36 : decode q_mPa_readCharacter.1 36 = .ok (.getfield 28, 3) := by decide +kernel
theorem d_Pa_readCharacter_39 : decode q_mPa_readCharacter.1 39 = .ok (.iload_n 1, 1) := by decide +kernel
theorem d_Pa_readCharacter_40 : decode q_mPa_readCharacter.1 40 = .ok (.iconst 0, 1) := by decide +kernel
theorem d_Pa_readCharacter_41 : decode q_mPa_readCharacter.1 41 = .ok (.sipush 255, 3) := by decide +kernel
theorem d_Pa_readCharacter_44 : decode q_mPa_readCharacter.1 44 = .ok (.invokevirtual 110, 3) := by decide +kernel
theorem d_Pa_readCharacter_47 : decode q_mPa_readCharacter.1 47 = .ok (.goto 37, 3) := by decide +kernel
theorem d_Pa_readCharacter_50 : decode q_mPa_readCharacter.1 50 = .ok (.iload_n 2, 1) := by decide +kernel
theorem d_Pa_readCharacter_51 : decode q_mPa_readCharacter.1 51 = .ok (.invokestatic 114, 3) := by decide +kernel
theorem d_Pa_readCharacter_54 : decode q_mPa_readCharacter.1 54 = .ok (.ifCond .eq 26, 3) := by decide +kernel
theorem d_Pa_readCharacter_57 : decode q_mPa_readCharacter.1 57 = .ok (.aload_n 0, 1) := by decide +kernel
theorem d_Pa_readCharacter_58 : decode q_mPa_readCharacter.1 58 = .ok (.dup, 1) := by decide +kernel
theorem d_Pa_readCharacter_59 : decode q_mPa_readCharacter.1 59 = .ok (.getfield 15, 3) := by decide +kernel
theorem d_Pa_readCharacter_62 : decode q_mPa_readCharacter.1 62 = .ok (.iconst 1, 1) := by decide +kernel
theorem d_Pa_readCharacter_63 : decode q_mPa_readCharacter.1 63 = .ok (.iadd, 1) := by decide +kernel
theorem d_Pa_readCharacter_64 : decode q_mPa_readCharacter.1 64 = .ok (.putfield 15, 3) := by decide +kernel
theorem d_Pa_readCharacter_67 : decode q_mPa_readCharacter.1 67 = .ok (.aload_n 0, 1) := by decide +kernel
theorem d_Pa_readCharacter_68 : decode q_mPa_readCharacter.1 68 = .ok (.getfield 28, 3) := by decide +kernel
theorem d_Pa_readCharacter_71 : decode q_mPa_readCharacter.1 71 = .ok (.iload_n 1, 1) := by decide +kernel
theorem d_Pa_readCharacter_72 : decode q_mPa_readCharacter.1 72 = .ok (.iload_n 2, 1) := by decide +kernel
theorem d_Pa_readCharacter_73 : decode q_mPa_readCharacter.1 73 = .ok (.iload_n 2, 1) := by decide +kernel
theorem d_Pa_readCharacter_74 : decode q_mPa_readCharacter.1 74 = .ok (.invokevirtual 110, 3) := by decide +kernel
theorem d_Pa_readCharacter_77 : decode q_mPa_readCharacter.1 77 = .ok (.goto 7, 3) := by decide +kernel
theorem d_Pa_readCharacter_80 : decode q_mPa_readCharacter.1 80 = .ok (.aload_n 0, 1) := by decide +kernel
theorem d_Pa_readCharacter_81 : decode q_mPa_readCharacter.1 81 = .ok (.invokevirtual 47, 3) := by decide +kernel
theorem d_Pa_readCharacter_84 : decode q_mPa_readCharacter.1 84 = .ok (.return_, 1) := by decide +kernel
theorem d_Pa_standsForItself_0 : decode q_mPa_standsForItself.1 0 = .ok (.iload_n 0, 1) := by decide +kernel
theorem d_Pa_standsForItself_1 : decode q_mPa_standsForItself.1 1 = .ok (.lookupswitch 117 #[(-1, 115), (40, 115), (41, 115), (42, 115), (43, 115), (46, 115), (63, 115), (91, 115), (92, 115), (93, 115), (123, 115), (124, 115), (125, 115)], 115) := by decide +kernel
theorem d_Pa_standsForItself_116 : decode q_mPa_standsForItself.1 116 = .ok (.iconst 0, 1) := by decide +kernel
theorem d_Pa_standsForItself_117 : decode q_mPa_standsForItself.1 117 = .ok (.ireturn, 1) := by decide +kernel
theorem d_Pa_standsForItself_118 : decode q_mPa_standsForItself.1 118 = .ok (.iconst 1, 1) := by decide +kernel
theorem d_Pa_standsForItself_119 : decode q_mPa_standsForItself.1 119 = .ok (.ireturn, 1) := by decide +kernel
theorem d_Pa_readCount_0 : decode q_mPa_readCount.1 0 = .ok (.aload_n 0, 1) := by decide +kernel
theorem d_Pa_readCount_1 : decode q_mPa_readCount.1 1 = .ok (.invokevirtual 53, 3) := by decide +kernel
theorem d_Pa_readCount_4 : decode q_mPa_readCount.1 4 = .ok (.lookupswitch 126 #[(42, 44), (43, 67), (63, 90), (123, 108)], 44) := by decide +kernel
theorem d_Pa_readCount_48 : decode q_mPa_readCount.1 48 = .ok (.aload_n 1, 1) := by decide +kernel
theorem d_Pa_readCount_49 : decode q_mPa_readCount.1 49 = .ok (.iconst 0, 1) := by decide +kernel
theorem d_Pa_readCount_50 : decode q_mPa_readCount.1 50 = .ok (.putfield 127, 3) := by decide +kernel
theorem d_Pa_readCount_53 : decode q_mPa_readCount.1 53 = .ok (.aload_n 1, 1) := by decide +kernel
theorem d_Pa_readCount_54 : decode q_mPa_readCount.1 54 = .ok (.iconst 1, 1) := by decide +kernel
theorem d_Pa_readCount_55 : decode q_mPa_readCount.1 55 = .ok (.putfield 130, 3) := by decide +kernel
theorem d_Pa_readCount_58 : decode q_mPa_readCount.1 58 = .ok (.aload_n 0, 1) := by decide +kernel
theorem d_Pa_readCount_59 : decode q_mPa_readCount.1 59 = .ok (.dup, 1) := by decide +kernel
theorem d_Pa_readCount_60 : decode q_mPa_readCount.1 60 = .ok (.getfield 15, 3) := by decide +kernel
theorem d_Pa_readCount_63 : decode q_mPa_readCount.1 63 = .ok (.iconst 1, 1) := by decide +kernel
theorem d_Pa_readCount_64 : decode q_mPa_readCount.1 64 = .ok (.iadd, 1) := by decide +kernel
theorem d_Pa_readCount_65 : decode q_mPa_readCount.1 65 = .ok (.putfield 15, 3) := by decide +kernel
theorem d_Pa_readCount_68 : decode q_mPa_readCount.1 68 = .ok (.goto 63, 3) := by decide +kernel
theorem d_Pa_readCount_71 : decode q_mPa_readCount.1 71 = .ok (.aload_n 1, 1) := by decide +kernel
theorem d_Pa_readCount_72 : decode q_mPa_readCount.1 72 = .ok (.iconst 0, 1) := by decide +kernel
theorem d_Pa_readCount_73 : decode q_mPa_readCount.1 73 = .ok (.putfield 127, 3) := by decide +kernel
theorem d_Pa_readCount_76 : decode q_mPa_readCount.1 76 = .ok (.aload_n 1, 1) := by decide +kernel
theorem d_Pa_readCount_77 : decode q_mPa_readCount.1 77 = .ok (.iconst 1, 1) := by decide +kernel
theorem d_Pa_readCount_78 : decode q_mPa_readCount.1 78 = .ok (.putfield 134, 3) := by decide +kernel
theorem d_Pa_readCount_81 : decode q_mPa_readCount.1 81 = .ok (.aload_n 0, 1) := by decide +kernel
theorem d_Pa_readCount_82 : decode q_mPa_readCount.1 82 = .ok (.dup, 1) := by decide +kernel
theorem d_Pa_readCount_83 : decode q_mPa_readCount.1 83 = .ok (.getfield 15, 3) := by decide +kernel
theorem d_Pa_readCount_86 : decode q_mPa_readCount.1 86 = .ok (.iconst 1, 1) := by decide +kernel
theorem d_Pa_readCount_87 : decode q_mPa_readCount.1 87 = .ok (.iadd, 1) := by decide +kernel
theorem d_Pa_readCount_88 : decode q_mPa_readCount.1 88 = .ok (.putfield 15, 3) := by decide +kernel
theorem d_Pa_readCount_91 : decode q_mPa_readCount.1 91 = .ok (.goto 40, 3) := by decide +kernel
theorem d_Pa_readCount_94 : decode q_mPa_readCount.1 94 = .ok (.aload_n 1, 1) := by decide +kernel
theorem d_Pa_readCount_95 : decode q_mPa_readCount.1 95 = .ok (.iconst 0, 1) := by decide +kernel
theorem d_Pa_readCount_96 : decode q_mPa_readCount.1 96 = .ok (.putfield 127, 3) := by decide +kernel
theorem d_Pa_readCount_99 : decode q_mPa_readCount.1 99 = .ok (.aload_n 0, 1) := by decide +kernel
theorem d_Pa_readCount_100 : decode q_mPa_readCount.1 100 = .ok (.dup, 1) := by decide +kernel
theorem d_Pa_readCount_101 : decode q_mPa_readCount.1 101 = .ok (.getfield 15, 3) := by decide +kernel
theorem d_Pa_readCount_104 : decode q_mPa_readCount.1 104 = .ok (.iconst 1, 1) := by decide +kernel
theorem d_Pa_readCount_105 : decode q_mPa_readCount.1 105 = .ok (.iadd, 1) := by decide +kernel
theorem d_Pa_readCount_106 : decode q_mPa_readCount.1 106 = .ok (.putfield 15, 3) := by decide +kernel
theorem d_Pa_readCount_109 : decode q_mPa_readCount.1 109 = .ok (.goto 22, 3) := by decide +kernel
theorem d_Pa_readCount_112 : decode q_mPa_readCount.1 112 = .ok (.aload_n 0, 1) := by decide +kernel
theorem d_Pa_readCount_113 : decode q_mPa_readCount.1 113 = .ok (.dup, 1) := by decide +kernel
theorem d_Pa_readCount_114 : decode q_mPa_readCount.1 114 = .ok (.getfield 15, 3) := by decide +kernel
theorem d_Pa_readCount_117 : decode q_mPa_readCount.1 117 = .ok (.iconst 1, 1) := by decide +kernel
theorem d_Pa_readCount_118 : decode q_mPa_readCount.1 118 = .ok (.iadd, 1) := by decide +kernel
theorem d_Pa_readCount_119 : decode q_mPa_readCount.1 119 = .ok (.putfield 15, 3) := by decide +kernel
theorem d_Pa_readCount_122 : decode q_mPa_readCount.1 122 = .ok (.aload_n 0, 1) := by decide +kernel
theorem d_Pa_readCount_123 : decode q_mPa_readCount.1 123 = .ok (.aload_n 1, 1) := by decide +kernel
theorem d_Pa_readCount_124 : decode q_mPa_readCount.1 124 = .ok (.invokevirtual 137, 3) := by decide +kernel
theorem d_Pa_readCount_127 : decode q_mPa_readCount.1 127 = .ok (.goto 4, 3) := by decide +kernel
theorem d_Pa_readCount_130 : decode q_mPa_readCount.1 130 = .ok (.return_, 1) := by decide +kernel
theorem d_Pa_readCount_131 : decode q_mPa_readCount.1 131 = .ok (.aload_n 0, 1) := by decide +kernel
theorem d_Pa_readCount_132 : decode q_mPa_readCount.1 132 = .ok (.getfield 21, 3) := by decide +kernel
theorem d_Pa_readCount_135 : decode q_mPa_readCount.1 135 = .ok (.iconst (-1), 1) := by decide +kernel
theorem d_Pa_readCount_136 : decode q_mPa_readCount.1 136 = .ok (.if_icmp .ne 27, 3) := by decide +kernel
theorem d_Pa_readCount_139 : decode q_mPa_readCount.1 139 = .ok (.aload_n 0, 1) := by decide +kernel
theorem d_Pa_readCount_140 : decode q_mPa_readCount.1 140 = .ok (.invokevirtual 53, 3) := by decide +kernel
theorem d_Pa_readCount_143 : decode q_mPa_readCount.1 143 = .ok (.bipush 63, 2) := by decide +kernel
theorem d_Pa_readCount_145 : decode q_mPa_readCount.1 145 = .ok (.if_icmp .ne 18, 3) := by decide +kernel
theorem d_Pa_readCount_148 : decode q_mPa_readCount.1 148 = .ok (.aload_n 1, 1) := by decide +kernel
theorem d_Pa_readCount_149 : decode q_mPa_readCount.1 149 = .ok (.iconst 1, 1) := by decide +kernel
theorem d_Pa_readCount_150 : decode q_mPa_readCount.1 150 = .ok (.putfield 140, 3) := by decide +kernel
theorem d_Pa_readCount_153 : decode q_mPa_readCount.1 153 = .ok (.aload_n 0, 1) := by decide +kernel
theorem d_Pa_readCount_154 : decode q_mPa_readCount.1 154 = .ok (.dup, 1) := by decide +kernel
theorem d_Pa_readCount_155 : decode q_mPa_readCount.1 155 = .ok (.getfield 15, 3) := by decide +kernel
theorem d_Pa_readCount_158 : decode q_mPa_readCount.1 158 = .ok (.iconst 1, 1) := by decide +kernel
theorem d_Pa_readCount_159 : decode q_mPa_readCount.1 159 = .ok (.iadd, 1) := by decide +kernel
theorem d_Pa_readCount_160 : decode q_mPa_readCount.1 160 = .ok (.putfield 15, 3) := by decide +kernel
theorem d_Pa_readCount_163 : decode q_mPa_readCount.1 163 = .ok (.return_, 1) := by decide +kernel
theorem d_Pa_readBraces_0 : decode q_mPa_readBraces.1 0 = .ok (.aload_n 0, 1) := by decide +kernel
theorem d_Pa_readBraces_1 : decode q_mPa_readBraces.1 1 = .ok (.invokevirtual 53, 3) := by decide +kernel
theorem d_Pa_readBraces_4 : decode q_mPa_readBraces.1 4 = .ok (.invokestatic 143, 3) := by decide +kernel
theorem d_Pa_readBraces_7 : decode q_mPa_readBraces.1 7 = .ok (.istore_n 2, 1) := by decide +kernel
theorem d_Pa_readBraces_8 : decode q_mPa_readBraces.1 8 = .ok (.iload_n 2, 1) := by decide +kernel
theorem d_Pa_readBraces_9 : decode q_mPa_readBraces.1 9 = .ok (.iconst (-1), 1) := by decide +kernel
theorem d_Pa_readBraces_10 : decode q_mPa_readBraces.1 10 = .ok (.if_icmp .ne 8, 3) := by decide +kernel
theorem d_Pa_readBraces_13 : decode q_mPa_readBraces.1 13 = .ok (.aload_n 0, 1) := by decide +kernel
theorem d_Pa_readBraces_14 : decode q_mPa_readBraces.1 14 = .ok (.invokevirtual 47, 3) := by decide +kernel
theorem d_Pa_readBraces_17 : decode q_mPa_readBraces.1 17 = .ok (.return_, 1) := by decide +kernel
theorem d_Pa_readBraces_18 : decode q_mPa_readBraces.1 18 = .ok (.aload_n 0, 1) := by decide +kernel
theorem d_Pa_readBraces_19 : decode q_mPa_readBraces.1 19 = .ok (.dup, 1) := by decide +kernel
theorem d_Pa_readBraces_20 : decode q_mPa_readBraces.1 20 = .ok (.getfield 15, 3) := by decide +kernel
theorem d_Pa_readBraces_23 : decode q_mPa_readBraces.1 23 = .ok (.iconst 1, 1) := by decide +kernel
theorem d_Pa_readBraces_24 : decode q_mPa_readBraces.1 24 = .ok (.iadd, 1) := by decide +kernel
theorem d_Pa_readBraces_25 : decode q_mPa_readBraces.1 25 = .ok (.putfield 15, 3) := by decide +kernel
theorem d_Pa_readBraces_28 : decode q_mPa_readBraces.1 28 = .ok (.aload_n 1, 1) := by decide +kernel
theorem d_Pa_readBraces_29 : decode q_mPa_readBraces.1 29 = .ok (.iload_n 2, 1) := by decide +kernel
theorem d_Pa_readBraces_30 : decode q_mPa_readBraces.1 30 = .ok (.putfield 127, 3) := by decide +kernel
theorem d_Pa_readBraces_33 : decode q_mPa_readBraces.1 33 = .ok (.aload_n 1, 1) := by decide +kernel
theorem d_Pa_readBraces_34 : decode q_mPa_readBraces.1 34 = .ok (.iload_n 2, 1) := by decide +kernel
theorem d_Pa_readBraces_35 : decode q_mPa_readBraces.1 35 = .ok (.putfield 147, 3) := by decide +kernel
theorem d_Pa_readBraces_38 : decode q_mPa_readBraces.1 38 = .ok (.aload_n 0, 1) := by decide +kernel
theorem d_Pa_readBraces_39 : decode q_mPa_readBraces.1 39 = .ok (.invokevirtual 53, 3) := by decide +kernel
theorem d_Pa_readBraces_42 : decode q_mPa_readBraces.1 42 = .ok (.bipush 44, 2) := by decide +kernel
theorem d_Pa_readBraces_44 : decode q_mPa_readBraces.1 44 = .ok (.if_icmp .ne 18, 3) := by decide +kernel
theorem d_Pa_readBraces_47 : decode q_mPa_readBraces.1 47 = .ok (.aload_n 0, 1) := by decide +kernel
theorem d_Pa_readBraces_48 : decode q_mPa_readBraces.1 48 = .ok (.dup, 1) := by decide +kernel
theorem d_Pa_readBraces_49 : decode q_mPa_readBraces.1 49 = .ok (.getfield 15, 3) := by decide +kernel
theorem d_Pa_readBraces_52 : decode q_mPa_readBraces.1 52 = .ok (.iconst 1, 1) := by decide +kernel
theorem d_Pa_readBraces_53 : decode q_mPa_readBraces.1 53 = .ok (.iadd, 1) := by decide +kernel
theorem d_Pa_readBraces_54 : decode q_mPa_readBraces.1 54 = .ok (.putfield 15, 3) := by decide +kernel
theorem d_Pa_readBraces_57 : decode q_mPa_readBraces.1 57 = .ok (.aload_n 0, 1) := by decide +kernel
theorem d_Pa_readBraces_58 : decode q_mPa_readBraces.1 58 = .ok (.aload_n 1, 1) := by decide +kernel
theorem d_Pa_readBraces_59 : decode q_mPa_readBraces.1 59 = .ok (.invokevirtual 150, 3) := by decide +kernel
theorem d_Pa_readBraces_62 : decode q_mPa_readBraces.1 62 = .ok (.aload_n 0, 1) := by decide +kernel
theorem d_Pa_readBraces_63 : decode q_mPa_readBraces.1 63 = .ok (.bipush 125, 2) := by decide +kernel
theorem d_Pa_readBraces_65 : decode q_mPa_readBraces.1 65 = .ok (.invokevirtual 92, 3) := by decide +kernel
theorem d_Pa_readBraces_68 : decode q_mPa_readBraces.1 68 = .ok (.return_, 1) := by decide +kernel
theorem d_Pa_digit_0 : decode q_mPa_digit.1 0 = .ok (.iload_n 0, 1) := by decide +kernel
theorem d_Pa_digit_1 : decode q_mPa_digit.1 1 = .ok (.bipush 48, 2) := by decide +kernel
theorem d_Pa_digit_3 : decode q_mPa_digit.1 3 = .ok (.if_icmp .lt 16, 3) := by decide +kernel
theorem d_Pa_digit_6 : decode q_mPa_digit.1 6 = .ok (.iload_n 0, 1) := by decide +kernel
theorem d_Pa_digit_7 : decode q_mPa_digit.1 7 = .ok (.bipush 57, 2) := by decide +kernel
theorem d_Pa_digit_9 : decode q_mPa_digit.1 9 = .ok (.if_icmp .gt 10, 3) := by decide +kernel
theorem d_Pa_digit_12 : decode q_mPa_digit.1 12 = .ok (.iload_n 0, 1) := by decide +kernel
theorem d_Pa_digit_13 : decode q_mPa_digit.1 13 = .ok (.bipush 48, 2) := by decide +kernel
theorem d_Pa_digit_15 : decode q_mPa_digit.1 15 = .ok (.isub, 1) := by decide +kernel
theorem d_Pa_digit_16 : decode q_mPa_digit.1 16 = .ok (.goto 4, 3) := by decide +kernel
theorem d_Pa_digit_19 : decode q_mPa_digit.1 19 = .ok (.iconst (-1), 1) := by decide +kernel
theorem d_Pa_digit_20 : decode q_mPa_digit.1 20 = .ok (.ireturn, 1) := by decide +kernel
theorem d_Pa_readMost_0 : decode q_mPa_readMost.1 0 = .ok (.aload_n 0, 1) := by decide +kernel
theorem d_Pa_readMost_1 : decode q_mPa_readMost.1 1 = .ok (.invokevirtual 53, 3) := by decide +kernel
theorem d_Pa_readMost_4 : decode q_mPa_readMost.1 4 = .ok (.bipush 125, 2) := by decide +kernel
theorem d_Pa_readMost_6 : decode q_mPa_readMost.1 6 = .ok (.if_icmp .ne 9, 3) := by decide +kernel
theorem d_Pa_readMost_9 : decode q_mPa_readMost.1 9 = .ok (.aload_n 1, 1) := by decide +kernel
theorem d_Pa_readMost_10 : decode q_mPa_readMost.1 10 = .ok (.iconst 1, 1) := by decide +kernel
theorem d_Pa_readMost_11 : decode q_mPa_readMost.1 11 = .ok (.putfield 130, 3) := by decide +kernel
theorem d_Pa_readMost_14 : decode q_mPa_readMost.1 14 = .ok (.return_, 1) := by decide +kernel
theorem d_Pa_readMost_15 : decode q_mPa_readMost.1 15 = .ok (.aload_n 0, 1) := by decide +kernel
theorem d_Pa_readMost_16 : decode q_mPa_readMost.1 16 = .ok (.invokevirtual 53, 3) := by decide +kernel
theorem d_Pa_readMost_19 : decode q_mPa_readMost.1 19 = .ok (.invokestatic 143, 3) := by decide +kernel
theorem d_Pa_readMost_22 : decode q_mPa_readMost.1 22 = .ok (.istore_n 2, 1) := by decide +kernel
theorem d_Pa_readMost_23 : decode q_mPa_readMost.1 23 = .ok (.iload_n 2, 1) := by decide +kernel
theorem d_Pa_readMost_24 : decode q_mPa_readMost.1 24 = .ok (.aload_n 1, 1) := by decide +kernel
theorem d_Pa_readMost_25 : decode q_mPa_readMost.1 25 = .ok (.getfield 127, 3) := by decide +kernel
theorem d_Pa_readMost_28 : decode q_mPa_readMost.1 28 = .ok (.if_icmp .ge 8, 3) := by decide +kernel
theorem d_Pa_readMost_31 : decode q_mPa_readMost.1 31 = .ok (.aload_n 0, 1) := by decide +kernel
theorem d_Pa_readMost_32 : decode q_mPa_readMost.1 32 = .ok (.invokevirtual 47, 3) := by decide +kernel
theorem d_Pa_readMost_35 : decode q_mPa_readMost.1 35 = .ok (.return_, 1) := by decide +kernel
theorem d_Pa_readMost_36 : decode q_mPa_readMost.1 36 = .ok (.aload_n 0, 1) := by decide +kernel
theorem d_Pa_readMost_37 : decode q_mPa_readMost.1 37 = .ok (.dup, 1) := by decide +kernel
theorem d_Pa_readMost_38 : decode q_mPa_readMost.1 38 = .ok (.getfield 15, 3) := by decide +kernel
theorem d_Pa_readMost_41 : decode q_mPa_readMost.1 41 = .ok (.iconst 1, 1) := by decide +kernel
theorem d_Pa_readMost_42 : decode q_mPa_readMost.1 42 = .ok (.iadd, 1) := by decide +kernel
theorem d_Pa_readMost_43 : decode q_mPa_readMost.1 43 = .ok (.putfield 15, 3) := by decide +kernel
theorem d_Pa_readMost_46 : decode q_mPa_readMost.1 46 = .ok (.aload_n 1, 1) := by decide +kernel
theorem d_Pa_readMost_47 : decode q_mPa_readMost.1 47 = .ok (.iload_n 2, 1) := by decide +kernel
theorem d_Pa_readMost_48 : decode q_mPa_readMost.1 48 = .ok (.putfield 147, 3) := by decide +kernel
theorem d_Pa_readMost_51 : decode q_mPa_readMost.1 51 = .ok (.return_, 1) := by decide +kernel
theorem d_Pr_init_0 : decode q_mPr_init.1 0 = .ok (.aload_n 0, 1) := by decide +kernel
theorem d_Pr_init_1 : decode q_mPr_init.1 1 = .ok (.invokespecial 3, 3) := by decide +kernel
theorem d_Pr_init_4 : decode q_mPr_init.1 4 = .ok (.aload_n 0, 1) := by decide +kernel
theorem d_Pr_init_5 : decode q_mPr_init.1 5 = .ok (.sipush 160, 3) := by decide +kernel
theorem d_Pr_init_8 : decode q_mPr_init.1 8 = .ok (.newarray .int, 2) := by decide +kernel
theorem d_Pr_init_10 : decode q_mPr_init.1 10 = .ok (.putfield 9, 3) := by decide +kernel
theorem d_Pr_init_13 : decode q_mPr_init.1 13 = .ok (.aload_n 0, 1) := by decide +kernel
theorem d_Pr_init_14 : decode q_mPr_init.1 14 = .ok (.sipush 160, 3) := by decide +kernel
theorem d_Pr_init_17 : decode q_mPr_init.1 17 = .ok (.newarray .int, 2) := by decide +kernel
theorem d_Pr_init_19 : decode q_mPr_init.1 19 = .ok (.putfield 15, 3) := by decide +kernel
theorem d_Pr_init_22 : decode q_mPr_init.1 22 = .ok (.aload_n 0, 1) := by decide +kernel
theorem d_Pr_init_23 : decode q_mPr_init.1 23 = .ok (.sipush 160, 3) := by decide +kernel
theorem d_Pr_init_26 : decode q_mPr_init.1 26 = .ok (.newarray .int, 2) := by decide +kernel
theorem d_Pr_init_28 : decode q_mPr_init.1 28 = .ok (.putfield 18, 3) := by decide +kernel
theorem d_Pr_init_31 : decode q_mPr_init.1 31 = .ok (.aload_n 0, 1) := by decide +kernel
theorem d_Pr_init_32 : decode q_mPr_init.1 32 = .ok (.iconst 0, 1) := by decide +kernel
theorem d_Pr_init_33 : decode q_mPr_init.1 33 = .ok (.putfield 21, 3) := by decide +kernel
theorem d_Pr_init_36 : decode q_mPr_init.1 36 = .ok (.aload_n 0, 1) := by decide +kernel
theorem d_Pr_init_37 : decode q_mPr_init.1 37 = .ok (.iconst 0, 1) := by decide +kernel
theorem d_Pr_init_38 : decode q_mPr_init.1 38 = .ok (.putfield 25, 3) := by decide +kernel
theorem d_Pr_init_41 : decode q_mPr_init.1 41 = .ok (.return_, 1) := by decide +kernel
theorem d_Pr_isWritten_0 : decode q_mPr_isWritten.1 0 = .ok (.aload_n 0, 1) := by decide +kernel
theorem d_Pr_isWritten_1 : decode q_mPr_isWritten.1 1 = .ok (.getfield 21, 3) := by decide +kernel
theorem d_Pr_isWritten_4 : decode q_mPr_isWritten.1 4 = .ok (.ifCond .le 7, 3) := by decide +kernel
theorem d_Pr_isWritten_7 : decode q_mPr_isWritten.1 7 = .ok (.iconst 1, 1) := by decide +kernel
theorem d_Pr_isWritten_8 : decode q_mPr_isWritten.1 8 = .ok (.goto 4, 3) := by decide +kernel
theorem d_Pr_isWritten_11 : decode q_mPr_isWritten.1 11 = .ok (.iconst 0, 1) := by decide +kernel
theorem d_Pr_isWritten_12 : decode q_mPr_isWritten.1 12 = .ok (.ireturn, 1) := by decide +kernel
theorem d_Pr_erase_0 : decode q_mPr_erase.1 0 = .ok (.aload_n 0, 1) := by decide +kernel
theorem d_Pr_erase_1 : decode q_mPr_erase.1 1 = .ok (.iconst 0, 1) := by decide +kernel
theorem d_Pr_erase_2 : decode q_mPr_erase.1 2 = .ok (.putfield 21, 3) := by decide +kernel
theorem d_Pr_erase_5 : decode q_mPr_erase.1 5 = .ok (.aload_n 0, 1) := by decide +kernel
theorem d_Pr_erase_6 : decode q_mPr_erase.1 6 = .ok (.iconst 0, 1) := by decide +kernel
theorem d_Pr_erase_7 : decode q_mPr_erase.1 7 = .ok (.putfield 25, 3) := by decide +kernel
theorem d_Pr_erase_10 : decode q_mPr_erase.1 10 = .ok (.return_, 1) := by decide +kernel
theorem d_Pr_has_0 : decode q_mPr_has.1 0 = .ok (.iload_n 1, 1) := by decide +kernel
theorem d_Pr_has_1 : decode q_mPr_has.1 1 = .ok (.ifCond .lt 22, 3) := by decide +kernel
theorem d_Pr_has_4 : decode q_mPr_has.1 4 = .ok (.iload_n 1, 1) := by decide +kernel
theorem d_Pr_has_5 : decode q_mPr_has.1 5 = .ok (.aload_n 0, 1) := by decide +kernel
theorem d_Pr_has_6 : decode q_mPr_has.1 6 = .ok (.getfield 21, 3) := by decide +kernel
theorem d_Pr_has_9 : decode q_mPr_has.1 9 = .ok (.if_icmp .ge 14, 3) := by decide +kernel
theorem d_Pr_has_12 : decode q_mPr_has.1 12 = .ok (.iload_n 1, 1) := by decide +kernel
theorem d_Pr_has_13 : decode q_mPr_has.1 13 = .ok (.sipush 160, 3) := by decide +kernel
theorem d_Pr_has_16 : decode q_mPr_has.1 16 = .ok (.if_icmp .ge 7, 3) := by decide +kernel
theorem d_Pr_has_19 : decode q_mPr_has.1 19 = .ok (.iconst 1, 1) := by decide +kernel
theorem d_Pr_has_20 : decode q_mPr_has.1 20 = .ok (.goto 4, 3) := by decide +kernel
theorem d_Pr_has_23 : decode q_mPr_has.1 23 = .ok (.iconst 0, 1) := by decide +kernel
theorem d_Pr_has_24 : decode q_mPr_has.1 24 = .ok (.ireturn, 1) := by decide +kernel
theorem d_Pr_kindOf_0 : decode q_mPr_kindOf.1 0 = .ok (.aload_n 0, 1) := by decide +kernel
theorem d_Pr_kindOf_1 : decode q_mPr_kindOf.1 1 = .ok (.iload_n 1, 1) := by decide +kernel
theorem d_Pr_kindOf_2 : decode q_mPr_kindOf.1 2 = .ok (.invokevirtual 28, 3) := by decide +kernel
theorem d_Pr_kindOf_5 : decode q_mPr_kindOf.1 5 = .ok (.ifCond .eq 12, 3) := by decide +kernel
theorem d_Pr_kindOf_8 : decode q_mPr_kindOf.1 8 = .ok (.aload_n 0, 1) := by decide +kernel
theorem d_Pr_kindOf_9 : decode q_mPr_kindOf.1 9 = .ok (.getfield 9, 3) := by decide +kernel
theorem d_Pr_kindOf_12 : decode q_mPr_kindOf.1 12 = .ok (.iload_n 1, 1) := by decide +kernel
theorem d_Pr_kindOf_13 : decode q_mPr_kindOf.1 13 = .ok (.iaload, 1) := by decide +kernel
theorem d_Pr_kindOf_14 : decode q_mPr_kindOf.1 14 = .ok (.goto 4, 3) := by decide +kernel
theorem d_Pr_kindOf_17 : decode q_mPr_kindOf.1 17 = .ok (.iconst (-1), 1) := by decide +kernel
theorem d_Pr_kindOf_18 : decode q_mPr_kindOf.1 18 = .ok (.ireturn, 1) := by decide +kernel
theorem d_Pr_xOf_0 : decode q_mPr_xOf.1 0 = .ok (.aload_n 0, 1) := by decide +kernel
theorem d_Pr_xOf_1 : decode q_mPr_xOf.1 1 = .ok (.iload_n 1, 1) := by decide +kernel
theorem d_Pr_xOf_2 : decode q_mPr_xOf.1 2 = .ok (.invokevirtual 28, 3) := by decide +kernel
theorem d_Pr_xOf_5 : decode q_mPr_xOf.1 5 = .ok (.ifCond .eq 12, 3) := by decide +kernel
theorem d_Pr_xOf_8 : decode q_mPr_xOf.1 8 = .ok (.aload_n 0, 1) := by decide +kernel
theorem d_Pr_xOf_9 : decode q_mPr_xOf.1 9 = .ok (.getfield 15, 3) := by decide +kernel
theorem d_Pr_xOf_12 : decode q_mPr_xOf.1 12 = .ok (.iload_n 1, 1) := by decide +kernel
theorem d_Pr_xOf_13 : decode q_mPr_xOf.1 13 = .ok (.iaload, 1) := by decide +kernel
theorem d_Pr_xOf_14 : decode q_mPr_xOf.1 14 = .ok (.goto 4, 3) := by decide +kernel
theorem d_Pr_xOf_17 : decode q_mPr_xOf.1 17 = .ok (.iconst (-1), 1) := by decide +kernel
theorem d_Pr_xOf_18 : decode q_mPr_xOf.1 18 = .ok (.ireturn, 1) := by decide +kernel
theorem d_Pr_yOf_0 : decode q_mPr_yOf.1 0 = .ok (.aload_n 0, 1) := by decide +kernel
theorem d_Pr_yOf_1 : decode q_mPr_yOf.1 1 = .ok (.iload_n 1, 1) := by decide +kernel
theorem d_Pr_yOf_2 : decode q_mPr_yOf.1 2 = .ok (.invokevirtual 28, 3) := by decide +kernel
theorem d_Pr_yOf_5 : decode q_mPr_yOf.1 5 = .ok (.ifCond .eq 12, 3) := by decide +kernel
theorem d_Pr_yOf_8 : decode q_mPr_yOf.1 8 = .ok (.aload_n 0, 1) := by decide +kernel
theorem d_Pr_yOf_9 : decode q_mPr_yOf.1 9 = .ok (.getfield 18, 3) := by decide +kernel
theorem d_Pr_yOf_12 : decode q_mPr_yOf.1 12 = .ok (.iload_n 1, 1) := by decide +kernel
theorem d_Pr_yOf_13 : decode q_mPr_yOf.1 13 = .ok (.iaload, 1) := by decide +kernel
theorem d_Pr_yOf_14 : decode q_mPr_yOf.1 14 = .ok (.goto 4, 3) := by decide +kernel
theorem d_Pr_yOf_17 : decode q_mPr_yOf.1 17 = .ok (.iconst (-1), 1) := by decide +kernel
theorem d_Pr_yOf_18 : decode q_mPr_yOf.1 18 = .ok (.ireturn, 1) := by decide +kernel
theorem d_Pr_write_0 : decode q_mPr_write.1 0 = .ok (.aload_n 0, 1) := by decide +kernel
theorem d_Pr_write_1 : decode q_mPr_write.1 1 = .ok (.invokevirtual 32, 3) := by decide +kernel
theorem d_Pr_write_4 : decode q_mPr_write.1 4 = .ok (.aload_n 0, 1) := by decide +kernel
theorem d_Pr_write_5 : decode q_mPr_write.1 5 = .ok (.iload_n 2, 1) := by decide +kernel
theorem d_Pr_write_6 : decode q_mPr_write.1 6 = .ok (.putfield 25, 3) := by decide +kernel
theorem d_Pr_write_9 : decode q_mPr_write.1 9 = .ok (.aload_n 0, 1) := by decide +kernel
theorem d_Pr_write_10 : decode q_mPr_write.1 10 = .ok (.iconst 3, 1) := by decide +kernel
theorem d_Pr_write_11 : decode q_mPr_write.1 11 = .ok (.iconst 0, 1) := by decide +kernel
theorem d_Pr_write_12 : decode q_mPr_write.1 12 = .ok (.iconst 0, 1) := by decide +kernel
theorem d_Pr_write_13 : decode q_mPr_write.1 13 = .ok (.invokevirtual 35, 3) := by decide +kernel
theorem d_Pr_write_16 : decode q_mPr_write.1 16 = .ok (.aload_n 0, 1) := by decide +kernel
theorem d_Pr_write_17 : decode q_mPr_write.1 17 = .ok (.aload_n 1, 1) := by decide +kernel
theorem d_Pr_write_18 : decode q_mPr_write.1 18 = .ok (.iconst 0, 1) := by decide +kernel
theorem d_Pr_write_19 : decode q_mPr_write.1 19 = .ok (.invokevirtual 39, 3) := by decide +kernel
theorem d_Pr_write_22 : decode q_mPr_write.1 22 = .ok (.aload_n 0, 1) := by decide +kernel
theorem d_Pr_write_23 : decode q_mPr_write.1 23 = .ok (.iconst 3, 1) := by decide +kernel
theorem d_Pr_write_24 : decode q_mPr_write.1 24 = .ok (.iconst 1, 1) := by decide +kernel
theorem d_Pr_write_25 : decode q_mPr_write.1 25 = .ok (.iconst 0, 1) := by decide +kernel
theorem d_Pr_write_26 : decode q_mPr_write.1 26 = .ok (.invokevirtual 35, 3) := by decide +kernel
theorem d_Pr_write_29 : decode q_mPr_write.1 29 = .ok (.aload_n 0, 1) := by decide +kernel
theorem d_Pr_write_30 : decode q_mPr_write.1 30 = .ok (.iconst 4, 1) := by decide +kernel
theorem d_Pr_write_31 : decode q_mPr_write.1 31 = .ok (.iconst 0, 1) := by decide +kernel
theorem d_Pr_write_32 : decode q_mPr_write.1 32 = .ok (.iconst 0, 1) := by decide +kernel
theorem d_Pr_write_33 : decode q_mPr_write.1 33 = .ok (.invokevirtual 35, 3) := by decide +kernel
theorem d_Pr_write_36 : decode q_mPr_write.1 36 = .ok (.return_, 1) := by decide +kernel
theorem d_Pr_add_0 : decode q_mPr_add.1 0 = .ok (.aload_n 0, 1) := by decide +kernel
theorem d_Pr_add_1 : decode q_mPr_add.1 1 = .ok (.getfield 21, 3) := by decide +kernel
theorem d_Pr_add_4 : decode q_mPr_add.1 4 = .ok (.ifCond .lt 13, 3) := by decide +kernel
theorem d_Pr_add_7 : decode q_mPr_add.1 7 = .ok (.aload_n 0, 1) := by decide +kernel
theorem d_Pr_add_8 : decode q_mPr_add.1 8 = .ok (.getfield 21, 3) := by decide +kernel
theorem d_Pr_add_11 : decode q_mPr_add.1 11 = .ok (.sipush 160, 3) := by decide +kernel
theorem d_Pr_add_14 : decode q_mPr_add.1 14 = .ok (.if_icmp .lt 4, 3) := by decide +kernel
theorem d_Pr_add_17 : decode q_mPr_add.1 17 = .ok (.return_, 1) := by decide +kernel
theorem d_Pr_add_18 : decode q_mPr_add.1 18 = .ok (.aload_n 0, 1) := by decide +kernel
theorem d_Pr_add_19 : decode q_mPr_add.1 19 = .ok (.getfield 9, 3) := by decide +kernel
theorem d_Pr_add_22 : decode q_mPr_add.1 22 = .ok (.aload_n 0, 1) := by decide +kernel
theorem d_Pr_add_23 : decode q_mPr_add.1 23 = .ok (.getfield 21, 3) := by decide +kernel
theorem d_Pr_add_26 : decode q_mPr_add.1 26 = .ok (.iload_n 1, 1) := by decide +kernel
theorem d_Pr_add_27 : decode q_mPr_add.1 27 = .ok (.iastore, 1) := by decide +kernel
theorem d_Pr_add_28 : decode q_mPr_add.1 28 = .ok (.aload_n 0, 1) := by decide +kernel
theorem d_Pr_add_29 : decode q_mPr_add.1 29 = .ok (.getfield 15, 3) := by decide +kernel
theorem d_Pr_add_32 : decode q_mPr_add.1 32 = .ok (.aload_n 0, 1) := by decide +kernel
theorem d_Pr_add_33 : decode q_mPr_add.1 33 = .ok (.getfield 21, 3) := by decide +kernel
theorem d_Pr_add_36 : decode q_mPr_add.1 36 = .ok (.iload_n 2, 1) := by decide +kernel
theorem d_Pr_add_37 : decode q_mPr_add.1 37 = .ok (.iastore, 1) := by decide +kernel
theorem d_Pr_add_38 : decode q_mPr_add.1 38 = .ok (.aload_n 0, 1) := by decide +kernel
theorem d_Pr_add_39 : decode q_mPr_add.1 39 = .ok (.getfield 18, 3) := by decide +kernel
theorem d_Pr_add_42 : decode q_mPr_add.1 42 = .ok (.aload_n 0, 1) := by decide +kernel
theorem d_Pr_add_43 : decode q_mPr_add.1 43 = .ok (.getfield 21, 3) := by decide +kernel
theorem d_Pr_add_46 : decode q_mPr_add.1 46 = .ok (.iload_n 3, 1) := by decide +kernel
theorem d_Pr_add_47 : decode q_mPr_add.1 47 = .ok (.iastore, 1) := by decide +kernel
theorem d_Pr_add_48 : decode q_mPr_add.1 48 = .ok (.aload_n 0, 1) := by decide +kernel
theorem d_Pr_add_49 : decode q_mPr_add.1 49 = .ok (.dup, 1) := by decide +kernel
theorem d_Pr_add_50 : decode q_mPr_add.1 50 = .ok (.getfield 21, 3) := by decide +kernel
theorem d_Pr_add_53 : decode q_mPr_add.1 53 = .ok (.iconst 1, 1) := by decide +kernel
theorem d_Pr_add_54 : decode q_mPr_add.1 54 = .ok (.iadd, 1) := by decide +kernel
theorem d_Pr_add_55 : decode q_mPr_add.1 55 = .ok (.putfield 21, 3) := by decide +kernel
theorem d_Pr_add_58 : decode q_mPr_add.1 58 = .ok (.return_, 1) := by decide +kernel
theorem d_Pr_writeChoice_0 : decode q_mPr_writeChoice.1 0 = .ok (.aload_n 1, 1) := by decide +kernel
theorem d_Pr_writeChoice_1 : decode q_mPr_writeChoice.1 1 = .ok (.ifnull 9, 3) := by decide +kernel
theorem d_Pr_writeChoice_4 : decode q_mPr_writeChoice.1 4 = .ok (.iload_n 2, 1) := by decide +kernel
theorem d_Pr_writeChoice_5 : decode q_mPr_writeChoice.1 5 = .ok (.bipush 8, 2) := by decide +kernel
theorem d_Pr_writeChoice_7 : decode q_mPr_writeChoice.1 7 = .ok (.if_icmp .le 4, 3) := by decide +kernel
theorem d_Pr_writeChoice_10 : decode q_mPr_writeChoice.1 10 = .ok (.return_, 1) := by decide +kernel
theorem d_Pr_writeChoice_11 : decode q_mPr_writeChoice.1 11 = .ok (.aload_n 0, 1) := by decide +kernel
theorem d_Pr_writeChoice_12 : decode q_mPr_writeChoice.1 12 = .ok (.getfield 21, 3) := by decide +kernel
theorem d_Pr_writeChoice_15 : decode q_mPr_writeChoice.1 15 = .ok (.aload_n 1, 1) := by decide +kernel
theorem d_Pr_writeChoice_16 : decode q_mPr_writeChoice.1 16 = .ok (.invokevirtual 43, 3) := by decide +kernel
theorem d_Pr_writeChoice_19 : decode q_mPr_writeChoice.1 19 = .ok (.iadd, 1) := by decide +kernel
theorem d_Pr_writeChoice_20 : decode q_mPr_writeChoice.1 20 = .ok (.istore_n 3, 1) := by decide +kernel
theorem d_Pr_writeChoice_21 : decode q_mPr_writeChoice.1 21 = .ok (.aload_n 1, 1) := by decide +kernel
theorem d_Pr_writeChoice_22 : decode q_mPr_writeChoice.1 22 = .ok (.astore 4, 2) := by decide +kernel
theorem d_Pr_writeChoice_24 : decode q_mPr_writeChoice.1 24 = .ok (.aload 4, 2) := by decide +kernel
theorem d_Pr_writeChoice_26 : decode q_mPr_writeChoice.1 26 = .ok (.ifnull 88, 3) := by decide +kernel
theorem d_Pr_writeChoice_29 : decode q_mPr_writeChoice.1 29 = .ok (.aload 4, 2) := by decide +kernel
theorem d_Pr_writeChoice_31 : decode q_mPr_writeChoice.1 31 = .ok (.getfield 49, 3) := by decide +kernel
theorem d_Pr_writeChoice_34 : decode q_mPr_writeChoice.1 34 = .ok (.ifnull 26, 3) := by decide +kernel
theorem d_Pr_writeChoice_37 : decode q_mPr_writeChoice.1 37 = .ok (.aload_n 0, 1) := by decide +kernel
theorem d_Pr_writeChoice_38 : decode q_mPr_writeChoice.1 38 = .ok (.iconst 1, 1) := by decide +kernel
theorem d_Pr_writeChoice_39 : decode q_mPr_writeChoice.1 39 = .ok (.aload_n 0, 1) := by decide +kernel
theorem d_Pr_writeChoice_40 : decode q_mPr_writeChoice.1 40 = .ok (.getfield 21, 3) := by decide +kernel
theorem d_Pr_writeChoice_43 : decode q_mPr_writeChoice.1 43 = .ok (.iconst 1, 1) := by decide +kernel
theorem d_Pr_writeChoice_44 : decode q_mPr_writeChoice.1 44 = .ok (.iadd, 1) := by decide +kernel
theorem d_Pr_writeChoice_45 : decode q_mPr_writeChoice.1 45 = .ok (.aload_n 0, 1) := by decide +kernel
theorem d_Pr_writeChoice_46 : decode q_mPr_writeChoice.1 46 = .ok (.getfield 21, 3) := by decide +kernel
theorem d_Pr_writeChoice_49 : decode q_mPr_writeChoice.1 49 = .ok (.aload 4, 2) := by decide +kernel
theorem d_Pr_writeChoice_51 : decode q_mPr_writeChoice.1 51 = .ok (.getfield 53, 3) := by decide +kernel
theorem d_Pr_writeChoice_54 : decode q_mPr_writeChoice.1 54 = .ok (.iadd, 1) := by decide +kernel
theorem d_Pr_writeChoice_55 : decode q_mPr_writeChoice.1 55 = .ok (.iconst 2, 1) := by decide +kernel
theorem d_Pr_writeChoice_56 : decode q_mPr_writeChoice.1 56 = .ok (.iadd, 1) := by decide +kernel
theorem d_Pr_writeChoice_57 : decode q_mPr_writeChoice.1 57 = .ok (.invokevirtual 35, 3) := by decide +kernel
theorem d_Pr_writeChoice_60 : decode q_mPr_writeChoice.1 60 = .ok (.aload 4, 2) := by decide +kernel
theorem d_Pr_writeChoice_62 : decode q_mPr_writeChoice.1 62 = .ok (.getfield 54, 3) := by decide +kernel
theorem d_Pr_writeChoice_65 : decode q_mPr_writeChoice.1 65 = .ok (.astore 5, 2) := by decide +kernel
theorem d_Pr_writeChoice_67 : decode q_mPr_writeChoice.1 67 = .ok (.aload 5, 2) := by decide +kernel
theorem d_Pr_writeChoice_69 : decode q_mPr_writeChoice.1 69 = .ok (.ifnull 20, 3) := by decide +kernel
theorem d_Pr_writeChoice_72 : decode q_mPr_writeChoice.1 72 = .ok (.aload_n 0, 1) := by decide +kernel
theorem d_Pr_writeChoice_73 : decode q_mPr_writeChoice.1 73 = .ok (.aload 5, 2) := by decide +kernel
theorem d_Pr_writeChoice_75 : decode q_mPr_writeChoice.1 75 = .ok (.iload_n 2, 1) := by decide +kernel
theorem d_Pr_writeChoice_76 : decode q_mPr_writeChoice.1 76 = .ok (.invokevirtual 58, 3) := by decide +kernel
theorem d_Pr_writeChoice_79 : decode q_mPr_writeChoice.1 79 = .ok (.aload 5, 2) := by decide +kernel
theorem d_Pr_writeChoice_81 : decode q_mPr_writeChoice.1 81 = .ok (.getfield 62, 3) := by decide +kernel
theorem d_Pr_writeChoice_84 : decode q_mPr_writeChoice.1 84 = .ok (.astore 5, 2) := by decide +kernel
theorem d_Pr_writeChoice_86 : decode q_mPr_writeChoice.1 86 = .ok (.goto (-19), 3) := by decide +kernel
theorem d_Pr_writeChoice_89 : decode q_mPr_writeChoice.1 89 = .ok (.aload 4, 2) := by decide +kernel
theorem d_Pr_writeChoice_91 : decode q_mPr_writeChoice.1 91 = .ok (.getfield 49, 3) := by decide +kernel
theorem d_Pr_writeChoice_94 : decode q_mPr_writeChoice.1 94 = .ok (.ifnull 10, 3) := by decide +kernel
theorem d_Pr_writeChoice_97 : decode q_mPr_writeChoice.1 97 = .ok (.aload_n 0, 1) := by decide +kernel
theorem d_Pr_writeChoice_98 : decode q_mPr_writeChoice.1 98 = .ok (.iconst 2, 1) := by decide +kernel
theorem d_Pr_writeChoice_99 : decode q_mPr_writeChoice.1 99 = .ok (.iload_n 3, 1) := by decide +kernel
theorem d_Pr_writeChoice_100 : decode q_mPr_writeChoice.1 100 = .ok (.iconst 0, 1) := by decide +kernel
theorem d_Pr_writeChoice_101 : decode q_mPr_writeChoice.1 101 = .ok (.invokevirtual 35, 3) := by decide +kernel
theorem d_Pr_writeChoice_104 : decode q_mPr_writeChoice.1 104 = .ok (.aload 4, 2) := by decide +kernel
theorem d_Pr_writeChoice_106 : decode q_mPr_writeChoice.1 106 = .ok (.getfield 49, 3) := by decide +kernel
theorem d_Pr_writeChoice_109 : decode q_mPr_writeChoice.1 109 = .ok (.astore 4, 2) := by decide +kernel
theorem d_Pr_writeChoice_111 : decode q_mPr_writeChoice.1 111 = .ok (.goto (-87), 3) := by decide +kernel
theorem d_Pr_writeChoice_114 : decode q_mPr_writeChoice.1 114 = .ok (.return_, 1) := by decide +kernel
