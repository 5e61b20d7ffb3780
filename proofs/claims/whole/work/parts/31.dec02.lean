theorem d_Pr_writeRepeat_0 : decode q_mPr_writeRepeat.1 0 = .ok (.iconst 0, 1) := by decide +kernel
theorem d_Pr_writeRepeat_1 : decode q_mPr_writeRepeat.1 1 = .ok (.istore_n 3, 1) := by decide +kernel
theorem d_Pr_writeRepeat_2 : decode q_mPr_writeRepeat.1 2 = .ok (.iload_n 3, 1) := by decide +kernel
theorem d_Pr_writeRepeat_3 : decode q_mPr_writeRepeat.1 3 = .ok (.aload_n 1, 1) := by decide +kernel
theorem d_Pr_writeRepeat_4 : decode q_mPr_writeRepeat.1 4 = .ok (.getfield 66, 3) := by decide +kernel
theorem d_Pr_writeRepeat_7 : decode q_mPr_writeRepeat.1 7 = .ok (.if_icmp .ge 15, 3) := by decide +kernel
theorem d_Pr_writeRepeat_10 : decode q_mPr_writeRepeat.1 10 = .ok (.aload_n 0, 1) := by decide +kernel
theorem d_Pr_writeRepeat_11 : decode q_mPr_writeRepeat.1 11 = .ok (.aload_n 1, 1) := by decide +kernel
theorem d_Pr_writeRepeat_12 : decode q_mPr_writeRepeat.1 12 = .ok (.iload_n 2, 1) := by decide +kernel
theorem d_Pr_writeRepeat_13 : decode q_mPr_writeRepeat.1 13 = .ok (.invokevirtual 69, 3) := by decide +kernel
theorem d_Pr_writeRepeat_16 : decode q_mPr_writeRepeat.1 16 = .ok (.iinc 3 1, 3) := by decide +kernel
theorem d_Pr_writeRepeat_19 : decode q_mPr_writeRepeat.1 19 = .ok (.goto (-17), 3) := by decide +kernel
theorem d_Pr_writeRepeat_22 : decode q_mPr_writeRepeat.1 22 = .ok (.aload_n 1, 1) := by decide +kernel
theorem d_Pr_writeRepeat_23 : decode q_mPr_writeRepeat.1 23 = .ok (.getfield 72, 3) := by decide +kernel
theorem d_Pr_writeRepeat_26 : decode q_mPr_writeRepeat.1 26 = .ok (.ifCond .eq 32, 3) := by decide +kernel
theorem d_Pr_writeRepeat_29 : decode q_mPr_writeRepeat.1 29 = .ok (.aload_n 0, 1) := by decide +kernel
theorem d_Pr_writeRepeat_30 : decode q_mPr_writeRepeat.1 30 = .ok (.getfield 21, 3) := by decide +kernel
theorem d_Pr_writeRepeat_33 : decode q_mPr_writeRepeat.1 33 = .ok (.istore_n 3, 1) := by decide +kernel
theorem d_Pr_writeRepeat_34 : decode q_mPr_writeRepeat.1 34 = .ok (.aload_n 0, 1) := by decide +kernel
theorem d_Pr_writeRepeat_35 : decode q_mPr_writeRepeat.1 35 = .ok (.aload_n 1, 1) := by decide +kernel
theorem d_Pr_writeRepeat_36 : decode q_mPr_writeRepeat.1 36 = .ok (.iload_n 2, 1) := by decide +kernel
theorem d_Pr_writeRepeat_37 : decode q_mPr_writeRepeat.1 37 = .ok (.invokevirtual 69, 3) := by decide +kernel
theorem d_Pr_writeRepeat_40 : decode q_mPr_writeRepeat.1 40 = .ok (.aload_n 0, 1) := by decide +kernel
theorem d_Pr_writeRepeat_41 : decode q_mPr_writeRepeat.1 41 = .ok (.iload_n 3, 1) := by decide +kernel
theorem d_Pr_writeRepeat_42 : decode q_mPr_writeRepeat.1 42 = .ok (.aload_n 0, 1) := by decide +kernel
theorem d_Pr_writeRepeat_43 : decode q_mPr_writeRepeat.1 43 = .ok (.getfield 21, 3) := by decide +kernel
theorem d_Pr_writeRepeat_46 : decode q_mPr_writeRepeat.1 46 = .ok (.iconst 1, 1) := by decide +kernel
theorem d_Pr_writeRepeat_47 : decode q_mPr_writeRepeat.1 47 = .ok (.iadd, 1) := by decide +kernel
theorem d_Pr_writeRepeat_48 : decode q_mPr_writeRepeat.1 48 = .ok (.aload_n 1, 1) := by decide +kernel
theorem d_Pr_writeRepeat_49 : decode q_mPr_writeRepeat.1 49 = .ok (.getfield 76, 3) := by decide +kernel
theorem d_Pr_writeRepeat_52 : decode q_mPr_writeRepeat.1 52 = .ok (.invokevirtual 79, 3) := by decide +kernel
theorem d_Pr_writeRepeat_55 : decode q_mPr_writeRepeat.1 55 = .ok (.goto 114, 3) := by decide +kernel
theorem d_Pr_writeRepeat_58 : decode q_mPr_writeRepeat.1 58 = .ok (.aload_n 1, 1) := by decide +kernel
theorem d_Pr_writeRepeat_59 : decode q_mPr_writeRepeat.1 59 = .ok (.getfield 83, 3) := by decide +kernel
theorem d_Pr_writeRepeat_62 : decode q_mPr_writeRepeat.1 62 = .ok (.ifCond .eq 43, 3) := by decide +kernel
theorem d_Pr_writeRepeat_65 : decode q_mPr_writeRepeat.1 65 = .ok (.aload_n 0, 1) := by decide +kernel
theorem d_Pr_writeRepeat_66 : decode q_mPr_writeRepeat.1 66 = .ok (.getfield 21, 3) := by decide +kernel
theorem d_Pr_writeRepeat_69 : decode q_mPr_writeRepeat.1 69 = .ok (.istore_n 3, 1) := by decide +kernel
theorem d_Pr_writeRepeat_70 : decode q_mPr_writeRepeat.1 70 = .ok (.aload_n 0, 1) := by decide +kernel
theorem d_Pr_writeRepeat_71 : decode q_mPr_writeRepeat.1 71 = .ok (.iload_n 3, 1) := by decide +kernel
theorem d_Pr_writeRepeat_72 : decode q_mPr_writeRepeat.1 72 = .ok (.iconst 1, 1) := by decide +kernel
theorem d_Pr_writeRepeat_73 : decode q_mPr_writeRepeat.1 73 = .ok (.iadd, 1) := by decide +kernel
theorem d_Pr_writeRepeat_74 : decode q_mPr_writeRepeat.1 74 = .ok (.iload_n 3, 1) := by decide +kernel
theorem d_Pr_writeRepeat_75 : decode q_mPr_writeRepeat.1 75 = .ok (.aload_n 1, 1) := by decide +kernel
theorem d_Pr_writeRepeat_76 : decode q_mPr_writeRepeat.1 76 = .ok (.getfield 86, 3) := by decide +kernel
theorem d_Pr_writeRepeat_79 : decode q_mPr_writeRepeat.1 79 = .ok (.iadd, 1) := by decide +kernel
theorem d_Pr_writeRepeat_80 : decode q_mPr_writeRepeat.1 80 = .ok (.iconst 2, 1) := by decide +kernel
theorem d_Pr_writeRepeat_81 : decode q_mPr_writeRepeat.1 81 = .ok (.iadd, 1) := by decide +kernel
theorem d_Pr_writeRepeat_82 : decode q_mPr_writeRepeat.1 82 = .ok (.aload_n 1, 1) := by decide +kernel
theorem d_Pr_writeRepeat_83 : decode q_mPr_writeRepeat.1 83 = .ok (.getfield 76, 3) := by decide +kernel
theorem d_Pr_writeRepeat_86 : decode q_mPr_writeRepeat.1 86 = .ok (.invokevirtual 79, 3) := by decide +kernel
theorem d_Pr_writeRepeat_89 : decode q_mPr_writeRepeat.1 89 = .ok (.aload_n 0, 1) := by decide +kernel
theorem d_Pr_writeRepeat_90 : decode q_mPr_writeRepeat.1 90 = .ok (.aload_n 1, 1) := by decide +kernel
theorem d_Pr_writeRepeat_91 : decode q_mPr_writeRepeat.1 91 = .ok (.iload_n 2, 1) := by decide +kernel
theorem d_Pr_writeRepeat_92 : decode q_mPr_writeRepeat.1 92 = .ok (.invokevirtual 69, 3) := by decide +kernel
theorem d_Pr_writeRepeat_95 : decode q_mPr_writeRepeat.1 95 = .ok (.aload_n 0, 1) := by decide +kernel
theorem d_Pr_writeRepeat_96 : decode q_mPr_writeRepeat.1 96 = .ok (.iconst 2, 1) := by decide +kernel
theorem d_Pr_writeRepeat_97 : decode q_mPr_writeRepeat.1 97 = .ok (.iload_n 3, 1) := by decide +kernel
theorem d_Pr_writeRepeat_98 : decode q_mPr_writeRepeat.1 98 = .ok (.iconst 0, 1) := by decide +kernel
theorem d_Pr_writeRepeat_99 : decode q_mPr_writeRepeat.1 99 = .ok (.invokevirtual 35, 3) := by decide +kernel
theorem d_Pr_writeRepeat_102 : decode q_mPr_writeRepeat.1 102 = .ok (.goto 67, 3) := by decide +kernel
theorem d_Pr_writeRepeat_105 : decode q_mPr_writeRepeat.1 105 = .ok (.aload_n 0, 1) := by decide +kernel
theorem d_Pr_writeRepeat_106 : decode q_mPr_writeRepeat.1 106 = .ok (.getfield 21, 3) := by decide +kernel
theorem d_Pr_writeRepeat_109 : decode q_mPr_writeRepeat.1 109 = .ok (.aload_n 1, 1) := by decide +kernel
theorem d_Pr_writeRepeat_110 : decode q_mPr_writeRepeat.1 110 = .ok (.getfield 89, 3) := by decide +kernel
theorem d_Pr_writeRepeat_113 : decode q_mPr_writeRepeat.1 113 = .ok (.aload_n 1, 1) := by decide +kernel
theorem d_Pr_writeRepeat_114 : decode q_mPr_writeRepeat.1 114 = .ok (.getfield 66, 3) := by decide +kernel
theorem d_Pr_writeRepeat_117 : decode q_mPr_writeRepeat.1 117 = .ok (.isub, 1) := by decide +kernel
theorem d_Pr_writeRepeat_118 : decode q_mPr_writeRepeat.1 118 = .ok (.aload_n 1, 1) := by decide +kernel
theorem d_Pr_writeRepeat_119 : decode q_mPr_writeRepeat.1 119 = .ok (.getfield 86, 3) := by decide +kernel
theorem d_Pr_writeRepeat_122 : decode q_mPr_writeRepeat.1 122 = .ok (.iconst 1, 1) := by decide +kernel
theorem d_Pr_writeRepeat_123 : decode q_mPr_writeRepeat.1 123 = .ok (.iadd, 1) := by decide +kernel
theorem d_Pr_writeRepeat_124 : decode q_mPr_writeRepeat.1 124 = .ok (.imul, 1) := by decide +kernel
theorem d_Pr_writeRepeat_125 : decode q_mPr_writeRepeat.1 125 = .ok (.iadd, 1) := by decide +kernel
theorem d_Pr_writeRepeat_126 : decode q_mPr_writeRepeat.1 126 = .ok (.istore_n 3, 1) := by decide +kernel
theorem d_Pr_writeRepeat_127 : decode q_mPr_writeRepeat.1 127 = .ok (.aload_n 1, 1) := by decide +kernel
theorem d_Pr_writeRepeat_128 : decode q_mPr_writeRepeat.1 128 = .ok (.getfield 66, 3) := by decide +kernel
theorem d_Pr_writeRepeat_131 : decode q_mPr_writeRepeat.1 131 = .ok (.istore 4, 2) := by decide +kernel
theorem d_Pr_writeRepeat_133 : decode q_mPr_writeRepeat.1 133 = .ok (.iload 4, 2) := by decide +kernel
theorem d_Pr_writeRepeat_135 : decode q_mPr_writeRepeat.1 135 = .ok (.aload_n 1, 1) := by decide +kernel
theorem d_Pr_writeRepeat_136 : decode q_mPr_writeRepeat.1 136 = .ok (.getfield 89, 3) := by decide +kernel
theorem d_Pr_writeRepeat_139 : decode q_mPr_writeRepeat.1 139 = .ok (.if_icmp .ge 30, 3) := by decide +kernel
theorem d_Pr_writeRepeat_142 : decode q_mPr_writeRepeat.1 142 = .ok (.aload_n 0, 1) := by decide +kernel
theorem d_Pr_writeRepeat_143 : decode q_mPr_writeRepeat.1 143 = .ok (.aload_n 0, 1) := by decide +kernel
theorem d_Pr_writeRepeat_144 : decode q_mPr_writeRepeat.1 144 = .ok (.getfield 21, 3) := by decide +kernel
theorem d_Pr_writeRepeat_147 : decode q_mPr_writeRepeat.1 147 = .ok (.iconst 1, 1) := by decide +kernel
theorem d_Pr_writeRepeat_148 : decode q_mPr_writeRepeat.1 148 = .ok (.iadd, 1) := by decide +kernel
theorem d_Pr_writeRepeat_149 : decode q_mPr_writeRepeat.1 149 = .ok (.iload_n 3, 1) := by decide +kernel
theorem d_Pr_writeRepeat_150 : decode q_mPr_writeRepeat.1 150 = .ok (.aload_n 1, 1) := by decide +kernel
theorem d_Pr_writeRepeat_151 : decode q_mPr_writeRepeat.1 151 = .ok (.getfield 76, 3) := by decide +kernel
theorem d_Pr_writeRepeat_154 : decode q_mPr_writeRepeat.1 154 = .ok (.invokevirtual 79, 3) := by decide +kernel
theorem d_Pr_writeRepeat_157 : decode q_mPr_writeRepeat.1 157 = .ok (.aload_n 0, 1) := by decide +kernel
theorem d_Pr_writeRepeat_158 : decode q_mPr_writeRepeat.1 158 = .ok (.aload_n 1, 1) := by decide +kernel
theorem d_Pr_writeRepeat_159 : decode q_mPr_writeRepeat.1 159 = .ok (.iload_n 2, 1) := by decide +kernel
theorem d_Pr_writeRepeat_160 : decode q_mPr_writeRepeat.1 160 = .ok (.invokevirtual 69, 3) := by decide +kernel
theorem d_Pr_writeRepeat_163 : decode q_mPr_writeRepeat.1 163 = .ok (.iinc 4 1, 3) := by decide +kernel
theorem d_Pr_writeRepeat_166 : decode q_mPr_writeRepeat.1 166 = .ok (.goto (-33), 3) := by decide +kernel
theorem d_Pr_writeRepeat_169 : decode q_mPr_writeRepeat.1 169 = .ok (.return_, 1) := by decide +kernel
theorem d_Pr_writeAtom_0 : decode q_mPr_writeAtom.1 0 = .ok (.aload_n 1, 1) := by decide +kernel
theorem d_Pr_writeAtom_1 : decode q_mPr_writeAtom.1 1 = .ok (.getfield 86, 3) := by decide +kernel
theorem d_Pr_writeAtom_4 : decode q_mPr_writeAtom.1 4 = .ok (.ifCond .ne 4, 3) := by decide +kernel
theorem d_Pr_writeAtom_7 : decode q_mPr_writeAtom.1 7 = .ok (.return_, 1) := by decide +kernel
theorem d_Pr_writeAtom_8 : decode q_mPr_writeAtom.1 8 = .ok (.aload_n 1, 1) := by decide +kernel
theorem d_Pr_writeAtom_9 : decode q_mPr_writeAtom.1 9 = .ok (.getfield 92, 3) := by decide +kernel
theorem d_Pr_writeAtom_12 : decode q_mPr_writeAtom.1 12 = .ok (.ifnonnull 14, 3) := by decide +kernel
theorem d_Pr_writeAtom_15 : decode q_mPr_writeAtom.1 15 = .ok (.aload_n 0, 1) := by decide +kernel
theorem d_Pr_writeAtom_16 : decode q_mPr_writeAtom.1 16 = .ok (.iconst 0, 1) := by decide +kernel
theorem d_Pr_writeAtom_17 : decode q_mPr_writeAtom.1 17 = .ok (.aload_n 1, 1) := by decide +kernel
theorem d_Pr_writeAtom_18 : decode q_mPr_writeAtom.1 18 = .ok (.getfield 95, 3) := by decide +kernel
theorem d_Pr_writeAtom_21 : decode q_mPr_writeAtom.1 21 = .ok (.iconst 0, 1) := by decide +kernel
theorem d_Pr_writeAtom_22 : decode q_mPr_writeAtom.1 22 = .ok (.invokevirtual 35, 3) := by decide +kernel
theorem d_Pr_writeAtom_25 : decode q_mPr_writeAtom.1 25 = .ok (.return_, 1) := by decide +kernel
theorem d_Pr_writeAtom_26 : decode q_mPr_writeAtom.1 26 = .ok (.aload_n 1, 1) := by decide +kernel
theorem d_Pr_writeAtom_27 : decode q_mPr_writeAtom.1 27 = .ok (.getfield 98, 3) := by decide +kernel
theorem d_Pr_writeAtom_30 : decode q_mPr_writeAtom.1 30 = .ok (.ifCond .le 15, 3) := by decide +kernel
theorem d_Pr_writeAtom_33 : decode q_mPr_writeAtom.1 33 = .ok (.aload_n 0, 1) := by decide +kernel
theorem d_Pr_writeAtom_34 : decode q_mPr_writeAtom.1 34 = .ok (.iconst 3, 1) := by decide +kernel
theorem d_Pr_writeAtom_35 : decode q_mPr_writeAtom.1 35 = .ok (.iconst 2, 1) := by decide +kernel
theorem d_Pr_writeAtom_36 : decode q_mPr_writeAtom.1 36 = .ok (.aload_n 1, 1) := by decide +kernel
theorem d_Pr_writeAtom_37 : decode q_mPr_writeAtom.1 37 = .ok (.getfield 98, 3) := by decide +kernel
theorem d_Pr_writeAtom_40 : decode q_mPr_writeAtom.1 40 = .ok (.imul, 1) := by decide +kernel
theorem d_Pr_writeAtom_41 : decode q_mPr_writeAtom.1 41 = .ok (.iconst 0, 1) := by decide +kernel
theorem d_Pr_writeAtom_42 : decode q_mPr_writeAtom.1 42 = .ok (.invokevirtual 35, 3) := by decide +kernel
theorem d_Pr_writeAtom_45 : decode q_mPr_writeAtom.1 45 = .ok (.aload_n 0, 1) := by decide +kernel
theorem d_Pr_writeAtom_46 : decode q_mPr_writeAtom.1 46 = .ok (.aload_n 1, 1) := by decide +kernel
theorem d_Pr_writeAtom_47 : decode q_mPr_writeAtom.1 47 = .ok (.getfield 92, 3) := by decide +kernel
theorem d_Pr_writeAtom_50 : decode q_mPr_writeAtom.1 50 = .ok (.iload_n 2, 1) := by decide +kernel
theorem d_Pr_writeAtom_51 : decode q_mPr_writeAtom.1 51 = .ok (.iconst 1, 1) := by decide +kernel
theorem d_Pr_writeAtom_52 : decode q_mPr_writeAtom.1 52 = .ok (.iadd, 1) := by decide +kernel
theorem d_Pr_writeAtom_53 : decode q_mPr_writeAtom.1 53 = .ok (.invokevirtual 39, 3) := by decide +kernel
theorem d_Pr_writeAtom_56 : decode q_mPr_writeAtom.1 56 = .ok (.aload_n 1, 1) := by decide +kernel
theorem d_Pr_writeAtom_57 : decode q_mPr_writeAtom.1 57 = .ok (.getfield 98, 3) := by decide +kernel
theorem d_Pr_writeAtom_60 : decode q_mPr_writeAtom.1 60 = .ok (.ifCond .le 17, 3) := by decide +kernel
theorem d_Pr_writeAtom_63 : decode q_mPr_writeAtom.1 63 = .ok (.aload_n 0, 1) := by decide +kernel
theorem d_Pr_writeAtom_64 : decode q_mPr_writeAtom.1 64 = .ok (.iconst 3, 1) := by decide +kernel
theorem d_Pr_writeAtom_65 : decode q_mPr_writeAtom.1 65 = .ok (.iconst 2, 1) := by decide +kernel
theorem d_Pr_writeAtom_66 : decode q_mPr_writeAtom.1 66 = .ok (.aload_n 1, 1) := by decide +kernel
theorem d_Pr_writeAtom_67 : decode q_mPr_writeAtom.1 67 = .ok (.getfield 98, 3) := by decide +kernel
theorem d_Pr_writeAtom_70 : decode q_mPr_writeAtom.1 70 = .ok (.imul, 1) := by decide +kernel
theorem d_Pr_writeAtom_71 : decode q_mPr_writeAtom.1 71 = .ok (.iconst 1, 1) := by decide +kernel
theorem d_Pr_writeAtom_72 : decode q_mPr_writeAtom.1 72 = .ok (.iadd, 1) := by decide +kernel
theorem d_Pr_writeAtom_73 : decode q_mPr_writeAtom.1 73 = .ok (.iconst 0, 1) := by decide +kernel
theorem d_Pr_writeAtom_74 : decode q_mPr_writeAtom.1 74 = .ok (.invokevirtual 35, 3) := by decide +kernel
theorem d_Pr_writeAtom_77 : decode q_mPr_writeAtom.1 77 = .ok (.return_, 1) := by decide +kernel
theorem d_Pr_addSplit_0 : decode q_mPr_addSplit.1 0 = .ok (.aload_n 0, 1) := by decide +kernel
theorem d_Pr_addSplit_1 : decode q_mPr_addSplit.1 1 = .ok (.iconst 1, 1) := by decide +kernel
theorem d_Pr_addSplit_2 : decode q_mPr_addSplit.1 2 = .ok (.iload_n 3, 1) := by decide +kernel
theorem d_Pr_addSplit_3 : decode q_mPr_addSplit.1 3 = .ok (.ifCond .eq 7, 3) := by decide +kernel
theorem d_Pr_addSplit_6 : decode q_mPr_addSplit.1 6 = .ok (.iload_n 2, 1) := by decide +kernel
theorem d_Pr_addSplit_7 : decode q_mPr_addSplit.1 7 = .ok (.goto 4, 3) := by decide +kernel
theorem d_Pr_addSplit_10 : decode q_mPr_addSplit.1 10 = .ok (.iload_n 1, 1) := by decide +kernel
theorem d_Pr_addSplit_11 : decode q_mPr_addSplit.1 11 = .ok (.iload_n 3, 1) := by decide +kernel
theorem d_Pr_addSplit_12 : decode q_mPr_addSplit.1 12 = .ok (.ifCond .eq 7, 3) := by decide +kernel
theorem d_Pr_addSplit_15 : decode q_mPr_addSplit.1 15 = .ok (.iload_n 1, 1) := by decide +kernel
theorem d_Pr_addSplit_16 : decode q_mPr_addSplit.1 16 = .ok (.goto 4, 3) := by decide +kernel
theorem d_Pr_addSplit_19 : decode q_mPr_addSplit.1 19 = .ok (.iload_n 2, 1) := by decide +kernel
theorem d_Pr_addSplit_20 : decode q_mPr_addSplit.1 20 = .ok (.invokevirtual 35, 3) := by decide +kernel
theorem d_Pr_addSplit_23 : decode q_mPr_addSplit.1 23 = .ok (.return_, 1) := by decide +kernel
theorem d_Rp_init_0 : decode q_mRp_init.1 0 = .ok (.aload_n 0, 1) := by decide +kernel
theorem d_Rp_init_1 : decode q_mRp_init.1 1 = .ok (.invokespecial 3, 3) := by decide +kernel
theorem d_Rp_init_4 : decode q_mRp_init.1 4 = .ok (.aload_n 0, 1) := by decide +kernel
theorem d_Rp_init_5 : decode q_mRp_init.1 5 = .ok (.iconst (-1), 1) := by decide +kernel
theorem d_Rp_init_6 : decode q_mRp_init.1 6 = .ok (.putfield 9, 3) := by decide +kernel
theorem d_Rp_init_9 : decode q_mRp_init.1 9 = .ok (.aload_n 0, 1) := by decide +kernel
theorem d_Rp_init_10 : decode q_mRp_init.1 10 = .ok (.aconst_null, 1) := by decide +kernel
theorem d_Rp_init_11 : decode q_mRp_init.1 11 = .ok (.putfield 15, 3) := by decide +kernel
theorem d_Rp_init_14 : decode q_mRp_init.1 14 = .ok (.aload_n 0, 1) := by decide +kernel
theorem d_Rp_init_15 : decode q_mRp_init.1 15 = .ok (.iconst 0, 1) := by decide +kernel
theorem d_Rp_init_16 : decode q_mRp_init.1 16 = .ok (.putfield 19, 3) := by decide +kernel
theorem d_Rp_init_19 : decode q_mRp_init.1 19 = .ok (.aload_n 0, 1) := by decide +kernel
theorem d_Rp_init_20 : decode q_mRp_init.1 20 = .ok (.iconst 1, 1) := by decide +kernel
theorem d_Rp_init_21 : decode q_mRp_init.1 21 = .ok (.putfield 22, 3) := by decide +kernel
theorem d_Rp_init_24 : decode q_mRp_init.1 24 = .ok (.aload_n 0, 1) := by decide +kernel
theorem d_Rp_init_25 : decode q_mRp_init.1 25 = .ok (.iconst 1, 1) := by decide +kernel
theorem d_Rp_init_26 : decode q_mRp_init.1 26 = .ok (.putfield 25, 3) := by decide +kernel
theorem d_Rp_init_29 : decode q_mRp_init.1 29 = .ok (.aload_n 0, 1) := by decide +kernel
theorem d_Rp_init_30 : decode q_mRp_init.1 30 = .ok (.iconst 1, 1) := by decide +kernel
theorem d_Rp_init_31 : decode q_mRp_init.1 31 = .ok (.putfield 28, 3) := by decide +kernel
theorem d_Rp_init_34 : decode q_mRp_init.1 34 = .ok (.aload_n 0, 1) := by decide +kernel
theorem d_Rp_init_35 : decode q_mRp_init.1 35 = .ok (.iconst 0, 1) := by decide +kernel
theorem d_Rp_init_36 : decode q_mRp_init.1 36 = .ok (.putfield 31, 3) := by decide +kernel
theorem d_Rp_init_39 : decode q_mRp_init.1 39 = .ok (.aload_n 0, 1) := by decide +kernel
theorem d_Rp_init_40 : decode q_mRp_init.1 40 = .ok (.iconst 0, 1) := by decide +kernel
theorem d_Rp_init_41 : decode q_mRp_init.1 41 = .ok (.putfield 35, 3) := by decide +kernel
theorem d_Rp_init_44 : decode q_mRp_init.1 44 = .ok (.aload_n 0, 1) := by decide +kernel
theorem d_Rp_init_45 : decode q_mRp_init.1 45 = .ok (.iconst 0, 1) := by decide +kernel
theorem d_Rp_init_46 : decode q_mRp_init.1 46 = .ok (.putfield 38, 3) := by decide +kernel
theorem d_Rp_init_49 : decode q_mRp_init.1 49 = .ok (.aload_n 0, 1) := by decide +kernel
theorem d_Rp_init_50 : decode q_mRp_init.1 50 = .ok (.aconst_null, 1) := by decide +kernel
theorem d_Rp_init_51 : decode q_mRp_init.1 51 = .ok (.putfield 41, 3) := by decide +kernel
theorem d_Rp_init_54 : decode q_mRp_init.1 54 = .ok (.return_, 1) := by decide +kernel
theorem d_Rp_size_0 : decode q_mRp_size.1 0 = .ok (.aload_n 0, 1) := by decide +kernel
theorem d_Rp_size_1 : decode q_mRp_size.1 1 = .ok (.getfield 35, 3) := by decide +kernel
theorem d_Rp_size_4 : decode q_mRp_size.1 4 = .ok (.ifCond .eq 10, 3) := by decide +kernel
theorem d_Rp_size_7 : decode q_mRp_size.1 7 = .ok (.aload_n 0, 1) := by decide +kernel
theorem d_Rp_size_8 : decode q_mRp_size.1 8 = .ok (.getfield 22, 3) := by decide +kernel
theorem d_Rp_size_11 : decode q_mRp_size.1 11 = .ok (.iconst 1, 1) := by decide +kernel
theorem d_Rp_size_12 : decode q_mRp_size.1 12 = .ok (.iadd, 1) := by decide +kernel
theorem d_Rp_size_13 : decode q_mRp_size.1 13 = .ok (.ireturn, 1) := by decide +kernel
theorem d_Rp_size_14 : decode q_mRp_size.1 14 = .ok (.aload_n 0, 1) := by decide +kernel
theorem d_Rp_size_15 : decode q_mRp_size.1 15 = .ok (.getfield 31, 3) := by decide +kernel
theorem d_Rp_size_18 : decode q_mRp_size.1 18 = .ok (.ifCond .eq 17, 3) := by decide +kernel
theorem d_Rp_size_21 : decode q_mRp_size.1 21 = .ok (.aload_n 0, 1) := by decide +kernel
theorem d_Rp_size_22 : decode q_mRp_size.1 22 = .ok (.getfield 25, 3) := by decide +kernel
theorem d_Rp_size_25 : decode q_mRp_size.1 25 = .ok (.iconst 1, 1) := by decide +kernel
theorem d_Rp_size_26 : decode q_mRp_size.1 26 = .ok (.iadd, 1) := by decide +kernel
theorem d_Rp_size_27 : decode q_mRp_size.1 27 = .ok (.aload_n 0, 1) := by decide +kernel
theorem d_Rp_size_28 : decode q_mRp_size.1 28 = .ok (.getfield 22, 3) := by decide +kernel
theorem d_Rp_size_31 : decode q_mRp_size.1 31 = .ok (.imul, 1) := by decide +kernel
theorem d_Rp_size_32 : decode q_mRp_size.1 32 = .ok (.iconst 2, 1) := by decide +kernel
theorem d_Rp_size_33 : decode q_mRp_size.1 33 = .ok (.iadd, 1) := by decide +kernel
theorem d_Rp_size_34 : decode q_mRp_size.1 34 = .ok (.ireturn, 1) := by decide +kernel
theorem d_Rp_size_35 : decode q_mRp_size.1 35 = .ok (.aload_n 0, 1) := by decide +kernel
theorem d_Rp_size_36 : decode q_mRp_size.1 36 = .ok (.getfield 25, 3) := by decide +kernel
theorem d_Rp_size_39 : decode q_mRp_size.1 39 = .ok (.aload_n 0, 1) := by decide +kernel
theorem d_Rp_size_40 : decode q_mRp_size.1 40 = .ok (.getfield 22, 3) := by decide +kernel
theorem d_Rp_size_43 : decode q_mRp_size.1 43 = .ok (.imul, 1) := by decide +kernel
theorem d_Rp_size_44 : decode q_mRp_size.1 44 = .ok (.aload_n 0, 1) := by decide +kernel
theorem d_Rp_size_45 : decode q_mRp_size.1 45 = .ok (.getfield 28, 3) := by decide +kernel
theorem d_Rp_size_48 : decode q_mRp_size.1 48 = .ok (.aload_n 0, 1) := by decide +kernel
theorem d_Rp_size_49 : decode q_mRp_size.1 49 = .ok (.getfield 25, 3) := by decide +kernel
theorem d_Rp_size_52 : decode q_mRp_size.1 52 = .ok (.isub, 1) := by decide +kernel
theorem d_Rp_size_53 : decode q_mRp_size.1 53 = .ok (.aload_n 0, 1) := by decide +kernel
theorem d_Rp_size_54 : decode q_mRp_size.1 54 = .ok (.getfield 22, 3) := by decide +kernel
theorem d_Rp_size_57 : decode q_mRp_size.1 57 = .ok (.iconst 1, 1) := by decide +kernel
theorem d_Rp_size_58 : decode q_mRp_size.1 58 = .ok (.iadd, 1) := by decide +kernel
theorem d_Rp_size_59 : decode q_mRp_size.1 59 = .ok (.imul, 1) := by decide +kernel
theorem d_Rp_size_60 : decode q_mRp_size.1 60 = .ok (.iadd, 1) := by decide +kernel
theorem d_Rp_size_61 : decode q_mRp_size.1 61 = .ok (.ireturn, 1) := by decide +kernel
theorem d_Rw_init_0 : decode q_mRw_init.1 0 = .ok (.aload_n 0, 1) := by decide +kernel
theorem d_Rw_init_1 : decode q_mRw_init.1 1 = .ok (.invokespecial 1, 3) := by decide +kernel
theorem d_Rw_init_4 : decode q_mRw_init.1 4 = .ok (.aload_n 0, 1) := by decide +kernel
theorem d_Rw_init_5 : decode q_mRw_init.1 5 = .ok (.aconst_null, 1) := by decide +kernel
theorem d_Rw_init_6 : decode q_mRw_init.1 6 = .ok (.putfield 7, 3) := by decide +kernel
theorem d_Rw_init_9 : decode q_mRw_init.1 9 = .ok (.aload_n 0, 1) := by decide +kernel
theorem d_Rw_init_10 : decode q_mRw_init.1 10 = .ok (.aconst_null, 1) := by decide +kernel
theorem d_Rw_init_11 : decode q_mRw_init.1 11 = .ok (.putfield 13, 3) := by decide +kernel
theorem d_Rw_init_14 : decode q_mRw_init.1 14 = .ok (.aload_n 0, 1) := by decide +kernel
theorem d_Rw_init_15 : decode q_mRw_init.1 15 = .ok (.aconst_null, 1) := by decide +kernel
theorem d_Rw_init_16 : decode q_mRw_init.1 16 = .ok (.putfield 16, 3) := by decide +kernel
theorem d_Rw_init_19 : decode q_mRw_init.1 19 = .ok (.aload_n 0, 1) := by decide +kernel
theorem d_Rw_init_20 : decode q_mRw_init.1 20 = .ok (.iconst 0, 1) := by decide +kernel
theorem d_Rw_init_21 : decode q_mRw_init.1 21 = .ok (.putfield 20, 3) := by decide +kernel
theorem d_Rw_init_24 : decode q_mRw_init.1 24 = .ok (.return_, 1) := by decide +kernel
theorem d_Rw_sizeAsChoice_0 : decode q_mRw_sizeAsChoice.1 0 = .ok (.aload_n 0, 1) := by decide +kernel
theorem d_Rw_sizeAsChoice_1 : decode q_mRw_sizeAsChoice.1 1 = .ok (.getfield 20, 3) := by decide +kernel
theorem d_Rw_sizeAsChoice_4 : decode q_mRw_sizeAsChoice.1 4 = .ok (.istore_n 1, 1) := by decide +kernel
theorem d_Rw_sizeAsChoice_5 : decode q_mRw_sizeAsChoice.1 5 = .ok (.aload_n 0, 1) := by decide +kernel
theorem d_Rw_sizeAsChoice_6 : decode q_mRw_sizeAsChoice.1 6 = .ok (.getfield 16, 3) := by decide +kernel
theorem d_Rw_sizeAsChoice_9 : decode q_mRw_sizeAsChoice.1 9 = .ok (.astore_n 2, 1) := by decide +kernel
theorem d_Rw_sizeAsChoice_10 : decode q_mRw_sizeAsChoice.1 10 = .ok (.aload_n 2, 1) := by decide +kernel
theorem d_Rw_sizeAsChoice_11 : decode q_mRw_sizeAsChoice.1 11 = .ok (.ifnull 26, 3) := by decide +kernel
theorem d_Rw_sizeAsChoice_14 : decode q_mRw_sizeAsChoice.1 14 = .ok (.sipush 1000, 3) := by decide +kernel
theorem d_Rw_sizeAsChoice_17 : decode q_mRw_sizeAsChoice.1 17 = .ok (.iload_n 1, 1) := by decide +kernel
theorem d_Rw_sizeAsChoice_18 : decode q_mRw_sizeAsChoice.1 18 = .ok (.iconst 2, 1) := by decide +kernel
theorem d_Rw_sizeAsChoice_19 : decode q_mRw_sizeAsChoice.1 19 = .ok (.iadd, 1) := by decide +kernel
theorem d_Rw_sizeAsChoice_20 : decode q_mRw_sizeAsChoice.1 20 = .ok (.aload_n 2, 1) := by decide +kernel
theorem d_Rw_sizeAsChoice_21 : decode q_mRw_sizeAsChoice.1 21 = .ok (.getfield 20, 3) := by decide +kernel
theorem d_Rw_sizeAsChoice_24 : decode q_mRw_sizeAsChoice.1 24 = .ok (.iadd, 1) := by decide +kernel
theorem d_Rw_sizeAsChoice_25 : decode q_mRw_sizeAsChoice.1 25 = .ok (.invokestatic 31, 3) := by decide +kernel
theorem d_Rw_sizeAsChoice_28 : decode q_mRw_sizeAsChoice.1 28 = .ok (.istore_n 1, 1) := by decide +kernel
theorem d_Rw_sizeAsChoice_29 : decode q_mRw_sizeAsChoice.1 29 = .ok (.aload_n 2, 1) := by decide +kernel
theorem d_Rw_sizeAsChoice_30 : decode q_mRw_sizeAsChoice.1 30 = .ok (.getfield 16, 3) := by decide +kernel
theorem d_Rw_sizeAsChoice_33 : decode q_mRw_sizeAsChoice.1 33 = .ok (.astore_n 2, 1) := by decide +kernel
theorem d_Rw_sizeAsChoice_34 : decode q_mRw_sizeAsChoice.1 34 = .ok (.goto (-24), 3) := by decide +kernel
theorem d_Rw_sizeAsChoice_37 : decode q_mRw_sizeAsChoice.1 37 = .ok (.iload_n 1, 1) := by decide +kernel
theorem d_Rw_sizeAsChoice_38 : decode q_mRw_sizeAsChoice.1 38 = .ok (.ireturn, 1) := by decide +kernel
theorem d_Rw_append_0 : decode q_mRw_append.1 0 = .ok (.aload_n 0, 1) := by decide +kernel
theorem d_Rw_append_1 : decode q_mRw_append.1 1 = .ok (.getfield 13, 3) := by decide +kernel
theorem d_Rw_append_4 : decode q_mRw_append.1 4 = .ok (.ifnonnull 11, 3) := by decide +kernel
theorem d_Rw_append_7 : decode q_mRw_append.1 7 = .ok (.aload_n 0, 1) := by decide +kernel
theorem d_Rw_append_8 : decode q_mRw_append.1 8 = .ok (.aload_n 1, 1) := by decide +kernel
theorem d_Rw_append_9 : decode q_mRw_append.1 9 = .ok (.putfield 7, 3) := by decide +kernel
theorem d_Rw_append_12 : decode q_mRw_append.1 12 = .ok (.goto 11, 3) := by decide +kernel
theorem d_Rw_append_15 : decode q_mRw_append.1 15 = .ok (.aload_n 0, 1) := by decide +kernel
theorem d_Rw_append_16 : decode q_mRw_append.1 16 = .ok (.getfield 13, 3) := by decide +kernel
theorem d_Rw_append_19 : decode q_mRw_append.1 19 = .ok (.aload_n 1, 1) := by decide +kernel
theorem d_Rw_append_20 : decode q_mRw_append.1 20 = .ok (.putfield 24, 3) := by decide +kernel
theorem d_Rw_append_23 : decode q_mRw_append.1 23 = .ok (.aload_n 0, 1) := by decide +kernel
theorem d_Rw_append_24 : decode q_mRw_append.1 24 = .ok (.aload_n 1, 1) := by decide +kernel
theorem d_Rw_append_25 : decode q_mRw_append.1 25 = .ok (.putfield 13, 3) := by decide +kernel
theorem d_Rw_append_28 : decode q_mRw_append.1 28 = .ok (.aload_n 0, 1) := by decide +kernel
theorem d_Rw_append_29 : decode q_mRw_append.1 29 = .ok (.sipush 1000, 3) := by decide +kernel
theorem d_Rw_append_32 : decode q_mRw_append.1 32 = .ok (.aload_n 0, 1) := by decide +kernel
theorem d_Rw_append_33 : decode q_mRw_append.1 33 = .ok (.getfield 20, 3) := by decide +kernel
theorem d_Rw_append_36 : decode q_mRw_append.1 36 = .ok (.aload_n 1, 1) := by decide +kernel
theorem d_Rw_append_37 : decode q_mRw_append.1 37 = .ok (.invokevirtual 28, 3) := by decide +kernel
theorem d_Rw_append_40 : decode q_mRw_append.1 40 = .ok (.iadd, 1) := by decide +kernel
theorem d_Rw_append_41 : decode q_mRw_append.1 41 = .ok (.invokestatic 31, 3) := by decide +kernel
theorem d_Rw_append_44 : decode q_mRw_append.1 44 = .ok (.putfield 20, 3) := by decide +kernel
theorem d_Rw_append_47 : decode q_mRw_append.1 47 = .ok (.return_, 1) := by decide +kernel
theorem d_Wk_init_0 : decode q_mWk_init.1 0 = .ok (.aload_n 0, 1) := by decide +kernel
theorem d_Wk_init_1 : decode q_mWk_init.1 1 = .ok (.invokespecial 3, 3) := by decide +kernel
theorem d_Wk_init_4 : decode q_mWk_init.1 4 = .ok (.aload_n 0, 1) := by decide +kernel
theorem d_Wk_init_5 : decode q_mWk_init.1 5 = .ok (.new 9, 3) := by decide +kernel
theorem d_Wk_init_8 : decode q_mWk_init.1 8 = .ok (.dup, 1) := by decide +kernel
theorem d_Wk_init_9 : decode q_mWk_init.1 9 = .ok (.invokespecial 11, 3) := by decide +kernel
theorem d_Wk_init_12 : decode q_mWk_init.1 12 = .ok (.putfield 12, 3) := by decide +kernel
theorem d_Wk_init_15 : decode q_mWk_init.1 15 = .ok (.aload_n 0, 1) := by decide +kernel
theorem d_Wk_init_16 : decode q_mWk_init.1 16 = .ok (.new 9, 3) := by decide +kernel
theorem d_Wk_init_19 : decode q_mWk_init.1 19 = .ok (.dup, 1) := by decide +kernel
theorem d_Wk_init_20 : decode q_mWk_init.1 20 = .ok (.invokespecial 11, 3) := by decide +kernel
theorem d_Wk_init_23 : decode q_mWk_init.1 23 = .ok (.putfield 18, 3) := by decide +kernel
theorem d_Wk_init_26 : decode q_mWk_init.1 26 = .ok (.aload_n 0, 1) := by decide +kernel
theorem d_Wk_init_27 : decode q_mWk_init.1 27 = .ok (.sipush 160, 3) := by decide +kernel
theorem d_Wk_init_30 : decode q_mWk_init.1 30 = .ok (.newarray .int, 2) := by decide +kernel
theorem d_Wk_init_32 : decode q_mWk_init.1 32 = .ok (.putfield 21, 3) := by decide +kernel
theorem d_Wk_init_35 : decode q_mWk_init.1 35 = .ok (.aload_n 0, 1) := by decide +kernel
theorem d_Wk_init_36 : decode q_mWk_init.1 36 = .ok (.sipush 321, 3) := by decide +kernel
theorem d_Wk_init_39 : decode q_mWk_init.1 39 = .ok (.newarray .int, 2) := by decide +kernel
theorem d_Wk_init_41 : decode q_mWk_init.1 41 = .ok (.putfield 25, 3) := by decide +kernel
theorem d_Wk_init_44 : decode q_mWk_init.1 44 = .ok (.aload_n 0, 1) := by decide +kernel
theorem d_Wk_init_45 : decode q_mWk_init.1 45 = .ok (.sipush 321, 3) := by decide +kernel
theorem d_Wk_init_48 : decode q_mWk_init.1 48 = .ok (.newarray .int, 2) := by decide +kernel
theorem d_Wk_init_50 : decode q_mWk_init.1 50 = .ok (.putfield 28, 3) := by decide +kernel
theorem d_Wk_init_53 : decode q_mWk_init.1 53 = .ok (.aload_n 0, 1) := by decide +kernel
theorem d_Wk_init_54 : decode q_mWk_init.1 54 = .ok (.iconst 0, 1) := by decide +kernel
theorem d_Wk_init_55 : decode q_mWk_init.1 55 = .ok (.putfield 31, 3) := by decide +kernel
theorem d_Wk_init_58 : decode q_mWk_init.1 58 = .ok (.aload_n 0, 1) := by decide +kernel
theorem d_Wk_init_59 : decode q_mWk_init.1 59 = .ok (.bipush 14, 2) := by decide +kernel
theorem d_Wk_init_61 : decode q_mWk_init.1 61 = .ok (.newarray .int, 2) := by decide +kernel
theorem d_Wk_init_63 : decode q_mWk_init.1 63 = .ok (.putfield 35, 3) := by decide +kernel
theorem d_Wk_init_66 : decode q_mWk_init.1 66 = .ok (.aload_n 0, 1) := by decide +kernel
theorem d_Wk_init_67 : decode q_mWk_init.1 67 = .ok (.bipush 14, 2) := by decide +kernel
theorem d_Wk_init_69 : decode q_mWk_init.1 69 = .ok (.newarray .int, 2) := by decide +kernel
theorem d_Wk_init_71 : decode q_mWk_init.1 71 = .ok (.putfield 38, 3) := by decide +kernel
theorem d_Wk_init_74 : decode q_mWk_init.1 74 = .ok (.aload_n 0, 1) := by decide +kernel
theorem d_Wk_init_75 : decode q_mWk_init.1 75 = .ok (.iconst 0, 1) := by decide +kernel
theorem d_Wk_init_76 : decode q_mWk_init.1 76 = .ok (.putfield 41, 3) := by decide +kernel
theorem d_Wk_init_79 : decode q_mWk_init.1 79 = .ok (.aload_n 0, 1) := by decide +kernel
theorem d_Wk_init_80 : decode q_mWk_init.1 80 = .ok (.iconst 0, 1) := by decide +kernel
theorem d_Wk_init_81 : decode q_mWk_init.1 81 = .ok (.putfield 45, 3) := by decide +kernel
theorem d_Wk_init_84 : decode q_mWk_init.1 84 = .ok (.aload_n 0, 1) := by decide +kernel
theorem d_Wk_init_85 : decode q_mWk_init.1 85 = .ok (.iconst 0, 1) := by decide +kernel
theorem d_Wk_init_86 : decode q_mWk_init.1 86 = .ok (.putfield 48, 3) := by decide +kernel
theorem d_Wk_init_89 : decode q_mWk_init.1 89 = .ok (.aload_n 0, 1) := by decide +kernel
theorem d_Wk_init_90 : decode q_mWk_init.1 90 = .ok (.iconst 0, 1) := by decide +kernel
theorem d_Wk_init_91 : decode q_mWk_init.1 91 = .ok (.putfield 51, 3) := by decide +kernel
theorem d_Wk_init_94 : decode q_mWk_init.1 94 = .ok (.aload_n 0, 1) := by decide +kernel
theorem d_Wk_init_95 : decode q_mWk_init.1 95 = .ok (.iconst 0, 1) := by decide +kernel
theorem d_Wk_init_96 : decode q_mWk_init.1 96 = .ok (.putfield 54, 3) := by decide +kernel
theorem d_Wk_init_99 : decode q_mWk_init.1 99 = .ok (.aload_n 0, 1) := by decide +kernel
theorem d_Wk_init_100 : decode q_mWk_init.1 100 = .ok (.aload_n 1, 1) := by decide +kernel
theorem d_Wk_init_101 : decode q_mWk_init.1 101 = .ok (.putfield 57, 3) := by decide +kernel
theorem d_Wk_init_104 : decode q_mWk_init.1 104 = .ok (.aload_n 0, 1) := by decide +kernel
theorem d_Wk_init_105 : decode q_mWk_init.1 105 = .ok (.aload_n 2, 1) := by decide +kernel
theorem d_Wk_init_106 : decode q_mWk_init.1 106 = .ok (.putfield 61, 3) := by decide +kernel
theorem d_Wk_init_109 : decode q_mWk_init.1 109 = .ok (.return_, 1) := by decide +kernel
theorem d_Wk_end_0 : decode q_mWk_end.1 0 = .ok (.aload_n 0, 1) := by decide +kernel
theorem d_Wk_end_1 : decode q_mWk_end.1 1 = .ok (.iconst 0, 1) := by decide +kernel
theorem d_Wk_end_2 : decode q_mWk_end.1 2 = .ok (.putfield 41, 3) := by decide +kernel
theorem d_Wk_end_5 : decode q_mWk_end.1 5 = .ok (.return_, 1) := by decide +kernel
theorem d_Wk_begin_0 : decode q_mWk_begin.1 0 = .ok (.aload_n 0, 1) := by decide +kernel
theorem d_Wk_begin_1 : decode q_mWk_begin.1 1 = .ok (.iconst 1, 1) := by decide +kernel
theorem d_Wk_begin_2 : decode q_mWk_begin.1 2 = .ok (.putfield 41, 3) := by decide +kernel
theorem d_Wk_begin_5 : decode q_mWk_begin.1 5 = .ok (.aload_n 0, 1) := by decide +kernel
theorem d_Wk_begin_6 : decode q_mWk_begin.1 6 = .ok (.iload_n 1, 1) := by decide +kernel
theorem d_Wk_begin_7 : decode q_mWk_begin.1 7 = .ok (.putfield 45, 3) := by decide +kernel
theorem d_Wk_begin_10 : decode q_mWk_begin.1 10 = .ok (.aload_n 0, 1) := by decide +kernel
theorem d_Wk_begin_11 : decode q_mWk_begin.1 11 = .ok (.iconst 0, 1) := by decide +kernel
theorem d_Wk_begin_12 : decode q_mWk_begin.1 12 = .ok (.putfield 48, 3) := by decide +kernel
theorem d_Wk_begin_15 : decode q_mWk_begin.1 15 = .ok (.aload_n 0, 1) := by decide +kernel
theorem d_Wk_begin_16 : decode q_mWk_begin.1 16 = .ok (.iconst 0, 1) := by decide +kernel
theorem d_Wk_begin_17 : decode q_mWk_begin.1 17 = .ok (.putfield 51, 3) := by decide +kernel
theorem d_Wk_begin_20 : decode q_mWk_begin.1 20 = .ok (.aload_n 0, 1) := by decide +kernel
theorem d_Wk_begin_21 : decode q_mWk_begin.1 21 = .ok (.iconst 0, 1) := by decide +kernel
theorem d_Wk_begin_22 : decode q_mWk_begin.1 22 = .ok (.putfield 54, 3) := by decide +kernel
theorem d_Wk_begin_25 : decode q_mWk_begin.1 25 = .ok (.aload_n 0, 1) := by decide +kernel
theorem d_Wk_begin_26 : decode q_mWk_begin.1 26 = .ok (.getfield 12, 3) := by decide +kernel
theorem d_Wk_begin_29 : decode q_mWk_begin.1 29 = .ok (.iconst 0, 1) := by decide +kernel
theorem d_Wk_begin_30 : decode q_mWk_begin.1 30 = .ok (.putfield 65, 3) := by decide +kernel
theorem d_Wk_begin_33 : decode q_mWk_begin.1 33 = .ok (.aload_n 0, 1) := by decide +kernel
theorem d_Wk_begin_34 : decode q_mWk_begin.1 34 = .ok (.getfield 21, 3) := by decide +kernel
theorem d_Wk_begin_37 : decode q_mWk_begin.1 37 = .ok (.iconst (-1), 1) := by decide +kernel
theorem d_Wk_begin_38 : decode q_mWk_begin.1 38 = .ok (.invokestatic 68, 3) := by decide +kernel
theorem d_Wk_begin_41 : decode q_mWk_begin.1 41 = .ok (.aload_n 0, 1) := by decide +kernel
theorem d_Wk_begin_42 : decode q_mWk_begin.1 42 = .ok (.invokevirtual 74, 3) := by decide +kernel
theorem d_Wk_begin_45 : decode q_mWk_begin.1 45 = .ok (.return_, 1) := by decide +kernel
theorem d_Wk_followFromStart_0 : decode q_mWk_followFromStart.1 0 = .ok (.aload_n 0, 1) := by decide +kernel
theorem d_Wk_followFromStart_1 : decode q_mWk_followFromStart.1 1 = .ok (.getfield 35, 3) := by decide +kernel
theorem d_Wk_followFromStart_4 : decode q_mWk_followFromStart.1 4 = .ok (.iconst (-1), 1) := by decide +kernel
theorem d_Wk_followFromStart_5 : decode q_mWk_followFromStart.1 5 = .ok (.invokestatic 68, 3) := by decide +kernel
theorem d_Wk_followFromStart_8 : decode q_mWk_followFromStart.1 8 = .ok (.aload_n 0, 1) := by decide +kernel
theorem d_Wk_followFromStart_9 : decode q_mWk_followFromStart.1 9 = .ok (.iconst 0, 1) := by decide +kernel
theorem d_Wk_followFromStart_10 : decode q_mWk_followFromStart.1 10 = .ok (.invokevirtual 96, 3) := by decide +kernel
theorem d_Wk_followFromStart_13 : decode q_mWk_followFromStart.1 13 = .ok (.return_, 1) := by decide +kernel
theorem d_Wk_follow_0 : decode q_mWk_follow.1 0 = .ok (.aload_n 0, 1) := by decide +kernel
theorem d_Wk_follow_1 : decode q_mWk_follow.1 1 = .ok (.iconst 0, 1) := by decide +kernel
theorem d_Wk_follow_2 : decode q_mWk_follow.1 2 = .ok (.putfield 31, 3) := by decide +kernel
theorem d_Wk_follow_5 : decode q_mWk_follow.1 5 = .ok (.aload_n 0, 1) := by decide +kernel
theorem d_Wk_follow_6 : decode q_mWk_follow.1 6 = .ok (.iload_n 1, 1) := by decide +kernel
theorem d_Wk_follow_7 : decode q_mWk_follow.1 7 = .ok (.iconst 0, 1) := by decide +kernel
theorem d_Wk_follow_8 : decode q_mWk_follow.1 8 = .ok (.invokevirtual 100, 3) := by decide +kernel
theorem d_Wk_follow_11 : decode q_mWk_follow.1 11 = .ok (.iconst 0, 1) := by decide +kernel
theorem d_Wk_follow_12 : decode q_mWk_follow.1 12 = .ok (.istore_n 2, 1) := by decide +kernel
theorem d_Wk_follow_13 : decode q_mWk_follow.1 13 = .ok (.iload_n 2, 1) := by decide +kernel
theorem d_Wk_follow_14 : decode q_mWk_follow.1 14 = .ok (.sipush 321, 3) := by decide +kernel
theorem d_Wk_follow_17 : decode q_mWk_follow.1 17 = .ok (.if_icmp .ge 81, 3) := by decide +kernel
theorem d_Wk_follow_20 : decode q_mWk_follow.1 20 = .ok (.aload_n 0, 1) := by decide +kernel
theorem d_Wk_follow_21 : decode q_mWk_follow.1 21 = .ok (.getfield 31, 3) := by decide +kernel
theorem d_Wk_follow_24 : decode q_mWk_follow.1 24 = .ok (.ifCond .le 74, 3) := by decide +kernel
theorem d_Wk_follow_27 : decode q_mWk_follow.1 27 = .ok (.aload_n 0, 1) := by decide +kernel
theorem d_Wk_follow_28 : decode q_mWk_follow.1 28 = .ok (.getfield 31, 3) := by decide +kernel
theorem d_Wk_follow_31 : decode q_mWk_follow.1 31 = .ok (.sipush 321, 3) := by decide +kernel
theorem d_Wk_follow_34 : decode q_mWk_follow.1 34 = .ok (.if_icmp .gt 64, 3) := by decide +kernel
theorem d_Wk_follow_37 : decode q_mWk_follow.1 37 = .ok (.aload_n 0, 1) := by decide +kernel
theorem d_Wk_follow_38 : decode q_mWk_follow.1 38 = .ok (.getfield 51, 3) := by decide +kernel
theorem d_Wk_follow_41 : decode q_mWk_follow.1 41 = .ok (.ifCond .ne 57, 3) := by decide +kernel
theorem d_Wk_follow_44 : decode q_mWk_follow.1 44 = .ok (.aload_n 0, 1) := by decide +kernel
theorem d_Wk_follow_45 : decode q_mWk_follow.1 45 = .ok (.dup, 1) := by decide +kernel
theorem d_Wk_follow_46 : decode q_mWk_follow.1 46 = .ok (.getfield 31, 3) := by decide +kernel
theorem d_Wk_follow_49 : decode q_mWk_follow.1 49 = .ok (.iconst 1, 1) := by decide +kernel
theorem d_Wk_follow_50 : decode q_mWk_follow.1 50 = .ok (.isub, 1) := by decide +kernel
theorem d_Wk_follow_51 : decode q_mWk_follow.1 51 = .ok (.putfield 31, 3) := by decide +kernel
theorem d_Wk_follow_54 : decode q_mWk_follow.1 54 = .ok (.aload_n 0, 1) := by decide +kernel
theorem d_Wk_follow_55 : decode q_mWk_follow.1 55 = .ok (.getfield 25, 3) := by decide +kernel
theorem d_Wk_follow_58 : decode q_mWk_follow.1 58 = .ok (.aload_n 0, 1) := by decide +kernel
theorem d_Wk_follow_59 : decode q_mWk_follow.1 59 = .ok (.getfield 31, 3) := by decide +kernel
theorem d_Wk_follow_62 : decode q_mWk_follow.1 62 = .ok (.iaload, 1) := by decide +kernel
theorem d_Wk_follow_63 : decode q_mWk_follow.1 63 = .ok (.istore_n 3, 1) := by decide +kernel
theorem d_Wk_follow_64 : decode q_mWk_follow.1 64 = .ok (.iload_n 3, 1) := by decide +kernel
theorem d_Wk_follow_65 : decode q_mWk_follow.1 65 = .ok (.ifCond .lt 11, 3) := by decide +kernel
theorem d_Wk_follow_68 : decode q_mWk_follow.1 68 = .ok (.aload_n 0, 1) := by decide +kernel
theorem d_Wk_follow_69 : decode q_mWk_follow.1 69 = .ok (.iload_n 3, 1) := by decide +kernel
theorem d_Wk_follow_70 : decode q_mWk_follow.1 70 = .ok (.invokevirtual 104, 3) := by decide +kernel
theorem d_Wk_follow_73 : decode q_mWk_follow.1 73 = .ok (.goto 19, 3) := by decide +kernel
theorem d_Wk_follow_76 : decode q_mWk_follow.1 76 = .ok (.aload_n 0, 1) := by decide +kernel
theorem d_Wk_follow_77 : decode q_mWk_follow.1 77 = .ok (.iconst (-1), 1) := by decide +kernel
theorem d_Wk_follow_78 : decode q_mWk_follow.1 78 = .ok (.iload_n 3, 1) := by decide +kernel
theorem d_Wk_follow_79 : decode q_mWk_follow.1 79 = .ok (.isub, 1) := by decide +kernel
theorem d_Wk_follow_80 : decode q_mWk_follow.1 80 = .ok (.aload_n 0, 1) := by decide +kernel
theorem d_Wk_follow_81 : decode q_mWk_follow.1 81 = .ok (.getfield 28, 3) := by decide +kernel
theorem d_Wk_follow_84 : decode q_mWk_follow.1 84 = .ok (.aload_n 0, 1) := by decide +kernel
theorem d_Wk_follow_85 : decode q_mWk_follow.1 85 = .ok (.getfield 31, 3) := by decide +kernel
theorem d_Wk_follow_88 : decode q_mWk_follow.1 88 = .ok (.iaload, 1) := by decide +kernel
theorem d_Wk_follow_89 : decode q_mWk_follow.1 89 = .ok (.invokevirtual 107, 3) := by decide +kernel
theorem d_Wk_follow_92 : decode q_mWk_follow.1 92 = .ok (.iinc 2 1, 3) := by decide +kernel
theorem d_Wk_follow_95 : decode q_mWk_follow.1 95 = .ok (.goto (-82), 3) := by decide +kernel
theorem d_Wk_follow_98 : decode q_mWk_follow.1 98 = .ok (.return_, 1) := by decide +kernel
theorem d_Wk_push_0 : decode q_mWk_push.1 0 = .ok (.aload_n 0, 1) := by decide +kernel
theorem d_Wk_push_1 : decode q_mWk_push.1 1 = .ok (.getfield 31, 3) := by decide +kernel
theorem d_Wk_push_4 : decode q_mWk_push.1 4 = .ok (.ifCond .lt 13, 3) := by decide +kernel
theorem d_Wk_push_7 : decode q_mWk_push.1 7 = .ok (.aload_n 0, 1) := by decide +kernel
theorem d_Wk_push_8 : decode q_mWk_push.1 8 = .ok (.getfield 31, 3) := by decide +kernel
theorem d_Wk_push_11 : decode q_mWk_push.1 11 = .ok (.sipush 321, 3) := by decide +kernel
theorem d_Wk_push_14 : decode q_mWk_push.1 14 = .ok (.if_icmp .lt 4, 3) := by decide +kernel
theorem d_Wk_push_17 : decode q_mWk_push.1 17 = .ok (.return_, 1) := by decide +kernel
theorem d_Wk_push_18 : decode q_mWk_push.1 18 = .ok (.aload_n 0, 1) := by decide +kernel
theorem d_Wk_push_19 : decode q_mWk_push.1 19 = .ok (.getfield 25, 3) := by decide +kernel
theorem d_Wk_push_22 : decode q_mWk_push.1 22 = .ok (.aload_n 0, 1) := by decide +kernel
theorem d_Wk_push_23 : decode q_mWk_push.1 23 = .ok (.getfield 31, 3) := by decide +kernel
theorem d_Wk_push_26 : decode q_mWk_push.1 26 = .ok (.iload_n 1, 1) := by decide +kernel
theorem d_Wk_push_27 : decode q_mWk_push.1 27 = .ok (.iastore, 1) := by decide +kernel
theorem d_Wk_push_28 : decode q_mWk_push.1 28 = .ok (.aload_n 0, 1) := by decide +kernel
theorem d_Wk_push_29 : decode q_mWk_push.1 29 = .ok (.getfield 28, 3) := by decide +kernel
theorem d_Wk_push_32 : decode q_mWk_push.1 32 = .ok (.aload_n 0, 1) := by decide +kernel
theorem d_Wk_push_33 : decode q_mWk_push.1 33 = .ok (.getfield 31, 3) := by decide +kernel
theorem d_Wk_push_36 : decode q_mWk_push.1 36 = .ok (.iload_n 2, 1) := by decide +kernel
theorem d_Wk_push_37 : decode q_mWk_push.1 37 = .ok (.iastore, 1) := by decide +kernel
theorem d_Wk_push_38 : decode q_mWk_push.1 38 = .ok (.aload_n 0, 1) := by decide +kernel
theorem d_Wk_push_39 : decode q_mWk_push.1 39 = .ok (.dup, 1) := by decide +kernel
theorem d_Wk_push_40 : decode q_mWk_push.1 40 = .ok (.getfield 31, 3) := by decide +kernel
theorem d_Wk_push_43 : decode q_mWk_push.1 43 = .ok (.iconst 1, 1) := by decide +kernel
theorem d_Wk_push_44 : decode q_mWk_push.1 44 = .ok (.iadd, 1) := by decide +kernel
theorem d_Wk_push_45 : decode q_mWk_push.1 45 = .ok (.putfield 31, 3) := by decide +kernel
theorem d_Wk_push_48 : decode q_mWk_push.1 48 = .ok (.return_, 1) := by decide +kernel
theorem d_Wk_visit_0 : decode q_mWk_visit.1 0 = .ok (.aload_n 0, 1) := by decide +kernel
theorem d_Wk_visit_1 : decode q_mWk_visit.1 1 = .ok (.getfield 57, 3) := by decide +kernel
theorem d_Wk_visit_4 : decode q_mWk_visit.1 4 = .ok (.iload_n 1, 1) := by decide +kernel
theorem d_Wk_visit_5 : decode q_mWk_visit.1 5 = .ok (.invokevirtual 110, 3) := by decide +kernel
theorem d_Wk_visit_8 : decode q_mWk_visit.1 8 = .ok (.ifCond .eq 23, 3) := by decide +kernel
theorem d_Wk_visit_11 : decode q_mWk_visit.1 11 = .ok (.iload_n 1, 1) := by decide +kernel
theorem d_Wk_visit_12 : decode q_mWk_visit.1 12 = .ok (.sipush 160, 3) := by decide +kernel
theorem d_Wk_visit_15 : decode q_mWk_visit.1 15 = .ok (.if_icmp .ge 16, 3) := by decide +kernel
theorem d_Wk_visit_18 : decode q_mWk_visit.1 18 = .ok (.aload_n 0, 1) := by decide +kernel
theorem d_Wk_visit_19 : decode q_mWk_visit.1 19 = .ok (.getfield 21, 3) := by decide +kernel
theorem d_Wk_visit_22 : decode q_mWk_visit.1 22 = .ok (.iload_n 1, 1) := by decide +kernel
theorem d_Wk_visit_23 : decode q_mWk_visit.1 23 = .ok (.iaload, 1) := by decide +kernel
theorem d_Wk_visit_24 : decode q_mWk_visit.1 24 = .ok (.aload_n 0, 1) := by decide +kernel
theorem d_Wk_visit_25 : decode q_mWk_visit.1 25 = .ok (.getfield 54, 3) := by decide +kernel
theorem d_Wk_visit_28 : decode q_mWk_visit.1 28 = .ok (.if_icmp .ne 4, 3) := by decide +kernel
theorem d_Wk_visit_31 : decode q_mWk_visit.1 31 = .ok (.return_, 1) := by decide +kernel
theorem d_Wk_visit_32 : decode q_mWk_visit.1 32 = .ok (.aload_n 0, 1) := by decide +kernel
theorem d_Wk_visit_33 : decode q_mWk_visit.1 33 = .ok (.getfield 21, 3) := by decide +kernel
theorem d_Wk_visit_36 : decode q_mWk_visit.1 36 = .ok (.iload_n 1, 1) := by decide +kernel
theorem d_Wk_visit_37 : decode q_mWk_visit.1 37 = .ok (.aload_n 0, 1) := by decide +kernel
theorem d_Wk_visit_38 : decode q_mWk_visit.1 38 = .ok (.getfield 54, 3) := by decide +kernel
theorem d_Wk_visit_41 : decode q_mWk_visit.1 41 = .ok (.iastore, 1) := by decide +kernel
theorem d_Wk_visit_42 : decode q_mWk_visit.1 42 = .ok (.aload_n 0, 1) := by decide +kernel
theorem d_Wk_visit_43 : decode q_mWk_visit.1 43 = .ok (.getfield 57, 3) := by decide +kernel
theorem d_Wk_visit_46 : decode q_mWk_visit.1 46 = .ok (.iload_n 1, 1) := by decide +kernel
theorem d_Wk_visit_47 : decode q_mWk_visit.1 47 = .ok (.invokevirtual 113, 3) := by decide +kernel
theorem d_Wk_visit_50 : decode q_mWk_visit.1 50 = .ok (.tableswitch 113 0 3 #[30, 45, 74, 90], 30) := by decide +kernel
theorem d_Wk_visit_80 : decode q_mWk_visit.1 80 = .ok (.aload_n 0, 1) := by decide +kernel
theorem d_Wk_visit_81 : decode q_mWk_visit.1 81 = .ok (.getfield 12, 3) := by decide +kernel
theorem d_Wk_visit_84 : decode q_mWk_visit.1 84 = .ok (.iload_n 1, 1) := by decide +kernel
theorem d_Wk_visit_85 : decode q_mWk_visit.1 85 = .ok (.aload_n 0, 1) := by decide +kernel
theorem d_Wk_visit_86 : decode q_mWk_visit.1 86 = .ok (.getfield 35, 3) := by decide +kernel
theorem d_Wk_visit_89 : decode q_mWk_visit.1 89 = .ok (.invokevirtual 116, 3) := by decide +kernel
theorem d_Wk_visit_92 : decode q_mWk_visit.1 92 = .ok (.goto 75, 3) := by decide +kernel
theorem d_Wk_visit_95 : decode q_mWk_visit.1 95 = .ok (.aload_n 0, 1) := by decide +kernel
theorem d_Wk_visit_96 : decode q_mWk_visit.1 96 = .ok (.aload_n 0, 1) := by decide +kernel
theorem d_Wk_visit_97 : decode q_mWk_visit.1 97 = .ok (.getfield 57, 3) := by decide +kernel
theorem d_Wk_visit_100 : decode q_mWk_visit.1 100 = .ok (.iload_n 1, 1) := by decide +kernel
theorem d_Wk_visit_101 : decode q_mWk_visit.1 101 = .ok (.invokevirtual 119, 3) := by decide +kernel
theorem d_Wk_visit_104 : decode q_mWk_visit.1 104 = .ok (.iconst 0, 1) := by decide +kernel
theorem d_Wk_visit_105 : decode q_mWk_visit.1 105 = .ok (.invokevirtual 100, 3) := by decide +kernel
theorem d_Wk_visit_108 : decode q_mWk_visit.1 108 = .ok (.aload_n 0, 1) := by decide +kernel
theorem d_Wk_visit_109 : decode q_mWk_visit.1 109 = .ok (.aload_n 0, 1) := by decide +kernel
theorem d_Wk_visit_110 : decode q_mWk_visit.1 110 = .ok (.getfield 57, 3) := by decide +kernel
theorem d_Wk_visit_113 : decode q_mWk_visit.1 113 = .ok (.iload_n 1, 1) := by decide +kernel
theorem d_Wk_visit_114 : decode q_mWk_visit.1 114 = .ok (.invokevirtual 81, 3) := by decide +kernel
theorem d_Wk_visit_117 : decode q_mWk_visit.1 117 = .ok (.iconst 0, 1) := by decide +kernel
theorem d_Wk_visit_118 : decode q_mWk_visit.1 118 = .ok (.invokevirtual 100, 3) := by decide +kernel
theorem d_Wk_visit_121 : decode q_mWk_visit.1 121 = .ok (.goto 46, 3) := by decide +kernel
theorem d_Wk_visit_124 : decode q_mWk_visit.1 124 = .ok (.aload_n 0, 1) := by decide +kernel
theorem d_Wk_visit_125 : decode q_mWk_visit.1 125 = .ok (.aload_n 0, 1) := by decide +kernel
theorem d_Wk_visit_126 : decode q_mWk_visit.1 126 = .ok (.getfield 57, 3) := by decide +kernel
theorem d_Wk_visit_129 : decode q_mWk_visit.1 129 = .ok (.iload_n 1, 1) := by decide +kernel
theorem d_Wk_visit_130 : decode q_mWk_visit.1 130 = .ok (.invokevirtual 81, 3) := by decide +kernel
theorem d_Wk_visit_133 : decode q_mWk_visit.1 133 = .ok (.iconst 0, 1) := by decide +kernel
theorem d_Wk_visit_134 : decode q_mWk_visit.1 134 = .ok (.invokevirtual 100, 3) := by decide +kernel
theorem d_Wk_visit_137 : decode q_mWk_visit.1 137 = .ok (.goto 30, 3) := by decide +kernel
theorem d_Wk_visit_140 : decode q_mWk_visit.1 140 = .ok (.aload_n 0, 1) := by decide +kernel
theorem d_Wk_visit_141 : decode q_mWk_visit.1 141 = .ok (.aload_n 0, 1) := by decide +kernel
theorem d_Wk_visit_142 : decode q_mWk_visit.1 142 = .ok (.getfield 57, 3) := by decide +kernel
theorem d_Wk_visit_145 : decode q_mWk_visit.1 145 = .ok (.iload_n 1, 1) := by decide +kernel
theorem d_Wk_visit_146 : decode q_mWk_visit.1 146 = .ok (.invokevirtual 81, 3) := by decide +kernel
theorem d_Wk_visit_149 : decode q_mWk_visit.1 149 = .ok (.invokevirtual 122, 3) := by decide +kernel
theorem d_Wk_visit_152 : decode q_mWk_visit.1 152 = .ok (.aload_n 0, 1) := by decide +kernel
theorem d_Wk_visit_153 : decode q_mWk_visit.1 153 = .ok (.iload_n 1, 1) := by decide +kernel
theorem d_Wk_visit_154 : decode q_mWk_visit.1 154 = .ok (.iconst 1, 1) := by decide +kernel
theorem d_Wk_visit_155 : decode q_mWk_visit.1 155 = .ok (.iadd, 1) := by decide +kernel
theorem d_Wk_visit_156 : decode q_mWk_visit.1 156 = .ok (.iconst 0, 1) := by decide +kernel
theorem d_Wk_visit_157 : decode q_mWk_visit.1 157 = .ok (.invokevirtual 100, 3) := by decide +kernel
theorem d_Wk_visit_160 : decode q_mWk_visit.1 160 = .ok (.goto 7, 3) := by decide +kernel
theorem d_Wk_visit_163 : decode q_mWk_visit.1 163 = .ok (.aload_n 0, 1) := by decide +kernel
theorem d_Wk_visit_164 : decode q_mWk_visit.1 164 = .ok (.invokevirtual 125, 3) := by decide +kernel
theorem d_Wk_visit_167 : decode q_mWk_visit.1 167 = .ok (.return_, 1) := by decide +kernel
theorem d_Wk_passMark_0 : decode q_mWk_passMark.1 0 = .ok (.iload_n 1, 1) := by decide +kernel
theorem d_Wk_passMark_1 : decode q_mWk_passMark.1 1 = .ok (.ifCond .lt 9, 3) := by decide +kernel
theorem d_Wk_passMark_4 : decode q_mWk_passMark.1 4 = .ok (.iload_n 1, 1) := by decide +kernel
theorem d_Wk_passMark_5 : decode q_mWk_passMark.1 5 = .ok (.bipush 14, 2) := by decide +kernel
theorem d_Wk_passMark_7 : decode q_mWk_passMark.1 7 = .ok (.if_icmp .lt 4, 3) := by decide +kernel
theorem d_Wk_passMark_10 : decode q_mWk_passMark.1 10 = .ok (.return_, 1) := by decide +kernel
theorem d_Wk_passMark_11 : decode q_mWk_passMark.1 11 = .ok (.aload_n 0, 1) := by decide +kernel
theorem d_Wk_passMark_12 : decode q_mWk_passMark.1 12 = .ok (.iconst (-1), 1) := by decide +kernel
theorem d_Wk_passMark_13 : decode q_mWk_passMark.1 13 = .ok (.iload_n 1, 1) := by decide +kernel
theorem d_Wk_passMark_14 : decode q_mWk_passMark.1 14 = .ok (.isub, 1) := by decide +kernel
theorem d_Wk_passMark_15 : decode q_mWk_passMark.1 15 = .ok (.aload_n 0, 1) := by decide +kernel
theorem d_Wk_passMark_16 : decode q_mWk_passMark.1 16 = .ok (.getfield 35, 3) := by decide +kernel
theorem d_Wk_passMark_19 : decode q_mWk_passMark.1 19 = .ok (.iload_n 1, 1) := by decide +kernel
theorem d_Wk_passMark_20 : decode q_mWk_passMark.1 20 = .ok (.iaload, 1) := by decide +kernel
theorem d_Wk_passMark_21 : decode q_mWk_passMark.1 21 = .ok (.invokevirtual 100, 3) := by decide +kernel
theorem d_Wk_passMark_24 : decode q_mWk_passMark.1 24 = .ok (.aload_n 0, 1) := by decide +kernel
theorem d_Wk_passMark_25 : decode q_mWk_passMark.1 25 = .ok (.getfield 35, 3) := by decide +kernel
theorem d_Wk_passMark_28 : decode q_mWk_passMark.1 28 = .ok (.iload_n 1, 1) := by decide +kernel
theorem d_Wk_passMark_29 : decode q_mWk_passMark.1 29 = .ok (.aload_n 0, 1) := by decide +kernel
theorem d_Wk_passMark_30 : decode q_mWk_passMark.1 30 = .ok (.getfield 54, 3) := by decide +kernel
theorem d_Wk_passMark_33 : decode q_mWk_passMark.1 33 = .ok (.iastore, 1) := by decide +kernel
theorem d_Wk_passMark_34 : decode q_mWk_passMark.1 34 = .ok (.return_, 1) := by decide +kernel
theorem d_Wk_keepMatch_0 : decode q_mWk_keepMatch.1 0 = .ok (.aload_n 0, 1) := by decide +kernel
theorem d_Wk_keepMatch_1 : decode q_mWk_keepMatch.1 1 = .ok (.iconst 1, 1) := by decide +kernel
theorem d_Wk_keepMatch_2 : decode q_mWk_keepMatch.1 2 = .ok (.putfield 48, 3) := by decide +kernel
theorem d_Wk_keepMatch_5 : decode q_mWk_keepMatch.1 5 = .ok (.aload_n 0, 1) := by decide +kernel
theorem d_Wk_keepMatch_6 : decode q_mWk_keepMatch.1 6 = .ok (.aload_n 0, 1) := by decide +kernel
theorem d_Wk_keepMatch_7 : decode q_mWk_keepMatch.1 7 = .ok (.getfield 45, 3) := by decide +kernel
theorem d_Wk_keepMatch_10 : decode q_mWk_keepMatch.1 10 = .ok (.putfield 51, 3) := by decide +kernel
theorem d_Wk_keepMatch_13 : decode q_mWk_keepMatch.1 13 = .ok (.iconst 0, 1) := by decide +kernel
theorem d_Wk_keepMatch_14 : decode q_mWk_keepMatch.1 14 = .ok (.istore_n 1, 1) := by decide +kernel
theorem d_Wk_keepMatch_15 : decode q_mWk_keepMatch.1 15 = .ok (.iload_n 1, 1) := by decide +kernel
theorem d_Wk_keepMatch_16 : decode q_mWk_keepMatch.1 16 = .ok (.bipush 14, 2) := by decide +kernel
theorem d_Wk_keepMatch_18 : decode q_mWk_keepMatch.1 18 = .ok (.if_icmp .ge 21, 3) := by decide +kernel
theorem d_Wk_keepMatch_21 : decode q_mWk_keepMatch.1 21 = .ok (.aload_n 0, 1) := by decide +kernel
theorem d_Wk_keepMatch_22 : decode q_mWk_keepMatch.1 22 = .ok (.getfield 38, 3) := by decide +kernel
theorem d_Wk_keepMatch_25 : decode q_mWk_keepMatch.1 25 = .ok (.iload_n 1, 1) := by decide +kernel
theorem d_Wk_keepMatch_26 : decode q_mWk_keepMatch.1 26 = .ok (.aload_n 0, 1) := by decide +kernel
theorem d_Wk_keepMatch_27 : decode q_mWk_keepMatch.1 27 = .ok (.getfield 35, 3) := by decide +kernel
theorem d_Wk_keepMatch_30 : decode q_mWk_keepMatch.1 30 = .ok (.iload_n 1, 1) := by decide +kernel
theorem d_Wk_keepMatch_31 : decode q_mWk_keepMatch.1 31 = .ok (.iaload, 1) := by decide +kernel
theorem d_Wk_keepMatch_32 : decode q_mWk_keepMatch.1 32 = .ok (.iastore, 1) := by decide +kernel
theorem d_Wk_keepMatch_33 : decode q_mWk_keepMatch.1 33 = .ok (.iinc 1 1, 3) := by decide +kernel
theorem d_Wk_keepMatch_36 : decode q_mWk_keepMatch.1 36 = .ok (.goto (-21), 3) := by decide +kernel
theorem d_Wk_keepMatch_39 : decode q_mWk_keepMatch.1 39 = .ok (.return_, 1) := by decide +kernel
theorem d_Wk_setMark_0 : decode q_mWk_setMark.1 0 = .ok (.iload_n 1, 1) := by decide +kernel
theorem d_Wk_setMark_1 : decode q_mWk_setMark.1 1 = .ok (.ifCond .lt 16, 3) := by decide +kernel
theorem d_Wk_setMark_4 : decode q_mWk_setMark.1 4 = .ok (.iload_n 1, 1) := by decide +kernel
theorem d_Wk_setMark_5 : decode q_mWk_setMark.1 5 = .ok (.bipush 14, 2) := by decide +kernel
theorem d_Wk_setMark_7 : decode q_mWk_setMark.1 7 = .ok (.if_icmp .ge 10, 3) := by decide +kernel
theorem d_Wk_setMark_10 : decode q_mWk_setMark.1 10 = .ok (.aload_n 0, 1) := by decide +kernel
theorem d_Wk_setMark_11 : decode q_mWk_setMark.1 11 = .ok (.getfield 35, 3) := by decide +kernel
theorem d_Wk_setMark_14 : decode q_mWk_setMark.1 14 = .ok (.iload_n 1, 1) := by decide +kernel
theorem d_Wk_setMark_15 : decode q_mWk_setMark.1 15 = .ok (.iload_n 2, 1) := by decide +kernel
theorem d_Wk_setMark_16 : decode q_mWk_setMark.1 16 = .ok (.iastore, 1) := by decide +kernel
theorem d_Wk_setMark_17 : decode q_mWk_setMark.1 17 = .ok (.return_, 1) := by decide +kernel
theorem d_Wk_step_0 : decode q_mWk_step.1 0 = .ok (.aload_n 0, 1) := by decide +kernel
theorem d_Wk_step_1 : decode q_mWk_step.1 1 = .ok (.getfield 12, 3) := by decide +kernel
theorem d_Wk_step_4 : decode q_mWk_step.1 4 = .ok (.astore_n 2, 1) := by decide +kernel
theorem d_Wk_step_5 : decode q_mWk_step.1 5 = .ok (.aload_n 0, 1) := by decide +kernel
theorem d_Wk_step_6 : decode q_mWk_step.1 6 = .ok (.aload_n 0, 1) := by decide +kernel
theorem d_Wk_step_7 : decode q_mWk_step.1 7 = .ok (.getfield 18, 3) := by decide +kernel
theorem d_Wk_step_10 : decode q_mWk_step.1 10 = .ok (.putfield 12, 3) := by decide +kernel
theorem d_Wk_step_13 : decode q_mWk_step.1 13 = .ok (.aload_n 0, 1) := by decide +kernel
theorem d_Wk_step_14 : decode q_mWk_step.1 14 = .ok (.aload_n 2, 1) := by decide +kernel
theorem d_Wk_step_15 : decode q_mWk_step.1 15 = .ok (.putfield 18, 3) := by decide +kernel
theorem d_Wk_step_18 : decode q_mWk_step.1 18 = .ok (.aload_n 0, 1) := by decide +kernel
theorem d_Wk_step_19 : decode q_mWk_step.1 19 = .ok (.getfield 12, 3) := by decide +kernel
theorem d_Wk_step_22 : decode q_mWk_step.1 22 = .ok (.iconst 0, 1) := by decide +kernel
theorem d_Wk_step_23 : decode q_mWk_step.1 23 = .ok (.putfield 65, 3) := by decide +kernel
theorem d_Wk_step_26 : decode q_mWk_step.1 26 = .ok (.aload_n 0, 1) := by decide +kernel
theorem d_Wk_step_27 : decode q_mWk_step.1 27 = .ok (.dup, 1) := by decide +kernel
theorem d_Wk_step_28 : decode q_mWk_step.1 28 = .ok (.getfield 54, 3) := by decide +kernel
theorem d_Wk_step_31 : decode q_mWk_step.1 31 = .ok (.iconst 1, 1) := by decide +kernel
theorem d_Wk_step_32 : decode q_mWk_step.1 32 = .ok (.iadd, 1) := by decide +kernel
theorem d_Wk_step_33 : decode q_mWk_step.1 33 = .ok (.putfield 54, 3) := by decide +kernel
theorem d_Wk_step_36 : decode q_mWk_step.1 36 = .ok (.aload_n 0, 1) := by decide +kernel
theorem d_Wk_step_37 : decode q_mWk_step.1 37 = .ok (.iconst 0, 1) := by decide +kernel
theorem d_Wk_step_38 : decode q_mWk_step.1 38 = .ok (.putfield 51, 3) := by decide +kernel
theorem d_Wk_step_41 : decode q_mWk_step.1 41 = .ok (.aload_n 0, 1) := by decide +kernel
theorem d_Wk_step_42 : decode q_mWk_step.1 42 = .ok (.aload_n 0, 1) := by decide +kernel
theorem d_Wk_step_43 : decode q_mWk_step.1 43 = .ok (.getfield 48, 3) := by decide +kernel
theorem d_Wk_step_46 : decode q_mWk_step.1 46 = .ok (.ifCond .eq 14, 3) := by decide +kernel
theorem d_Wk_step_49 : decode q_mWk_step.1 49 = .ok (.aload_n 0, 1) := by decide +kernel
theorem d_Wk_step_50 : decode q_mWk_step.1 50 = .ok (.getfield 45, 3) := by decide +kernel
theorem d_Wk_step_53 : decode q_mWk_step.1 53 = .ok (.ifCond .eq 7, 3) := by decide +kernel
theorem d_Wk_step_56 : decode q_mWk_step.1 56 = .ok (.iconst 1, 1) := by decide +kernel
theorem d_Wk_step_57 : decode q_mWk_step.1 57 = .ok (.goto 4, 3) := by decide +kernel
theorem d_Wk_step_60 : decode q_mWk_step.1 60 = .ok (.iconst 0, 1) := by decide +kernel
theorem d_Wk_step_61 : decode q_mWk_step.1 61 = .ok (.putfield 48, 3) := by decide +kernel
theorem d_Wk_step_64 : decode q_mWk_step.1 64 = .ok (.iconst 0, 1) := by decide +kernel
theorem d_Wk_step_65 : decode q_mWk_step.1 65 = .ok (.istore_n 3, 1) := by decide +kernel
theorem d_Wk_step_66 : decode q_mWk_step.1 66 = .ok (.iload_n 3, 1) := by decide +kernel
theorem d_Wk_step_67 : decode q_mWk_step.1 67 = .ok (.aload_n 2, 1) := by decide +kernel
theorem d_Wk_step_68 : decode q_mWk_step.1 68 = .ok (.getfield 65, 3) := by decide +kernel
theorem d_Wk_step_71 : decode q_mWk_step.1 71 = .ok (.if_icmp .ge 60, 3) := by decide +kernel
theorem d_Wk_step_74 : decode q_mWk_step.1 74 = .ok (.aload_n 0, 1) := by decide +kernel
theorem d_Wk_step_75 : decode q_mWk_step.1 75 = .ok (.getfield 51, 3) := by decide +kernel
theorem d_Wk_step_78 : decode q_mWk_step.1 78 = .ok (.ifCond .ne 53, 3) := by decide +kernel
theorem d_Wk_step_81 : decode q_mWk_step.1 81 = .ok (.aload_n 2, 1) := by decide +kernel
theorem d_Wk_step_82 : decode q_mWk_step.1 82 = .ok (.iload_n 3, 1) := by decide +kernel
theorem d_Wk_step_83 : decode q_mWk_step.1 83 = .ok (.invokevirtual 77, 3) := by decide +kernel
theorem d_Wk_step_86 : decode q_mWk_step.1 86 = .ok (.istore 4, 2) := by decide +kernel
theorem d_Wk_step_88 : decode q_mWk_step.1 88 = .ok (.aload_n 0, 1) := by decide +kernel
theorem d_Wk_step_89 : decode q_mWk_step.1 89 = .ok (.getfield 61, 3) := by decide +kernel
theorem d_Wk_step_92 : decode q_mWk_step.1 92 = .ok (.aload_n 0, 1) := by decide +kernel
theorem d_Wk_step_93 : decode q_mWk_step.1 93 = .ok (.getfield 57, 3) := by decide +kernel
theorem d_Wk_step_96 : decode q_mWk_step.1 96 = .ok (.iload 4, 2) := by decide +kernel
theorem d_Wk_step_98 : decode q_mWk_step.1 98 = .ok (.invokevirtual 81, 3) := by decide +kernel
theorem d_Wk_step_101 : decode q_mWk_step.1 101 = .ok (.iload_n 1, 1) := by decide +kernel
theorem d_Wk_step_102 : decode q_mWk_step.1 102 = .ok (.invokevirtual 86, 3) := by decide +kernel
theorem d_Wk_step_105 : decode q_mWk_step.1 105 = .ok (.ifCond .eq 20, 3) := by decide +kernel
theorem d_Wk_step_108 : decode q_mWk_step.1 108 = .ok (.aload_n 2, 1) := by decide +kernel
theorem d_Wk_step_109 : decode q_mWk_step.1 109 = .ok (.iload_n 3, 1) := by decide +kernel
theorem d_Wk_step_110 : decode q_mWk_step.1 110 = .ok (.aload_n 0, 1) := by decide +kernel
theorem d_Wk_step_111 : decode q_mWk_step.1 111 = .ok (.getfield 35, 3) := by decide +kernel
theorem d_Wk_step_114 : decode q_mWk_step.1 114 = .ok (.invokevirtual 92, 3) := by decide +kernel
theorem d_Wk_step_117 : decode q_mWk_step.1 117 = .ok (.aload_n 0, 1) := by decide +kernel
theorem d_Wk_step_118 : decode q_mWk_step.1 118 = .ok (.iload 4, 2) := by decide +kernel
theorem d_Wk_step_120 : decode q_mWk_step.1 120 = .ok (.iconst 1, 1) := by decide +kernel
theorem d_Wk_step_121 : decode q_mWk_step.1 121 = .ok (.iadd, 1) := by decide +kernel
theorem d_Wk_step_122 : decode q_mWk_step.1 122 = .ok (.invokevirtual 96, 3) := by decide +kernel
theorem d_Wk_step_125 : decode q_mWk_step.1 125 = .ok (.iinc 3 1, 3) := by decide +kernel
theorem d_Wk_step_128 : decode q_mWk_step.1 128 = .ok (.goto (-62), 3) := by decide +kernel
theorem d_Wk_step_131 : decode q_mWk_step.1 131 = .ok (.aload_n 0, 1) := by decide +kernel
theorem d_Wk_step_132 : decode q_mWk_step.1 132 = .ok (.getfield 45, 3) := by decide +kernel
theorem d_Wk_step_135 : decode q_mWk_step.1 135 = .ok (.ifCond .eq 14, 3) := by decide +kernel
theorem d_Wk_step_138 : decode q_mWk_step.1 138 = .ok (.aload_n 0, 1) := by decide +kernel
theorem d_Wk_step_139 : decode q_mWk_step.1 139 = .ok (.getfield 48, 3) := by decide +kernel
theorem d_Wk_step_142 : decode q_mWk_step.1 142 = .ok (.ifCond .ne 7, 3) := by decide +kernel
theorem d_Wk_step_145 : decode q_mWk_step.1 145 = .ok (.aload_n 0, 1) := by decide +kernel
theorem d_Wk_step_146 : decode q_mWk_step.1 146 = .ok (.invokevirtual 74, 3) := by decide +kernel
theorem d_Wk_step_149 : decode q_mWk_step.1 149 = .ok (.return_, 1) := by decide +kernel
theorem d_Wk_standsAt_0 : decode q_mWk_standsAt.1 0 = .ok (.iload_n 1, 1) := by decide +kernel
theorem d_Wk_standsAt_1 : decode q_mWk_standsAt.1 1 = .ok (.ifCond .lt 10, 3) := by decide +kernel
theorem d_Wk_standsAt_4 : decode q_mWk_standsAt.1 4 = .ok (.iload_n 1, 1) := by decide +kernel
theorem d_Wk_standsAt_5 : decode q_mWk_standsAt.1 5 = .ok (.sipush 160, 3) := by decide +kernel
theorem d_Wk_standsAt_8 : decode q_mWk_standsAt.1 8 = .ok (.if_icmp .lt 5, 3) := by decide +kernel
theorem d_Wk_standsAt_11 : decode q_mWk_standsAt.1 11 = .ok (.iconst 0, 1) := by decide +kernel
theorem d_Wk_standsAt_12 : decode q_mWk_standsAt.1 12 = .ok (.ireturn, 1) := by decide +kernel
theorem d_Wk_standsAt_13 : decode q_mWk_standsAt.1 13 = .ok (.aload_n 0, 1) := by decide +kernel
theorem d_Wk_standsAt_14 : decode q_mWk_standsAt.1 14 = .ok (.getfield 57, 3) := by decide +kernel
theorem d_Wk_standsAt_17 : decode q_mWk_standsAt.1 17 = .ok (.iload_n 1, 1) := by decide +kernel
theorem d_Wk_standsAt_18 : decode q_mWk_standsAt.1 18 = .ok (.invokevirtual 113, 3) := by decide +kernel
theorem d_Wk_standsAt_21 : decode q_mWk_standsAt.1 21 = .ok (.ifCond .ne 20, 3) := by decide +kernel
theorem d_Wk_standsAt_24 : decode q_mWk_standsAt.1 24 = .ok (.aload_n 0, 1) := by decide +kernel
theorem d_Wk_standsAt_25 : decode q_mWk_standsAt.1 25 = .ok (.getfield 21, 3) := by decide +kernel
theorem d_Wk_standsAt_28 : decode q_mWk_standsAt.1 28 = .ok (.iload_n 1, 1) := by decide +kernel
theorem d_Wk_standsAt_29 : decode q_mWk_standsAt.1 29 = .ok (.iaload, 1) := by decide +kernel
theorem d_Wk_standsAt_30 : decode q_mWk_standsAt.1 30 = .ok (.aload_n 0, 1) := by decide +kernel
theorem d_Wk_standsAt_31 : decode q_mWk_standsAt.1 31 = .ok (.getfield 54, 3) := by decide +kernel
theorem d_Wk_standsAt_34 : decode q_mWk_standsAt.1 34 = .ok (.if_icmp .ne 7, 3) := by decide +kernel
theorem d_Wk_standsAt_37 : decode q_mWk_standsAt.1 37 = .ok (.iconst 1, 1) := by decide +kernel
theorem d_Wk_standsAt_38 : decode q_mWk_standsAt.1 38 = .ok (.goto 4, 3) := by decide +kernel
theorem d_Wk_standsAt_41 : decode q_mWk_standsAt.1 41 = .ok (.iconst 0, 1) := by decide +kernel
theorem d_Wk_standsAt_42 : decode q_mWk_standsAt.1 42 = .ok (.ireturn, 1) := by decide +kernel
