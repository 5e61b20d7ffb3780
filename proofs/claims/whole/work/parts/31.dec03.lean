theorem d_Wk_foundMark_0 : decode q_mWk_foundMark.1 0 = .ok (.aload_n 0, 1) := by decide +kernel
theorem d_Wk_foundMark_1 : decode q_mWk_foundMark.1 1 = .ok (.getfield 48, 3) := by decide +kernel
theorem d_Wk_foundMark_4 : decode q_mWk_foundMark.1 4 = .ok (.ifCond .eq 22, 3) := by decide +kernel
theorem d_Wk_foundMark_7 : decode q_mWk_foundMark.1 7 = .ok (.iload_n 1, 1) := by decide +kernel
theorem d_Wk_foundMark_8 : decode q_mWk_foundMark.1 8 = .ok (.ifCond .lt 18, 3) := by decide +kernel
theorem d_Wk_foundMark_11 : decode q_mWk_foundMark.1 11 = .ok (.iload_n 1, 1) := by decide +kernel
theorem d_Wk_foundMark_12 : decode q_mWk_foundMark.1 12 = .ok (.bipush 14, 2) := by decide +kernel
theorem d_Wk_foundMark_14 : decode q_mWk_foundMark.1 14 = .ok (.if_icmp .ge 12, 3) := by decide +kernel
theorem d_Wk_foundMark_17 : decode q_mWk_foundMark.1 17 = .ok (.aload_n 0, 1) := by decide +kernel
theorem d_Wk_foundMark_18 : decode q_mWk_foundMark.1 18 = .ok (.getfield 38, 3) := by decide +kernel
theorem d_Wk_foundMark_21 : decode q_mWk_foundMark.1 21 = .ok (.iload_n 1, 1) := by decide +kernel
theorem d_Wk_foundMark_22 : decode q_mWk_foundMark.1 22 = .ok (.iaload, 1) := by decide +kernel
theorem d_Wk_foundMark_23 : decode q_mWk_foundMark.1 23 = .ok (.goto 4, 3) := by decide +kernel
theorem d_Wk_foundMark_26 : decode q_mWk_foundMark.1 26 = .ok (.iconst (-1), 1) := by decide +kernel
theorem d_Wk_foundMark_27 : decode q_mWk_foundMark.1 27 = .ok (.ireturn, 1) := by decide +kernel
theorem d_Wy_init_0 : decode q_mWy_init.1 0 = .ok (.aload_n 0, 1) := by decide +kernel
theorem d_Wy_init_1 : decode q_mWy_init.1 1 = .ok (.invokespecial 3, 3) := by decide +kernel
theorem d_Wy_init_4 : decode q_mWy_init.1 4 = .ok (.aload_n 0, 1) := by decide +kernel
theorem d_Wy_init_5 : decode q_mWy_init.1 5 = .ok (.sipush 160, 3) := by decide +kernel
theorem d_Wy_init_8 : decode q_mWy_init.1 8 = .ok (.newarray .int, 2) := by decide +kernel
theorem d_Wy_init_10 : decode q_mWy_init.1 10 = .ok (.putfield 9, 3) := by decide +kernel
theorem d_Wy_init_13 : decode q_mWy_init.1 13 = .ok (.aload_n 0, 1) := by decide +kernel
theorem d_Wy_init_14 : decode q_mWy_init.1 14 = .ok (.sipush 2240, 3) := by decide +kernel
theorem d_Wy_init_17 : decode q_mWy_init.1 17 = .ok (.newarray .int, 2) := by decide +kernel
theorem d_Wy_init_19 : decode q_mWy_init.1 19 = .ok (.putfield 15, 3) := by decide +kernel
theorem d_Wy_init_22 : decode q_mWy_init.1 22 = .ok (.aload_n 0, 1) := by decide +kernel
theorem d_Wy_init_23 : decode q_mWy_init.1 23 = .ok (.iconst 0, 1) := by decide +kernel
theorem d_Wy_init_24 : decode q_mWy_init.1 24 = .ok (.putfield 18, 3) := by decide +kernel
theorem d_Wy_init_27 : decode q_mWy_init.1 27 = .ok (.return_, 1) := by decide +kernel
theorem d_Wy_add_0 : decode q_mWy_add.1 0 = .ok (.aload_n 0, 1) := by decide +kernel
theorem d_Wy_add_1 : decode q_mWy_add.1 1 = .ok (.getfield 18, 3) := by decide +kernel
theorem d_Wy_add_4 : decode q_mWy_add.1 4 = .ok (.ifCond .lt 13, 3) := by decide +kernel
theorem d_Wy_add_7 : decode q_mWy_add.1 7 = .ok (.aload_n 0, 1) := by decide +kernel
theorem d_Wy_add_8 : decode q_mWy_add.1 8 = .ok (.getfield 18, 3) := by decide +kernel
theorem d_Wy_add_11 : decode q_mWy_add.1 11 = .ok (.sipush 160, 3) := by decide +kernel
theorem d_Wy_add_14 : decode q_mWy_add.1 14 = .ok (.if_icmp .lt 4, 3) := by decide +kernel
theorem d_Wy_add_17 : decode q_mWy_add.1 17 = .ok (.return_, 1) := by decide +kernel
theorem d_Wy_add_18 : decode q_mWy_add.1 18 = .ok (.aload_n 0, 1) := by decide +kernel
theorem d_Wy_add_19 : decode q_mWy_add.1 19 = .ok (.getfield 9, 3) := by decide +kernel
theorem d_Wy_add_22 : decode q_mWy_add.1 22 = .ok (.aload_n 0, 1) := by decide +kernel
theorem d_Wy_add_23 : decode q_mWy_add.1 23 = .ok (.getfield 18, 3) := by decide +kernel
theorem d_Wy_add_26 : decode q_mWy_add.1 26 = .ok (.iload_n 1, 1) := by decide +kernel
theorem d_Wy_add_27 : decode q_mWy_add.1 27 = .ok (.iastore, 1) := by decide +kernel
theorem d_Wy_add_28 : decode q_mWy_add.1 28 = .ok (.iconst 0, 1) := by decide +kernel
theorem d_Wy_add_29 : decode q_mWy_add.1 29 = .ok (.istore_n 3, 1) := by decide +kernel
theorem d_Wy_add_30 : decode q_mWy_add.1 30 = .ok (.iload_n 3, 1) := by decide +kernel
theorem d_Wy_add_31 : decode q_mWy_add.1 31 = .ok (.bipush 14, 2) := by decide +kernel
theorem d_Wy_add_33 : decode q_mWy_add.1 33 = .ok (.if_icmp .ge 32, 3) := by decide +kernel
theorem d_Wy_add_36 : decode q_mWy_add.1 36 = .ok (.iload_n 3, 1) := by decide +kernel
theorem d_Wy_add_37 : decode q_mWy_add.1 37 = .ok (.aload_n 2, 1) := by decide +kernel
theorem d_Wy_add_38 : decode q_mWy_add.1 38 = .ok (.arraylength, 1) := by decide +kernel
theorem d_Wy_add_39 : decode q_mWy_add.1 39 = .ok (.if_icmp .ge 26, 3) := by decide +kernel
theorem d_Wy_add_42 : decode q_mWy_add.1 42 = .ok (.aload_n 0, 1) := by decide +kernel
theorem d_Wy_add_43 : decode q_mWy_add.1 43 = .ok (.getfield 15, 3) := by decide +kernel
theorem d_Wy_add_46 : decode q_mWy_add.1 46 = .ok (.aload_n 0, 1) := by decide +kernel
theorem d_Wy_add_47 : decode q_mWy_add.1 47 = .ok (.getfield 18, 3) := by decide +kernel
theorem d_Wy_add_50 : decode q_mWy_add.1 50 = .ok (.bipush 14, 2) := by decide +kernel
theorem d_Wy_add_52 : decode q_mWy_add.1 52 = .ok (.imul, 1) := by decide +kernel
theorem d_Wy_add_53 : decode q_mWy_add.1 53 = .ok (.iload_n 3, 1) := by decide +kernel
theorem d_Wy_add_54 : decode q_mWy_add.1 54 = .ok (.iadd, 1) := by decide +kernel
theorem d_Wy_add_55 : decode q_mWy_add.1 55 = .ok (.aload_n 2, 1) := by decide +kernel
theorem d_Wy_add_56 : decode q_mWy_add.1 56 = .ok (.iload_n 3, 1) := by decide +kernel
theorem d_Wy_add_57 : decode q_mWy_add.1 57 = .ok (.iaload, 1) := by decide +kernel
theorem d_Wy_add_58 : decode q_mWy_add.1 58 = .ok (.iastore, 1) := by decide +kernel
theorem d_Wy_add_59 : decode q_mWy_add.1 59 = .ok (.iinc 3 1, 3) := by decide +kernel
theorem d_Wy_add_62 : decode q_mWy_add.1 62 = .ok (.goto (-32), 3) := by decide +kernel
theorem d_Wy_add_65 : decode q_mWy_add.1 65 = .ok (.aload_n 0, 1) := by decide +kernel
theorem d_Wy_add_66 : decode q_mWy_add.1 66 = .ok (.dup, 1) := by decide +kernel
theorem d_Wy_add_67 : decode q_mWy_add.1 67 = .ok (.getfield 18, 3) := by decide +kernel
theorem d_Wy_add_70 : decode q_mWy_add.1 70 = .ok (.iconst 1, 1) := by decide +kernel
theorem d_Wy_add_71 : decode q_mWy_add.1 71 = .ok (.iadd, 1) := by decide +kernel
theorem d_Wy_add_72 : decode q_mWy_add.1 72 = .ok (.putfield 18, 3) := by decide +kernel
theorem d_Wy_add_75 : decode q_mWy_add.1 75 = .ok (.return_, 1) := by decide +kernel
theorem d_Wy_takeOf_0 : decode q_mWy_takeOf.1 0 = .ok (.iload_n 1, 1) := by decide +kernel
theorem d_Wy_takeOf_1 : decode q_mWy_takeOf.1 1 = .ok (.ifCond .lt 27, 3) := by decide +kernel
theorem d_Wy_takeOf_4 : decode q_mWy_takeOf.1 4 = .ok (.iload_n 1, 1) := by decide +kernel
theorem d_Wy_takeOf_5 : decode q_mWy_takeOf.1 5 = .ok (.aload_n 0, 1) := by decide +kernel
theorem d_Wy_takeOf_6 : decode q_mWy_takeOf.1 6 = .ok (.getfield 18, 3) := by decide +kernel
theorem d_Wy_takeOf_9 : decode q_mWy_takeOf.1 9 = .ok (.if_icmp .ge 19, 3) := by decide +kernel
theorem d_Wy_takeOf_12 : decode q_mWy_takeOf.1 12 = .ok (.iload_n 1, 1) := by decide +kernel
theorem d_Wy_takeOf_13 : decode q_mWy_takeOf.1 13 = .ok (.sipush 160, 3) := by decide +kernel
theorem d_Wy_takeOf_16 : decode q_mWy_takeOf.1 16 = .ok (.if_icmp .ge 12, 3) := by decide +kernel
theorem d_Wy_takeOf_19 : decode q_mWy_takeOf.1 19 = .ok (.aload_n 0, 1) := by decide +kernel
theorem d_Wy_takeOf_20 : decode q_mWy_takeOf.1 20 = .ok (.getfield 9, 3) := by decide +kernel
theorem d_Wy_takeOf_23 : decode q_mWy_takeOf.1 23 = .ok (.iload_n 1, 1) := by decide +kernel
theorem d_Wy_takeOf_24 : decode q_mWy_takeOf.1 24 = .ok (.iaload, 1) := by decide +kernel
theorem d_Wy_takeOf_25 : decode q_mWy_takeOf.1 25 = .ok (.goto 4, 3) := by decide +kernel
theorem d_Wy_takeOf_28 : decode q_mWy_takeOf.1 28 = .ok (.iconst (-1), 1) := by decide +kernel
theorem d_Wy_takeOf_29 : decode q_mWy_takeOf.1 29 = .ok (.ireturn, 1) := by decide +kernel
theorem d_Wy_copyMarks_0 : decode q_mWy_copyMarks.1 0 = .ok (.iload_n 1, 1) := by decide +kernel
theorem d_Wy_copyMarks_1 : decode q_mWy_copyMarks.1 1 = .ok (.ifCond .lt 10, 3) := by decide +kernel
theorem d_Wy_copyMarks_4 : decode q_mWy_copyMarks.1 4 = .ok (.iload_n 1, 1) := by decide +kernel
theorem d_Wy_copyMarks_5 : decode q_mWy_copyMarks.1 5 = .ok (.sipush 160, 3) := by decide +kernel
theorem d_Wy_copyMarks_8 : decode q_mWy_copyMarks.1 8 = .ok (.if_icmp .lt 4, 3) := by decide +kernel
theorem d_Wy_copyMarks_11 : decode q_mWy_copyMarks.1 11 = .ok (.return_, 1) := by decide +kernel
theorem d_Wy_copyMarks_12 : decode q_mWy_copyMarks.1 12 = .ok (.iconst 0, 1) := by decide +kernel
theorem d_Wy_copyMarks_13 : decode q_mWy_copyMarks.1 13 = .ok (.istore_n 3, 1) := by decide +kernel
theorem d_Wy_copyMarks_14 : decode q_mWy_copyMarks.1 14 = .ok (.iload_n 3, 1) := by decide +kernel
theorem d_Wy_copyMarks_15 : decode q_mWy_copyMarks.1 15 = .ok (.bipush 14, 2) := by decide +kernel
theorem d_Wy_copyMarks_17 : decode q_mWy_copyMarks.1 17 = .ok (.if_icmp .ge 29, 3) := by decide +kernel
theorem d_Wy_copyMarks_20 : decode q_mWy_copyMarks.1 20 = .ok (.iload_n 3, 1) := by decide +kernel
theorem d_Wy_copyMarks_21 : decode q_mWy_copyMarks.1 21 = .ok (.aload_n 2, 1) := by decide +kernel
theorem d_Wy_copyMarks_22 : decode q_mWy_copyMarks.1 22 = .ok (.arraylength, 1) := by decide +kernel
theorem d_Wy_copyMarks_23 : decode q_mWy_copyMarks.1 23 = .ok (.if_icmp .ge 23, 3) := by decide +kernel
theorem d_Wy_copyMarks_26 : decode q_mWy_copyMarks.1 26 = .ok (.aload_n 2, 1) := by decide +kernel
theorem d_Wy_copyMarks_27 : decode q_mWy_copyMarks.1 27 = .ok (.iload_n 3, 1) := by decide +kernel
theorem d_Wy_copyMarks_28 : decode q_mWy_copyMarks.1 28 = .ok (.aload_n 0, 1) := by decide +kernel
theorem d_Wy_copyMarks_29 : decode q_mWy_copyMarks.1 29 = .ok (.getfield 15, 3) := by decide +kernel
theorem d_Wy_copyMarks_32 : decode q_mWy_copyMarks.1 32 = .ok (.iload_n 1, 1) := by decide +kernel
theorem d_Wy_copyMarks_33 : decode q_mWy_copyMarks.1 33 = .ok (.bipush 14, 2) := by decide +kernel
theorem d_Wy_copyMarks_35 : decode q_mWy_copyMarks.1 35 = .ok (.imul, 1) := by decide +kernel
theorem d_Wy_copyMarks_36 : decode q_mWy_copyMarks.1 36 = .ok (.iload_n 3, 1) := by decide +kernel
theorem d_Wy_copyMarks_37 : decode q_mWy_copyMarks.1 37 = .ok (.iadd, 1) := by decide +kernel
theorem d_Wy_copyMarks_38 : decode q_mWy_copyMarks.1 38 = .ok (.iaload, 1) := by decide +kernel
theorem d_Wy_copyMarks_39 : decode q_mWy_copyMarks.1 39 = .ok (.iastore, 1) := by decide +kernel
theorem d_Wy_copyMarks_40 : decode q_mWy_copyMarks.1 40 = .ok (.iinc 3 1, 3) := by decide +kernel
theorem d_Wy_copyMarks_43 : decode q_mWy_copyMarks.1 43 = .ok (.goto (-29), 3) := by decide +kernel
theorem d_Wy_copyMarks_46 : decode q_mWy_copyMarks.1 46 = .ok (.return_, 1) := by decide +kernel
theorem d_Md_init_0 : decode q_mMd_init.1 0 = .ok (.aload_n 0, 1) := by decide +kernel
theorem d_Md_init_1 : decode q_mMd_init.1 1 = .ok (.invokespecial 1, 3) := by decide +kernel
theorem d_Md_init_4 : decode q_mMd_init.1 4 = .ok (.aload_n 0, 1) := by decide +kernel
theorem d_Md_init_5 : decode q_mMd_init.1 5 = .ok (.bipush 48, 2) := by decide +kernel
theorem d_Md_init_7 : decode q_mMd_init.1 7 = .ok (.newarray .char, 2) := by decide +kernel
theorem d_Md_init_9 : decode q_mMd_init.1 9 = .ok (.putfield 7, 3) := by decide +kernel
theorem d_Md_init_12 : decode q_mMd_init.1 12 = .ok (.aload_n 0, 1) := by decide +kernel
theorem d_Md_init_13 : decode q_mMd_init.1 13 = .ok (.iconst (-1), 1) := by decide +kernel
theorem d_Md_init_14 : decode q_mMd_init.1 14 = .ok (.putfield 13, 3) := by decide +kernel
theorem d_Md_init_17 : decode q_mMd_init.1 17 = .ok (.aload_n 0, 1) := by decide +kernel
theorem d_Md_init_18 : decode q_mMd_init.1 18 = .ok (.sipush 220, 3) := by decide +kernel
theorem d_Md_init_21 : decode q_mMd_init.1 21 = .ok (.newarray .int, 2) := by decide +kernel
theorem d_Md_init_23 : decode q_mMd_init.1 23 = .ok (.putfield 17, 3) := by decide +kernel
theorem d_Md_init_26 : decode q_mMd_init.1 26 = .ok (.aload_n 0, 1) := by decide +kernel
theorem d_Md_init_27 : decode q_mMd_init.1 27 = .ok (.sipush 220, 3) := by decide +kernel
theorem d_Md_init_30 : decode q_mMd_init.1 30 = .ok (.newarray .int, 2) := by decide +kernel
theorem d_Md_init_32 : decode q_mMd_init.1 32 = .ok (.putfield 21, 3) := by decide +kernel
theorem d_Md_init_35 : decode q_mMd_init.1 35 = .ok (.aload_n 0, 1) := by decide +kernel
theorem d_Md_init_36 : decode q_mMd_init.1 36 = .ok (.sipush 220, 3) := by decide +kernel
theorem d_Md_init_39 : decode q_mMd_init.1 39 = .ok (.newarray .int, 2) := by decide +kernel
theorem d_Md_init_41 : decode q_mMd_init.1 41 = .ok (.putfield 24, 3) := by decide +kernel
theorem d_Md_init_44 : decode q_mMd_init.1 44 = .ok (.aload_n 0, 1) := by decide +kernel
theorem d_Md_init_45 : decode q_mMd_init.1 45 = .ok (.sipush 220, 3) := by decide +kernel
theorem d_Md_init_48 : decode q_mMd_init.1 48 = .ok (.newarray .int, 2) := by decide +kernel
theorem d_Md_init_50 : decode q_mMd_init.1 50 = .ok (.putfield 27, 3) := by decide +kernel
theorem d_Md_init_53 : decode q_mMd_init.1 53 = .ok (.aload_n 0, 1) := by decide +kernel
theorem d_Md_init_54 : decode q_mMd_init.1 54 = .ok (.sipush 220, 3) := by decide +kernel
theorem d_Md_init_57 : decode q_mMd_init.1 57 = .ok (.newarray .int, 2) := by decide +kernel
theorem d_Md_init_59 : decode q_mMd_init.1 59 = .ok (.putfield 30, 3) := by decide +kernel
theorem d_Md_init_62 : decode q_mMd_init.1 62 = .ok (.aload_n 0, 1) := by decide +kernel
theorem d_Md_init_63 : decode q_mMd_init.1 63 = .ok (.sipush 220, 3) := by decide +kernel
theorem d_Md_init_66 : decode q_mMd_init.1 66 = .ok (.newarray .int, 2) := by decide +kernel
theorem d_Md_init_68 : decode q_mMd_init.1 68 = .ok (.putfield 33, 3) := by decide +kernel
theorem d_Md_init_71 : decode q_mMd_init.1 71 = .ok (.aload_n 0, 1) := by decide +kernel
theorem d_Md_init_72 : decode q_mMd_init.1 72 = .ok (.sipush 220, 3) := by decide +kernel
theorem d_Md_init_75 : decode q_mMd_init.1 75 = .ok (.newarray .int, 2) := by decide +kernel
theorem d_Md_init_77 : decode q_mMd_init.1 77 = .ok (.putfield 36, 3) := by decide +kernel
theorem d_Md_init_80 : decode q_mMd_init.1 80 = .ok (.aload_n 0, 1) := by decide +kernel
theorem d_Md_init_81 : decode q_mMd_init.1 81 = .ok (.sipush 220, 3) := by decide +kernel
theorem d_Md_init_84 : decode q_mMd_init.1 84 = .ok (.newarray .boolean, 2) := by decide +kernel
theorem d_Md_init_86 : decode q_mMd_init.1 86 = .ok (.putfield 39, 3) := by decide +kernel
theorem d_Md_init_89 : decode q_mMd_init.1 89 = .ok (.aload_n 0, 1) := by decide +kernel
theorem d_Md_init_90 : decode q_mMd_init.1 90 = .ok (.sipush 220, 3) := by decide +kernel
theorem d_Md_init_93 : decode q_mMd_init.1 93 = .ok (.newarray .int, 2) := by decide +kernel
theorem d_Md_init_95 : decode q_mMd_init.1 95 = .ok (.putfield 43, 3) := by decide +kernel
theorem d_Md_init_98 : decode q_mMd_init.1 98 = .ok (.aload_n 0, 1) := by decide +kernel
theorem d_Md_init_99 : decode q_mMd_init.1 99 = .ok (.bipush 9, 2) := by decide +kernel
theorem d_Md_init_101 : decode q_mMd_init.1 101 = .ok (.newarray .int, 2) := by decide +kernel
theorem d_Md_init_103 : decode q_mMd_init.1 103 = .ok (.putfield 46, 3) := by decide +kernel
theorem d_Md_init_106 : decode q_mMd_init.1 106 = .ok (.aload_n 0, 1) := by decide +kernel
theorem d_Md_init_107 : decode q_mMd_init.1 107 = .ok (.bipush 9, 2) := by decide +kernel
theorem d_Md_init_109 : decode q_mMd_init.1 109 = .ok (.newarray .int, 2) := by decide +kernel
theorem d_Md_init_111 : decode q_mMd_init.1 111 = .ok (.putfield 49, 3) := by decide +kernel
theorem d_Md_init_114 : decode q_mMd_init.1 114 = .ok (.aload_n 0, 1) := by decide +kernel
theorem d_Md_init_115 : decode q_mMd_init.1 115 = .ok (.bipush 9, 2) := by decide +kernel
theorem d_Md_init_117 : decode q_mMd_init.1 117 = .ok (.newarray .int, 2) := by decide +kernel
theorem d_Md_init_119 : decode q_mMd_init.1 119 = .ok (.putfield 52, 3) := by decide +kernel
theorem d_Md_init_122 : decode q_mMd_init.1 122 = .ok (.aload_n 0, 1) := by decide +kernel
theorem d_Md_init_123 : decode q_mMd_init.1 123 = .ok (.sipush 400, 3) := by decide +kernel
theorem d_Md_init_126 : decode q_mMd_init.1 126 = .ok (.newarray .int, 2) := by decide +kernel
theorem d_Md_init_128 : decode q_mMd_init.1 128 = .ok (.putfield 55, 3) := by decide +kernel
theorem d_Md_init_131 : decode q_mMd_init.1 131 = .ok (.aload_n 0, 1) := by decide +kernel
theorem d_Md_init_132 : decode q_mMd_init.1 132 = .ok (.sipush 160, 3) := by decide +kernel
theorem d_Md_init_135 : decode q_mMd_init.1 135 = .ok (.newarray .int, 2) := by decide +kernel
theorem d_Md_init_137 : decode q_mMd_init.1 137 = .ok (.putfield 58, 3) := by decide +kernel
theorem d_Md_init_140 : decode q_mMd_init.1 140 = .ok (.aload_n 0, 1) := by decide +kernel
theorem d_Md_init_141 : decode q_mMd_init.1 141 = .ok (.sipush 160, 3) := by decide +kernel
theorem d_Md_init_144 : decode q_mMd_init.1 144 = .ok (.newarray .int, 2) := by decide +kernel
theorem d_Md_init_146 : decode q_mMd_init.1 146 = .ok (.putfield 61, 3) := by decide +kernel
theorem d_Md_init_149 : decode q_mMd_init.1 149 = .ok (.aload_n 0, 1) := by decide +kernel
theorem d_Md_init_150 : decode q_mMd_init.1 150 = .ok (.sipush 160, 3) := by decide +kernel
theorem d_Md_init_153 : decode q_mMd_init.1 153 = .ok (.newarray .int, 2) := by decide +kernel
theorem d_Md_init_155 : decode q_mMd_init.1 155 = .ok (.putfield 64, 3) := by decide +kernel
theorem d_Md_init_158 : decode q_mMd_init.1 158 = .ok (.aload_n 0, 1) := by decide +kernel
theorem d_Md_init_159 : decode q_mMd_init.1 159 = .ok (.sipush 800, 3) := by decide +kernel
theorem d_Md_init_162 : decode q_mMd_init.1 162 = .ok (.newarray .int, 2) := by decide +kernel
theorem d_Md_init_164 : decode q_mMd_init.1 164 = .ok (.putfield 67, 3) := by decide +kernel
theorem d_Md_init_167 : decode q_mMd_init.1 167 = .ok (.aload_n 0, 1) := by decide +kernel
theorem d_Md_init_168 : decode q_mMd_init.1 168 = .ok (.sipush 800, 3) := by decide +kernel
theorem d_Md_init_171 : decode q_mMd_init.1 171 = .ok (.newarray .int, 2) := by decide +kernel
theorem d_Md_init_173 : decode q_mMd_init.1 173 = .ok (.putfield 70, 3) := by decide +kernel
theorem d_Md_init_176 : decode q_mMd_init.1 176 = .ok (.aload_n 0, 1) := by decide +kernel
theorem d_Md_init_177 : decode q_mMd_init.1 177 = .ok (.sipush 200, 3) := by decide +kernel
theorem d_Md_init_180 : decode q_mMd_init.1 180 = .ok (.newarray .int, 2) := by decide +kernel
theorem d_Md_init_182 : decode q_mMd_init.1 182 = .ok (.putfield 73, 3) := by decide +kernel
theorem d_Md_init_185 : decode q_mMd_init.1 185 = .ok (.aload_n 0, 1) := by decide +kernel
theorem d_Md_init_186 : decode q_mMd_init.1 186 = .ok (.sipush 1120, 3) := by decide +kernel
theorem d_Md_init_189 : decode q_mMd_init.1 189 = .ok (.newarray .int, 2) := by decide +kernel
theorem d_Md_init_191 : decode q_mMd_init.1 191 = .ok (.putfield 76, 3) := by decide +kernel
theorem d_Md_init_194 : decode q_mMd_init.1 194 = .ok (.aload_n 0, 1) := by decide +kernel
theorem d_Md_init_195 : decode q_mMd_init.1 195 = .ok (.bipush 14, 2) := by decide +kernel
theorem d_Md_init_197 : decode q_mMd_init.1 197 = .ok (.newarray .int, 2) := by decide +kernel
theorem d_Md_init_199 : decode q_mMd_init.1 199 = .ok (.putfield 79, 3) := by decide +kernel
theorem d_Md_init_202 : decode q_mMd_init.1 202 = .ok (.aload_n 0, 1) := by decide +kernel
theorem d_Md_init_203 : decode q_mMd_init.1 203 = .ok (.sipush 160, 3) := by decide +kernel
theorem d_Md_init_206 : decode q_mMd_init.1 206 = .ok (.newarray .boolean, 2) := by decide +kernel
theorem d_Md_init_208 : decode q_mMd_init.1 208 = .ok (.putfield 82, 3) := by decide +kernel
theorem d_Md_init_211 : decode q_mMd_init.1 211 = .ok (.aload_n 0, 1) := by decide +kernel
theorem d_Md_init_212 : decode q_mMd_init.1 212 = .ok (.sipush 160, 3) := by decide +kernel
theorem d_Md_init_215 : decode q_mMd_init.1 215 = .ok (.newarray .boolean, 2) := by decide +kernel
theorem d_Md_init_217 : decode q_mMd_init.1 217 = .ok (.putfield 85, 3) := by decide +kernel
theorem d_Md_init_220 : decode q_mMd_init.1 220 = .ok (.aload_n 0, 1) := by decide +kernel
theorem d_Md_init_221 : decode q_mMd_init.1 221 = .ok (.sipush 160, 3) := by decide +kernel
theorem d_Md_init_224 : decode q_mMd_init.1 224 = .ok (.newarray .boolean, 2) := by decide +kernel
theorem d_Md_init_226 : decode q_mMd_init.1 226 = .ok (.putfield 88, 3) := by decide +kernel
theorem d_Md_init_229 : decode q_mMd_init.1 229 = .ok (.aload_n 0, 1) := by decide +kernel
theorem d_Md_init_230 : decode q_mMd_init.1 230 = .ok (.sipush 330, 3) := by decide +kernel
theorem d_Md_init_233 : decode q_mMd_init.1 233 = .ok (.newarray .int, 2) := by decide +kernel
theorem d_Md_init_235 : decode q_mMd_init.1 235 = .ok (.putfield 91, 3) := by decide +kernel
theorem d_Md_init_238 : decode q_mMd_init.1 238 = .ok (.aload_n 0, 1) := by decide +kernel
theorem d_Md_init_239 : decode q_mMd_init.1 239 = .ok (.sipush 330, 3) := by decide +kernel
theorem d_Md_init_242 : decode q_mMd_init.1 242 = .ok (.newarray .int, 2) := by decide +kernel
theorem d_Md_init_244 : decode q_mMd_init.1 244 = .ok (.putfield 94, 3) := by decide +kernel
theorem d_Md_init_247 : decode q_mMd_init.1 247 = .ok (.aload_n 0, 1) := by decide +kernel
theorem d_Md_init_248 : decode q_mMd_init.1 248 = .ok (.sipush 160, 3) := by decide +kernel
theorem d_Md_init_251 : decode q_mMd_init.1 251 = .ok (.newarray .boolean, 2) := by decide +kernel
theorem d_Md_init_253 : decode q_mMd_init.1 253 = .ok (.putfield 97, 3) := by decide +kernel
theorem d_Md_init_256 : decode q_mMd_init.1 256 = .ok (.aload_n 0, 1) := by decide +kernel
theorem d_Md_init_257 : decode q_mMd_init.1 257 = .ok (.sipush 160, 3) := by decide +kernel
theorem d_Md_init_260 : decode q_mMd_init.1 260 = .ok (.newarray .int, 2) := by decide +kernel
theorem d_Md_init_262 : decode q_mMd_init.1 262 = .ok (.putfield 100, 3) := by decide +kernel
theorem d_Md_init_265 : decode q_mMd_init.1 265 = .ok (.return_, 1) := by decide +kernel
theorem d_Md_thrown_0 : decode q_mMd_thrown.1 0 = .ok (.aload_n 0, 1) := by decide +kernel
theorem d_Md_thrown_1 : decode q_mMd_thrown.1 1 = .ok (.getfield 103, 3) := by decide +kernel
theorem d_Md_thrown_4 : decode q_mMd_thrown.1 4 = .ok (.ireturn, 1) := by decide +kernel
theorem d_Md_pattern_0 : decode q_mMd_pattern.1 0 = .ok (.aload_n 0, 1) := by decide +kernel
theorem d_Md_pattern_1 : decode q_mMd_pattern.1 1 = .ok (.iconst 0, 1) := by decide +kernel
theorem d_Md_pattern_2 : decode q_mMd_pattern.1 2 = .ok (.putfield 103, 3) := by decide +kernel
theorem d_Md_pattern_5 : decode q_mMd_pattern.1 5 = .ok (.iload_n 1, 1) := by decide +kernel
theorem d_Md_pattern_6 : decode q_mMd_pattern.1 6 = .ok (.bipush 32, 2) := by decide +kernel
theorem d_Md_pattern_8 : decode q_mMd_pattern.1 8 = .ok (.if_icmp .lt 25, 3) := by decide +kernel
theorem d_Md_pattern_11 : decode q_mMd_pattern.1 11 = .ok (.iload_n 1, 1) := by decide +kernel
theorem d_Md_pattern_12 : decode q_mMd_pattern.1 12 = .ok (.bipush 126, 2) := by decide +kernel
theorem d_Md_pattern_14 : decode q_mMd_pattern.1 14 = .ok (.if_icmp .gt 19, 3) := by decide +kernel
theorem d_Md_pattern_17 : decode q_mMd_pattern.1 17 = .ok (.aload_n 0, 1) := by decide +kernel
theorem d_Md_pattern_18 : decode q_mMd_pattern.1 18 = .ok (.getfield 106, 3) := by decide +kernel
theorem d_Md_pattern_21 : decode q_mMd_pattern.1 21 = .ok (.bipush 48, 2) := by decide +kernel
theorem d_Md_pattern_23 : decode q_mMd_pattern.1 23 = .ok (.if_icmp .eq 10, 3) := by decide +kernel
theorem d_Md_pattern_26 : decode q_mMd_pattern.1 26 = .ok (.aload_n 0, 1) := by decide +kernel
theorem d_Md_pattern_27 : decode q_mMd_pattern.1 27 = .ok (.getfield 109, 3) := by decide +kernel
theorem d_Md_pattern_30 : decode q_mMd_pattern.1 30 = .ok (.ifCond .le 5, 3) := by decide +kernel
theorem d_Md_pattern_33 : decode q_mMd_pattern.1 33 = .ok (.iconst 0, 1) := by decide +kernel
theorem d_Md_pattern_34 : decode q_mMd_pattern.1 34 = .ok (.ireturn, 1) := by decide +kernel
theorem d_Md_pattern_35 : decode q_mMd_pattern.1 35 = .ok (.aload_n 0, 1) := by decide +kernel
theorem d_Md_pattern_36 : decode q_mMd_pattern.1 36 = .ok (.getfield 7, 3) := by decide +kernel
theorem d_Md_pattern_39 : decode q_mMd_pattern.1 39 = .ok (.aload_n 0, 1) := by decide +kernel
theorem d_Md_pattern_40 : decode q_mMd_pattern.1 40 = .ok (.getfield 106, 3) := by decide +kernel
theorem d_Md_pattern_43 : decode q_mMd_pattern.1 43 = .ok (.iload_n 1, 1) := by decide +kernel
theorem d_Md_pattern_44 : decode q_mMd_pattern.1 44 = .ok (.castore, 1) := by decide +kernel
theorem d_Md_pattern_45 : decode q_mMd_pattern.1 45 = .ok (.aload_n 0, 1) := by decide +kernel
theorem d_Md_pattern_46 : decode q_mMd_pattern.1 46 = .ok (.dup, 1) := by decide +kernel
theorem d_Md_pattern_47 : decode q_mMd_pattern.1 47 = .ok (.getfield 106, 3) := by decide +kernel
theorem d_Md_pattern_50 : decode q_mMd_pattern.1 50 = .ok (.iconst 1, 1) := by decide +kernel
theorem d_Md_pattern_51 : decode q_mMd_pattern.1 51 = .ok (.iadd, 1) := by decide +kernel
theorem d_Md_pattern_52 : decode q_mMd_pattern.1 52 = .ok (.putfield 106, 3) := by decide +kernel
theorem d_Md_pattern_55 : decode q_mMd_pattern.1 55 = .ok (.iconst 1, 1) := by decide +kernel
theorem d_Md_pattern_56 : decode q_mMd_pattern.1 56 = .ok (.ireturn, 1) := by decide +kernel
theorem d_Md_compile_0 : decode q_mMd_compile.1 0 = .ok (.aload_n 0, 1) := by decide +kernel
theorem d_Md_compile_1 : decode q_mMd_compile.1 1 = .ok (.iconst 0, 1) := by decide +kernel
theorem d_Md_compile_2 : decode q_mMd_compile.1 2 = .ok (.putfield 103, 3) := by decide +kernel
theorem d_Md_compile_5 : decode q_mMd_compile.1 5 = .ok (.aload_n 0, 1) := by decide +kernel
theorem d_Md_compile_6 : decode q_mMd_compile.1 6 = .ok (.getfield 109, 3) := by decide +kernel
theorem d_Md_compile_9 : decode q_mMd_compile.1 9 = .ok (.ifCond .le 7, 3) := by decide +kernel
theorem d_Md_compile_12 : decode q_mMd_compile.1 12 = .ok (.iconst 1, 1) := by decide +kernel
theorem d_Md_compile_13 : decode q_mMd_compile.1 13 = .ok (.goto 4, 3) := by decide +kernel
theorem d_Md_compile_16 : decode q_mMd_compile.1 16 = .ok (.iconst 0, 1) := by decide +kernel
theorem d_Md_compile_17 : decode q_mMd_compile.1 17 = .ok (.istore_n 1, 1) := by decide +kernel
theorem d_Md_compile_18 : decode q_mMd_compile.1 18 = .ok (.iload_n 1, 1) := by decide +kernel
theorem d_Md_compile_19 : decode q_mMd_compile.1 19 = .ok (.ifCond .ne 14, 3) := by decide +kernel
theorem d_Md_compile_22 : decode q_mMd_compile.1 22 = .ok (.aload_n 0, 1) := by decide +kernel
theorem d_Md_compile_23 : decode q_mMd_compile.1 23 = .ok (.invokevirtual 201, 3) := by decide +kernel
theorem d_Md_compile_26 : decode q_mMd_compile.1 26 = .ok (.ifCond .eq 7, 3) := by decide +kernel
theorem d_Md_compile_29 : decode q_mMd_compile.1 29 = .ok (.iconst 1, 1) := by decide +kernel
theorem d_Md_compile_30 : decode q_mMd_compile.1 30 = .ok (.goto 4, 3) := by decide +kernel
theorem d_Md_compile_33 : decode q_mMd_compile.1 33 = .ok (.iconst 0, 1) := by decide +kernel
theorem d_Md_compile_34 : decode q_mMd_compile.1 34 = .ok (.istore_n 2, 1) := by decide +kernel
theorem d_Md_compile_35 : decode q_mMd_compile.1 35 = .ok (.aload_n 0, 1) := by decide +kernel
theorem d_Md_compile_36 : decode q_mMd_compile.1 36 = .ok (.iload_n 1, 1) := by decide +kernel
theorem d_Md_compile_37 : decode q_mMd_compile.1 37 = .ok (.ifCond .ne 7, 3) := by decide +kernel
theorem d_Md_compile_40 : decode q_mMd_compile.1 40 = .ok (.iload_n 2, 1) := by decide +kernel
theorem d_Md_compile_41 : decode q_mMd_compile.1 41 = .ok (.ifCond .eq 7, 3) := by decide +kernel
theorem d_Md_compile_44 : decode q_mMd_compile.1 44 = .ok (.iconst (-1), 1) := by decide +kernel
theorem d_Md_compile_45 : decode q_mMd_compile.1 45 = .ok (.goto 7, 3) := by decide +kernel
theorem d_Md_compile_48 : decode q_mMd_compile.1 48 = .ok (.aload_n 0, 1) := by decide +kernel
theorem d_Md_compile_49 : decode q_mMd_compile.1 49 = .ok (.getfield 126, 3) := by decide +kernel
theorem d_Md_compile_52 : decode q_mMd_compile.1 52 = .ok (.putfield 13, 3) := by decide +kernel
theorem d_Md_compile_55 : decode q_mMd_compile.1 55 = .ok (.aload_n 0, 1) := by decide +kernel
theorem d_Md_compile_56 : decode q_mMd_compile.1 56 = .ok (.getfield 112, 3) := by decide +kernel
theorem d_Md_compile_59 : decode q_mMd_compile.1 59 = .ok (.iconst 1, 1) := by decide +kernel
theorem d_Md_compile_60 : decode q_mMd_compile.1 60 = .ok (.isub, 1) := by decide +kernel
theorem d_Md_compile_61 : decode q_mMd_compile.1 61 = .ok (.istore_n 3, 1) := by decide +kernel
theorem d_Md_compile_62 : decode q_mMd_compile.1 62 = .ok (.iload_n 3, 1) := by decide +kernel
theorem d_Md_compile_63 : decode q_mMd_compile.1 63 = .ok (.ifCond .lt 24, 3) := by decide +kernel
theorem d_Md_compile_66 : decode q_mMd_compile.1 66 = .ok (.iload_n 2, 1) := by decide +kernel
theorem d_Md_compile_67 : decode q_mMd_compile.1 67 = .ok (.ifCond .eq 20, 3) := by decide +kernel
theorem d_Md_compile_70 : decode q_mMd_compile.1 70 = .ok (.aload_n 0, 1) := by decide +kernel
theorem d_Md_compile_71 : decode q_mMd_compile.1 71 = .ok (.getfield 43, 3) := by decide +kernel
theorem d_Md_compile_74 : decode q_mMd_compile.1 74 = .ok (.iload_n 3, 1) := by decide +kernel
theorem d_Md_compile_75 : decode q_mMd_compile.1 75 = .ok (.aload_n 0, 1) := by decide +kernel
theorem d_Md_compile_76 : decode q_mMd_compile.1 76 = .ok (.iload_n 3, 1) := by decide +kernel
theorem d_Md_compile_77 : decode q_mMd_compile.1 77 = .ok (.invokevirtual 205, 3) := by decide +kernel
theorem d_Md_compile_80 : decode q_mMd_compile.1 80 = .ok (.iastore, 1) := by decide +kernel
theorem d_Md_compile_81 : decode q_mMd_compile.1 81 = .ok (.iinc 3 (-1), 3) := by decide +kernel
theorem d_Md_compile_84 : decode q_mMd_compile.1 84 = .ok (.goto (-22), 3) := by decide +kernel
theorem d_Md_compile_87 : decode q_mMd_compile.1 87 = .ok (.aload_n 0, 1) := by decide +kernel
theorem d_Md_compile_88 : decode q_mMd_compile.1 88 = .ok (.iload_n 1, 1) := by decide +kernel
theorem d_Md_compile_89 : decode q_mMd_compile.1 89 = .ok (.ifCond .eq 7, 3) := by decide +kernel
theorem d_Md_compile_92 : decode q_mMd_compile.1 92 = .ok (.iconst 2, 1) := by decide +kernel
theorem d_Md_compile_93 : decode q_mMd_compile.1 93 = .ok (.goto 30, 3) := by decide +kernel
theorem d_Md_compile_96 : decode q_mMd_compile.1 96 = .ok (.iload_n 2, 1) := by decide +kernel
theorem d_Md_compile_97 : decode q_mMd_compile.1 97 = .ok (.ifCond .ne 7, 3) := by decide +kernel
theorem d_Md_compile_100 : decode q_mMd_compile.1 100 = .ok (.iconst 1, 1) := by decide +kernel
theorem d_Md_compile_101 : decode q_mMd_compile.1 101 = .ok (.goto 22, 3) := by decide +kernel
theorem d_Md_compile_104 : decode q_mMd_compile.1 104 = .ok (.aload_n 0, 1) := by decide +kernel
theorem d_Md_compile_105 : decode q_mMd_compile.1 105 = .ok (.getfield 43, 3) := by decide +kernel
theorem d_Md_compile_108 : decode q_mMd_compile.1 108 = .ok (.iconst 0, 1) := by decide +kernel
theorem d_Md_compile_109 : decode q_mMd_compile.1 109 = .ok (.iaload, 1) := by decide +kernel
theorem d_Md_compile_110 : decode q_mMd_compile.1 110 = .ok (.iconst 3, 1) := by decide +kernel
theorem d_Md_compile_111 : decode q_mMd_compile.1 111 = .ok (.iadd, 1) := by decide +kernel
theorem d_Md_compile_112 : decode q_mMd_compile.1 112 = .ok (.sipush 160, 3) := by decide +kernel
theorem d_Md_compile_115 : decode q_mMd_compile.1 115 = .ok (.if_icmp .le 7, 3) := by decide +kernel
theorem d_Md_compile_118 : decode q_mMd_compile.1 118 = .ok (.iconst 2, 1) := by decide +kernel
theorem d_Md_compile_119 : decode q_mMd_compile.1 119 = .ok (.goto 4, 3) := by decide +kernel
theorem d_Md_compile_122 : decode q_mMd_compile.1 122 = .ok (.iconst 0, 1) := by decide +kernel
theorem d_Md_compile_123 : decode q_mMd_compile.1 123 = .ok (.putfield 103, 3) := by decide +kernel
theorem d_Md_compile_126 : decode q_mMd_compile.1 126 = .ok (.aload_n 0, 1) := by decide +kernel
theorem d_Md_compile_127 : decode q_mMd_compile.1 127 = .ok (.getfield 103, 3) := by decide +kernel
theorem d_Md_compile_130 : decode q_mMd_compile.1 130 = .ok (.ifCond .le 5, 3) := by decide +kernel
theorem d_Md_compile_133 : decode q_mMd_compile.1 133 = .ok (.iconst 0, 1) := by decide +kernel
theorem d_Md_compile_134 : decode q_mMd_compile.1 134 = .ok (.ireturn, 1) := by decide +kernel
theorem d_Md_compile_135 : decode q_mMd_compile.1 135 = .ok (.aload_n 0, 1) := by decide +kernel
theorem d_Md_compile_136 : decode q_mMd_compile.1 136 = .ok (.aload_n 0, 1) := by decide +kernel
theorem d_Md_compile_137 : decode q_mMd_compile.1 137 = .ok (.getfield 43, 3) := by decide +kernel
theorem d_Md_compile_140 : decode q_mMd_compile.1 140 = .ok (.iconst 0, 1) := by decide +kernel
theorem d_Md_compile_141 : decode q_mMd_compile.1 141 = .ok (.iaload, 1) := by decide +kernel
theorem d_Md_compile_142 : decode q_mMd_compile.1 142 = .ok (.iconst 3, 1) := by decide +kernel
theorem d_Md_compile_143 : decode q_mMd_compile.1 143 = .ok (.iadd, 1) := by decide +kernel
theorem d_Md_compile_144 : decode q_mMd_compile.1 144 = .ok (.putfield 109, 3) := by decide +kernel
theorem d_Md_compile_147 : decode q_mMd_compile.1 147 = .ok (.aload_n 0, 1) := by decide +kernel
theorem d_Md_compile_148 : decode q_mMd_compile.1 148 = .ok (.iconst 0, 1) := by decide +kernel
theorem d_Md_compile_149 : decode q_mMd_compile.1 149 = .ok (.iconst 3, 1) := by decide +kernel
theorem d_Md_compile_150 : decode q_mMd_compile.1 150 = .ok (.iconst 0, 1) := by decide +kernel
theorem d_Md_compile_151 : decode q_mMd_compile.1 151 = .ok (.iconst 0, 1) := by decide +kernel
theorem d_Md_compile_152 : decode q_mMd_compile.1 152 = .ok (.invokevirtual 180, 3) := by decide +kernel
theorem d_Md_compile_155 : decode q_mMd_compile.1 155 = .ok (.aload_n 0, 1) := by decide +kernel
theorem d_Md_compile_156 : decode q_mMd_compile.1 156 = .ok (.aload_n 0, 1) := by decide +kernel
theorem d_Md_compile_157 : decode q_mMd_compile.1 157 = .ok (.getfield 109, 3) := by decide +kernel
theorem d_Md_compile_160 : decode q_mMd_compile.1 160 = .ok (.iconst 2, 1) := by decide +kernel
theorem d_Md_compile_161 : decode q_mMd_compile.1 161 = .ok (.isub, 1) := by decide +kernel
theorem d_Md_compile_162 : decode q_mMd_compile.1 162 = .ok (.iconst 3, 1) := by decide +kernel
theorem d_Md_compile_163 : decode q_mMd_compile.1 163 = .ok (.iconst 1, 1) := by decide +kernel
theorem d_Md_compile_164 : decode q_mMd_compile.1 164 = .ok (.iconst 0, 1) := by decide +kernel
theorem d_Md_compile_165 : decode q_mMd_compile.1 165 = .ok (.invokevirtual 180, 3) := by decide +kernel
theorem d_Md_compile_168 : decode q_mMd_compile.1 168 = .ok (.aload_n 0, 1) := by decide +kernel
theorem d_Md_compile_169 : decode q_mMd_compile.1 169 = .ok (.aload_n 0, 1) := by decide +kernel
theorem d_Md_compile_170 : decode q_mMd_compile.1 170 = .ok (.getfield 109, 3) := by decide +kernel
theorem d_Md_compile_173 : decode q_mMd_compile.1 173 = .ok (.iconst 1, 1) := by decide +kernel
theorem d_Md_compile_174 : decode q_mMd_compile.1 174 = .ok (.isub, 1) := by decide +kernel
theorem d_Md_compile_175 : decode q_mMd_compile.1 175 = .ok (.iconst 4, 1) := by decide +kernel
theorem d_Md_compile_176 : decode q_mMd_compile.1 176 = .ok (.iconst 0, 1) := by decide +kernel
theorem d_Md_compile_177 : decode q_mMd_compile.1 177 = .ok (.iconst 0, 1) := by decide +kernel
theorem d_Md_compile_178 : decode q_mMd_compile.1 178 = .ok (.invokevirtual 180, 3) := by decide +kernel
theorem d_Md_compile_181 : decode q_mMd_compile.1 181 = .ok (.aload_n 0, 1) := by decide +kernel
theorem d_Md_compile_182 : decode q_mMd_compile.1 182 = .ok (.iconst 0, 1) := by decide +kernel
theorem d_Md_compile_183 : decode q_mMd_compile.1 183 = .ok (.putfield 184, 3) := by decide +kernel
theorem d_Md_compile_186 : decode q_mMd_compile.1 186 = .ok (.aload_n 0, 1) := by decide +kernel
theorem d_Md_compile_187 : decode q_mMd_compile.1 187 = .ok (.iconst 0, 1) := by decide +kernel
theorem d_Md_compile_188 : decode q_mMd_compile.1 188 = .ok (.iconst 1, 1) := by decide +kernel
theorem d_Md_compile_189 : decode q_mMd_compile.1 189 = .ok (.invokevirtual 187, 3) := by decide +kernel
theorem d_Md_compile_192 : decode q_mMd_compile.1 192 = .ok (.aload_n 0, 1) := by decide +kernel
theorem d_Md_compile_193 : decode q_mMd_compile.1 193 = .ok (.getfield 184, 3) := by decide +kernel
theorem d_Md_compile_196 : decode q_mMd_compile.1 196 = .ok (.ifCond .le 38, 3) := by decide +kernel
theorem d_Md_compile_199 : decode q_mMd_compile.1 199 = .ok (.aload_n 0, 1) := by decide +kernel
theorem d_Md_compile_200 : decode q_mMd_compile.1 200 = .ok (.dup, 1) := by decide +kernel
theorem d_Md_compile_201 : decode q_mMd_compile.1 201 = .ok (.getfield 184, 3) := by decide +kernel
theorem d_Md_compile_204 : decode q_mMd_compile.1 204 = .ok (.iconst 1, 1) := by decide +kernel
theorem d_Md_compile_205 : decode q_mMd_compile.1 205 = .ok (.isub, 1) := by decide +kernel
theorem d_Md_compile_206 : decode q_mMd_compile.1 206 = .ok (.putfield 184, 3) := by decide +kernel
theorem d_Md_compile_209 : decode q_mMd_compile.1 209 = .ok (.aload_n 0, 1) := by decide +kernel
theorem d_Md_compile_210 : decode q_mMd_compile.1 210 = .ok (.aload_n 0, 1) := by decide +kernel
theorem d_Md_compile_211 : decode q_mMd_compile.1 211 = .ok (.getfield 67, 3) := by decide +kernel
theorem d_Md_compile_214 : decode q_mMd_compile.1 214 = .ok (.aload_n 0, 1) := by decide +kernel
theorem d_Md_compile_215 : decode q_mMd_compile.1 215 = .ok (.getfield 184, 3) := by decide +kernel
theorem d_Md_compile_218 : decode q_mMd_compile.1 218 = .ok (.iaload, 1) := by decide +kernel
theorem d_Md_compile_219 : decode q_mMd_compile.1 219 = .ok (.aload_n 0, 1) := by decide +kernel
theorem d_Md_compile_220 : decode q_mMd_compile.1 220 = .ok (.getfield 70, 3) := by decide +kernel
theorem d_Md_compile_223 : decode q_mMd_compile.1 223 = .ok (.aload_n 0, 1) := by decide +kernel
theorem d_Md_compile_224 : decode q_mMd_compile.1 224 = .ok (.getfield 184, 3) := by decide +kernel
theorem d_Md_compile_227 : decode q_mMd_compile.1 227 = .ok (.iaload, 1) := by decide +kernel
theorem d_Md_compile_228 : decode q_mMd_compile.1 228 = .ok (.invokevirtual 209, 3) := by decide +kernel
theorem d_Md_compile_231 : decode q_mMd_compile.1 231 = .ok (.goto (-39), 3) := by decide +kernel
theorem d_Md_compile_234 : decode q_mMd_compile.1 234 = .ok (.aload_n 0, 1) := by decide +kernel
theorem d_Md_compile_235 : decode q_mMd_compile.1 235 = .ok (.iconst 0, 1) := by decide +kernel
theorem d_Md_compile_236 : decode q_mMd_compile.1 236 = .ok (.putfield 212, 3) := by decide +kernel
theorem d_Md_compile_239 : decode q_mMd_compile.1 239 = .ok (.aload_n 0, 1) := by decide +kernel
theorem d_Md_compile_240 : decode q_mMd_compile.1 240 = .ok (.getfield 109, 3) := by decide +kernel
theorem d_Md_compile_243 : decode q_mMd_compile.1 243 = .ok (.ireturn, 1) := by decide +kernel
theorem d_Md_read_0 : decode q_mMd_read.1 0 = .ok (.aload_n 0, 1) := by decide +kernel
theorem d_Md_read_1 : decode q_mMd_read.1 1 = .ok (.iconst 0, 1) := by decide +kernel
theorem d_Md_read_2 : decode q_mMd_read.1 2 = .ok (.putfield 112, 3) := by decide +kernel
theorem d_Md_read_5 : decode q_mMd_read.1 5 = .ok (.aload_n 0, 1) := by decide +kernel
theorem d_Md_read_6 : decode q_mMd_read.1 6 = .ok (.iconst 0, 1) := by decide +kernel
theorem d_Md_read_7 : decode q_mMd_read.1 7 = .ok (.putfield 115, 3) := by decide +kernel
theorem d_Md_read_10 : decode q_mMd_read.1 10 = .ok (.aload_n 0, 1) := by decide +kernel
theorem d_Md_read_11 : decode q_mMd_read.1 11 = .ok (.iconst 0, 1) := by decide +kernel
theorem d_Md_read_12 : decode q_mMd_read.1 12 = .ok (.putfield 164, 3) := by decide +kernel
theorem d_Md_read_15 : decode q_mMd_read.1 15 = .ok (.aload_n 0, 1) := by decide +kernel
theorem d_Md_read_16 : decode q_mMd_read.1 16 = .ok (.iconst 0, 1) := by decide +kernel
theorem d_Md_read_17 : decode q_mMd_read.1 17 = .ok (.putfield 161, 3) := by decide +kernel
theorem d_Md_read_20 : decode q_mMd_read.1 20 = .ok (.aload_n 0, 1) := by decide +kernel
theorem d_Md_read_21 : decode q_mMd_read.1 21 = .ok (.iconst 0, 1) := by decide +kernel
theorem d_Md_read_22 : decode q_mMd_read.1 22 = .ok (.putfield 126, 3) := by decide +kernel
theorem d_Md_read_25 : decode q_mMd_read.1 25 = .ok (.aload_n 0, 1) := by decide +kernel
theorem d_Md_read_26 : decode q_mMd_read.1 26 = .ok (.getfield 49, 3) := by decide +kernel
theorem d_Md_read_29 : decode q_mMd_read.1 29 = .ok (.iconst 0, 1) := by decide +kernel
theorem d_Md_read_30 : decode q_mMd_read.1 30 = .ok (.aload_n 0, 1) := by decide +kernel
theorem d_Md_read_31 : decode q_mMd_read.1 31 = .ok (.iconst 0, 1) := by decide +kernel
theorem d_Md_read_32 : decode q_mMd_read.1 32 = .ok (.iconst (-1), 1) := by decide +kernel
theorem d_Md_read_33 : decode q_mMd_read.1 33 = .ok (.invokevirtual 143, 3) := by decide +kernel
theorem d_Md_read_36 : decode q_mMd_read.1 36 = .ok (.iastore, 1) := by decide +kernel
theorem d_Md_read_37 : decode q_mMd_read.1 37 = .ok (.aload_n 0, 1) := by decide +kernel
theorem d_Md_read_38 : decode q_mMd_read.1 38 = .ok (.getfield 52, 3) := by decide +kernel
theorem d_Md_read_41 : decode q_mMd_read.1 41 = .ok (.iconst 0, 1) := by decide +kernel
theorem d_Md_read_42 : decode q_mMd_read.1 42 = .ok (.aload_n 0, 1) := by decide +kernel
theorem d_Md_read_43 : decode q_mMd_read.1 43 = .ok (.iconst 1, 1) := by decide +kernel
theorem d_Md_read_44 : decode q_mMd_read.1 44 = .ok (.iconst 0, 1) := by decide +kernel
theorem d_Md_read_45 : decode q_mMd_read.1 45 = .ok (.invokevirtual 143, 3) := by decide +kernel
theorem d_Md_read_48 : decode q_mMd_read.1 48 = .ok (.iastore, 1) := by decide +kernel
theorem d_Md_read_49 : decode q_mMd_read.1 49 = .ok (.aload_n 0, 1) := by decide +kernel
theorem d_Md_read_50 : decode q_mMd_read.1 50 = .ok (.getfield 126, 3) := by decide +kernel
theorem d_Md_read_53 : decode q_mMd_read.1 53 = .ok (.aload_n 0, 1) := by decide +kernel
theorem d_Md_read_54 : decode q_mMd_read.1 54 = .ok (.getfield 106, 3) := by decide +kernel
theorem d_Md_read_57 : decode q_mMd_read.1 57 = .ok (.if_icmp .ge 167, 3) := by decide +kernel
theorem d_Md_read_60 : decode q_mMd_read.1 60 = .ok (.aload_n 0, 1) := by decide +kernel
theorem d_Md_read_61 : decode q_mMd_read.1 61 = .ok (.aload_n 0, 1) := by decide +kernel
theorem d_Md_read_62 : decode q_mMd_read.1 62 = .ok (.getfield 126, 3) := by decide +kernel
theorem d_Md_read_65 : decode q_mMd_read.1 65 = .ok (.invokevirtual 129, 3) := by decide +kernel
theorem d_Md_read_68 : decode q_mMd_read.1 68 = .ok (.istore_n 1, 1) := by decide +kernel
theorem d_Md_read_69 : decode q_mMd_read.1 69 = .ok (.iload_n 1, 1) := by decide +kernel
theorem d_Md_read_70 : decode q_mMd_read.1 70 = .ok (.bipush 124, 2) := by decide +kernel
theorem d_Md_read_72 : decode q_mMd_read.1 72 = .ok (.if_icmp .ne 39, 3) := by decide +kernel
theorem d_Md_read_75 : decode q_mMd_read.1 75 = .ok (.aload_n 0, 1) := by decide +kernel
theorem d_Md_read_76 : decode q_mMd_read.1 76 = .ok (.dup, 1) := by decide +kernel
theorem d_Md_read_77 : decode q_mMd_read.1 77 = .ok (.getfield 126, 3) := by decide +kernel
theorem d_Md_read_80 : decode q_mMd_read.1 80 = .ok (.iconst 1, 1) := by decide +kernel
theorem d_Md_read_81 : decode q_mMd_read.1 81 = .ok (.iadd, 1) := by decide +kernel
theorem d_Md_read_82 : decode q_mMd_read.1 82 = .ok (.putfield 126, 3) := by decide +kernel
theorem d_Md_read_85 : decode q_mMd_read.1 85 = .ok (.aload_n 0, 1) := by decide +kernel
theorem d_Md_read_86 : decode q_mMd_read.1 86 = .ok (.getfield 52, 3) := by decide +kernel
theorem d_Md_read_89 : decode q_mMd_read.1 89 = .ok (.aload_n 0, 1) := by decide +kernel
theorem d_Md_read_90 : decode q_mMd_read.1 90 = .ok (.getfield 161, 3) := by decide +kernel
theorem d_Md_read_93 : decode q_mMd_read.1 93 = .ok (.aload_n 0, 1) := by decide +kernel
theorem d_Md_read_94 : decode q_mMd_read.1 94 = .ok (.iconst 1, 1) := by decide +kernel
theorem d_Md_read_95 : decode q_mMd_read.1 95 = .ok (.aload_n 0, 1) := by decide +kernel
theorem d_Md_read_96 : decode q_mMd_read.1 96 = .ok (.getfield 49, 3) := by decide +kernel
theorem d_Md_read_99 : decode q_mMd_read.1 99 = .ok (.aload_n 0, 1) := by decide +kernel
theorem d_Md_read_100 : decode q_mMd_read.1 100 = .ok (.getfield 161, 3) := by decide +kernel
theorem d_Md_read_103 : decode q_mMd_read.1 103 = .ok (.iaload, 1) := by decide +kernel
theorem d_Md_read_104 : decode q_mMd_read.1 104 = .ok (.invokevirtual 143, 3) := by decide +kernel
theorem d_Md_read_107 : decode q_mMd_read.1 107 = .ok (.iastore, 1) := by decide +kernel
theorem d_Md_read_108 : decode q_mMd_read.1 108 = .ok (.goto 113, 3) := by decide +kernel
theorem d_Md_read_111 : decode q_mMd_read.1 111 = .ok (.iload_n 1, 1) := by decide +kernel
theorem d_Md_read_112 : decode q_mMd_read.1 112 = .ok (.bipush 40, 2) := by decide +kernel
theorem d_Md_read_114 : decode q_mMd_read.1 114 = .ok (.if_icmp .ne 21, 3) := by decide +kernel
theorem d_Md_read_117 : decode q_mMd_read.1 117 = .ok (.aload_n 0, 1) := by decide +kernel
theorem d_Md_read_118 : decode q_mMd_read.1 118 = .ok (.aload_n 0, 1) := by decide +kernel
theorem d_Md_read_119 : decode q_mMd_read.1 119 = .ok (.getfield 52, 3) := by decide +kernel
theorem d_Md_read_122 : decode q_mMd_read.1 122 = .ok (.aload_n 0, 1) := by decide +kernel
theorem d_Md_read_123 : decode q_mMd_read.1 123 = .ok (.getfield 161, 3) := by decide +kernel
theorem d_Md_read_126 : decode q_mMd_read.1 126 = .ok (.iaload, 1) := by decide +kernel
theorem d_Md_read_127 : decode q_mMd_read.1 127 = .ok (.invokevirtual 167, 3) := by decide +kernel
theorem d_Md_read_130 : decode q_mMd_read.1 130 = .ok (.ifCond .ne 91, 3) := by decide +kernel
theorem d_Md_read_133 : decode q_mMd_read.1 133 = .ok (.iconst 0, 1) := by decide +kernel
theorem d_Md_read_134 : decode q_mMd_read.1 134 = .ok (.ireturn, 1) := by decide +kernel
theorem d_Md_read_135 : decode q_mMd_read.1 135 = .ok (.iload_n 1, 1) := by decide +kernel
theorem d_Md_read_136 : decode q_mMd_read.1 136 = .ok (.bipush 41, 2) := by decide +kernel
theorem d_Md_read_138 : decode q_mMd_read.1 138 = .ok (.if_icmp .ne 50, 3) := by decide +kernel
theorem d_Md_read_141 : decode q_mMd_read.1 141 = .ok (.aload_n 0, 1) := by decide +kernel
theorem d_Md_read_142 : decode q_mMd_read.1 142 = .ok (.getfield 161, 3) := by decide +kernel
theorem d_Md_read_145 : decode q_mMd_read.1 145 = .ok (.ifCond .le 43, 3) := by decide +kernel
theorem d_Md_read_148 : decode q_mMd_read.1 148 = .ok (.aload_n 0, 1) := by decide +kernel
theorem d_Md_read_149 : decode q_mMd_read.1 149 = .ok (.dup, 1) := by decide +kernel
theorem d_Md_read_150 : decode q_mMd_read.1 150 = .ok (.getfield 126, 3) := by decide +kernel
theorem d_Md_read_153 : decode q_mMd_read.1 153 = .ok (.iconst 1, 1) := by decide +kernel
theorem d_Md_read_154 : decode q_mMd_read.1 154 = .ok (.iadd, 1) := by decide +kernel
theorem d_Md_read_155 : decode q_mMd_read.1 155 = .ok (.putfield 126, 3) := by decide +kernel
theorem d_Md_read_158 : decode q_mMd_read.1 158 = .ok (.aload_n 0, 1) := by decide +kernel
theorem d_Md_read_159 : decode q_mMd_read.1 159 = .ok (.dup, 1) := by decide +kernel
theorem d_Md_read_160 : decode q_mMd_read.1 160 = .ok (.getfield 161, 3) := by decide +kernel
theorem d_Md_read_163 : decode q_mMd_read.1 163 = .ok (.iconst 1, 1) := by decide +kernel
theorem d_Md_read_164 : decode q_mMd_read.1 164 = .ok (.isub, 1) := by decide +kernel
theorem d_Md_read_165 : decode q_mMd_read.1 165 = .ok (.putfield 161, 3) := by decide +kernel
theorem d_Md_read_168 : decode q_mMd_read.1 168 = .ok (.aload_n 0, 1) := by decide +kernel
theorem d_Md_read_169 : decode q_mMd_read.1 169 = .ok (.aload_n 0, 1) := by decide +kernel
theorem d_Md_read_170 : decode q_mMd_read.1 170 = .ok (.getfield 46, 3) := by decide +kernel
theorem d_Md_read_173 : decode q_mMd_read.1 173 = .ok (.aload_n 0, 1) := by decide +kernel
theorem d_Md_read_174 : decode q_mMd_read.1 174 = .ok (.getfield 161, 3) := by decide +kernel
theorem d_Md_read_177 : decode q_mMd_read.1 177 = .ok (.iconst 1, 1) := by decide +kernel
theorem d_Md_read_178 : decode q_mMd_read.1 178 = .ok (.iadd, 1) := by decide +kernel
theorem d_Md_read_179 : decode q_mMd_read.1 179 = .ok (.iaload, 1) := by decide +kernel
theorem d_Md_read_180 : decode q_mMd_read.1 180 = .ok (.invokevirtual 170, 3) := by decide +kernel
theorem d_Md_read_183 : decode q_mMd_read.1 183 = .ok (.ifCond .ne 38, 3) := by decide +kernel
theorem d_Md_read_186 : decode q_mMd_read.1 186 = .ok (.iconst 0, 1) := by decide +kernel
theorem d_Md_read_187 : decode q_mMd_read.1 187 = .ok (.ireturn, 1) := by decide +kernel
theorem d_Md_read_188 : decode q_mMd_read.1 188 = .ok (.aload_n 0, 1) := by decide +kernel
theorem d_Md_read_189 : decode q_mMd_read.1 189 = .ok (.iconst 2, 1) := by decide +kernel
theorem d_Md_read_190 : decode q_mMd_read.1 190 = .ok (.aload_n 0, 1) := by decide +kernel
theorem d_Md_read_191 : decode q_mMd_read.1 191 = .ok (.getfield 52, 3) := by decide +kernel
theorem d_Md_read_194 : decode q_mMd_read.1 194 = .ok (.aload_n 0, 1) := by decide +kernel
theorem d_Md_read_195 : decode q_mMd_read.1 195 = .ok (.getfield 161, 3) := by decide +kernel
theorem d_Md_read_198 : decode q_mMd_read.1 198 = .ok (.iaload, 1) := by decide +kernel
theorem d_Md_read_199 : decode q_mMd_read.1 199 = .ok (.invokevirtual 143, 3) := by decide +kernel
theorem d_Md_read_202 : decode q_mMd_read.1 202 = .ok (.istore_n 2, 1) := by decide +kernel
theorem d_Md_read_203 : decode q_mMd_read.1 203 = .ok (.aload_n 0, 1) := by decide +kernel
theorem d_Md_read_204 : decode q_mMd_read.1 204 = .ok (.iload_n 2, 1) := by decide +kernel
theorem d_Md_read_205 : decode q_mMd_read.1 205 = .ok (.invokevirtual 173, 3) := by decide +kernel
theorem d_Md_read_208 : decode q_mMd_read.1 208 = .ok (.ifCond .eq 11, 3) := by decide +kernel
theorem d_Md_read_211 : decode q_mMd_read.1 211 = .ok (.aload_n 0, 1) := by decide +kernel
theorem d_Md_read_212 : decode q_mMd_read.1 212 = .ok (.iload_n 2, 1) := by decide +kernel
theorem d_Md_read_213 : decode q_mMd_read.1 213 = .ok (.invokevirtual 170, 3) := by decide +kernel
theorem d_Md_read_216 : decode q_mMd_read.1 216 = .ok (.ifCond .ne 5, 3) := by decide +kernel
theorem d_Md_read_219 : decode q_mMd_read.1 219 = .ok (.iconst 0, 1) := by decide +kernel
theorem d_Md_read_220 : decode q_mMd_read.1 220 = .ok (.ireturn, 1) := by decide +kernel
theorem d_Md_read_221 : decode q_mMd_read.1 221 = .ok (.goto (-172), 3) := by decide +kernel
theorem d_Md_read_224 : decode q_mMd_read.1 224 = .ok (.aload_n 0, 1) := by decide +kernel
theorem d_Md_read_225 : decode q_mMd_read.1 225 = .ok (.getfield 161, 3) := by decide +kernel
theorem d_Md_read_228 : decode q_mMd_read.1 228 = .ok (.ifCond .ne 7, 3) := by decide +kernel
theorem d_Md_read_231 : decode q_mMd_read.1 231 = .ok (.iconst 1, 1) := by decide +kernel
theorem d_Md_read_232 : decode q_mMd_read.1 232 = .ok (.goto 4, 3) := by decide +kernel
theorem d_Md_read_235 : decode q_mMd_read.1 235 = .ok (.iconst 0, 1) := by decide +kernel
theorem d_Md_read_236 : decode q_mMd_read.1 236 = .ok (.ireturn, 1) := by decide +kernel
theorem d_Md_node_0 : decode q_mMd_node.1 0 = .ok (.aload_n 0, 1) := by decide +kernel
theorem d_Md_node_1 : decode q_mMd_node.1 1 = .ok (.getfield 112, 3) := by decide +kernel
theorem d_Md_node_4 : decode q_mMd_node.1 4 = .ok (.istore_n 3, 1) := by decide +kernel
theorem d_Md_node_5 : decode q_mMd_node.1 5 = .ok (.aload_n 0, 1) := by decide +kernel
theorem d_Md_node_6 : decode q_mMd_node.1 6 = .ok (.dup, 1) := by decide +kernel
theorem d_Md_node_7 : decode q_mMd_node.1 7 = .ok (.getfield 112, 3) := by decide +kernel
theorem d_Md_node_10 : decode q_mMd_node.1 10 = .ok (.iconst 1, 1) := by decide +kernel
theorem d_Md_node_11 : decode q_mMd_node.1 11 = .ok (.iadd, 1) := by decide +kernel
theorem d_Md_node_12 : decode q_mMd_node.1 12 = .ok (.putfield 112, 3) := by decide +kernel
theorem d_Md_node_15 : decode q_mMd_node.1 15 = .ok (.aload_n 0, 1) := by decide +kernel
theorem d_Md_node_16 : decode q_mMd_node.1 16 = .ok (.getfield 17, 3) := by decide +kernel
theorem d_Md_node_19 : decode q_mMd_node.1 19 = .ok (.iload_n 3, 1) := by decide +kernel
theorem d_Md_node_20 : decode q_mMd_node.1 20 = .ok (.iload_n 1, 1) := by decide +kernel
theorem d_Md_node_21 : decode q_mMd_node.1 21 = .ok (.iastore, 1) := by decide +kernel
theorem d_Md_node_22 : decode q_mMd_node.1 22 = .ok (.aload_n 0, 1) := by decide +kernel
theorem d_Md_node_23 : decode q_mMd_node.1 23 = .ok (.getfield 21, 3) := by decide +kernel
theorem d_Md_node_26 : decode q_mMd_node.1 26 = .ok (.iload_n 3, 1) := by decide +kernel
theorem d_Md_node_27 : decode q_mMd_node.1 27 = .ok (.iconst (-1), 1) := by decide +kernel
theorem d_Md_node_28 : decode q_mMd_node.1 28 = .ok (.iastore, 1) := by decide +kernel
theorem d_Md_node_29 : decode q_mMd_node.1 29 = .ok (.aload_n 0, 1) := by decide +kernel
theorem d_Md_node_30 : decode q_mMd_node.1 30 = .ok (.getfield 24, 3) := by decide +kernel
theorem d_Md_node_33 : decode q_mMd_node.1 33 = .ok (.iload_n 3, 1) := by decide +kernel
theorem d_Md_node_34 : decode q_mMd_node.1 34 = .ok (.iconst (-1), 1) := by decide +kernel
theorem d_Md_node_35 : decode q_mMd_node.1 35 = .ok (.iastore, 1) := by decide +kernel
theorem d_Md_node_36 : decode q_mMd_node.1 36 = .ok (.aload_n 0, 1) := by decide +kernel
theorem d_Md_node_37 : decode q_mMd_node.1 37 = .ok (.getfield 27, 3) := by decide +kernel
theorem d_Md_node_40 : decode q_mMd_node.1 40 = .ok (.iload_n 3, 1) := by decide +kernel
theorem d_Md_node_41 : decode q_mMd_node.1 41 = .ok (.iconst (-1), 1) := by decide +kernel
theorem d_Md_node_42 : decode q_mMd_node.1 42 = .ok (.iastore, 1) := by decide +kernel
theorem d_Md_node_43 : decode q_mMd_node.1 43 = .ok (.aload_n 0, 1) := by decide +kernel
theorem d_Md_node_44 : decode q_mMd_node.1 44 = .ok (.getfield 30, 3) := by decide +kernel
theorem d_Md_node_47 : decode q_mMd_node.1 47 = .ok (.iload_n 3, 1) := by decide +kernel
theorem d_Md_node_48 : decode q_mMd_node.1 48 = .ok (.iconst 0, 1) := by decide +kernel
theorem d_Md_node_49 : decode q_mMd_node.1 49 = .ok (.iastore, 1) := by decide +kernel
theorem d_Md_node_50 : decode q_mMd_node.1 50 = .ok (.aload_n 0, 1) := by decide +kernel
theorem d_Md_node_51 : decode q_mMd_node.1 51 = .ok (.getfield 33, 3) := by decide +kernel
theorem d_Md_node_54 : decode q_mMd_node.1 54 = .ok (.iload_n 3, 1) := by decide +kernel
theorem d_Md_node_55 : decode q_mMd_node.1 55 = .ok (.iconst 0, 1) := by decide +kernel
theorem d_Md_node_56 : decode q_mMd_node.1 56 = .ok (.iastore, 1) := by decide +kernel
theorem d_Md_node_57 : decode q_mMd_node.1 57 = .ok (.aload_n 0, 1) := by decide +kernel
theorem d_Md_node_58 : decode q_mMd_node.1 58 = .ok (.getfield 36, 3) := by decide +kernel
theorem d_Md_node_61 : decode q_mMd_node.1 61 = .ok (.iload_n 3, 1) := by decide +kernel
theorem d_Md_node_62 : decode q_mMd_node.1 62 = .ok (.iconst 0, 1) := by decide +kernel
theorem d_Md_node_63 : decode q_mMd_node.1 63 = .ok (.iastore, 1) := by decide +kernel
theorem d_Md_node_64 : decode q_mMd_node.1 64 = .ok (.aload_n 0, 1) := by decide +kernel
theorem d_Md_node_65 : decode q_mMd_node.1 65 = .ok (.getfield 39, 3) := by decide +kernel
theorem d_Md_node_68 : decode q_mMd_node.1 68 = .ok (.iload_n 3, 1) := by decide +kernel
theorem d_Md_node_69 : decode q_mMd_node.1 69 = .ok (.iconst 0, 1) := by decide +kernel
theorem d_Md_node_70 : decode q_mMd_node.1 70 = .ok (.bastore, 1) := by decide +kernel
theorem d_Md_node_71 : decode q_mMd_node.1 71 = .ok (.iload_n 2, 1) := by decide +kernel
theorem d_Md_node_72 : decode q_mMd_node.1 72 = .ok (.ifCond .lt 41, 3) := by decide +kernel
theorem d_Md_node_75 : decode q_mMd_node.1 75 = .ok (.aload_n 0, 1) := by decide +kernel
theorem d_Md_node_76 : decode q_mMd_node.1 76 = .ok (.getfield 21, 3) := by decide +kernel
theorem d_Md_node_79 : decode q_mMd_node.1 79 = .ok (.iload_n 2, 1) := by decide +kernel
theorem d_Md_node_80 : decode q_mMd_node.1 80 = .ok (.iaload, 1) := by decide +kernel
theorem d_Md_node_81 : decode q_mMd_node.1 81 = .ok (.ifCond .ge 13, 3) := by decide +kernel
theorem d_Md_node_84 : decode q_mMd_node.1 84 = .ok (.aload_n 0, 1) := by decide +kernel
theorem d_Md_node_85 : decode q_mMd_node.1 85 = .ok (.getfield 21, 3) := by decide +kernel
theorem d_Md_node_88 : decode q_mMd_node.1 88 = .ok (.iload_n 2, 1) := by decide +kernel
theorem d_Md_node_89 : decode q_mMd_node.1 89 = .ok (.iload_n 3, 1) := by decide +kernel
theorem d_Md_node_90 : decode q_mMd_node.1 90 = .ok (.iastore, 1) := by decide +kernel
theorem d_Md_node_91 : decode q_mMd_node.1 91 = .ok (.goto 15, 3) := by decide +kernel
theorem d_Md_node_94 : decode q_mMd_node.1 94 = .ok (.aload_n 0, 1) := by decide +kernel
theorem d_Md_node_95 : decode q_mMd_node.1 95 = .ok (.getfield 27, 3) := by decide +kernel
theorem d_Md_node_98 : decode q_mMd_node.1 98 = .ok (.aload_n 0, 1) := by decide +kernel
theorem d_Md_node_99 : decode q_mMd_node.1 99 = .ok (.getfield 24, 3) := by decide +kernel
theorem d_Md_node_102 : decode q_mMd_node.1 102 = .ok (.iload_n 2, 1) := by decide +kernel
theorem d_Md_node_103 : decode q_mMd_node.1 103 = .ok (.iaload, 1) := by decide +kernel
theorem d_Md_node_104 : decode q_mMd_node.1 104 = .ok (.iload_n 3, 1) := by decide +kernel
theorem d_Md_node_105 : decode q_mMd_node.1 105 = .ok (.iastore, 1) := by decide +kernel
theorem d_Md_node_106 : decode q_mMd_node.1 106 = .ok (.aload_n 0, 1) := by decide +kernel
theorem d_Md_node_107 : decode q_mMd_node.1 107 = .ok (.getfield 24, 3) := by decide +kernel
theorem d_Md_node_110 : decode q_mMd_node.1 110 = .ok (.iload_n 2, 1) := by decide +kernel
theorem d_Md_node_111 : decode q_mMd_node.1 111 = .ok (.iload_n 3, 1) := by decide +kernel
theorem d_Md_node_112 : decode q_mMd_node.1 112 = .ok (.iastore, 1) := by decide +kernel
theorem d_Md_node_113 : decode q_mMd_node.1 113 = .ok (.iload_n 3, 1) := by decide +kernel
theorem d_Md_node_114 : decode q_mMd_node.1 114 = .ok (.ireturn, 1) := by decide +kernel
theorem d_Md_here_0 : decode q_mMd_here.1 0 = .ok (.iload_n 1, 1) := by decide +kernel
theorem d_Md_here_1 : decode q_mMd_here.1 1 = .ok (.aload_n 0, 1) := by decide +kernel
theorem d_Md_here_2 : decode q_mMd_here.1 2 = .ok (.getfield 106, 3) := by decide +kernel
theorem d_Md_here_5 : decode q_mMd_here.1 5 = .ok (.if_icmp .ge 12, 3) := by decide +kernel
theorem d_Md_here_8 : decode q_mMd_here.1 8 = .ok (.aload_n 0, 1) := by decide +kernel
theorem d_Md_here_9 : decode q_mMd_here.1 9 = .ok (.getfield 7, 3) := by decide +kernel
theorem d_Md_here_12 : decode q_mMd_here.1 12 = .ok (.iload_n 1, 1) := by decide +kernel
theorem d_Md_here_13 : decode q_mMd_here.1 13 = .ok (.caload, 1) := by decide +kernel
theorem d_Md_here_14 : decode q_mMd_here.1 14 = .ok (.goto 4, 3) := by decide +kernel
theorem d_Md_here_17 : decode q_mMd_here.1 17 = .ok (.iconst 0, 1) := by decide +kernel
theorem d_Md_here_18 : decode q_mMd_here.1 18 = .ok (.ireturn, 1) := by decide +kernel
