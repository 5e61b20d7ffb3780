theorem d_Md_open_0 : decode q_mMd_open.1 0 = .ok (.aload_n 0, 1) := by decide +kernel
theorem d_Md_open_1 : decode q_mMd_open.1 1 = .ok (.getfield 161, 3) := by decide +kernel
theorem d_Md_open_4 : decode q_mMd_open.1 4 = .ok (.bipush 8, 2) := by decide +kernel
theorem d_Md_open_6 : decode q_mMd_open.1 6 = .ok (.if_icmp .ne 5, 3) := by decide +kernel
theorem d_Md_open_9 : decode q_mMd_open.1 9 = .ok (.iconst 0, 1) := by decide +kernel
theorem d_Md_open_10 : decode q_mMd_open.1 10 = .ok (.ireturn, 1) := by decide +kernel
theorem d_Md_open_11 : decode q_mMd_open.1 11 = .ok (.aload_n 0, 1) := by decide +kernel
theorem d_Md_open_12 : decode q_mMd_open.1 12 = .ok (.dup, 1) := by decide +kernel
theorem d_Md_open_13 : decode q_mMd_open.1 13 = .ok (.getfield 126, 3) := by decide +kernel
theorem d_Md_open_16 : decode q_mMd_open.1 16 = .ok (.iconst 1, 1) := by decide +kernel
theorem d_Md_open_17 : decode q_mMd_open.1 17 = .ok (.iadd, 1) := by decide +kernel
theorem d_Md_open_18 : decode q_mMd_open.1 18 = .ok (.putfield 126, 3) := by decide +kernel
theorem d_Md_open_21 : decode q_mMd_open.1 21 = .ok (.aload_n 0, 1) := by decide +kernel
theorem d_Md_open_22 : decode q_mMd_open.1 22 = .ok (.aload_n 0, 1) := by decide +kernel
theorem d_Md_open_23 : decode q_mMd_open.1 23 = .ok (.getfield 126, 3) := by decide +kernel
theorem d_Md_open_26 : decode q_mMd_open.1 26 = .ok (.invokevirtual 129, 3) := by decide +kernel
theorem d_Md_open_29 : decode q_mMd_open.1 29 = .ok (.bipush 63, 2) := by decide +kernel
theorem d_Md_open_31 : decode q_mMd_open.1 31 = .ok (.if_icmp .ne 7, 3) := by decide +kernel
theorem d_Md_open_34 : decode q_mMd_open.1 34 = .ok (.iconst 1, 1) := by decide +kernel
theorem d_Md_open_35 : decode q_mMd_open.1 35 = .ok (.goto 4, 3) := by decide +kernel
theorem d_Md_open_38 : decode q_mMd_open.1 38 = .ok (.iconst 0, 1) := by decide +kernel
theorem d_Md_open_39 : decode q_mMd_open.1 39 = .ok (.istore_n 2, 1) := by decide +kernel
theorem d_Md_open_40 : decode q_mMd_open.1 40 = .ok (.iload_n 2, 1) := by decide +kernel
theorem d_Md_open_41 : decode q_mMd_open.1 41 = .ok (.ifCond .ne 14, 3) := by decide +kernel
theorem d_Md_open_44 : decode q_mMd_open.1 44 = .ok (.aload_n 0, 1) := by decide +kernel
theorem d_Md_open_45 : decode q_mMd_open.1 45 = .ok (.getfield 164, 3) := by decide +kernel
theorem d_Md_open_48 : decode q_mMd_open.1 48 = .ok (.bipush 6, 2) := by decide +kernel
theorem d_Md_open_50 : decode q_mMd_open.1 50 = .ok (.if_icmp .ne 5, 3) := by decide +kernel
theorem d_Md_open_53 : decode q_mMd_open.1 53 = .ok (.iconst 0, 1) := by decide +kernel
theorem d_Md_open_54 : decode q_mMd_open.1 54 = .ok (.ireturn, 1) := by decide +kernel
theorem d_Md_open_55 : decode q_mMd_open.1 55 = .ok (.iload_n 2, 1) := by decide +kernel
theorem d_Md_open_56 : decode q_mMd_open.1 56 = .ok (.ifCond .eq 38, 3) := by decide +kernel
theorem d_Md_open_59 : decode q_mMd_open.1 59 = .ok (.aload_n 0, 1) := by decide +kernel
theorem d_Md_open_60 : decode q_mMd_open.1 60 = .ok (.dup, 1) := by decide +kernel
theorem d_Md_open_61 : decode q_mMd_open.1 61 = .ok (.getfield 126, 3) := by decide +kernel
theorem d_Md_open_64 : decode q_mMd_open.1 64 = .ok (.iconst 1, 1) := by decide +kernel
theorem d_Md_open_65 : decode q_mMd_open.1 65 = .ok (.iadd, 1) := by decide +kernel
theorem d_Md_open_66 : decode q_mMd_open.1 66 = .ok (.putfield 126, 3) := by decide +kernel
theorem d_Md_open_69 : decode q_mMd_open.1 69 = .ok (.aload_n 0, 1) := by decide +kernel
theorem d_Md_open_70 : decode q_mMd_open.1 70 = .ok (.aload_n 0, 1) := by decide +kernel
theorem d_Md_open_71 : decode q_mMd_open.1 71 = .ok (.getfield 126, 3) := by decide +kernel
theorem d_Md_open_74 : decode q_mMd_open.1 74 = .ok (.invokevirtual 129, 3) := by decide +kernel
theorem d_Md_open_77 : decode q_mMd_open.1 77 = .ok (.bipush 58, 2) := by decide +kernel
theorem d_Md_open_79 : decode q_mMd_open.1 79 = .ok (.if_icmp .eq 5, 3) := by decide +kernel
theorem d_Md_open_82 : decode q_mMd_open.1 82 = .ok (.iconst 0, 1) := by decide +kernel
theorem d_Md_open_83 : decode q_mMd_open.1 83 = .ok (.ireturn, 1) := by decide +kernel
theorem d_Md_open_84 : decode q_mMd_open.1 84 = .ok (.aload_n 0, 1) := by decide +kernel
theorem d_Md_open_85 : decode q_mMd_open.1 85 = .ok (.dup, 1) := by decide +kernel
theorem d_Md_open_86 : decode q_mMd_open.1 86 = .ok (.getfield 126, 3) := by decide +kernel
theorem d_Md_open_89 : decode q_mMd_open.1 89 = .ok (.iconst 1, 1) := by decide +kernel
theorem d_Md_open_90 : decode q_mMd_open.1 90 = .ok (.iadd, 1) := by decide +kernel
theorem d_Md_open_91 : decode q_mMd_open.1 91 = .ok (.putfield 126, 3) := by decide +kernel
theorem d_Md_open_94 : decode q_mMd_open.1 94 = .ok (.aload_n 0, 1) := by decide +kernel
theorem d_Md_open_95 : decode q_mMd_open.1 95 = .ok (.dup, 1) := by decide +kernel
theorem d_Md_open_96 : decode q_mMd_open.1 96 = .ok (.getfield 161, 3) := by decide +kernel
theorem d_Md_open_99 : decode q_mMd_open.1 99 = .ok (.iconst 1, 1) := by decide +kernel
theorem d_Md_open_100 : decode q_mMd_open.1 100 = .ok (.iadd, 1) := by decide +kernel
theorem d_Md_open_101 : decode q_mMd_open.1 101 = .ok (.putfield 161, 3) := by decide +kernel
theorem d_Md_open_104 : decode q_mMd_open.1 104 = .ok (.aload_n 0, 1) := by decide +kernel
theorem d_Md_open_105 : decode q_mMd_open.1 105 = .ok (.getfield 46, 3) := by decide +kernel
theorem d_Md_open_108 : decode q_mMd_open.1 108 = .ok (.aload_n 0, 1) := by decide +kernel
theorem d_Md_open_109 : decode q_mMd_open.1 109 = .ok (.getfield 161, 3) := by decide +kernel
theorem d_Md_open_112 : decode q_mMd_open.1 112 = .ok (.aload_n 0, 1) := by decide +kernel
theorem d_Md_open_113 : decode q_mMd_open.1 113 = .ok (.iconst 2, 1) := by decide +kernel
theorem d_Md_open_114 : decode q_mMd_open.1 114 = .ok (.iload_n 1, 1) := by decide +kernel
theorem d_Md_open_115 : decode q_mMd_open.1 115 = .ok (.invokevirtual 143, 3) := by decide +kernel
theorem d_Md_open_118 : decode q_mMd_open.1 118 = .ok (.iastore, 1) := by decide +kernel
theorem d_Md_open_119 : decode q_mMd_open.1 119 = .ok (.aload_n 0, 1) := by decide +kernel
theorem d_Md_open_120 : decode q_mMd_open.1 120 = .ok (.iconst 4, 1) := by decide +kernel
theorem d_Md_open_121 : decode q_mMd_open.1 121 = .ok (.aload_n 0, 1) := by decide +kernel
theorem d_Md_open_122 : decode q_mMd_open.1 122 = .ok (.getfield 46, 3) := by decide +kernel
theorem d_Md_open_125 : decode q_mMd_open.1 125 = .ok (.aload_n 0, 1) := by decide +kernel
theorem d_Md_open_126 : decode q_mMd_open.1 126 = .ok (.getfield 161, 3) := by decide +kernel
theorem d_Md_open_129 : decode q_mMd_open.1 129 = .ok (.iaload, 1) := by decide +kernel
theorem d_Md_open_130 : decode q_mMd_open.1 130 = .ok (.invokevirtual 143, 3) := by decide +kernel
theorem d_Md_open_133 : decode q_mMd_open.1 133 = .ok (.istore_n 3, 1) := by decide +kernel
theorem d_Md_open_134 : decode q_mMd_open.1 134 = .ok (.aload_n 0, 1) := by decide +kernel
theorem d_Md_open_135 : decode q_mMd_open.1 135 = .ok (.iload_n 2, 1) := by decide +kernel
theorem d_Md_open_136 : decode q_mMd_open.1 136 = .ok (.ifCond .eq 10, 3) := by decide +kernel
theorem d_Md_open_139 : decode q_mMd_open.1 139 = .ok (.aload_n 0, 1) := by decide +kernel
theorem d_Md_open_140 : decode q_mMd_open.1 140 = .ok (.getfield 164, 3) := by decide +kernel
theorem d_Md_open_143 : decode q_mMd_open.1 143 = .ok (.goto 9, 3) := by decide +kernel
theorem d_Md_open_146 : decode q_mMd_open.1 146 = .ok (.aload_n 0, 1) := by decide +kernel
theorem d_Md_open_147 : decode q_mMd_open.1 147 = .ok (.getfield 164, 3) := by decide +kernel
theorem d_Md_open_150 : decode q_mMd_open.1 150 = .ok (.iconst 1, 1) := by decide +kernel
theorem d_Md_open_151 : decode q_mMd_open.1 151 = .ok (.iadd, 1) := by decide +kernel
theorem d_Md_open_152 : decode q_mMd_open.1 152 = .ok (.putfield 164, 3) := by decide +kernel
theorem d_Md_open_155 : decode q_mMd_open.1 155 = .ok (.aload_n 0, 1) := by decide +kernel
theorem d_Md_open_156 : decode q_mMd_open.1 156 = .ok (.getfield 30, 3) := by decide +kernel
theorem d_Md_open_159 : decode q_mMd_open.1 159 = .ok (.iload_n 3, 1) := by decide +kernel
theorem d_Md_open_160 : decode q_mMd_open.1 160 = .ok (.iload_n 2, 1) := by decide +kernel
theorem d_Md_open_161 : decode q_mMd_open.1 161 = .ok (.ifCond .eq 7, 3) := by decide +kernel
theorem d_Md_open_164 : decode q_mMd_open.1 164 = .ok (.iconst 0, 1) := by decide +kernel
theorem d_Md_open_165 : decode q_mMd_open.1 165 = .ok (.goto 7, 3) := by decide +kernel
theorem d_Md_open_168 : decode q_mMd_open.1 168 = .ok (.aload_n 0, 1) := by decide +kernel
theorem d_Md_open_169 : decode q_mMd_open.1 169 = .ok (.getfield 164, 3) := by decide +kernel
theorem d_Md_open_172 : decode q_mMd_open.1 172 = .ok (.iastore, 1) := by decide +kernel
theorem d_Md_open_173 : decode q_mMd_open.1 173 = .ok (.aload_n 0, 1) := by decide +kernel
theorem d_Md_open_174 : decode q_mMd_open.1 174 = .ok (.getfield 49, 3) := by decide +kernel
theorem d_Md_open_177 : decode q_mMd_open.1 177 = .ok (.aload_n 0, 1) := by decide +kernel
theorem d_Md_open_178 : decode q_mMd_open.1 178 = .ok (.getfield 161, 3) := by decide +kernel
theorem d_Md_open_181 : decode q_mMd_open.1 181 = .ok (.aload_n 0, 1) := by decide +kernel
theorem d_Md_open_182 : decode q_mMd_open.1 182 = .ok (.iconst 0, 1) := by decide +kernel
theorem d_Md_open_183 : decode q_mMd_open.1 183 = .ok (.iload_n 3, 1) := by decide +kernel
theorem d_Md_open_184 : decode q_mMd_open.1 184 = .ok (.invokevirtual 143, 3) := by decide +kernel
theorem d_Md_open_187 : decode q_mMd_open.1 187 = .ok (.iastore, 1) := by decide +kernel
theorem d_Md_open_188 : decode q_mMd_open.1 188 = .ok (.aload_n 0, 1) := by decide +kernel
theorem d_Md_open_189 : decode q_mMd_open.1 189 = .ok (.getfield 52, 3) := by decide +kernel
theorem d_Md_open_192 : decode q_mMd_open.1 192 = .ok (.aload_n 0, 1) := by decide +kernel
theorem d_Md_open_193 : decode q_mMd_open.1 193 = .ok (.getfield 161, 3) := by decide +kernel
theorem d_Md_open_196 : decode q_mMd_open.1 196 = .ok (.aload_n 0, 1) := by decide +kernel
theorem d_Md_open_197 : decode q_mMd_open.1 197 = .ok (.iconst 1, 1) := by decide +kernel
theorem d_Md_open_198 : decode q_mMd_open.1 198 = .ok (.aload_n 0, 1) := by decide +kernel
theorem d_Md_open_199 : decode q_mMd_open.1 199 = .ok (.getfield 49, 3) := by decide +kernel
theorem d_Md_open_202 : decode q_mMd_open.1 202 = .ok (.aload_n 0, 1) := by decide +kernel
theorem d_Md_open_203 : decode q_mMd_open.1 203 = .ok (.getfield 161, 3) := by decide +kernel
theorem d_Md_open_206 : decode q_mMd_open.1 206 = .ok (.iaload, 1) := by decide +kernel
theorem d_Md_open_207 : decode q_mMd_open.1 207 = .ok (.invokevirtual 143, 3) := by decide +kernel
theorem d_Md_open_210 : decode q_mMd_open.1 210 = .ok (.iastore, 1) := by decide +kernel
theorem d_Md_open_211 : decode q_mMd_open.1 211 = .ok (.iconst 1, 1) := by decide +kernel
theorem d_Md_open_212 : decode q_mMd_open.1 212 = .ok (.ireturn, 1) := by decide +kernel
theorem d_Md_readCount_0 : decode q_mMd_readCount.1 0 = .ok (.aload_n 0, 1) := by decide +kernel
theorem d_Md_readCount_1 : decode q_mMd_readCount.1 1 = .ok (.aload_n 0, 1) := by decide +kernel
theorem d_Md_readCount_2 : decode q_mMd_readCount.1 2 = .ok (.getfield 126, 3) := by decide +kernel
theorem d_Md_readCount_5 : decode q_mMd_readCount.1 5 = .ok (.invokevirtual 129, 3) := by decide +kernel
theorem d_Md_readCount_8 : decode q_mMd_readCount.1 8 = .ok (.istore_n 2, 1) := by decide +kernel
theorem d_Md_readCount_9 : decode q_mMd_readCount.1 9 = .ok (.iload_n 2, 1) := by decide +kernel
theorem d_Md_readCount_10 : decode q_mMd_readCount.1 10 = .ok (.bipush 42, 2) := by decide +kernel
theorem d_Md_readCount_12 : decode q_mMd_readCount.1 12 = .ok (.if_icmp .eq 23, 3) := by decide +kernel
theorem d_Md_readCount_15 : decode q_mMd_readCount.1 15 = .ok (.iload_n 2, 1) := by decide +kernel
theorem d_Md_readCount_16 : decode q_mMd_readCount.1 16 = .ok (.bipush 43, 2) := by decide +kernel
theorem d_Md_readCount_18 : decode q_mMd_readCount.1 18 = .ok (.if_icmp .eq 17, 3) := by decide +kernel
theorem d_Md_readCount_21 : decode q_mMd_readCount.1 21 = .ok (.iload_n 2, 1) := by decide +kernel
theorem d_Md_readCount_22 : decode q_mMd_readCount.1 22 = .ok (.bipush 63, 2) := by decide +kernel
theorem d_Md_readCount_24 : decode q_mMd_readCount.1 24 = .ok (.if_icmp .eq 11, 3) := by decide +kernel
theorem d_Md_readCount_27 : decode q_mMd_readCount.1 27 = .ok (.iload_n 2, 1) := by decide +kernel
theorem d_Md_readCount_28 : decode q_mMd_readCount.1 28 = .ok (.bipush 123, 2) := by decide +kernel
theorem d_Md_readCount_30 : decode q_mMd_readCount.1 30 = .ok (.if_icmp .eq 5, 3) := by decide +kernel
theorem d_Md_readCount_33 : decode q_mMd_readCount.1 33 = .ok (.iconst 1, 1) := by decide +kernel
theorem d_Md_readCount_34 : decode q_mMd_readCount.1 34 = .ok (.ireturn, 1) := by decide +kernel
theorem d_Md_readCount_35 : decode q_mMd_readCount.1 35 = .ok (.aload_n 0, 1) := by decide +kernel
theorem d_Md_readCount_36 : decode q_mMd_readCount.1 36 = .ok (.dup, 1) := by decide +kernel
theorem d_Md_readCount_37 : decode q_mMd_readCount.1 37 = .ok (.getfield 126, 3) := by decide +kernel
theorem d_Md_readCount_40 : decode q_mMd_readCount.1 40 = .ok (.iconst 1, 1) := by decide +kernel
theorem d_Md_readCount_41 : decode q_mMd_readCount.1 41 = .ok (.iadd, 1) := by decide +kernel
theorem d_Md_readCount_42 : decode q_mMd_readCount.1 42 = .ok (.putfield 126, 3) := by decide +kernel
theorem d_Md_readCount_45 : decode q_mMd_readCount.1 45 = .ok (.aload_n 0, 1) := by decide +kernel
theorem d_Md_readCount_46 : decode q_mMd_readCount.1 46 = .ok (.getfield 30, 3) := by decide +kernel
theorem d_Md_readCount_49 : decode q_mMd_readCount.1 49 = .ok (.iload_n 1, 1) := by decide +kernel
theorem d_Md_readCount_50 : decode q_mMd_readCount.1 50 = .ok (.iload_n 2, 1) := by decide +kernel
theorem d_Md_readCount_51 : decode q_mMd_readCount.1 51 = .ok (.bipush 42, 2) := by decide +kernel
theorem d_Md_readCount_53 : decode q_mMd_readCount.1 53 = .ok (.if_icmp .ne 7, 3) := by decide +kernel
theorem d_Md_readCount_56 : decode q_mMd_readCount.1 56 = .ok (.iconst 1, 1) := by decide +kernel
theorem d_Md_readCount_57 : decode q_mMd_readCount.1 57 = .ok (.goto 24, 3) := by decide +kernel
theorem d_Md_readCount_60 : decode q_mMd_readCount.1 60 = .ok (.iload_n 2, 1) := by decide +kernel
theorem d_Md_readCount_61 : decode q_mMd_readCount.1 61 = .ok (.bipush 43, 2) := by decide +kernel
theorem d_Md_readCount_63 : decode q_mMd_readCount.1 63 = .ok (.if_icmp .ne 7, 3) := by decide +kernel
theorem d_Md_readCount_66 : decode q_mMd_readCount.1 66 = .ok (.iconst 2, 1) := by decide +kernel
theorem d_Md_readCount_67 : decode q_mMd_readCount.1 67 = .ok (.goto 14, 3) := by decide +kernel
theorem d_Md_readCount_70 : decode q_mMd_readCount.1 70 = .ok (.iload_n 2, 1) := by decide +kernel
theorem d_Md_readCount_71 : decode q_mMd_readCount.1 71 = .ok (.bipush 63, 2) := by decide +kernel
theorem d_Md_readCount_73 : decode q_mMd_readCount.1 73 = .ok (.if_icmp .ne 7, 3) := by decide +kernel
theorem d_Md_readCount_76 : decode q_mMd_readCount.1 76 = .ok (.iconst 3, 1) := by decide +kernel
theorem d_Md_readCount_77 : decode q_mMd_readCount.1 77 = .ok (.goto 4, 3) := by decide +kernel
theorem d_Md_readCount_80 : decode q_mMd_readCount.1 80 = .ok (.iconst 4, 1) := by decide +kernel
theorem d_Md_readCount_81 : decode q_mMd_readCount.1 81 = .ok (.iastore, 1) := by decide +kernel
theorem d_Md_readCount_82 : decode q_mMd_readCount.1 82 = .ok (.iload_n 2, 1) := by decide +kernel
theorem d_Md_readCount_83 : decode q_mMd_readCount.1 83 = .ok (.bipush 123, 2) := by decide +kernel
theorem d_Md_readCount_85 : decode q_mMd_readCount.1 85 = .ok (.if_icmp .ne 13, 3) := by decide +kernel
theorem d_Md_readCount_88 : decode q_mMd_readCount.1 88 = .ok (.aload_n 0, 1) := by decide +kernel
theorem d_Md_readCount_89 : decode q_mMd_readCount.1 89 = .ok (.iload_n 1, 1) := by decide +kernel
theorem d_Md_readCount_90 : decode q_mMd_readCount.1 90 = .ok (.invokevirtual 155, 3) := by decide +kernel
theorem d_Md_readCount_93 : decode q_mMd_readCount.1 93 = .ok (.ifCond .ne 5, 3) := by decide +kernel
theorem d_Md_readCount_96 : decode q_mMd_readCount.1 96 = .ok (.iconst 0, 1) := by decide +kernel
theorem d_Md_readCount_97 : decode q_mMd_readCount.1 97 = .ok (.ireturn, 1) := by decide +kernel
theorem d_Md_readCount_98 : decode q_mMd_readCount.1 98 = .ok (.aload_n 0, 1) := by decide +kernel
theorem d_Md_readCount_99 : decode q_mMd_readCount.1 99 = .ok (.getfield 39, 3) := by decide +kernel
theorem d_Md_readCount_102 : decode q_mMd_readCount.1 102 = .ok (.iload_n 1, 1) := by decide +kernel
theorem d_Md_readCount_103 : decode q_mMd_readCount.1 103 = .ok (.aload_n 0, 1) := by decide +kernel
theorem d_Md_readCount_104 : decode q_mMd_readCount.1 104 = .ok (.aload_n 0, 1) := by decide +kernel
theorem d_Md_readCount_105 : decode q_mMd_readCount.1 105 = .ok (.getfield 126, 3) := by decide +kernel
theorem d_Md_readCount_108 : decode q_mMd_readCount.1 108 = .ok (.invokevirtual 129, 3) := by decide +kernel
theorem d_Md_readCount_111 : decode q_mMd_readCount.1 111 = .ok (.bipush 63, 2) := by decide +kernel
theorem d_Md_readCount_113 : decode q_mMd_readCount.1 113 = .ok (.if_icmp .ne 7, 3) := by decide +kernel
theorem d_Md_readCount_116 : decode q_mMd_readCount.1 116 = .ok (.iconst 1, 1) := by decide +kernel
theorem d_Md_readCount_117 : decode q_mMd_readCount.1 117 = .ok (.goto 4, 3) := by decide +kernel
theorem d_Md_readCount_120 : decode q_mMd_readCount.1 120 = .ok (.iconst 0, 1) := by decide +kernel
theorem d_Md_readCount_121 : decode q_mMd_readCount.1 121 = .ok (.bastore, 1) := by decide +kernel
theorem d_Md_readCount_122 : decode q_mMd_readCount.1 122 = .ok (.aload_n 0, 1) := by decide +kernel
theorem d_Md_readCount_123 : decode q_mMd_readCount.1 123 = .ok (.aload_n 0, 1) := by decide +kernel
theorem d_Md_readCount_124 : decode q_mMd_readCount.1 124 = .ok (.getfield 39, 3) := by decide +kernel
theorem d_Md_readCount_127 : decode q_mMd_readCount.1 127 = .ok (.iload_n 1, 1) := by decide +kernel
theorem d_Md_readCount_128 : decode q_mMd_readCount.1 128 = .ok (.baload, 1) := by decide +kernel
theorem d_Md_readCount_129 : decode q_mMd_readCount.1 129 = .ok (.ifCond .eq 12, 3) := by decide +kernel
theorem d_Md_readCount_132 : decode q_mMd_readCount.1 132 = .ok (.aload_n 0, 1) := by decide +kernel
theorem d_Md_readCount_133 : decode q_mMd_readCount.1 133 = .ok (.getfield 126, 3) := by decide +kernel
theorem d_Md_readCount_136 : decode q_mMd_readCount.1 136 = .ok (.iconst 1, 1) := by decide +kernel
theorem d_Md_readCount_137 : decode q_mMd_readCount.1 137 = .ok (.iadd, 1) := by decide +kernel
theorem d_Md_readCount_138 : decode q_mMd_readCount.1 138 = .ok (.goto 7, 3) := by decide +kernel
theorem d_Md_readCount_141 : decode q_mMd_readCount.1 141 = .ok (.aload_n 0, 1) := by decide +kernel
theorem d_Md_readCount_142 : decode q_mMd_readCount.1 142 = .ok (.getfield 126, 3) := by decide +kernel
theorem d_Md_readCount_145 : decode q_mMd_readCount.1 145 = .ok (.putfield 126, 3) := by decide +kernel
theorem d_Md_readCount_148 : decode q_mMd_readCount.1 148 = .ok (.iconst 1, 1) := by decide +kernel
theorem d_Md_readCount_149 : decode q_mMd_readCount.1 149 = .ok (.ireturn, 1) := by decide +kernel
theorem d_Md_readBraces_0 : decode q_mMd_readBraces.1 0 = .ok (.aload_n 0, 1) := by decide +kernel
theorem d_Md_readBraces_1 : decode q_mMd_readBraces.1 1 = .ok (.aload_n 0, 1) := by decide +kernel
theorem d_Md_readBraces_2 : decode q_mMd_readBraces.1 2 = .ok (.getfield 126, 3) := by decide +kernel
theorem d_Md_readBraces_5 : decode q_mMd_readBraces.1 5 = .ok (.invokevirtual 129, 3) := by decide +kernel
theorem d_Md_readBraces_8 : decode q_mMd_readBraces.1 8 = .ok (.invokestatic 158, 3) := by decide +kernel
theorem d_Md_readBraces_11 : decode q_mMd_readBraces.1 11 = .ok (.ifCond .ne 5, 3) := by decide +kernel
theorem d_Md_readBraces_14 : decode q_mMd_readBraces.1 14 = .ok (.iconst 0, 1) := by decide +kernel
theorem d_Md_readBraces_15 : decode q_mMd_readBraces.1 15 = .ok (.ireturn, 1) := by decide +kernel
theorem d_Md_readBraces_16 : decode q_mMd_readBraces.1 16 = .ok (.aload_n 0, 1) := by decide +kernel
theorem d_Md_readBraces_17 : decode q_mMd_readBraces.1 17 = .ok (.getfield 33, 3) := by decide +kernel
theorem d_Md_readBraces_20 : decode q_mMd_readBraces.1 20 = .ok (.iload_n 1, 1) := by decide +kernel
theorem d_Md_readBraces_21 : decode q_mMd_readBraces.1 21 = .ok (.aload_n 0, 1) := by decide +kernel
theorem d_Md_readBraces_22 : decode q_mMd_readBraces.1 22 = .ok (.aload_n 0, 1) := by decide +kernel
theorem d_Md_readBraces_23 : decode q_mMd_readBraces.1 23 = .ok (.getfield 126, 3) := by decide +kernel
theorem d_Md_readBraces_26 : decode q_mMd_readBraces.1 26 = .ok (.invokevirtual 129, 3) := by decide +kernel
theorem d_Md_readBraces_29 : decode q_mMd_readBraces.1 29 = .ok (.bipush 48, 2) := by decide +kernel
theorem d_Md_readBraces_31 : decode q_mMd_readBraces.1 31 = .ok (.isub, 1) := by decide +kernel
theorem d_Md_readBraces_32 : decode q_mMd_readBraces.1 32 = .ok (.iastore, 1) := by decide +kernel
theorem d_Md_readBraces_33 : decode q_mMd_readBraces.1 33 = .ok (.aload_n 0, 1) := by decide +kernel
theorem d_Md_readBraces_34 : decode q_mMd_readBraces.1 34 = .ok (.dup, 1) := by decide +kernel
theorem d_Md_readBraces_35 : decode q_mMd_readBraces.1 35 = .ok (.getfield 126, 3) := by decide +kernel
theorem d_Md_readBraces_38 : decode q_mMd_readBraces.1 38 = .ok (.iconst 1, 1) := by decide +kernel
theorem d_Md_readBraces_39 : decode q_mMd_readBraces.1 39 = .ok (.iadd, 1) := by decide +kernel
theorem d_Md_readBraces_40 : decode q_mMd_readBraces.1 40 = .ok (.putfield 126, 3) := by decide +kernel
theorem d_Md_readBraces_43 : decode q_mMd_readBraces.1 43 = .ok (.aload_n 0, 1) := by decide +kernel
theorem d_Md_readBraces_44 : decode q_mMd_readBraces.1 44 = .ok (.aload_n 0, 1) := by decide +kernel
theorem d_Md_readBraces_45 : decode q_mMd_readBraces.1 45 = .ok (.getfield 126, 3) := by decide +kernel
theorem d_Md_readBraces_48 : decode q_mMd_readBraces.1 48 = .ok (.invokevirtual 129, 3) := by decide +kernel
theorem d_Md_readBraces_51 : decode q_mMd_readBraces.1 51 = .ok (.bipush 44, 2) := by decide +kernel
theorem d_Md_readBraces_53 : decode q_mMd_readBraces.1 53 = .ok (.if_icmp .ne 86, 3) := by decide +kernel
theorem d_Md_readBraces_56 : decode q_mMd_readBraces.1 56 = .ok (.aload_n 0, 1) := by decide +kernel
theorem d_Md_readBraces_57 : decode q_mMd_readBraces.1 57 = .ok (.dup, 1) := by decide +kernel
theorem d_Md_readBraces_58 : decode q_mMd_readBraces.1 58 = .ok (.getfield 126, 3) := by decide +kernel
theorem d_Md_readBraces_61 : decode q_mMd_readBraces.1 61 = .ok (.iconst 1, 1) := by decide +kernel
theorem d_Md_readBraces_62 : decode q_mMd_readBraces.1 62 = .ok (.iadd, 1) := by decide +kernel
theorem d_Md_readBraces_63 : decode q_mMd_readBraces.1 63 = .ok (.putfield 126, 3) := by decide +kernel
theorem d_Md_readBraces_66 : decode q_mMd_readBraces.1 66 = .ok (.aload_n 0, 1) := by decide +kernel
theorem d_Md_readBraces_67 : decode q_mMd_readBraces.1 67 = .ok (.getfield 30, 3) := by decide +kernel
theorem d_Md_readBraces_70 : decode q_mMd_readBraces.1 70 = .ok (.iload_n 1, 1) := by decide +kernel
theorem d_Md_readBraces_71 : decode q_mMd_readBraces.1 71 = .ok (.iconst 5, 1) := by decide +kernel
theorem d_Md_readBraces_72 : decode q_mMd_readBraces.1 72 = .ok (.iastore, 1) := by decide +kernel
theorem d_Md_readBraces_73 : decode q_mMd_readBraces.1 73 = .ok (.aload_n 0, 1) := by decide +kernel
theorem d_Md_readBraces_74 : decode q_mMd_readBraces.1 74 = .ok (.aload_n 0, 1) := by decide +kernel
theorem d_Md_readBraces_75 : decode q_mMd_readBraces.1 75 = .ok (.getfield 126, 3) := by decide +kernel
theorem d_Md_readBraces_78 : decode q_mMd_readBraces.1 78 = .ok (.invokevirtual 129, 3) := by decide +kernel
theorem d_Md_readBraces_81 : decode q_mMd_readBraces.1 81 = .ok (.invokestatic 158, 3) := by decide +kernel
theorem d_Md_readBraces_84 : decode q_mMd_readBraces.1 84 = .ok (.ifCond .eq 55, 3) := by decide +kernel
theorem d_Md_readBraces_87 : decode q_mMd_readBraces.1 87 = .ok (.aload_n 0, 1) := by decide +kernel
theorem d_Md_readBraces_88 : decode q_mMd_readBraces.1 88 = .ok (.getfield 36, 3) := by decide +kernel
theorem d_Md_readBraces_91 : decode q_mMd_readBraces.1 91 = .ok (.iload_n 1, 1) := by decide +kernel
theorem d_Md_readBraces_92 : decode q_mMd_readBraces.1 92 = .ok (.aload_n 0, 1) := by decide +kernel
theorem d_Md_readBraces_93 : decode q_mMd_readBraces.1 93 = .ok (.aload_n 0, 1) := by decide +kernel
theorem d_Md_readBraces_94 : decode q_mMd_readBraces.1 94 = .ok (.getfield 126, 3) := by decide +kernel
theorem d_Md_readBraces_97 : decode q_mMd_readBraces.1 97 = .ok (.invokevirtual 129, 3) := by decide +kernel
theorem d_Md_readBraces_100 : decode q_mMd_readBraces.1 100 = .ok (.bipush 48, 2) := by decide +kernel
theorem d_Md_readBraces_102 : decode q_mMd_readBraces.1 102 = .ok (.isub, 1) := by decide +kernel
theorem d_Md_readBraces_103 : decode q_mMd_readBraces.1 103 = .ok (.iastore, 1) := by decide +kernel
theorem d_Md_readBraces_104 : decode q_mMd_readBraces.1 104 = .ok (.aload_n 0, 1) := by decide +kernel
theorem d_Md_readBraces_105 : decode q_mMd_readBraces.1 105 = .ok (.getfield 30, 3) := by decide +kernel
theorem d_Md_readBraces_108 : decode q_mMd_readBraces.1 108 = .ok (.iload_n 1, 1) := by decide +kernel
theorem d_Md_readBraces_109 : decode q_mMd_readBraces.1 109 = .ok (.bipush 6, 2) := by decide +kernel
theorem d_Md_readBraces_111 : decode q_mMd_readBraces.1 111 = .ok (.iastore, 1) := by decide +kernel
theorem d_Md_readBraces_112 : decode q_mMd_readBraces.1 112 = .ok (.aload_n 0, 1) := by decide +kernel
theorem d_Md_readBraces_113 : decode q_mMd_readBraces.1 113 = .ok (.getfield 36, 3) := by decide +kernel
theorem d_Md_readBraces_116 : decode q_mMd_readBraces.1 116 = .ok (.iload_n 1, 1) := by decide +kernel
theorem d_Md_readBraces_117 : decode q_mMd_readBraces.1 117 = .ok (.iaload, 1) := by decide +kernel
theorem d_Md_readBraces_118 : decode q_mMd_readBraces.1 118 = .ok (.aload_n 0, 1) := by decide +kernel
theorem d_Md_readBraces_119 : decode q_mMd_readBraces.1 119 = .ok (.getfield 33, 3) := by decide +kernel
theorem d_Md_readBraces_122 : decode q_mMd_readBraces.1 122 = .ok (.iload_n 1, 1) := by decide +kernel
theorem d_Md_readBraces_123 : decode q_mMd_readBraces.1 123 = .ok (.iaload, 1) := by decide +kernel
theorem d_Md_readBraces_124 : decode q_mMd_readBraces.1 124 = .ok (.if_icmp .ge 5, 3) := by decide +kernel
theorem d_Md_readBraces_127 : decode q_mMd_readBraces.1 127 = .ok (.iconst 0, 1) := by decide +kernel
theorem d_Md_readBraces_128 : decode q_mMd_readBraces.1 128 = .ok (.ireturn, 1) := by decide +kernel
theorem d_Md_readBraces_129 : decode q_mMd_readBraces.1 129 = .ok (.aload_n 0, 1) := by decide +kernel
theorem d_Md_readBraces_130 : decode q_mMd_readBraces.1 130 = .ok (.dup, 1) := by decide +kernel
theorem d_Md_readBraces_131 : decode q_mMd_readBraces.1 131 = .ok (.getfield 126, 3) := by decide +kernel
theorem d_Md_readBraces_134 : decode q_mMd_readBraces.1 134 = .ok (.iconst 1, 1) := by decide +kernel
theorem d_Md_readBraces_135 : decode q_mMd_readBraces.1 135 = .ok (.iadd, 1) := by decide +kernel
theorem d_Md_readBraces_136 : decode q_mMd_readBraces.1 136 = .ok (.putfield 126, 3) := by decide +kernel
theorem d_Md_readBraces_139 : decode q_mMd_readBraces.1 139 = .ok (.aload_n 0, 1) := by decide +kernel
theorem d_Md_readBraces_140 : decode q_mMd_readBraces.1 140 = .ok (.aload_n 0, 1) := by decide +kernel
theorem d_Md_readBraces_141 : decode q_mMd_readBraces.1 141 = .ok (.getfield 126, 3) := by decide +kernel
theorem d_Md_readBraces_144 : decode q_mMd_readBraces.1 144 = .ok (.invokevirtual 129, 3) := by decide +kernel
theorem d_Md_readBraces_147 : decode q_mMd_readBraces.1 147 = .ok (.bipush 125, 2) := by decide +kernel
theorem d_Md_readBraces_149 : decode q_mMd_readBraces.1 149 = .ok (.if_icmp .ne 7, 3) := by decide +kernel
theorem d_Md_readBraces_152 : decode q_mMd_readBraces.1 152 = .ok (.iconst 1, 1) := by decide +kernel
theorem d_Md_readBraces_153 : decode q_mMd_readBraces.1 153 = .ok (.goto 4, 3) := by decide +kernel
theorem d_Md_readBraces_156 : decode q_mMd_readBraces.1 156 = .ok (.iconst 0, 1) := by decide +kernel
theorem d_Md_readBraces_157 : decode q_mMd_readBraces.1 157 = .ok (.istore_n 2, 1) := by decide +kernel
theorem d_Md_readBraces_158 : decode q_mMd_readBraces.1 158 = .ok (.aload_n 0, 1) := by decide +kernel
theorem d_Md_readBraces_159 : decode q_mMd_readBraces.1 159 = .ok (.iload_n 2, 1) := by decide +kernel
theorem d_Md_readBraces_160 : decode q_mMd_readBraces.1 160 = .ok (.ifCond .eq 12, 3) := by decide +kernel
theorem d_Md_readBraces_163 : decode q_mMd_readBraces.1 163 = .ok (.aload_n 0, 1) := by decide +kernel
theorem d_Md_readBraces_164 : decode q_mMd_readBraces.1 164 = .ok (.getfield 126, 3) := by decide +kernel
theorem d_Md_readBraces_167 : decode q_mMd_readBraces.1 167 = .ok (.iconst 1, 1) := by decide +kernel
theorem d_Md_readBraces_168 : decode q_mMd_readBraces.1 168 = .ok (.iadd, 1) := by decide +kernel
theorem d_Md_readBraces_169 : decode q_mMd_readBraces.1 169 = .ok (.goto 7, 3) := by decide +kernel
theorem d_Md_readBraces_172 : decode q_mMd_readBraces.1 172 = .ok (.aload_n 0, 1) := by decide +kernel
theorem d_Md_readBraces_173 : decode q_mMd_readBraces.1 173 = .ok (.getfield 126, 3) := by decide +kernel
theorem d_Md_readBraces_176 : decode q_mMd_readBraces.1 176 = .ok (.putfield 126, 3) := by decide +kernel
theorem d_Md_readBraces_179 : decode q_mMd_readBraces.1 179 = .ok (.iload_n 2, 1) := by decide +kernel
theorem d_Md_readBraces_180 : decode q_mMd_readBraces.1 180 = .ok (.ireturn, 1) := by decide +kernel
theorem d_Md_isDigit_0 : decode q_mMd_isDigit.1 0 = .ok (.iload_n 0, 1) := by decide +kernel
theorem d_Md_isDigit_1 : decode q_mMd_isDigit.1 1 = .ok (.bipush 48, 2) := by decide +kernel
theorem d_Md_isDigit_3 : decode q_mMd_isDigit.1 3 = .ok (.if_icmp .lt 13, 3) := by decide +kernel
theorem d_Md_isDigit_6 : decode q_mMd_isDigit.1 6 = .ok (.iload_n 0, 1) := by decide +kernel
theorem d_Md_isDigit_7 : decode q_mMd_isDigit.1 7 = .ok (.bipush 57, 2) := by decide +kernel
theorem d_Md_isDigit_9 : decode q_mMd_isDigit.1 9 = .ok (.if_icmp .gt 7, 3) := by decide +kernel
theorem d_Md_isDigit_12 : decode q_mMd_isDigit.1 12 = .ok (.iconst 1, 1) := by decide +kernel
theorem d_Md_isDigit_13 : decode q_mMd_isDigit.1 13 = .ok (.goto 4, 3) := by decide +kernel
theorem d_Md_isDigit_16 : decode q_mMd_isDigit.1 16 = .ok (.iconst 0, 1) := by decide +kernel
theorem d_Md_isDigit_17 : decode q_mMd_isDigit.1 17 = .ok (.ireturn, 1) := by decide +kernel
theorem d_Md_readSign_0 : decode q_mMd_readSign.1 0 = .ok (.aload_n 0, 1) := by decide +kernel
theorem d_Md_readSign_1 : decode q_mMd_readSign.1 1 = .ok (.aload_n 0, 1) := by decide +kernel
theorem d_Md_readSign_2 : decode q_mMd_readSign.1 2 = .ok (.getfield 126, 3) := by decide +kernel
theorem d_Md_readSign_5 : decode q_mMd_readSign.1 5 = .ok (.invokevirtual 129, 3) := by decide +kernel
theorem d_Md_readSign_8 : decode q_mMd_readSign.1 8 = .ok (.istore_n 2, 1) := by decide +kernel
theorem d_Md_readSign_9 : decode q_mMd_readSign.1 9 = .ok (.iload_n 2, 1) := by decide +kernel
theorem d_Md_readSign_10 : decode q_mMd_readSign.1 10 = .ok (.invokestatic 140, 3) := by decide +kernel
theorem d_Md_readSign_13 : decode q_mMd_readSign.1 13 = .ok (.ifCond .ne 23, 3) := by decide +kernel
theorem d_Md_readSign_16 : decode q_mMd_readSign.1 16 = .ok (.iload_n 2, 1) := by decide +kernel
theorem d_Md_readSign_17 : decode q_mMd_readSign.1 17 = .ok (.bipush 46, 2) := by decide +kernel
theorem d_Md_readSign_19 : decode q_mMd_readSign.1 19 = .ok (.if_icmp .eq 17, 3) := by decide +kernel
theorem d_Md_readSign_22 : decode q_mMd_readSign.1 22 = .ok (.iload_n 2, 1) := by decide +kernel
theorem d_Md_readSign_23 : decode q_mMd_readSign.1 23 = .ok (.bipush 92, 2) := by decide +kernel
theorem d_Md_readSign_25 : decode q_mMd_readSign.1 25 = .ok (.if_icmp .eq 11, 3) := by decide +kernel
theorem d_Md_readSign_28 : decode q_mMd_readSign.1 28 = .ok (.iload_n 2, 1) := by decide +kernel
theorem d_Md_readSign_29 : decode q_mMd_readSign.1 29 = .ok (.bipush 91, 2) := by decide +kernel
theorem d_Md_readSign_31 : decode q_mMd_readSign.1 31 = .ok (.if_icmp .eq 5, 3) := by decide +kernel
theorem d_Md_readSign_34 : decode q_mMd_readSign.1 34 = .ok (.iconst 0, 1) := by decide +kernel
theorem d_Md_readSign_35 : decode q_mMd_readSign.1 35 = .ok (.ireturn, 1) := by decide +kernel
theorem d_Md_readSign_36 : decode q_mMd_readSign.1 36 = .ok (.aload_n 0, 1) := by decide +kernel
theorem d_Md_readSign_37 : decode q_mMd_readSign.1 37 = .ok (.iconst 3, 1) := by decide +kernel
theorem d_Md_readSign_38 : decode q_mMd_readSign.1 38 = .ok (.iload_n 1, 1) := by decide +kernel
theorem d_Md_readSign_39 : decode q_mMd_readSign.1 39 = .ok (.invokevirtual 143, 3) := by decide +kernel
theorem d_Md_readSign_42 : decode q_mMd_readSign.1 42 = .ok (.istore_n 3, 1) := by decide +kernel
theorem d_Md_readSign_43 : decode q_mMd_readSign.1 43 = .ok (.aload_n 0, 1) := by decide +kernel
theorem d_Md_readSign_44 : decode q_mMd_readSign.1 44 = .ok (.invokevirtual 147, 3) := by decide +kernel
theorem d_Md_readSign_47 : decode q_mMd_readSign.1 47 = .ok (.istore 4, 2) := by decide +kernel
theorem d_Md_readSign_49 : decode q_mMd_readSign.1 49 = .ok (.aload_n 0, 1) := by decide +kernel
theorem d_Md_readSign_50 : decode q_mMd_readSign.1 50 = .ok (.getfield 30, 3) := by decide +kernel
theorem d_Md_readSign_53 : decode q_mMd_readSign.1 53 = .ok (.iload_n 3, 1) := by decide +kernel
theorem d_Md_readSign_54 : decode q_mMd_readSign.1 54 = .ok (.iload 4, 2) := by decide +kernel
theorem d_Md_readSign_56 : decode q_mMd_readSign.1 56 = .ok (.iastore, 1) := by decide +kernel
theorem d_Md_readSign_57 : decode q_mMd_readSign.1 57 = .ok (.aload_n 0, 1) := by decide +kernel
theorem d_Md_readSign_58 : decode q_mMd_readSign.1 58 = .ok (.dup, 1) := by decide +kernel
theorem d_Md_readSign_59 : decode q_mMd_readSign.1 59 = .ok (.getfield 126, 3) := by decide +kernel
theorem d_Md_readSign_62 : decode q_mMd_readSign.1 62 = .ok (.iconst 1, 1) := by decide +kernel
theorem d_Md_readSign_63 : decode q_mMd_readSign.1 63 = .ok (.iadd, 1) := by decide +kernel
theorem d_Md_readSign_64 : decode q_mMd_readSign.1 64 = .ok (.putfield 126, 3) := by decide +kernel
theorem d_Md_readSign_67 : decode q_mMd_readSign.1 67 = .ok (.iload_n 2, 1) := by decide +kernel
theorem d_Md_readSign_68 : decode q_mMd_readSign.1 68 = .ok (.bipush 91, 2) := by decide +kernel
theorem d_Md_readSign_70 : decode q_mMd_readSign.1 70 = .ok (.if_icmp .ne 10, 3) := by decide +kernel
theorem d_Md_readSign_73 : decode q_mMd_readSign.1 73 = .ok (.aload_n 0, 1) := by decide +kernel
theorem d_Md_readSign_74 : decode q_mMd_readSign.1 74 = .ok (.iload 4, 2) := by decide +kernel
theorem d_Md_readSign_76 : decode q_mMd_readSign.1 76 = .ok (.invokevirtual 151, 3) := by decide +kernel
theorem d_Md_readSign_79 : decode q_mMd_readSign.1 79 = .ok (.ireturn, 1) := by decide +kernel
theorem d_Md_readSign_80 : decode q_mMd_readSign.1 80 = .ok (.iload_n 2, 1) := by decide +kernel
theorem d_Md_readSign_81 : decode q_mMd_readSign.1 81 = .ok (.bipush 92, 2) := by decide +kernel
theorem d_Md_readSign_83 : decode q_mMd_readSign.1 83 = .ok (.if_icmp .ne 43, 3) := by decide +kernel
theorem d_Md_readSign_86 : decode q_mMd_readSign.1 86 = .ok (.aload_n 0, 1) := by decide +kernel
theorem d_Md_readSign_87 : decode q_mMd_readSign.1 87 = .ok (.aload_n 0, 1) := by decide +kernel
theorem d_Md_readSign_88 : decode q_mMd_readSign.1 88 = .ok (.getfield 126, 3) := by decide +kernel
theorem d_Md_readSign_91 : decode q_mMd_readSign.1 91 = .ok (.invokevirtual 129, 3) := by decide +kernel
theorem d_Md_readSign_94 : decode q_mMd_readSign.1 94 = .ok (.ifCond .ne 5, 3) := by decide +kernel
theorem d_Md_readSign_97 : decode q_mMd_readSign.1 97 = .ok (.iconst 0, 1) := by decide +kernel
theorem d_Md_readSign_98 : decode q_mMd_readSign.1 98 = .ok (.ireturn, 1) := by decide +kernel
theorem d_Md_readSign_99 : decode q_mMd_readSign.1 99 = .ok (.aload_n 0, 1) := by decide +kernel
theorem d_Md_readSign_100 : decode q_mMd_readSign.1 100 = .ok (.iload 4, 2) := by decide +kernel
theorem d_Md_readSign_102 : decode q_mMd_readSign.1 102 = .ok (.aload_n 0, 1) := by decide +kernel
theorem d_Md_readSign_103 : decode q_mMd_readSign.1 103 = .ok (.aload_n 0, 1) := by decide +kernel
theorem d_Md_readSign_104 : decode q_mMd_readSign.1 104 = .ok (.getfield 126, 3) := by decide +kernel
theorem d_Md_readSign_107 : decode q_mMd_readSign.1 107 = .ok (.invokevirtual 129, 3) := by decide +kernel
theorem d_Md_readSign_110 : decode q_mMd_readSign.1 110 = .ok (.invokevirtual 132, 3) := by decide +kernel
theorem d_Md_readSign_113 : decode q_mMd_readSign.1 113 = .ok (.aload_n 0, 1) := by decide +kernel
theorem d_Md_readSign_114 : decode q_mMd_readSign.1 114 = .ok (.dup, 1) := by decide +kernel
theorem d_Md_readSign_115 : decode q_mMd_readSign.1 115 = .ok (.getfield 126, 3) := by decide +kernel
theorem d_Md_readSign_118 : decode q_mMd_readSign.1 118 = .ok (.iconst 1, 1) := by decide +kernel
theorem d_Md_readSign_119 : decode q_mMd_readSign.1 119 = .ok (.iadd, 1) := by decide +kernel
theorem d_Md_readSign_120 : decode q_mMd_readSign.1 120 = .ok (.putfield 126, 3) := by decide +kernel
theorem d_Md_readSign_123 : decode q_mMd_readSign.1 123 = .ok (.goto 33, 3) := by decide +kernel
theorem d_Md_readSign_126 : decode q_mMd_readSign.1 126 = .ok (.aload_n 0, 1) := by decide +kernel
theorem d_Md_readSign_127 : decode q_mMd_readSign.1 127 = .ok (.iload 4, 2) := by decide +kernel
theorem d_Md_readSign_129 : decode q_mMd_readSign.1 129 = .ok (.iload_n 2, 1) := by decide +kernel
theorem d_Md_readSign_130 : decode q_mMd_readSign.1 130 = .ok (.bipush 46, 2) := by decide +kernel
theorem d_Md_readSign_132 : decode q_mMd_readSign.1 132 = .ok (.if_icmp .ne 7, 3) := by decide +kernel
theorem d_Md_readSign_135 : decode q_mMd_readSign.1 135 = .ok (.iconst 0, 1) := by decide +kernel
theorem d_Md_readSign_136 : decode q_mMd_readSign.1 136 = .ok (.goto 4, 3) := by decide +kernel
theorem d_Md_readSign_139 : decode q_mMd_readSign.1 139 = .ok (.iload_n 2, 1) := by decide +kernel
theorem d_Md_readSign_140 : decode q_mMd_readSign.1 140 = .ok (.iload_n 2, 1) := by decide +kernel
theorem d_Md_readSign_141 : decode q_mMd_readSign.1 141 = .ok (.bipush 46, 2) := by decide +kernel
theorem d_Md_readSign_143 : decode q_mMd_readSign.1 143 = .ok (.if_icmp .ne 9, 3) := by decide +kernel
theorem d_Md_readSign_146 : decode q_mMd_readSign.1 146 = .ok (.sipush 255, 3) := by decide +kernel
theorem d_Md_readSign_149 : decode q_mMd_readSign.1 149 = .ok (.goto 4, 3) := by decide +kernel
theorem d_Md_readSign_152 : decode q_mMd_readSign.1 152 = .ok (.iload_n 2, 1) := by decide +kernel
theorem d_Md_readSign_153 : decode q_mMd_readSign.1 153 = .ok (.invokevirtual 118, 3) := by decide +kernel
theorem d_Md_readSign_156 : decode q_mMd_readSign.1 156 = .ok (.iconst 1, 1) := by decide +kernel
theorem d_Md_readSign_157 : decode q_mMd_readSign.1 157 = .ok (.ireturn, 1) := by decide +kernel
theorem d_Md_isPlain_0 : decode q_mMd_isPlain.1 0 = .ok (.iload_n 0, 1) := by decide +kernel
theorem d_Md_isPlain_1 : decode q_mMd_isPlain.1 1 = .ok (.bipush 91, 2) := by decide +kernel
theorem d_Md_isPlain_3 : decode q_mMd_isPlain.1 3 = .ok (.if_icmp .eq 33, 3) := by decide +kernel
theorem d_Md_isPlain_6 : decode q_mMd_isPlain.1 6 = .ok (.iload_n 0, 1) := by decide +kernel
theorem d_Md_isPlain_7 : decode q_mMd_isPlain.1 7 = .ok (.bipush 93, 2) := by decide +kernel
theorem d_Md_isPlain_9 : decode q_mMd_isPlain.1 9 = .ok (.if_icmp .eq 27, 3) := by decide +kernel
theorem d_Md_isPlain_12 : decode q_mMd_isPlain.1 12 = .ok (.iload_n 0, 1) := by decide +kernel
theorem d_Md_isPlain_13 : decode q_mMd_isPlain.1 13 = .ok (.bipush 40, 2) := by decide +kernel
theorem d_Md_isPlain_15 : decode q_mMd_isPlain.1 15 = .ok (.if_icmp .eq 21, 3) := by decide +kernel
theorem d_Md_isPlain_18 : decode q_mMd_isPlain.1 18 = .ok (.iload_n 0, 1) := by decide +kernel
theorem d_Md_isPlain_19 : decode q_mMd_isPlain.1 19 = .ok (.bipush 41, 2) := by decide +kernel
theorem d_Md_isPlain_21 : decode q_mMd_isPlain.1 21 = .ok (.if_icmp .eq 15, 3) := by decide +kernel
theorem d_Md_isPlain_24 : decode q_mMd_isPlain.1 24 = .ok (.iload_n 0, 1) := by decide +kernel
theorem d_Md_isPlain_25 : decode q_mMd_isPlain.1 25 = .ok (.bipush 123, 2) := by decide +kernel
theorem d_Md_isPlain_27 : decode q_mMd_isPlain.1 27 = .ok (.if_icmp .eq 9, 3) := by decide +kernel
theorem d_Md_isPlain_30 : decode q_mMd_isPlain.1 30 = .ok (.iload_n 0, 1) := by decide +kernel
theorem d_Md_isPlain_31 : decode q_mMd_isPlain.1 31 = .ok (.bipush 125, 2) := by decide +kernel
theorem d_Md_isPlain_33 : decode q_mMd_isPlain.1 33 = .ok (.if_icmp .ne 7, 3) := by decide +kernel
theorem d_Md_isPlain_36 : decode q_mMd_isPlain.1 36 = .ok (.iconst 1, 1) := by decide +kernel
theorem d_Md_isPlain_37 : decode q_mMd_isPlain.1 37 = .ok (.goto 4, 3) := by decide +kernel
theorem d_Md_isPlain_40 : decode q_mMd_isPlain.1 40 = .ok (.iconst 0, 1) := by decide +kernel
theorem d_Md_isPlain_41 : decode q_mMd_isPlain.1 41 = .ok (.istore_n 1, 1) := by decide +kernel
theorem d_Md_isPlain_42 : decode q_mMd_isPlain.1 42 = .ok (.iload_n 0, 1) := by decide +kernel
theorem d_Md_isPlain_43 : decode q_mMd_isPlain.1 43 = .ok (.ifCond .le 47, 3) := by decide +kernel
theorem d_Md_isPlain_46 : decode q_mMd_isPlain.1 46 = .ok (.iload_n 1, 1) := by decide +kernel
theorem d_Md_isPlain_47 : decode q_mMd_isPlain.1 47 = .ok (.ifCond .ne 43, 3) := by decide +kernel
theorem d_Md_isPlain_50 : decode q_mMd_isPlain.1 50 = .ok (.iload_n 0, 1) := by decide +kernel
theorem d_Md_isPlain_51 : decode q_mMd_isPlain.1 51 = .ok (.bipush 92, 2) := by decide +kernel
theorem d_Md_isPlain_53 : decode q_mMd_isPlain.1 53 = .ok (.if_icmp .eq 37, 3) := by decide +kernel
theorem d_Md_isPlain_56 : decode q_mMd_isPlain.1 56 = .ok (.iload_n 0, 1) := by decide +kernel
theorem d_Md_isPlain_57 : decode q_mMd_isPlain.1 57 = .ok (.bipush 46, 2) := by decide +kernel
theorem d_Md_isPlain_59 : decode q_mMd_isPlain.1 59 = .ok (.if_icmp .eq 31, 3) := by decide +kernel
theorem d_Md_isPlain_62 : decode q_mMd_isPlain.1 62 = .ok (.iload_n 0, 1) := by decide +kernel
theorem d_Md_isPlain_63 : decode q_mMd_isPlain.1 63 = .ok (.bipush 42, 2) := by decide +kernel
theorem d_Md_isPlain_65 : decode q_mMd_isPlain.1 65 = .ok (.if_icmp .eq 25, 3) := by decide +kernel
theorem d_Md_isPlain_68 : decode q_mMd_isPlain.1 68 = .ok (.iload_n 0, 1) := by decide +kernel
theorem d_Md_isPlain_69 : decode q_mMd_isPlain.1 69 = .ok (.bipush 43, 2) := by decide +kernel
theorem d_Md_isPlain_71 : decode q_mMd_isPlain.1 71 = .ok (.if_icmp .eq 19, 3) := by decide +kernel
theorem d_Md_isPlain_74 : decode q_mMd_isPlain.1 74 = .ok (.iload_n 0, 1) := by decide +kernel
theorem d_Md_isPlain_75 : decode q_mMd_isPlain.1 75 = .ok (.bipush 63, 2) := by decide +kernel
theorem d_Md_isPlain_77 : decode q_mMd_isPlain.1 77 = .ok (.if_icmp .eq 13, 3) := by decide +kernel
theorem d_Md_isPlain_80 : decode q_mMd_isPlain.1 80 = .ok (.iload_n 0, 1) := by decide +kernel
theorem d_Md_isPlain_81 : decode q_mMd_isPlain.1 81 = .ok (.bipush 124, 2) := by decide +kernel
theorem d_Md_isPlain_83 : decode q_mMd_isPlain.1 83 = .ok (.if_icmp .eq 7, 3) := by decide +kernel
theorem d_Md_isPlain_86 : decode q_mMd_isPlain.1 86 = .ok (.iconst 1, 1) := by decide +kernel
theorem d_Md_isPlain_87 : decode q_mMd_isPlain.1 87 = .ok (.goto 4, 3) := by decide +kernel
theorem d_Md_isPlain_90 : decode q_mMd_isPlain.1 90 = .ok (.iconst 0, 1) := by decide +kernel
theorem d_Md_isPlain_91 : decode q_mMd_isPlain.1 91 = .ok (.ireturn, 1) := by decide +kernel
theorem d_Md_newSet_0 : decode q_mMd_newSet.1 0 = .ok (.iconst 0, 1) := by decide +kernel
theorem d_Md_newSet_1 : decode q_mMd_newSet.1 1 = .ok (.istore_n 1, 1) := by decide +kernel
theorem d_Md_newSet_2 : decode q_mMd_newSet.1 2 = .ok (.iload_n 1, 1) := by decide +kernel
theorem d_Md_newSet_3 : decode q_mMd_newSet.1 3 = .ok (.bipush 8, 2) := by decide +kernel
theorem d_Md_newSet_5 : decode q_mMd_newSet.1 5 = .ok (.if_icmp .ge 24, 3) := by decide +kernel
theorem d_Md_newSet_8 : decode q_mMd_newSet.1 8 = .ok (.aload_n 0, 1) := by decide +kernel
theorem d_Md_newSet_9 : decode q_mMd_newSet.1 9 = .ok (.getfield 55, 3) := by decide +kernel
theorem d_Md_newSet_12 : decode q_mMd_newSet.1 12 = .ok (.bipush 8, 2) := by decide +kernel
theorem d_Md_newSet_14 : decode q_mMd_newSet.1 14 = .ok (.aload_n 0, 1) := by decide +kernel
theorem d_Md_newSet_15 : decode q_mMd_newSet.1 15 = .ok (.getfield 115, 3) := by decide +kernel
theorem d_Md_newSet_18 : decode q_mMd_newSet.1 18 = .ok (.imul, 1) := by decide +kernel
theorem d_Md_newSet_19 : decode q_mMd_newSet.1 19 = .ok (.iload_n 1, 1) := by decide +kernel
theorem d_Md_newSet_20 : decode q_mMd_newSet.1 20 = .ok (.iadd, 1) := by decide +kernel
theorem d_Md_newSet_21 : decode q_mMd_newSet.1 21 = .ok (.iconst 0, 1) := by decide +kernel
theorem d_Md_newSet_22 : decode q_mMd_newSet.1 22 = .ok (.iastore, 1) := by decide +kernel
theorem d_Md_newSet_23 : decode q_mMd_newSet.1 23 = .ok (.iinc 1 1, 3) := by decide +kernel
theorem d_Md_newSet_26 : decode q_mMd_newSet.1 26 = .ok (.goto (-24), 3) := by decide +kernel
theorem d_Md_newSet_29 : decode q_mMd_newSet.1 29 = .ok (.aload_n 0, 1) := by decide +kernel
theorem d_Md_newSet_30 : decode q_mMd_newSet.1 30 = .ok (.dup, 1) := by decide +kernel
theorem d_Md_newSet_31 : decode q_mMd_newSet.1 31 = .ok (.getfield 115, 3) := by decide +kernel
theorem d_Md_newSet_34 : decode q_mMd_newSet.1 34 = .ok (.iconst 1, 1) := by decide +kernel
theorem d_Md_newSet_35 : decode q_mMd_newSet.1 35 = .ok (.iadd, 1) := by decide +kernel
theorem d_Md_newSet_36 : decode q_mMd_newSet.1 36 = .ok (.putfield 115, 3) := by decide +kernel
theorem d_Md_newSet_39 : decode q_mMd_newSet.1 39 = .ok (.aload_n 0, 1) := by decide +kernel
theorem d_Md_newSet_40 : decode q_mMd_newSet.1 40 = .ok (.getfield 115, 3) := by decide +kernel
theorem d_Md_newSet_43 : decode q_mMd_newSet.1 43 = .ok (.iconst 1, 1) := by decide +kernel
theorem d_Md_newSet_44 : decode q_mMd_newSet.1 44 = .ok (.isub, 1) := by decide +kernel
theorem d_Md_newSet_45 : decode q_mMd_newSet.1 45 = .ok (.ireturn, 1) := by decide +kernel
theorem d_Md_readSet_0 : decode q_mMd_readSet.1 0 = .ok (.aload_n 0, 1) := by decide +kernel
theorem d_Md_readSet_1 : decode q_mMd_readSet.1 1 = .ok (.aload_n 0, 1) := by decide +kernel
theorem d_Md_readSet_2 : decode q_mMd_readSet.1 2 = .ok (.getfield 126, 3) := by decide +kernel
theorem d_Md_readSet_5 : decode q_mMd_readSet.1 5 = .ok (.invokevirtual 129, 3) := by decide +kernel
theorem d_Md_readSet_8 : decode q_mMd_readSet.1 8 = .ok (.bipush 94, 2) := by decide +kernel
theorem d_Md_readSet_10 : decode q_mMd_readSet.1 10 = .ok (.if_icmp .ne 7, 3) := by decide +kernel
theorem d_Md_readSet_13 : decode q_mMd_readSet.1 13 = .ok (.iconst 1, 1) := by decide +kernel
theorem d_Md_readSet_14 : decode q_mMd_readSet.1 14 = .ok (.goto 4, 3) := by decide +kernel
theorem d_Md_readSet_17 : decode q_mMd_readSet.1 17 = .ok (.iconst 0, 1) := by decide +kernel
theorem d_Md_readSet_18 : decode q_mMd_readSet.1 18 = .ok (.istore_n 2, 1) := by decide +kernel
theorem d_Md_readSet_19 : decode q_mMd_readSet.1 19 = .ok (.aload_n 0, 1) := by decide +kernel
theorem d_Md_readSet_20 : decode q_mMd_readSet.1 20 = .ok (.iload_n 2, 1) := by decide +kernel
theorem d_Md_readSet_21 : decode q_mMd_readSet.1 21 = .ok (.ifCond .eq 12, 3) := by decide +kernel
theorem d_Md_readSet_24 : decode q_mMd_readSet.1 24 = .ok (.aload_n 0, 1) := by decide +kernel
theorem d_Md_readSet_25 : decode q_mMd_readSet.1 25 = .ok (.getfield 126, 3) := by decide +kernel
theorem d_Md_readSet_28 : decode q_mMd_readSet.1 28 = .ok (.iconst 1, 1) := by decide +kernel
theorem d_Md_readSet_29 : decode q_mMd_readSet.1 29 = .ok (.iadd, 1) := by decide +kernel
theorem d_Md_readSet_30 : decode q_mMd_readSet.1 30 = .ok (.goto 7, 3) := by decide +kernel
theorem d_Md_readSet_33 : decode q_mMd_readSet.1 33 = .ok (.aload_n 0, 1) := by decide +kernel
theorem d_Md_readSet_34 : decode q_mMd_readSet.1 34 = .ok (.getfield 126, 3) := by decide +kernel
theorem d_Md_readSet_37 : decode q_mMd_readSet.1 37 = .ok (.putfield 126, 3) := by decide +kernel
theorem d_Md_readSet_40 : decode q_mMd_readSet.1 40 = .ok (.iconst 0, 1) := by decide +kernel
theorem d_Md_readSet_41 : decode q_mMd_readSet.1 41 = .ok (.istore_n 3, 1) := by decide +kernel
theorem d_Md_readSet_42 : decode q_mMd_readSet.1 42 = .ok (.iload_n 3, 1) := by decide +kernel
theorem d_Md_readSet_43 : decode q_mMd_readSet.1 43 = .ok (.bipush 48, 2) := by decide +kernel
theorem d_Md_readSet_45 : decode q_mMd_readSet.1 45 = .ok (.if_icmp .ge 185, 3) := by decide +kernel
theorem d_Md_readSet_48 : decode q_mMd_readSet.1 48 = .ok (.aload_n 0, 1) := by decide +kernel
theorem d_Md_readSet_49 : decode q_mMd_readSet.1 49 = .ok (.aload_n 0, 1) := by decide +kernel
theorem d_Md_readSet_50 : decode q_mMd_readSet.1 50 = .ok (.getfield 126, 3) := by decide +kernel
theorem d_Md_readSet_53 : decode q_mMd_readSet.1 53 = .ok (.invokevirtual 129, 3) := by decide +kernel
theorem d_Md_readSet_56 : decode q_mMd_readSet.1 56 = .ok (.bipush 93, 2) := by decide +kernel
theorem d_Md_readSet_58 : decode q_mMd_readSet.1 58 = .ok (.if_icmp .ne 7, 3) := by decide +kernel
theorem d_Md_readSet_61 : decode q_mMd_readSet.1 61 = .ok (.iload_n 3, 1) := by decide +kernel
theorem d_Md_readSet_62 : decode q_mMd_readSet.1 62 = .ok (.ifCond .ne 168, 3) := by decide +kernel
theorem d_Md_readSet_65 : decode q_mMd_readSet.1 65 = .ok (.aload_n 0, 1) := by decide +kernel
theorem d_Md_readSet_66 : decode q_mMd_readSet.1 66 = .ok (.aload_n 0, 1) := by decide +kernel
theorem d_Md_readSet_67 : decode q_mMd_readSet.1 67 = .ok (.getfield 126, 3) := by decide +kernel
theorem d_Md_readSet_70 : decode q_mMd_readSet.1 70 = .ok (.invokevirtual 129, 3) := by decide +kernel
theorem d_Md_readSet_73 : decode q_mMd_readSet.1 73 = .ok (.istore 4, 2) := by decide +kernel
theorem d_Md_readSet_75 : decode q_mMd_readSet.1 75 = .ok (.iload 4, 2) := by decide +kernel
theorem d_Md_readSet_77 : decode q_mMd_readSet.1 77 = .ok (.bipush 92, 2) := by decide +kernel
theorem d_Md_readSet_79 : decode q_mMd_readSet.1 79 = .ok (.if_icmp .ne 52, 3) := by decide +kernel
theorem d_Md_readSet_82 : decode q_mMd_readSet.1 82 = .ok (.aload_n 0, 1) := by decide +kernel
theorem d_Md_readSet_83 : decode q_mMd_readSet.1 83 = .ok (.dup, 1) := by decide +kernel
theorem d_Md_readSet_84 : decode q_mMd_readSet.1 84 = .ok (.getfield 126, 3) := by decide +kernel
theorem d_Md_readSet_87 : decode q_mMd_readSet.1 87 = .ok (.iconst 1, 1) := by decide +kernel
theorem d_Md_readSet_88 : decode q_mMd_readSet.1 88 = .ok (.iadd, 1) := by decide +kernel
theorem d_Md_readSet_89 : decode q_mMd_readSet.1 89 = .ok (.putfield 126, 3) := by decide +kernel
theorem d_Md_readSet_92 : decode q_mMd_readSet.1 92 = .ok (.aload_n 0, 1) := by decide +kernel
theorem d_Md_readSet_93 : decode q_mMd_readSet.1 93 = .ok (.aload_n 0, 1) := by decide +kernel
theorem d_Md_readSet_94 : decode q_mMd_readSet.1 94 = .ok (.getfield 126, 3) := by decide +kernel
theorem d_Md_readSet_97 : decode q_mMd_readSet.1 97 = .ok (.invokevirtual 129, 3) := by decide +kernel
theorem d_Md_readSet_100 : decode q_mMd_readSet.1 100 = .ok (.ifCond .ne 5, 3) := by decide +kernel
theorem d_Md_readSet_103 : decode q_mMd_readSet.1 103 = .ok (.iconst 0, 1) := by decide +kernel
theorem d_Md_readSet_104 : decode q_mMd_readSet.1 104 = .ok (.ireturn, 1) := by decide +kernel
theorem d_Md_readSet_105 : decode q_mMd_readSet.1 105 = .ok (.aload_n 0, 1) := by decide +kernel
theorem d_Md_readSet_106 : decode q_mMd_readSet.1 106 = .ok (.iload_n 1, 1) := by decide +kernel
theorem d_Md_readSet_107 : decode q_mMd_readSet.1 107 = .ok (.aload_n 0, 1) := by decide +kernel
theorem d_Md_readSet_108 : decode q_mMd_readSet.1 108 = .ok (.aload_n 0, 1) := by decide +kernel
theorem d_Md_readSet_109 : decode q_mMd_readSet.1 109 = .ok (.getfield 126, 3) := by decide +kernel
theorem d_Md_readSet_112 : decode q_mMd_readSet.1 112 = .ok (.invokevirtual 129, 3) := by decide +kernel
theorem d_Md_readSet_115 : decode q_mMd_readSet.1 115 = .ok (.invokevirtual 132, 3) := by decide +kernel
theorem d_Md_readSet_118 : decode q_mMd_readSet.1 118 = .ok (.aload_n 0, 1) := by decide +kernel
theorem d_Md_readSet_119 : decode q_mMd_readSet.1 119 = .ok (.dup, 1) := by decide +kernel
theorem d_Md_readSet_120 : decode q_mMd_readSet.1 120 = .ok (.getfield 126, 3) := by decide +kernel
theorem d_Md_readSet_123 : decode q_mMd_readSet.1 123 = .ok (.iconst 1, 1) := by decide +kernel
theorem d_Md_readSet_124 : decode q_mMd_readSet.1 124 = .ok (.iadd, 1) := by decide +kernel
theorem d_Md_readSet_125 : decode q_mMd_readSet.1 125 = .ok (.putfield 126, 3) := by decide +kernel
theorem d_Md_readSet_128 : decode q_mMd_readSet.1 128 = .ok (.goto 96, 3) := by decide +kernel
theorem d_Md_readSet_131 : decode q_mMd_readSet.1 131 = .ok (.iload 4, 2) := by decide +kernel
theorem d_Md_readSet_133 : decode q_mMd_readSet.1 133 = .ok (.invokestatic 136, 3) := by decide +kernel
theorem d_Md_readSet_136 : decode q_mMd_readSet.1 136 = .ok (.ifCond .ne 5, 3) := by decide +kernel
theorem d_Md_readSet_139 : decode q_mMd_readSet.1 139 = .ok (.iconst 0, 1) := by decide +kernel
theorem d_Md_readSet_140 : decode q_mMd_readSet.1 140 = .ok (.ireturn, 1) := by decide +kernel
theorem d_Md_readSet_141 : decode q_mMd_readSet.1 141 = .ok (.aload_n 0, 1) := by decide +kernel
theorem d_Md_readSet_142 : decode q_mMd_readSet.1 142 = .ok (.dup, 1) := by decide +kernel
theorem d_Md_readSet_143 : decode q_mMd_readSet.1 143 = .ok (.getfield 126, 3) := by decide +kernel
theorem d_Md_readSet_146 : decode q_mMd_readSet.1 146 = .ok (.iconst 1, 1) := by decide +kernel
theorem d_Md_readSet_147 : decode q_mMd_readSet.1 147 = .ok (.iadd, 1) := by decide +kernel
theorem d_Md_readSet_148 : decode q_mMd_readSet.1 148 = .ok (.putfield 126, 3) := by decide +kernel
theorem d_Md_readSet_151 : decode q_mMd_readSet.1 151 = .ok (.iload 4, 2) := by decide +kernel
theorem d_Md_readSet_153 : decode q_mMd_readSet.1 153 = .ok (.istore 5, 2) := by decide +kernel
theorem d_Md_readSet_155 : decode q_mMd_readSet.1 155 = .ok (.aload_n 0, 1) := by decide +kernel
theorem d_Md_readSet_156 : decode q_mMd_readSet.1 156 = .ok (.aload_n 0, 1) := by decide +kernel
theorem d_Md_readSet_157 : decode q_mMd_readSet.1 157 = .ok (.getfield 126, 3) := by decide +kernel
theorem d_Md_readSet_160 : decode q_mMd_readSet.1 160 = .ok (.invokevirtual 129, 3) := by decide +kernel
theorem d_Md_readSet_163 : decode q_mMd_readSet.1 163 = .ok (.bipush 45, 2) := by decide +kernel
theorem d_Md_readSet_165 : decode q_mMd_readSet.1 165 = .ok (.if_icmp .ne 50, 3) := by decide +kernel
theorem d_Md_readSet_168 : decode q_mMd_readSet.1 168 = .ok (.aload_n 0, 1) := by decide +kernel
theorem d_Md_readSet_169 : decode q_mMd_readSet.1 169 = .ok (.dup, 1) := by decide +kernel
theorem d_Md_readSet_170 : decode q_mMd_readSet.1 170 = .ok (.getfield 126, 3) := by decide +kernel
theorem d_Md_readSet_173 : decode q_mMd_readSet.1 173 = .ok (.iconst 1, 1) := by decide +kernel
theorem d_Md_readSet_174 : decode q_mMd_readSet.1 174 = .ok (.iadd, 1) := by decide +kernel
theorem d_Md_readSet_175 : decode q_mMd_readSet.1 175 = .ok (.putfield 126, 3) := by decide +kernel
theorem d_Md_readSet_178 : decode q_mMd_readSet.1 178 = .ok (.aload_n 0, 1) := by decide +kernel
theorem d_Md_readSet_179 : decode q_mMd_readSet.1 179 = .ok (.aload_n 0, 1) := by decide +kernel
theorem d_Md_readSet_180 : decode q_mMd_readSet.1 180 = .ok (.getfield 126, 3) := by decide +kernel
theorem d_Md_readSet_183 : decode q_mMd_readSet.1 183 = .ok (.invokevirtual 129, 3) := by decide +kernel
theorem d_Md_readSet_186 : decode q_mMd_readSet.1 186 = .ok (.istore 5, 2) := by decide +kernel
theorem d_Md_readSet_188 : decode q_mMd_readSet.1 188 = .ok (.iload 5, 2) := by decide +kernel
theorem d_Md_readSet_190 : decode q_mMd_readSet.1 190 = .ok (.invokestatic 136, 3) := by decide +kernel
theorem d_Md_readSet_193 : decode q_mMd_readSet.1 193 = .ok (.ifCond .eq 10, 3) := by decide +kernel
theorem d_Md_readSet_196 : decode q_mMd_readSet.1 196 = .ok (.iload 5, 2) := by decide +kernel
theorem d_Md_readSet_198 : decode q_mMd_readSet.1 198 = .ok (.iload 4, 2) := by decide +kernel
theorem d_Md_readSet_200 : decode q_mMd_readSet.1 200 = .ok (.if_icmp .ge 5, 3) := by decide +kernel
theorem d_Md_readSet_203 : decode q_mMd_readSet.1 203 = .ok (.iconst 0, 1) := by decide +kernel
theorem d_Md_readSet_204 : decode q_mMd_readSet.1 204 = .ok (.ireturn, 1) := by decide +kernel
theorem d_Md_readSet_205 : decode q_mMd_readSet.1 205 = .ok (.aload_n 0, 1) := by decide +kernel
theorem d_Md_readSet_206 : decode q_mMd_readSet.1 206 = .ok (.dup, 1) := by decide +kernel
theorem d_Md_readSet_207 : decode q_mMd_readSet.1 207 = .ok (.getfield 126, 3) := by decide +kernel
theorem d_Md_readSet_210 : decode q_mMd_readSet.1 210 = .ok (.iconst 1, 1) := by decide +kernel
theorem d_Md_readSet_211 : decode q_mMd_readSet.1 211 = .ok (.iadd, 1) := by decide +kernel
theorem d_Md_readSet_212 : decode q_mMd_readSet.1 212 = .ok (.putfield 126, 3) := by decide +kernel
theorem d_Md_readSet_215 : decode q_mMd_readSet.1 215 = .ok (.aload_n 0, 1) := by decide +kernel
theorem d_Md_readSet_216 : decode q_mMd_readSet.1 216 = .ok (.iload_n 1, 1) := by decide +kernel
theorem d_Md_readSet_217 : decode q_mMd_readSet.1 217 = .ok (.iload 4, 2) := by decide +kernel
theorem d_Md_readSet_219 : decode q_mMd_readSet.1 219 = .ok (.iload 5, 2) := by decide +kernel
theorem d_Md_readSet_221 : decode q_mMd_readSet.1 221 = .ok (.invokevirtual 118, 3) := by decide +kernel
theorem d_Md_readSet_224 : decode q_mMd_readSet.1 224 = .ok (.iinc 3 1, 3) := by decide +kernel
theorem d_Md_readSet_227 : decode q_mMd_readSet.1 227 = .ok (.goto (-185), 3) := by decide +kernel
theorem d_Md_readSet_230 : decode q_mMd_readSet.1 230 = .ok (.aload_n 0, 1) := by decide +kernel
theorem d_Md_readSet_231 : decode q_mMd_readSet.1 231 = .ok (.dup, 1) := by decide +kernel
theorem d_Md_readSet_232 : decode q_mMd_readSet.1 232 = .ok (.getfield 126, 3) := by decide +kernel
theorem d_Md_readSet_235 : decode q_mMd_readSet.1 235 = .ok (.iconst 1, 1) := by decide +kernel
theorem d_Md_readSet_236 : decode q_mMd_readSet.1 236 = .ok (.iadd, 1) := by decide +kernel
theorem d_Md_readSet_237 : decode q_mMd_readSet.1 237 = .ok (.putfield 126, 3) := by decide +kernel
theorem d_Md_readSet_240 : decode q_mMd_readSet.1 240 = .ok (.iconst 0, 1) := by decide +kernel
theorem d_Md_readSet_241 : decode q_mMd_readSet.1 241 = .ok (.istore 4, 2) := by decide +kernel
theorem d_Md_readSet_243 : decode q_mMd_readSet.1 243 = .ok (.iload 4, 2) := by decide +kernel
theorem d_Md_readSet_245 : decode q_mMd_readSet.1 245 = .ok (.bipush 8, 2) := by decide +kernel
theorem d_Md_readSet_247 : decode q_mMd_readSet.1 247 = .ok (.if_icmp .ge 39, 3) := by decide +kernel
theorem d_Md_readSet_250 : decode q_mMd_readSet.1 250 = .ok (.iload_n 2, 1) := by decide +kernel
theorem d_Md_readSet_251 : decode q_mMd_readSet.1 251 = .ok (.ifCond .eq 35, 3) := by decide +kernel
theorem d_Md_readSet_254 : decode q_mMd_readSet.1 254 = .ok (.aload_n 0, 1) := by decide +kernel
theorem d_Md_readSet_255 : decode q_mMd_readSet.1 255 = .ok (.getfield 55, 3) := by decide +kernel
theorem d_Md_readSet_258 : decode q_mMd_readSet.1 258 = .ok (.bipush 8, 2) := by decide +kernel
theorem d_Md_readSet_260 : decode q_mMd_readSet.1 260 = .ok (.iload_n 1, 1) := by decide +kernel
theorem d_Md_readSet_261 : decode q_mMd_readSet.1 261 = .ok (.imul, 1) := by decide +kernel
theorem d_Md_readSet_262 : decode q_mMd_readSet.1 262 = .ok (.iload 4, 2) := by decide +kernel
theorem d_Md_readSet_264 : decode q_mMd_readSet.1 264 = .ok (.iadd, 1) := by decide +kernel
theorem d_Md_readSet_265 : decode q_mMd_readSet.1 265 = .ok (.aload_n 0, 1) := by decide +kernel
theorem d_Md_readSet_266 : decode q_mMd_readSet.1 266 = .ok (.getfield 55, 3) := by decide +kernel
theorem d_Md_readSet_269 : decode q_mMd_readSet.1 269 = .ok (.bipush 8, 2) := by decide +kernel
theorem d_Md_readSet_271 : decode q_mMd_readSet.1 271 = .ok (.iload_n 1, 1) := by decide +kernel
theorem d_Md_readSet_272 : decode q_mMd_readSet.1 272 = .ok (.imul, 1) := by decide +kernel
theorem d_Md_readSet_273 : decode q_mMd_readSet.1 273 = .ok (.iload 4, 2) := by decide +kernel
theorem d_Md_readSet_275 : decode q_mMd_readSet.1 275 = .ok (.iadd, 1) := by decide +kernel
theorem d_Md_readSet_276 : decode q_mMd_readSet.1 276 = .ok (.iaload, 1) := by decide +kernel
theorem d_Md_readSet_277 : decode q_mMd_readSet.1 277 = .ok (.iconst (-1), 1) := by decide +kernel
theorem d_Md_readSet_278 : decode q_mMd_readSet.1 278 = .ok (.ixor, 1) := by decide +kernel
theorem d_Md_readSet_279 : decode q_mMd_readSet.1 279 = .ok (.iastore, 1) := by decide +kernel
theorem d_Md_readSet_280 : decode q_mMd_readSet.1 280 = .ok (.iinc 4 1, 3) := by decide +kernel
theorem d_Md_readSet_283 : decode q_mMd_readSet.1 283 = .ok (.goto (-40), 3) := by decide +kernel
theorem d_Md_readSet_286 : decode q_mMd_readSet.1 286 = .ok (.iconst 1, 1) := by decide +kernel
theorem d_Md_readSet_287 : decode q_mMd_readSet.1 287 = .ok (.ireturn, 1) := by decide +kernel
theorem d_Md_includeSpecial_0 : decode q_mMd_includeSpecial.1 0 = .ok (.iload_n 2, 1) := by decide +kernel
theorem d_Md_includeSpecial_1 : decode q_mMd_includeSpecial.1 1 = .ok (.bipush 100, 2) := by decide +kernel
theorem d_Md_includeSpecial_3 : decode q_mMd_includeSpecial.1 3 = .ok (.if_icmp .eq 9, 3) := by decide +kernel
theorem d_Md_includeSpecial_6 : decode q_mMd_includeSpecial.1 6 = .ok (.iload_n 2, 1) := by decide +kernel
theorem d_Md_includeSpecial_7 : decode q_mMd_includeSpecial.1 7 = .ok (.bipush 119, 2) := by decide +kernel
theorem d_Md_includeSpecial_9 : decode q_mMd_includeSpecial.1 9 = .ok (.if_icmp .ne 12, 3) := by decide +kernel
theorem d_Md_includeSpecial_12 : decode q_mMd_includeSpecial.1 12 = .ok (.aload_n 0, 1) := by decide +kernel
theorem d_Md_includeSpecial_13 : decode q_mMd_includeSpecial.1 13 = .ok (.iload_n 1, 1) := by decide +kernel
theorem d_Md_includeSpecial_14 : decode q_mMd_includeSpecial.1 14 = .ok (.bipush 48, 2) := by decide +kernel
theorem d_Md_includeSpecial_16 : decode q_mMd_includeSpecial.1 16 = .ok (.bipush 57, 2) := by decide +kernel
theorem d_Md_includeSpecial_18 : decode q_mMd_includeSpecial.1 18 = .ok (.invokevirtual 118, 3) := by decide +kernel
theorem d_Md_includeSpecial_21 : decode q_mMd_includeSpecial.1 21 = .ok (.iload_n 2, 1) := by decide +kernel
theorem d_Md_includeSpecial_22 : decode q_mMd_includeSpecial.1 22 = .ok (.bipush 119, 2) := by decide +kernel
theorem d_Md_includeSpecial_24 : decode q_mMd_includeSpecial.1 24 = .ok (.if_icmp .ne 30, 3) := by decide +kernel
theorem d_Md_includeSpecial_27 : decode q_mMd_includeSpecial.1 27 = .ok (.aload_n 0, 1) := by decide +kernel
theorem d_Md_includeSpecial_28 : decode q_mMd_includeSpecial.1 28 = .ok (.iload_n 1, 1) := by decide +kernel
theorem d_Md_includeSpecial_29 : decode q_mMd_includeSpecial.1 29 = .ok (.bipush 97, 2) := by decide +kernel
theorem d_Md_includeSpecial_31 : decode q_mMd_includeSpecial.1 31 = .ok (.bipush 122, 2) := by decide +kernel
theorem d_Md_includeSpecial_33 : decode q_mMd_includeSpecial.1 33 = .ok (.invokevirtual 118, 3) := by decide +kernel
theorem d_Md_includeSpecial_36 : decode q_mMd_includeSpecial.1 36 = .ok (.aload_n 0, 1) := by decide +kernel
theorem d_Md_includeSpecial_37 : decode q_mMd_includeSpecial.1 37 = .ok (.iload_n 1, 1) := by decide +kernel
theorem d_Md_includeSpecial_38 : decode q_mMd_includeSpecial.1 38 = .ok (.bipush 65, 2) := by decide +kernel
theorem d_Md_includeSpecial_40 : decode q_mMd_includeSpecial.1 40 = .ok (.bipush 90, 2) := by decide +kernel
theorem d_Md_includeSpecial_42 : decode q_mMd_includeSpecial.1 42 = .ok (.invokevirtual 118, 3) := by decide +kernel
theorem d_Md_includeSpecial_45 : decode q_mMd_includeSpecial.1 45 = .ok (.aload_n 0, 1) := by decide +kernel
theorem d_Md_includeSpecial_46 : decode q_mMd_includeSpecial.1 46 = .ok (.iload_n 1, 1) := by decide +kernel
theorem d_Md_includeSpecial_47 : decode q_mMd_includeSpecial.1 47 = .ok (.bipush 95, 2) := by decide +kernel
theorem d_Md_includeSpecial_49 : decode q_mMd_includeSpecial.1 49 = .ok (.bipush 95, 2) := by decide +kernel
theorem d_Md_includeSpecial_51 : decode q_mMd_includeSpecial.1 51 = .ok (.invokevirtual 118, 3) := by decide +kernel
theorem d_Md_includeSpecial_54 : decode q_mMd_includeSpecial.1 54 = .ok (.iload_n 2, 1) := by decide +kernel
theorem d_Md_includeSpecial_55 : decode q_mMd_includeSpecial.1 55 = .ok (.bipush 100, 2) := by decide +kernel
theorem d_Md_includeSpecial_57 : decode q_mMd_includeSpecial.1 57 = .ok (.if_icmp .eq 16, 3) := by decide +kernel
theorem d_Md_includeSpecial_60 : decode q_mMd_includeSpecial.1 60 = .ok (.iload_n 2, 1) := by decide +kernel
theorem d_Md_includeSpecial_61 : decode q_mMd_includeSpecial.1 61 = .ok (.bipush 119, 2) := by decide +kernel
theorem d_Md_includeSpecial_63 : decode q_mMd_includeSpecial.1 63 = .ok (.if_icmp .eq 10, 3) := by decide +kernel
theorem d_Md_includeSpecial_66 : decode q_mMd_includeSpecial.1 66 = .ok (.aload_n 0, 1) := by decide +kernel
theorem d_Md_includeSpecial_67 : decode q_mMd_includeSpecial.1 67 = .ok (.iload_n 1, 1) := by decide +kernel
theorem d_Md_includeSpecial_68 : decode q_mMd_includeSpecial.1 68 = .ok (.iload_n 2, 1) := by decide +kernel
theorem d_Md_includeSpecial_69 : decode q_mMd_includeSpecial.1 69 = .ok (.iload_n 2, 1) := by decide +kernel
theorem d_Md_includeSpecial_70 : decode q_mMd_includeSpecial.1 70 = .ok (.invokevirtual 118, 3) := by decide +kernel
theorem d_Md_includeSpecial_73 : decode q_mMd_includeSpecial.1 73 = .ok (.return_, 1) := by decide +kernel
