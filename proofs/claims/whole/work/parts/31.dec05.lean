theorem d_Md_include_0 : decode q_mMd_include.1 0 = .ok (.iload_n 2, 1) := by decide +kernel
theorem d_Md_include_1 : decode q_mMd_include.1 1 = .ok (.istore 4, 2) := by decide +kernel
theorem d_Md_include_3 : decode q_mMd_include.1 3 = .ok (.iload 4, 2) := by decide +kernel
theorem d_Md_include_5 : decode q_mMd_include.1 5 = .ok (.iload_n 3, 1) := by decide +kernel
theorem d_Md_include_6 : decode q_mMd_include.1 6 = .ok (.if_icmp .gt 47, 3) := by decide +kernel
theorem d_Md_include_9 : decode q_mMd_include.1 9 = .ok (.aload_n 0, 1) := by decide +kernel
theorem d_Md_include_10 : decode q_mMd_include.1 10 = .ok (.getfield 55, 3) := by decide +kernel
theorem d_Md_include_13 : decode q_mMd_include.1 13 = .ok (.bipush 8, 2) := by decide +kernel
theorem d_Md_include_15 : decode q_mMd_include.1 15 = .ok (.iload_n 1, 1) := by decide +kernel
theorem d_Md_include_16 : decode q_mMd_include.1 16 = .ok (.imul, 1) := by decide +kernel
theorem d_Md_include_17 : decode q_mMd_include.1 17 = .ok (.iload 4, 2) := by decide +kernel
theorem d_Md_include_19 : decode q_mMd_include.1 19 = .ok (.bipush 32, 2) := by decide +kernel
theorem d_Md_include_21 : decode q_mMd_include.1 21 = .ok (.idiv, 1) := by decide +kernel
theorem d_Md_include_22 : decode q_mMd_include.1 22 = .ok (.iadd, 1) := by decide +kernel
theorem d_Md_include_23 : decode q_mMd_include.1 23 = .ok (.aload_n 0, 1) := by decide +kernel
theorem d_Md_include_24 : decode q_mMd_include.1 24 = .ok (.getfield 55, 3) := by decide +kernel
theorem d_Md_include_27 : decode q_mMd_include.1 27 = .ok (.bipush 8, 2) := by decide +kernel
theorem d_Md_include_29 : decode q_mMd_include.1 29 = .ok (.iload_n 1, 1) := by decide +kernel
theorem d_Md_include_30 : decode q_mMd_include.1 30 = .ok (.imul, 1) := by decide +kernel
theorem d_Md_include_31 : decode q_mMd_include.1 31 = .ok (.iload 4, 2) := by decide +kernel
theorem d_Md_include_33 : decode q_mMd_include.1 33 = .ok (.bipush 32, 2) := by decide +kernel
theorem d_Md_include_35 : decode q_mMd_include.1 35 = .ok (.idiv, 1) := by decide +kernel
theorem d_Md_include_36 : decode q_mMd_include.1 36 = .ok (.iadd, 1) := by decide +kernel
theorem d_Md_include_37 : decode q_mMd_include.1 37 = .ok (.iaload, 1) := by decide +kernel
theorem d_Md_include_38 : decode q_mMd_include.1 38 = .ok (.iconst 1, 1) := by decide +kernel
theorem d_Md_include_39 : decode q_mMd_include.1 39 = .ok (.iload 4, 2) := by decide +kernel
theorem d_Md_include_41 : decode q_mMd_include.1 41 = .ok (.bipush 32, 2) := by decide +kernel
theorem d_Md_include_43 : decode q_mMd_include.1 43 = .ok (.irem, 1) := by decide +kernel
theorem d_Md_include_44 : decode q_mMd_include.1 44 = .ok (.ishl, 1) := by decide +kernel
theorem d_Md_include_45 : decode q_mMd_include.1 45 = .ok (.ior, 1) := by decide +kernel
theorem d_Md_include_46 : decode q_mMd_include.1 46 = .ok (.iastore, 1) := by decide +kernel
theorem d_Md_include_47 : decode q_mMd_include.1 47 = .ok (.iinc 4 1, 3) := by decide +kernel
theorem d_Md_include_50 : decode q_mMd_include.1 50 = .ok (.goto (-47), 3) := by decide +kernel
theorem d_Md_include_53 : decode q_mMd_include.1 53 = .ok (.return_, 1) := by decide +kernel
theorem d_Md_isItem_0 : decode q_mMd_isItem.1 0 = .ok (.iload_n 0, 1) := by decide +kernel
theorem d_Md_isItem_1 : decode q_mMd_isItem.1 1 = .ok (.ifCond .le 37, 3) := by decide +kernel
theorem d_Md_isItem_4 : decode q_mMd_isItem.1 4 = .ok (.iload_n 0, 1) := by decide +kernel
theorem d_Md_isItem_5 : decode q_mMd_isItem.1 5 = .ok (.bipush 93, 2) := by decide +kernel
theorem d_Md_isItem_7 : decode q_mMd_isItem.1 7 = .ok (.if_icmp .eq 31, 3) := by decide +kernel
theorem d_Md_isItem_10 : decode q_mMd_isItem.1 10 = .ok (.iload_n 0, 1) := by decide +kernel
theorem d_Md_isItem_11 : decode q_mMd_isItem.1 11 = .ok (.bipush 91, 2) := by decide +kernel
theorem d_Md_isItem_13 : decode q_mMd_isItem.1 13 = .ok (.if_icmp .eq 25, 3) := by decide +kernel
theorem d_Md_isItem_16 : decode q_mMd_isItem.1 16 = .ok (.iload_n 0, 1) := by decide +kernel
theorem d_Md_isItem_17 : decode q_mMd_isItem.1 17 = .ok (.bipush 92, 2) := by decide +kernel
theorem d_Md_isItem_19 : decode q_mMd_isItem.1 19 = .ok (.if_icmp .eq 19, 3) := by decide +kernel
theorem d_Md_isItem_22 : decode q_mMd_isItem.1 22 = .ok (.iload_n 0, 1) := by decide +kernel
theorem d_Md_isItem_23 : decode q_mMd_isItem.1 23 = .ok (.bipush 45, 2) := by decide +kernel
theorem d_Md_isItem_25 : decode q_mMd_isItem.1 25 = .ok (.if_icmp .eq 13, 3) := by decide +kernel
theorem d_Md_isItem_28 : decode q_mMd_isItem.1 28 = .ok (.iload_n 0, 1) := by decide +kernel
theorem d_Md_isItem_29 : decode q_mMd_isItem.1 29 = .ok (.bipush 94, 2) := by decide +kernel
theorem d_Md_isItem_31 : decode q_mMd_isItem.1 31 = .ok (.if_icmp .eq 7, 3) := by decide +kernel
theorem d_Md_isItem_34 : decode q_mMd_isItem.1 34 = .ok (.iconst 1, 1) := by decide +kernel
theorem d_Md_isItem_35 : decode q_mMd_isItem.1 35 = .ok (.goto 4, 3) := by decide +kernel
theorem d_Md_isItem_38 : decode q_mMd_isItem.1 38 = .ok (.iconst 0, 1) := by decide +kernel
theorem d_Md_isItem_39 : decode q_mMd_isItem.1 39 = .ok (.ireturn, 1) := by decide +kernel
theorem d_Md_widthOf_0 : decode q_mMd_widthOf.1 0 = .ok (.lconst 0, 1) := by decide +kernel
theorem d_Md_widthOf_1 : decode q_mMd_widthOf.1 1 = .ok (.lstore_n 2, 1) := by decide +kernel
theorem d_Md_widthOf_2 : decode q_mMd_widthOf.1 2 = .ok (.iconst 0, 1) := by decide +kernel
theorem d_Md_widthOf_3 : decode q_mMd_widthOf.1 3 = .ok (.istore 4, 2) := by decide +kernel
theorem d_Md_widthOf_5 : decode q_mMd_widthOf.1 5 = .ok (.aload_n 0, 1) := by decide +kernel
theorem d_Md_widthOf_6 : decode q_mMd_widthOf.1 6 = .ok (.getfield 21, 3) := by decide +kernel
theorem d_Md_widthOf_9 : decode q_mMd_widthOf.1 9 = .ok (.iload_n 1, 1) := by decide +kernel
theorem d_Md_widthOf_10 : decode q_mMd_widthOf.1 10 = .ok (.iaload, 1) := by decide +kernel
theorem d_Md_widthOf_11 : decode q_mMd_widthOf.1 11 = .ok (.istore 5, 2) := by decide +kernel
theorem d_Md_widthOf_13 : decode q_mMd_widthOf.1 13 = .ok (.iload 5, 2) := by decide +kernel
theorem d_Md_widthOf_15 : decode q_mMd_widthOf.1 15 = .ok (.ifCond .lt 29, 3) := by decide +kernel
theorem d_Md_widthOf_18 : decode q_mMd_widthOf.1 18 = .ok (.lload_n 2, 1) := by decide +kernel
theorem d_Md_widthOf_19 : decode q_mMd_widthOf.1 19 = .ok (.aload_n 0, 1) := by decide +kernel
theorem d_Md_widthOf_20 : decode q_mMd_widthOf.1 20 = .ok (.getfield 43, 3) := by decide +kernel
theorem d_Md_widthOf_23 : decode q_mMd_widthOf.1 23 = .ok (.iload 5, 2) := by decide +kernel
theorem d_Md_widthOf_25 : decode q_mMd_widthOf.1 25 = .ok (.iaload, 1) := by decide +kernel
theorem d_Md_widthOf_26 : decode q_mMd_widthOf.1 26 = .ok (.i2l, 1) := by decide +kernel
theorem d_Md_widthOf_27 : decode q_mMd_widthOf.1 27 = .ok (.ladd, 1) := by decide +kernel
theorem d_Md_widthOf_28 : decode q_mMd_widthOf.1 28 = .ok (.lstore_n 2, 1) := by decide +kernel
theorem d_Md_widthOf_29 : decode q_mMd_widthOf.1 29 = .ok (.iinc 4 1, 3) := by decide +kernel
theorem d_Md_widthOf_32 : decode q_mMd_widthOf.1 32 = .ok (.aload_n 0, 1) := by decide +kernel
theorem d_Md_widthOf_33 : decode q_mMd_widthOf.1 33 = .ok (.getfield 27, 3) := by decide +kernel
theorem d_Md_widthOf_36 : decode q_mMd_widthOf.1 36 = .ok (.iload 5, 2) := by decide +kernel
theorem d_Md_widthOf_38 : decode q_mMd_widthOf.1 38 = .ok (.iaload, 1) := by decide +kernel
theorem d_Md_widthOf_39 : decode q_mMd_widthOf.1 39 = .ok (.istore 5, 2) := by decide +kernel
theorem d_Md_widthOf_41 : decode q_mMd_widthOf.1 41 = .ok (.goto (-28), 3) := by decide +kernel
theorem d_Md_widthOf_44 : decode q_mMd_widthOf.1 44 = .ok (.aload_n 0, 1) := by decide +kernel
theorem d_Md_widthOf_45 : decode q_mMd_widthOf.1 45 = .ok (.getfield 17, 3) := by decide +kernel
theorem d_Md_widthOf_48 : decode q_mMd_widthOf.1 48 = .ok (.iload_n 1, 1) := by decide +kernel
theorem d_Md_widthOf_49 : decode q_mMd_widthOf.1 49 = .ok (.iaload, 1) := by decide +kernel
theorem d_Md_widthOf_50 : decode q_mMd_widthOf.1 50 = .ok (.iconst 3, 1) := by decide +kernel
theorem d_Md_widthOf_51 : decode q_mMd_widthOf.1 51 = .ok (.if_icmp .ne 7, 3) := by decide +kernel
theorem d_Md_widthOf_54 : decode q_mMd_widthOf.1 54 = .ok (.lconst 1, 1) := by decide +kernel
theorem d_Md_widthOf_55 : decode q_mMd_widthOf.1 55 = .ok (.goto 52, 3) := by decide +kernel
theorem d_Md_widthOf_58 : decode q_mMd_widthOf.1 58 = .ok (.aload_n 0, 1) := by decide +kernel
theorem d_Md_widthOf_59 : decode q_mMd_widthOf.1 59 = .ok (.getfield 17, 3) := by decide +kernel
theorem d_Md_widthOf_62 : decode q_mMd_widthOf.1 62 = .ok (.iload_n 1, 1) := by decide +kernel
theorem d_Md_widthOf_63 : decode q_mMd_widthOf.1 63 = .ok (.iaload, 1) := by decide +kernel
theorem d_Md_widthOf_64 : decode q_mMd_widthOf.1 64 = .ok (.ifCond .ne 15, 3) := by decide +kernel
theorem d_Md_widthOf_67 : decode q_mMd_widthOf.1 67 = .ok (.lload_n 2, 1) := by decide +kernel
theorem d_Md_widthOf_68 : decode q_mMd_widthOf.1 68 = .ok (.iconst 2, 1) := by decide +kernel
theorem d_Md_widthOf_69 : decode q_mMd_widthOf.1 69 = .ok (.iload 4, 2) := by decide +kernel
theorem d_Md_widthOf_71 : decode q_mMd_widthOf.1 71 = .ok (.iconst 1, 1) := by decide +kernel
theorem d_Md_widthOf_72 : decode q_mMd_widthOf.1 72 = .ok (.isub, 1) := by decide +kernel
theorem d_Md_widthOf_73 : decode q_mMd_widthOf.1 73 = .ok (.imul, 1) := by decide +kernel
theorem d_Md_widthOf_74 : decode q_mMd_widthOf.1 74 = .ok (.i2l, 1) := by decide +kernel
theorem d_Md_widthOf_75 : decode q_mMd_widthOf.1 75 = .ok (.ladd, 1) := by decide +kernel
theorem d_Md_widthOf_76 : decode q_mMd_widthOf.1 76 = .ok (.goto 31, 3) := by decide +kernel
theorem d_Md_widthOf_79 : decode q_mMd_widthOf.1 79 = .ok (.aload_n 0, 1) := by decide +kernel
theorem d_Md_widthOf_80 : decode q_mMd_widthOf.1 80 = .ok (.getfield 17, 3) := by decide +kernel
theorem d_Md_widthOf_83 : decode q_mMd_widthOf.1 83 = .ok (.iload_n 1, 1) := by decide +kernel
theorem d_Md_widthOf_84 : decode q_mMd_widthOf.1 84 = .ok (.iaload, 1) := by decide +kernel
theorem d_Md_widthOf_85 : decode q_mMd_widthOf.1 85 = .ok (.iconst 4, 1) := by decide +kernel
theorem d_Md_widthOf_86 : decode q_mMd_widthOf.1 86 = .ok (.if_icmp .ne 20, 3) := by decide +kernel
theorem d_Md_widthOf_89 : decode q_mMd_widthOf.1 89 = .ok (.aload_n 0, 1) := by decide +kernel
theorem d_Md_widthOf_90 : decode q_mMd_widthOf.1 90 = .ok (.getfield 30, 3) := by decide +kernel
theorem d_Md_widthOf_93 : decode q_mMd_widthOf.1 93 = .ok (.iload_n 1, 1) := by decide +kernel
theorem d_Md_widthOf_94 : decode q_mMd_widthOf.1 94 = .ok (.iaload, 1) := by decide +kernel
theorem d_Md_widthOf_95 : decode q_mMd_widthOf.1 95 = .ok (.ifCond .le 11, 3) := by decide +kernel
theorem d_Md_widthOf_98 : decode q_mMd_widthOf.1 98 = .ok (.lload_n 2, 1) := by decide +kernel
theorem d_Md_widthOf_99 : decode q_mMd_widthOf.1 99 = .ok (.ldc2_w 176, 3) := by decide +kernel
theorem d_Md_widthOf_102 : decode q_mMd_widthOf.1 102 = .ok (.ladd, 1) := by decide +kernel
theorem d_Md_widthOf_103 : decode q_mMd_widthOf.1 103 = .ok (.goto 4, 3) := by decide +kernel
theorem d_Md_widthOf_106 : decode q_mMd_widthOf.1 106 = .ok (.lload_n 2, 1) := by decide +kernel
theorem d_Md_widthOf_107 : decode q_mMd_widthOf.1 107 = .ok (.lstore 5, 2) := by decide +kernel
theorem d_Md_widthOf_109 : decode q_mMd_widthOf.1 109 = .ok (.aload_n 0, 1) := by decide +kernel
theorem d_Md_widthOf_110 : decode q_mMd_widthOf.1 110 = .ok (.getfield 17, 3) := by decide +kernel
theorem d_Md_widthOf_113 : decode q_mMd_widthOf.1 113 = .ok (.iload_n 1, 1) := by decide +kernel
theorem d_Md_widthOf_114 : decode q_mMd_widthOf.1 114 = .ok (.iaload, 1) := by decide +kernel
theorem d_Md_widthOf_115 : decode q_mMd_widthOf.1 115 = .ok (.iconst 2, 1) := by decide +kernel
theorem d_Md_widthOf_116 : decode q_mMd_widthOf.1 116 = .ok (.if_icmp .ne 126, 3) := by decide +kernel
theorem d_Md_widthOf_119 : decode q_mMd_widthOf.1 119 = .ok (.aload_n 0, 1) := by decide +kernel
theorem d_Md_widthOf_120 : decode q_mMd_widthOf.1 120 = .ok (.getfield 30, 3) := by decide +kernel
theorem d_Md_widthOf_123 : decode q_mMd_widthOf.1 123 = .ok (.iload_n 1, 1) := by decide +kernel
theorem d_Md_widthOf_124 : decode q_mMd_widthOf.1 124 = .ok (.iaload, 1) := by decide +kernel
theorem d_Md_widthOf_125 : decode q_mMd_widthOf.1 125 = .ok (.istore 7, 2) := by decide +kernel
theorem d_Md_widthOf_127 : decode q_mMd_widthOf.1 127 = .ok (.iload 7, 2) := by decide +kernel
theorem d_Md_widthOf_129 : decode q_mMd_widthOf.1 129 = .ok (.iconst 1, 1) := by decide +kernel
theorem d_Md_widthOf_130 : decode q_mMd_widthOf.1 130 = .ok (.if_icmp .ne 11, 3) := by decide +kernel
theorem d_Md_widthOf_133 : decode q_mMd_widthOf.1 133 = .ok (.lload_n 2, 1) := by decide +kernel
theorem d_Md_widthOf_134 : decode q_mMd_widthOf.1 134 = .ok (.ldc2_w 176, 3) := by decide +kernel
theorem d_Md_widthOf_137 : decode q_mMd_widthOf.1 137 = .ok (.ladd, 1) := by decide +kernel
theorem d_Md_widthOf_138 : decode q_mMd_widthOf.1 138 = .ok (.goto 102, 3) := by decide +kernel
theorem d_Md_widthOf_141 : decode q_mMd_widthOf.1 141 = .ok (.iload 7, 2) := by decide +kernel
theorem d_Md_widthOf_143 : decode q_mMd_widthOf.1 143 = .ok (.iconst 2, 1) := by decide +kernel
theorem d_Md_widthOf_144 : decode q_mMd_widthOf.1 144 = .ok (.if_icmp .eq 9, 3) := by decide +kernel
theorem d_Md_widthOf_147 : decode q_mMd_widthOf.1 147 = .ok (.iload 7, 2) := by decide +kernel
theorem d_Md_widthOf_149 : decode q_mMd_widthOf.1 149 = .ok (.iconst 3, 1) := by decide +kernel
theorem d_Md_widthOf_150 : decode q_mMd_widthOf.1 150 = .ok (.if_icmp .ne 9, 3) := by decide +kernel
theorem d_Md_widthOf_153 : decode q_mMd_widthOf.1 153 = .ok (.lload_n 2, 1) := by decide +kernel
theorem d_Md_widthOf_154 : decode q_mMd_widthOf.1 154 = .ok (.lconst 1, 1) := by decide +kernel
theorem d_Md_widthOf_155 : decode q_mMd_widthOf.1 155 = .ok (.ladd, 1) := by decide +kernel
theorem d_Md_widthOf_156 : decode q_mMd_widthOf.1 156 = .ok (.goto 84, 3) := by decide +kernel
theorem d_Md_widthOf_159 : decode q_mMd_widthOf.1 159 = .ok (.iload 7, 2) := by decide +kernel
theorem d_Md_widthOf_161 : decode q_mMd_widthOf.1 161 = .ok (.iconst 4, 1) := by decide +kernel
theorem d_Md_widthOf_162 : decode q_mMd_widthOf.1 162 = .ok (.if_icmp .ne 15, 3) := by decide +kernel
theorem d_Md_widthOf_165 : decode q_mMd_widthOf.1 165 = .ok (.aload_n 0, 1) := by decide +kernel
theorem d_Md_widthOf_166 : decode q_mMd_widthOf.1 166 = .ok (.getfield 33, 3) := by decide +kernel
theorem d_Md_widthOf_169 : decode q_mMd_widthOf.1 169 = .ok (.iload_n 1, 1) := by decide +kernel
theorem d_Md_widthOf_170 : decode q_mMd_widthOf.1 170 = .ok (.iaload, 1) := by decide +kernel
theorem d_Md_widthOf_171 : decode q_mMd_widthOf.1 171 = .ok (.i2l, 1) := by decide +kernel
theorem d_Md_widthOf_172 : decode q_mMd_widthOf.1 172 = .ok (.lload_n 2, 1) := by decide +kernel
theorem d_Md_widthOf_173 : decode q_mMd_widthOf.1 173 = .ok (.lmul, 1) := by decide +kernel
theorem d_Md_widthOf_174 : decode q_mMd_widthOf.1 174 = .ok (.goto 66, 3) := by decide +kernel
theorem d_Md_widthOf_177 : decode q_mMd_widthOf.1 177 = .ok (.iload 7, 2) := by decide +kernel
theorem d_Md_widthOf_179 : decode q_mMd_widthOf.1 179 = .ok (.iconst 5, 1) := by decide +kernel
theorem d_Md_widthOf_180 : decode q_mMd_widthOf.1 180 = .ok (.if_icmp .ne 21, 3) := by decide +kernel
theorem d_Md_widthOf_183 : decode q_mMd_widthOf.1 183 = .ok (.aload_n 0, 1) := by decide +kernel
theorem d_Md_widthOf_184 : decode q_mMd_widthOf.1 184 = .ok (.getfield 33, 3) := by decide +kernel
theorem d_Md_widthOf_187 : decode q_mMd_widthOf.1 187 = .ok (.iload_n 1, 1) := by decide +kernel
theorem d_Md_widthOf_188 : decode q_mMd_widthOf.1 188 = .ok (.iaload, 1) := by decide +kernel
theorem d_Md_widthOf_189 : decode q_mMd_widthOf.1 189 = .ok (.iconst 1, 1) := by decide +kernel
theorem d_Md_widthOf_190 : decode q_mMd_widthOf.1 190 = .ok (.iadd, 1) := by decide +kernel
theorem d_Md_widthOf_191 : decode q_mMd_widthOf.1 191 = .ok (.i2l, 1) := by decide +kernel
theorem d_Md_widthOf_192 : decode q_mMd_widthOf.1 192 = .ok (.lload_n 2, 1) := by decide +kernel
theorem d_Md_widthOf_193 : decode q_mMd_widthOf.1 193 = .ok (.lmul, 1) := by decide +kernel
theorem d_Md_widthOf_194 : decode q_mMd_widthOf.1 194 = .ok (.ldc2_w 176, 3) := by decide +kernel
theorem d_Md_widthOf_197 : decode q_mMd_widthOf.1 197 = .ok (.ladd, 1) := by decide +kernel
theorem d_Md_widthOf_198 : decode q_mMd_widthOf.1 198 = .ok (.goto 42, 3) := by decide +kernel
theorem d_Md_widthOf_201 : decode q_mMd_widthOf.1 201 = .ok (.iload 7, 2) := by decide +kernel
theorem d_Md_widthOf_203 : decode q_mMd_widthOf.1 203 = .ok (.bipush 6, 2) := by decide +kernel
theorem d_Md_widthOf_205 : decode q_mMd_widthOf.1 205 = .ok (.if_icmp .ne 34, 3) := by decide +kernel
theorem d_Md_widthOf_208 : decode q_mMd_widthOf.1 208 = .ok (.aload_n 0, 1) := by decide +kernel
theorem d_Md_widthOf_209 : decode q_mMd_widthOf.1 209 = .ok (.getfield 33, 3) := by decide +kernel
theorem d_Md_widthOf_212 : decode q_mMd_widthOf.1 212 = .ok (.iload_n 1, 1) := by decide +kernel
theorem d_Md_widthOf_213 : decode q_mMd_widthOf.1 213 = .ok (.iaload, 1) := by decide +kernel
theorem d_Md_widthOf_214 : decode q_mMd_widthOf.1 214 = .ok (.i2l, 1) := by decide +kernel
theorem d_Md_widthOf_215 : decode q_mMd_widthOf.1 215 = .ok (.lload_n 2, 1) := by decide +kernel
theorem d_Md_widthOf_216 : decode q_mMd_widthOf.1 216 = .ok (.lmul, 1) := by decide +kernel
theorem d_Md_widthOf_217 : decode q_mMd_widthOf.1 217 = .ok (.aload_n 0, 1) := by decide +kernel
theorem d_Md_widthOf_218 : decode q_mMd_widthOf.1 218 = .ok (.getfield 36, 3) := by decide +kernel
theorem d_Md_widthOf_221 : decode q_mMd_widthOf.1 221 = .ok (.iload_n 1, 1) := by decide +kernel
theorem d_Md_widthOf_222 : decode q_mMd_widthOf.1 222 = .ok (.iaload, 1) := by decide +kernel
theorem d_Md_widthOf_223 : decode q_mMd_widthOf.1 223 = .ok (.aload_n 0, 1) := by decide +kernel
theorem d_Md_widthOf_224 : decode q_mMd_widthOf.1 224 = .ok (.getfield 33, 3) := by decide +kernel
theorem d_Md_widthOf_227 : decode q_mMd_widthOf.1 227 = .ok (.iload_n 1, 1) := by decide +kernel
theorem d_Md_widthOf_228 : decode q_mMd_widthOf.1 228 = .ok (.iaload, 1) := by decide +kernel
theorem d_Md_widthOf_229 : decode q_mMd_widthOf.1 229 = .ok (.isub, 1) := by decide +kernel
theorem d_Md_widthOf_230 : decode q_mMd_widthOf.1 230 = .ok (.i2l, 1) := by decide +kernel
theorem d_Md_widthOf_231 : decode q_mMd_widthOf.1 231 = .ok (.lload_n 2, 1) := by decide +kernel
theorem d_Md_widthOf_232 : decode q_mMd_widthOf.1 232 = .ok (.lconst 1, 1) := by decide +kernel
theorem d_Md_widthOf_233 : decode q_mMd_widthOf.1 233 = .ok (.ladd, 1) := by decide +kernel
theorem d_Md_widthOf_234 : decode q_mMd_widthOf.1 234 = .ok (.lmul, 1) := by decide +kernel
theorem d_Md_widthOf_235 : decode q_mMd_widthOf.1 235 = .ok (.ladd, 1) := by decide +kernel
theorem d_Md_widthOf_236 : decode q_mMd_widthOf.1 236 = .ok (.goto 4, 3) := by decide +kernel
theorem d_Md_widthOf_239 : decode q_mMd_widthOf.1 239 = .ok (.lload_n 2, 1) := by decide +kernel
theorem d_Md_widthOf_240 : decode q_mMd_widthOf.1 240 = .ok (.lstore 5, 2) := by decide +kernel
theorem d_Md_widthOf_242 : decode q_mMd_widthOf.1 242 = .ok (.lload 5, 2) := by decide +kernel
theorem d_Md_widthOf_244 : decode q_mMd_widthOf.1 244 = .ok (.ldc2_w 178, 3) := by decide +kernel
theorem d_Md_widthOf_247 : decode q_mMd_widthOf.1 247 = .ok (.lcmp, 1) := by decide +kernel
theorem d_Md_widthOf_248 : decode q_mMd_widthOf.1 248 = .ok (.ifCond .le 9, 3) := by decide +kernel
theorem d_Md_widthOf_251 : decode q_mMd_widthOf.1 251 = .ok (.sipush 10000, 3) := by decide +kernel
theorem d_Md_widthOf_254 : decode q_mMd_widthOf.1 254 = .ok (.goto 6, 3) := by decide +kernel
theorem d_Md_widthOf_257 : decode q_mMd_widthOf.1 257 = .ok (.lload 5, 2) := by decide +kernel
theorem d_Md_widthOf_259 : decode q_mMd_widthOf.1 259 = .ok (.l2i, 1) := by decide +kernel
theorem d_Md_widthOf_260 : decode q_mMd_widthOf.1 260 = .ok (.ireturn, 1) := by decide +kernel
theorem d_Md_put_0 : decode q_mMd_put.1 0 = .ok (.aload_n 0, 1) := by decide +kernel
theorem d_Md_put_1 : decode q_mMd_put.1 1 = .ok (.getfield 58, 3) := by decide +kernel
theorem d_Md_put_4 : decode q_mMd_put.1 4 = .ok (.iload_n 1, 1) := by decide +kernel
theorem d_Md_put_5 : decode q_mMd_put.1 5 = .ok (.iload_n 2, 1) := by decide +kernel
theorem d_Md_put_6 : decode q_mMd_put.1 6 = .ok (.iastore, 1) := by decide +kernel
theorem d_Md_put_7 : decode q_mMd_put.1 7 = .ok (.aload_n 0, 1) := by decide +kernel
theorem d_Md_put_8 : decode q_mMd_put.1 8 = .ok (.getfield 61, 3) := by decide +kernel
theorem d_Md_put_11 : decode q_mMd_put.1 11 = .ok (.iload_n 1, 1) := by decide +kernel
theorem d_Md_put_12 : decode q_mMd_put.1 12 = .ok (.iload_n 3, 1) := by decide +kernel
theorem d_Md_put_13 : decode q_mMd_put.1 13 = .ok (.iastore, 1) := by decide +kernel
theorem d_Md_put_14 : decode q_mMd_put.1 14 = .ok (.aload_n 0, 1) := by decide +kernel
theorem d_Md_put_15 : decode q_mMd_put.1 15 = .ok (.getfield 64, 3) := by decide +kernel
theorem d_Md_put_18 : decode q_mMd_put.1 18 = .ok (.iload_n 1, 1) := by decide +kernel
theorem d_Md_put_19 : decode q_mMd_put.1 19 = .ok (.iload 4, 2) := by decide +kernel
theorem d_Md_put_21 : decode q_mMd_put.1 21 = .ok (.iastore, 1) := by decide +kernel
theorem d_Md_put_22 : decode q_mMd_put.1 22 = .ok (.return_, 1) := by decide +kernel
theorem d_Md_later_0 : decode q_mMd_later.1 0 = .ok (.aload_n 0, 1) := by decide +kernel
theorem d_Md_later_1 : decode q_mMd_later.1 1 = .ok (.getfield 43, 3) := by decide +kernel
theorem d_Md_later_4 : decode q_mMd_later.1 4 = .ok (.iload_n 1, 1) := by decide +kernel
theorem d_Md_later_5 : decode q_mMd_later.1 5 = .ok (.iaload, 1) := by decide +kernel
theorem d_Md_later_6 : decode q_mMd_later.1 6 = .ok (.ifCond .le 33, 3) := by decide +kernel
theorem d_Md_later_9 : decode q_mMd_later.1 9 = .ok (.aload_n 0, 1) := by decide +kernel
theorem d_Md_later_10 : decode q_mMd_later.1 10 = .ok (.getfield 67, 3) := by decide +kernel
theorem d_Md_later_13 : decode q_mMd_later.1 13 = .ok (.aload_n 0, 1) := by decide +kernel
theorem d_Md_later_14 : decode q_mMd_later.1 14 = .ok (.getfield 184, 3) := by decide +kernel
theorem d_Md_later_17 : decode q_mMd_later.1 17 = .ok (.iload_n 1, 1) := by decide +kernel
theorem d_Md_later_18 : decode q_mMd_later.1 18 = .ok (.iastore, 1) := by decide +kernel
theorem d_Md_later_19 : decode q_mMd_later.1 19 = .ok (.aload_n 0, 1) := by decide +kernel
theorem d_Md_later_20 : decode q_mMd_later.1 20 = .ok (.getfield 70, 3) := by decide +kernel
theorem d_Md_later_23 : decode q_mMd_later.1 23 = .ok (.aload_n 0, 1) := by decide +kernel
theorem d_Md_later_24 : decode q_mMd_later.1 24 = .ok (.getfield 184, 3) := by decide +kernel
theorem d_Md_later_27 : decode q_mMd_later.1 27 = .ok (.iload_n 2, 1) := by decide +kernel
theorem d_Md_later_28 : decode q_mMd_later.1 28 = .ok (.iastore, 1) := by decide +kernel
theorem d_Md_later_29 : decode q_mMd_later.1 29 = .ok (.aload_n 0, 1) := by decide +kernel
theorem d_Md_later_30 : decode q_mMd_later.1 30 = .ok (.dup, 1) := by decide +kernel
theorem d_Md_later_31 : decode q_mMd_later.1 31 = .ok (.getfield 184, 3) := by decide +kernel
theorem d_Md_later_34 : decode q_mMd_later.1 34 = .ok (.iconst 1, 1) := by decide +kernel
theorem d_Md_later_35 : decode q_mMd_later.1 35 = .ok (.iadd, 1) := by decide +kernel
theorem d_Md_later_36 : decode q_mMd_later.1 36 = .ok (.putfield 184, 3) := by decide +kernel
theorem d_Md_later_39 : decode q_mMd_later.1 39 = .ok (.return_, 1) := by decide +kernel
theorem d_Md_writeNode_0 : decode q_mMd_writeNode.1 0 = .ok (.aload_n 0, 1) := by decide +kernel
theorem d_Md_writeNode_1 : decode q_mMd_writeNode.1 1 = .ok (.getfield 17, 3) := by decide +kernel
theorem d_Md_writeNode_4 : decode q_mMd_writeNode.1 4 = .ok (.iload_n 1, 1) := by decide +kernel
theorem d_Md_writeNode_5 : decode q_mMd_writeNode.1 5 = .ok (.iaload, 1) := by decide +kernel
theorem d_Md_writeNode_6 : decode q_mMd_writeNode.1 6 = .ok (.ifCond .ne 12, 3) := by decide +kernel
theorem d_Md_writeNode_9 : decode q_mMd_writeNode.1 9 = .ok (.aload_n 0, 1) := by decide +kernel
theorem d_Md_writeNode_10 : decode q_mMd_writeNode.1 10 = .ok (.iload_n 1, 1) := by decide +kernel
theorem d_Md_writeNode_11 : decode q_mMd_writeNode.1 11 = .ok (.iload_n 2, 1) := by decide +kernel
theorem d_Md_writeNode_12 : decode q_mMd_writeNode.1 12 = .ok (.invokevirtual 195, 3) := by decide +kernel
theorem d_Md_writeNode_15 : decode q_mMd_writeNode.1 15 = .ok (.goto 182, 3) := by decide +kernel
theorem d_Md_writeNode_18 : decode q_mMd_writeNode.1 18 = .ok (.aload_n 0, 1) := by decide +kernel
theorem d_Md_writeNode_19 : decode q_mMd_writeNode.1 19 = .ok (.getfield 17, 3) := by decide +kernel
theorem d_Md_writeNode_22 : decode q_mMd_writeNode.1 22 = .ok (.iload_n 1, 1) := by decide +kernel
theorem d_Md_writeNode_23 : decode q_mMd_writeNode.1 23 = .ok (.iaload, 1) := by decide +kernel
theorem d_Md_writeNode_24 : decode q_mMd_writeNode.1 24 = .ok (.iconst 2, 1) := by decide +kernel
theorem d_Md_writeNode_25 : decode q_mMd_writeNode.1 25 = .ok (.if_icmp .ne 12, 3) := by decide +kernel
theorem d_Md_writeNode_28 : decode q_mMd_writeNode.1 28 = .ok (.aload_n 0, 1) := by decide +kernel
theorem d_Md_writeNode_29 : decode q_mMd_writeNode.1 29 = .ok (.iload_n 1, 1) := by decide +kernel
theorem d_Md_writeNode_30 : decode q_mMd_writeNode.1 30 = .ok (.iload_n 2, 1) := by decide +kernel
theorem d_Md_writeNode_31 : decode q_mMd_writeNode.1 31 = .ok (.invokevirtual 198, 3) := by decide +kernel
theorem d_Md_writeNode_34 : decode q_mMd_writeNode.1 34 = .ok (.goto 163, 3) := by decide +kernel
theorem d_Md_writeNode_37 : decode q_mMd_writeNode.1 37 = .ok (.aload_n 0, 1) := by decide +kernel
theorem d_Md_writeNode_38 : decode q_mMd_writeNode.1 38 = .ok (.getfield 17, 3) := by decide +kernel
theorem d_Md_writeNode_41 : decode q_mMd_writeNode.1 41 = .ok (.iload_n 1, 1) := by decide +kernel
theorem d_Md_writeNode_42 : decode q_mMd_writeNode.1 42 = .ok (.iaload, 1) := by decide +kernel
theorem d_Md_writeNode_43 : decode q_mMd_writeNode.1 43 = .ok (.iconst 3, 1) := by decide +kernel
theorem d_Md_writeNode_44 : decode q_mMd_writeNode.1 44 = .ok (.if_icmp .ne 19, 3) := by decide +kernel
theorem d_Md_writeNode_47 : decode q_mMd_writeNode.1 47 = .ok (.aload_n 0, 1) := by decide +kernel
theorem d_Md_writeNode_48 : decode q_mMd_writeNode.1 48 = .ok (.iload_n 2, 1) := by decide +kernel
theorem d_Md_writeNode_49 : decode q_mMd_writeNode.1 49 = .ok (.iconst 0, 1) := by decide +kernel
theorem d_Md_writeNode_50 : decode q_mMd_writeNode.1 50 = .ok (.aload_n 0, 1) := by decide +kernel
theorem d_Md_writeNode_51 : decode q_mMd_writeNode.1 51 = .ok (.getfield 30, 3) := by decide +kernel
theorem d_Md_writeNode_54 : decode q_mMd_writeNode.1 54 = .ok (.iload_n 1, 1) := by decide +kernel
theorem d_Md_writeNode_55 : decode q_mMd_writeNode.1 55 = .ok (.iaload, 1) := by decide +kernel
theorem d_Md_writeNode_56 : decode q_mMd_writeNode.1 56 = .ok (.iconst 0, 1) := by decide +kernel
theorem d_Md_writeNode_57 : decode q_mMd_writeNode.1 57 = .ok (.invokevirtual 180, 3) := by decide +kernel
theorem d_Md_writeNode_60 : decode q_mMd_writeNode.1 60 = .ok (.goto 137, 3) := by decide +kernel
theorem d_Md_writeNode_63 : decode q_mMd_writeNode.1 63 = .ok (.aload_n 0, 1) := by decide +kernel
theorem d_Md_writeNode_64 : decode q_mMd_writeNode.1 64 = .ok (.getfield 17, 3) := by decide +kernel
theorem d_Md_writeNode_67 : decode q_mMd_writeNode.1 67 = .ok (.iload_n 1, 1) := by decide +kernel
theorem d_Md_writeNode_68 : decode q_mMd_writeNode.1 68 = .ok (.iaload, 1) := by decide +kernel
theorem d_Md_writeNode_69 : decode q_mMd_writeNode.1 69 = .ok (.iconst 1, 1) := by decide +kernel
theorem d_Md_writeNode_70 : decode q_mMd_writeNode.1 70 = .ok (.if_icmp .ne 50, 3) := by decide +kernel
theorem d_Md_writeNode_73 : decode q_mMd_writeNode.1 73 = .ok (.iload_n 2, 1) := by decide +kernel
theorem d_Md_writeNode_74 : decode q_mMd_writeNode.1 74 = .ok (.istore_n 3, 1) := by decide +kernel
theorem d_Md_writeNode_75 : decode q_mMd_writeNode.1 75 = .ok (.aload_n 0, 1) := by decide +kernel
theorem d_Md_writeNode_76 : decode q_mMd_writeNode.1 76 = .ok (.getfield 21, 3) := by decide +kernel
theorem d_Md_writeNode_79 : decode q_mMd_writeNode.1 79 = .ok (.iload_n 1, 1) := by decide +kernel
theorem d_Md_writeNode_80 : decode q_mMd_writeNode.1 80 = .ok (.iaload, 1) := by decide +kernel
theorem d_Md_writeNode_81 : decode q_mMd_writeNode.1 81 = .ok (.istore 4, 2) := by decide +kernel
theorem d_Md_writeNode_83 : decode q_mMd_writeNode.1 83 = .ok (.iload 4, 2) := by decide +kernel
theorem d_Md_writeNode_85 : decode q_mMd_writeNode.1 85 = .ok (.ifCond .lt 32, 3) := by decide +kernel
theorem d_Md_writeNode_88 : decode q_mMd_writeNode.1 88 = .ok (.aload_n 0, 1) := by decide +kernel
theorem d_Md_writeNode_89 : decode q_mMd_writeNode.1 89 = .ok (.iload 4, 2) := by decide +kernel
theorem d_Md_writeNode_91 : decode q_mMd_writeNode.1 91 = .ok (.iload_n 3, 1) := by decide +kernel
theorem d_Md_writeNode_92 : decode q_mMd_writeNode.1 92 = .ok (.invokevirtual 187, 3) := by decide +kernel
theorem d_Md_writeNode_95 : decode q_mMd_writeNode.1 95 = .ok (.iload_n 3, 1) := by decide +kernel
theorem d_Md_writeNode_96 : decode q_mMd_writeNode.1 96 = .ok (.aload_n 0, 1) := by decide +kernel
theorem d_Md_writeNode_97 : decode q_mMd_writeNode.1 97 = .ok (.getfield 43, 3) := by decide +kernel
theorem d_Md_writeNode_100 : decode q_mMd_writeNode.1 100 = .ok (.iload 4, 2) := by decide +kernel
theorem d_Md_writeNode_102 : decode q_mMd_writeNode.1 102 = .ok (.iaload, 1) := by decide +kernel
theorem d_Md_writeNode_103 : decode q_mMd_writeNode.1 103 = .ok (.iadd, 1) := by decide +kernel
theorem d_Md_writeNode_104 : decode q_mMd_writeNode.1 104 = .ok (.istore_n 3, 1) := by decide +kernel
theorem d_Md_writeNode_105 : decode q_mMd_writeNode.1 105 = .ok (.aload_n 0, 1) := by decide +kernel
theorem d_Md_writeNode_106 : decode q_mMd_writeNode.1 106 = .ok (.getfield 27, 3) := by decide +kernel
theorem d_Md_writeNode_109 : decode q_mMd_writeNode.1 109 = .ok (.iload 4, 2) := by decide +kernel
theorem d_Md_writeNode_111 : decode q_mMd_writeNode.1 111 = .ok (.iaload, 1) := by decide +kernel
theorem d_Md_writeNode_112 : decode q_mMd_writeNode.1 112 = .ok (.istore 4, 2) := by decide +kernel
theorem d_Md_writeNode_114 : decode q_mMd_writeNode.1 114 = .ok (.goto (-31), 3) := by decide +kernel
theorem d_Md_writeNode_117 : decode q_mMd_writeNode.1 117 = .ok (.goto 80, 3) := by decide +kernel
theorem d_Md_writeNode_120 : decode q_mMd_writeNode.1 120 = .ok (.aload_n 0, 1) := by decide +kernel
theorem d_Md_writeNode_121 : decode q_mMd_writeNode.1 121 = .ok (.getfield 30, 3) := by decide +kernel
theorem d_Md_writeNode_124 : decode q_mMd_writeNode.1 124 = .ok (.iload_n 1, 1) := by decide +kernel
theorem d_Md_writeNode_125 : decode q_mMd_writeNode.1 125 = .ok (.iaload, 1) := by decide +kernel
theorem d_Md_writeNode_126 : decode q_mMd_writeNode.1 126 = .ok (.ifCond .le 60, 3) := by decide +kernel
theorem d_Md_writeNode_129 : decode q_mMd_writeNode.1 129 = .ok (.aload_n 0, 1) := by decide +kernel
theorem d_Md_writeNode_130 : decode q_mMd_writeNode.1 130 = .ok (.iload_n 2, 1) := by decide +kernel
theorem d_Md_writeNode_131 : decode q_mMd_writeNode.1 131 = .ok (.iconst 3, 1) := by decide +kernel
theorem d_Md_writeNode_132 : decode q_mMd_writeNode.1 132 = .ok (.iconst 2, 1) := by decide +kernel
theorem d_Md_writeNode_133 : decode q_mMd_writeNode.1 133 = .ok (.aload_n 0, 1) := by decide +kernel
theorem d_Md_writeNode_134 : decode q_mMd_writeNode.1 134 = .ok (.getfield 30, 3) := by decide +kernel
theorem d_Md_writeNode_137 : decode q_mMd_writeNode.1 137 = .ok (.iload_n 1, 1) := by decide +kernel
theorem d_Md_writeNode_138 : decode q_mMd_writeNode.1 138 = .ok (.iaload, 1) := by decide +kernel
theorem d_Md_writeNode_139 : decode q_mMd_writeNode.1 139 = .ok (.imul, 1) := by decide +kernel
theorem d_Md_writeNode_140 : decode q_mMd_writeNode.1 140 = .ok (.iconst 0, 1) := by decide +kernel
theorem d_Md_writeNode_141 : decode q_mMd_writeNode.1 141 = .ok (.invokevirtual 180, 3) := by decide +kernel
theorem d_Md_writeNode_144 : decode q_mMd_writeNode.1 144 = .ok (.aload_n 0, 1) := by decide +kernel
theorem d_Md_writeNode_145 : decode q_mMd_writeNode.1 145 = .ok (.aload_n 0, 1) := by decide +kernel
theorem d_Md_writeNode_146 : decode q_mMd_writeNode.1 146 = .ok (.getfield 21, 3) := by decide +kernel
theorem d_Md_writeNode_149 : decode q_mMd_writeNode.1 149 = .ok (.iload_n 1, 1) := by decide +kernel
theorem d_Md_writeNode_150 : decode q_mMd_writeNode.1 150 = .ok (.iaload, 1) := by decide +kernel
theorem d_Md_writeNode_151 : decode q_mMd_writeNode.1 151 = .ok (.iload_n 2, 1) := by decide +kernel
theorem d_Md_writeNode_152 : decode q_mMd_writeNode.1 152 = .ok (.iconst 1, 1) := by decide +kernel
theorem d_Md_writeNode_153 : decode q_mMd_writeNode.1 153 = .ok (.iadd, 1) := by decide +kernel
theorem d_Md_writeNode_154 : decode q_mMd_writeNode.1 154 = .ok (.invokevirtual 187, 3) := by decide +kernel
theorem d_Md_writeNode_157 : decode q_mMd_writeNode.1 157 = .ok (.aload_n 0, 1) := by decide +kernel
theorem d_Md_writeNode_158 : decode q_mMd_writeNode.1 158 = .ok (.iload_n 2, 1) := by decide +kernel
theorem d_Md_writeNode_159 : decode q_mMd_writeNode.1 159 = .ok (.aload_n 0, 1) := by decide +kernel
theorem d_Md_writeNode_160 : decode q_mMd_writeNode.1 160 = .ok (.getfield 43, 3) := by decide +kernel
theorem d_Md_writeNode_163 : decode q_mMd_writeNode.1 163 = .ok (.iload_n 1, 1) := by decide +kernel
theorem d_Md_writeNode_164 : decode q_mMd_writeNode.1 164 = .ok (.iaload, 1) := by decide +kernel
theorem d_Md_writeNode_165 : decode q_mMd_writeNode.1 165 = .ok (.iadd, 1) := by decide +kernel
theorem d_Md_writeNode_166 : decode q_mMd_writeNode.1 166 = .ok (.iconst 1, 1) := by decide +kernel
theorem d_Md_writeNode_167 : decode q_mMd_writeNode.1 167 = .ok (.isub, 1) := by decide +kernel
theorem d_Md_writeNode_168 : decode q_mMd_writeNode.1 168 = .ok (.iconst 3, 1) := by decide +kernel
theorem d_Md_writeNode_169 : decode q_mMd_writeNode.1 169 = .ok (.iconst 2, 1) := by decide +kernel
theorem d_Md_writeNode_170 : decode q_mMd_writeNode.1 170 = .ok (.aload_n 0, 1) := by decide +kernel
theorem d_Md_writeNode_171 : decode q_mMd_writeNode.1 171 = .ok (.getfield 30, 3) := by decide +kernel
theorem d_Md_writeNode_174 : decode q_mMd_writeNode.1 174 = .ok (.iload_n 1, 1) := by decide +kernel
theorem d_Md_writeNode_175 : decode q_mMd_writeNode.1 175 = .ok (.iaload, 1) := by decide +kernel
theorem d_Md_writeNode_176 : decode q_mMd_writeNode.1 176 = .ok (.imul, 1) := by decide +kernel
theorem d_Md_writeNode_177 : decode q_mMd_writeNode.1 177 = .ok (.iconst 1, 1) := by decide +kernel
theorem d_Md_writeNode_178 : decode q_mMd_writeNode.1 178 = .ok (.iadd, 1) := by decide +kernel
theorem d_Md_writeNode_179 : decode q_mMd_writeNode.1 179 = .ok (.iconst 0, 1) := by decide +kernel
theorem d_Md_writeNode_180 : decode q_mMd_writeNode.1 180 = .ok (.invokevirtual 180, 3) := by decide +kernel
theorem d_Md_writeNode_183 : decode q_mMd_writeNode.1 183 = .ok (.goto 14, 3) := by decide +kernel
theorem d_Md_writeNode_186 : decode q_mMd_writeNode.1 186 = .ok (.aload_n 0, 1) := by decide +kernel
theorem d_Md_writeNode_187 : decode q_mMd_writeNode.1 187 = .ok (.aload_n 0, 1) := by decide +kernel
theorem d_Md_writeNode_188 : decode q_mMd_writeNode.1 188 = .ok (.getfield 21, 3) := by decide +kernel
theorem d_Md_writeNode_191 : decode q_mMd_writeNode.1 191 = .ok (.iload_n 1, 1) := by decide +kernel
theorem d_Md_writeNode_192 : decode q_mMd_writeNode.1 192 = .ok (.iaload, 1) := by decide +kernel
theorem d_Md_writeNode_193 : decode q_mMd_writeNode.1 193 = .ok (.iload_n 2, 1) := by decide +kernel
theorem d_Md_writeNode_194 : decode q_mMd_writeNode.1 194 = .ok (.invokevirtual 187, 3) := by decide +kernel
theorem d_Md_writeNode_197 : decode q_mMd_writeNode.1 197 = .ok (.return_, 1) := by decide +kernel
theorem d_Md_writeChoice_0 : decode q_mMd_writeChoice.1 0 = .ok (.iload_n 2, 1) := by decide +kernel
theorem d_Md_writeChoice_1 : decode q_mMd_writeChoice.1 1 = .ok (.aload_n 0, 1) := by decide +kernel
theorem d_Md_writeChoice_2 : decode q_mMd_writeChoice.1 2 = .ok (.getfield 43, 3) := by decide +kernel
theorem d_Md_writeChoice_5 : decode q_mMd_writeChoice.1 5 = .ok (.iload_n 1, 1) := by decide +kernel
theorem d_Md_writeChoice_6 : decode q_mMd_writeChoice.1 6 = .ok (.iaload, 1) := by decide +kernel
theorem d_Md_writeChoice_7 : decode q_mMd_writeChoice.1 7 = .ok (.iadd, 1) := by decide +kernel
theorem d_Md_writeChoice_8 : decode q_mMd_writeChoice.1 8 = .ok (.istore_n 3, 1) := by decide +kernel
theorem d_Md_writeChoice_9 : decode q_mMd_writeChoice.1 9 = .ok (.iload_n 2, 1) := by decide +kernel
theorem d_Md_writeChoice_10 : decode q_mMd_writeChoice.1 10 = .ok (.istore 4, 2) := by decide +kernel
theorem d_Md_writeChoice_12 : decode q_mMd_writeChoice.1 12 = .ok (.aload_n 0, 1) := by decide +kernel
theorem d_Md_writeChoice_13 : decode q_mMd_writeChoice.1 13 = .ok (.getfield 21, 3) := by decide +kernel
theorem d_Md_writeChoice_16 : decode q_mMd_writeChoice.1 16 = .ok (.iload_n 1, 1) := by decide +kernel
theorem d_Md_writeChoice_17 : decode q_mMd_writeChoice.1 17 = .ok (.iaload, 1) := by decide +kernel
theorem d_Md_writeChoice_18 : decode q_mMd_writeChoice.1 18 = .ok (.istore 5, 2) := by decide +kernel
theorem d_Md_writeChoice_20 : decode q_mMd_writeChoice.1 20 = .ok (.iload 5, 2) := by decide +kernel
theorem d_Md_writeChoice_22 : decode q_mMd_writeChoice.1 22 = .ok (.ifCond .lt 102, 3) := by decide +kernel
theorem d_Md_writeChoice_25 : decode q_mMd_writeChoice.1 25 = .ok (.aload_n 0, 1) := by decide +kernel
theorem d_Md_writeChoice_26 : decode q_mMd_writeChoice.1 26 = .ok (.getfield 27, 3) := by decide +kernel
theorem d_Md_writeChoice_29 : decode q_mMd_writeChoice.1 29 = .ok (.iload 5, 2) := by decide +kernel
theorem d_Md_writeChoice_31 : decode q_mMd_writeChoice.1 31 = .ok (.iaload, 1) := by decide +kernel
theorem d_Md_writeChoice_32 : decode q_mMd_writeChoice.1 32 = .ok (.ifCond .lt 72, 3) := by decide +kernel
theorem d_Md_writeChoice_35 : decode q_mMd_writeChoice.1 35 = .ok (.aload_n 0, 1) := by decide +kernel
theorem d_Md_writeChoice_36 : decode q_mMd_writeChoice.1 36 = .ok (.iload 4, 2) := by decide +kernel
theorem d_Md_writeChoice_38 : decode q_mMd_writeChoice.1 38 = .ok (.iconst 1, 1) := by decide +kernel
theorem d_Md_writeChoice_39 : decode q_mMd_writeChoice.1 39 = .ok (.iload 4, 2) := by decide +kernel
theorem d_Md_writeChoice_41 : decode q_mMd_writeChoice.1 41 = .ok (.iconst 1, 1) := by decide +kernel
theorem d_Md_writeChoice_42 : decode q_mMd_writeChoice.1 42 = .ok (.iadd, 1) := by decide +kernel
theorem d_Md_writeChoice_43 : decode q_mMd_writeChoice.1 43 = .ok (.iload 4, 2) := by decide +kernel
theorem d_Md_writeChoice_45 : decode q_mMd_writeChoice.1 45 = .ok (.aload_n 0, 1) := by decide +kernel
theorem d_Md_writeChoice_46 : decode q_mMd_writeChoice.1 46 = .ok (.getfield 43, 3) := by decide +kernel
theorem d_Md_writeChoice_49 : decode q_mMd_writeChoice.1 49 = .ok (.iload 5, 2) := by decide +kernel
theorem d_Md_writeChoice_51 : decode q_mMd_writeChoice.1 51 = .ok (.iaload, 1) := by decide +kernel
theorem d_Md_writeChoice_52 : decode q_mMd_writeChoice.1 52 = .ok (.iadd, 1) := by decide +kernel
theorem d_Md_writeChoice_53 : decode q_mMd_writeChoice.1 53 = .ok (.iconst 2, 1) := by decide +kernel
theorem d_Md_writeChoice_54 : decode q_mMd_writeChoice.1 54 = .ok (.iadd, 1) := by decide +kernel
theorem d_Md_writeChoice_55 : decode q_mMd_writeChoice.1 55 = .ok (.invokevirtual 180, 3) := by decide +kernel
theorem d_Md_writeChoice_58 : decode q_mMd_writeChoice.1 58 = .ok (.aload_n 0, 1) := by decide +kernel
theorem d_Md_writeChoice_59 : decode q_mMd_writeChoice.1 59 = .ok (.iload 5, 2) := by decide +kernel
theorem d_Md_writeChoice_61 : decode q_mMd_writeChoice.1 61 = .ok (.iload 4, 2) := by decide +kernel
theorem d_Md_writeChoice_63 : decode q_mMd_writeChoice.1 63 = .ok (.iconst 1, 1) := by decide +kernel
theorem d_Md_writeChoice_64 : decode q_mMd_writeChoice.1 64 = .ok (.iadd, 1) := by decide +kernel
theorem d_Md_writeChoice_65 : decode q_mMd_writeChoice.1 65 = .ok (.invokevirtual 187, 3) := by decide +kernel
theorem d_Md_writeChoice_68 : decode q_mMd_writeChoice.1 68 = .ok (.aload_n 0, 1) := by decide +kernel
theorem d_Md_writeChoice_69 : decode q_mMd_writeChoice.1 69 = .ok (.iload 4, 2) := by decide +kernel
theorem d_Md_writeChoice_71 : decode q_mMd_writeChoice.1 71 = .ok (.aload_n 0, 1) := by decide +kernel
theorem d_Md_writeChoice_72 : decode q_mMd_writeChoice.1 72 = .ok (.getfield 43, 3) := by decide +kernel
theorem d_Md_writeChoice_75 : decode q_mMd_writeChoice.1 75 = .ok (.iload 5, 2) := by decide +kernel
theorem d_Md_writeChoice_77 : decode q_mMd_writeChoice.1 77 = .ok (.iaload, 1) := by decide +kernel
theorem d_Md_writeChoice_78 : decode q_mMd_writeChoice.1 78 = .ok (.iadd, 1) := by decide +kernel
theorem d_Md_writeChoice_79 : decode q_mMd_writeChoice.1 79 = .ok (.iconst 1, 1) := by decide +kernel
theorem d_Md_writeChoice_80 : decode q_mMd_writeChoice.1 80 = .ok (.iadd, 1) := by decide +kernel
theorem d_Md_writeChoice_81 : decode q_mMd_writeChoice.1 81 = .ok (.iconst 2, 1) := by decide +kernel
theorem d_Md_writeChoice_82 : decode q_mMd_writeChoice.1 82 = .ok (.iload_n 3, 1) := by decide +kernel
theorem d_Md_writeChoice_83 : decode q_mMd_writeChoice.1 83 = .ok (.iconst 0, 1) := by decide +kernel
theorem d_Md_writeChoice_84 : decode q_mMd_writeChoice.1 84 = .ok (.invokevirtual 180, 3) := by decide +kernel
theorem d_Md_writeChoice_87 : decode q_mMd_writeChoice.1 87 = .ok (.iload 4, 2) := by decide +kernel
theorem d_Md_writeChoice_89 : decode q_mMd_writeChoice.1 89 = .ok (.aload_n 0, 1) := by decide +kernel
theorem d_Md_writeChoice_90 : decode q_mMd_writeChoice.1 90 = .ok (.getfield 43, 3) := by decide +kernel
theorem d_Md_writeChoice_93 : decode q_mMd_writeChoice.1 93 = .ok (.iload 5, 2) := by decide +kernel
theorem d_Md_writeChoice_95 : decode q_mMd_writeChoice.1 95 = .ok (.iaload, 1) := by decide +kernel
theorem d_Md_writeChoice_96 : decode q_mMd_writeChoice.1 96 = .ok (.iconst 2, 1) := by decide +kernel
theorem d_Md_writeChoice_97 : decode q_mMd_writeChoice.1 97 = .ok (.iadd, 1) := by decide +kernel
theorem d_Md_writeChoice_98 : decode q_mMd_writeChoice.1 98 = .ok (.iadd, 1) := by decide +kernel
theorem d_Md_writeChoice_99 : decode q_mMd_writeChoice.1 99 = .ok (.istore 4, 2) := by decide +kernel
theorem d_Md_writeChoice_101 : decode q_mMd_writeChoice.1 101 = .ok (.goto 11, 3) := by decide +kernel
theorem d_Md_writeChoice_104 : decode q_mMd_writeChoice.1 104 = .ok (.aload_n 0, 1) := by decide +kernel
theorem d_Md_writeChoice_105 : decode q_mMd_writeChoice.1 105 = .ok (.iload 5, 2) := by decide +kernel
theorem d_Md_writeChoice_107 : decode q_mMd_writeChoice.1 107 = .ok (.iload 4, 2) := by decide +kernel
theorem d_Md_writeChoice_109 : decode q_mMd_writeChoice.1 109 = .ok (.invokevirtual 187, 3) := by decide +kernel
theorem d_Md_writeChoice_112 : decode q_mMd_writeChoice.1 112 = .ok (.aload_n 0, 1) := by decide +kernel
theorem d_Md_writeChoice_113 : decode q_mMd_writeChoice.1 113 = .ok (.getfield 27, 3) := by decide +kernel
theorem d_Md_writeChoice_116 : decode q_mMd_writeChoice.1 116 = .ok (.iload 5, 2) := by decide +kernel
theorem d_Md_writeChoice_118 : decode q_mMd_writeChoice.1 118 = .ok (.iaload, 1) := by decide +kernel
theorem d_Md_writeChoice_119 : decode q_mMd_writeChoice.1 119 = .ok (.istore 5, 2) := by decide +kernel
theorem d_Md_writeChoice_121 : decode q_mMd_writeChoice.1 121 = .ok (.goto (-101), 3) := by decide +kernel
theorem d_Md_writeChoice_124 : decode q_mMd_writeChoice.1 124 = .ok (.return_, 1) := by decide +kernel
theorem d_Md_writeRepeat_0 : decode q_mMd_writeRepeat.1 0 = .ok (.aload_n 0, 1) := by decide +kernel
theorem d_Md_writeRepeat_1 : decode q_mMd_writeRepeat.1 1 = .ok (.getfield 21, 3) := by decide +kernel
theorem d_Md_writeRepeat_4 : decode q_mMd_writeRepeat.1 4 = .ok (.iload_n 1, 1) := by decide +kernel
theorem d_Md_writeRepeat_5 : decode q_mMd_writeRepeat.1 5 = .ok (.iaload, 1) := by decide +kernel
theorem d_Md_writeRepeat_6 : decode q_mMd_writeRepeat.1 6 = .ok (.istore_n 3, 1) := by decide +kernel
theorem d_Md_writeRepeat_7 : decode q_mMd_writeRepeat.1 7 = .ok (.aload_n 0, 1) := by decide +kernel
theorem d_Md_writeRepeat_8 : decode q_mMd_writeRepeat.1 8 = .ok (.getfield 43, 3) := by decide +kernel
theorem d_Md_writeRepeat_11 : decode q_mMd_writeRepeat.1 11 = .ok (.iload_n 3, 1) := by decide +kernel
theorem d_Md_writeRepeat_12 : decode q_mMd_writeRepeat.1 12 = .ok (.iaload, 1) := by decide +kernel
theorem d_Md_writeRepeat_13 : decode q_mMd_writeRepeat.1 13 = .ok (.istore 4, 2) := by decide +kernel
theorem d_Md_writeRepeat_15 : decode q_mMd_writeRepeat.1 15 = .ok (.aload_n 0, 1) := by decide +kernel
theorem d_Md_writeRepeat_16 : decode q_mMd_writeRepeat.1 16 = .ok (.getfield 30, 3) := by decide +kernel
theorem d_Md_writeRepeat_19 : decode q_mMd_writeRepeat.1 19 = .ok (.iload_n 1, 1) := by decide +kernel
theorem d_Md_writeRepeat_20 : decode q_mMd_writeRepeat.1 20 = .ok (.iaload, 1) := by decide +kernel
theorem d_Md_writeRepeat_21 : decode q_mMd_writeRepeat.1 21 = .ok (.istore 5, 2) := by decide +kernel
theorem d_Md_writeRepeat_23 : decode q_mMd_writeRepeat.1 23 = .ok (.iload_n 2, 1) := by decide +kernel
theorem d_Md_writeRepeat_24 : decode q_mMd_writeRepeat.1 24 = .ok (.istore 6, 2) := by decide +kernel
theorem d_Md_writeRepeat_26 : decode q_mMd_writeRepeat.1 26 = .ok (.iload 5, 2) := by decide +kernel
theorem d_Md_writeRepeat_28 : decode q_mMd_writeRepeat.1 28 = .ok (.ifCond .eq 9, 3) := by decide +kernel
theorem d_Md_writeRepeat_31 : decode q_mMd_writeRepeat.1 31 = .ok (.iload 5, 2) := by decide +kernel
theorem d_Md_writeRepeat_33 : decode q_mMd_writeRepeat.1 33 = .ok (.iconst 2, 1) := by decide +kernel
theorem d_Md_writeRepeat_34 : decode q_mMd_writeRepeat.1 34 = .ok (.if_icmp .ne 7, 3) := by decide +kernel
theorem d_Md_writeRepeat_37 : decode q_mMd_writeRepeat.1 37 = .ok (.iconst 1, 1) := by decide +kernel
theorem d_Md_writeRepeat_38 : decode q_mMd_writeRepeat.1 38 = .ok (.goto 19, 3) := by decide +kernel
theorem d_Md_writeRepeat_41 : decode q_mMd_writeRepeat.1 41 = .ok (.iload 5, 2) := by decide +kernel
theorem d_Md_writeRepeat_43 : decode q_mMd_writeRepeat.1 43 = .ok (.iconst 3, 1) := by decide +kernel
theorem d_Md_writeRepeat_44 : decode q_mMd_writeRepeat.1 44 = .ok (.if_icmp .le 12, 3) := by decide +kernel
theorem d_Md_writeRepeat_47 : decode q_mMd_writeRepeat.1 47 = .ok (.aload_n 0, 1) := by decide +kernel
theorem d_Md_writeRepeat_48 : decode q_mMd_writeRepeat.1 48 = .ok (.getfield 33, 3) := by decide +kernel
theorem d_Md_writeRepeat_51 : decode q_mMd_writeRepeat.1 51 = .ok (.iload_n 1, 1) := by decide +kernel
theorem d_Md_writeRepeat_52 : decode q_mMd_writeRepeat.1 52 = .ok (.iaload, 1) := by decide +kernel
theorem d_Md_writeRepeat_53 : decode q_mMd_writeRepeat.1 53 = .ok (.goto 4, 3) := by decide +kernel
theorem d_Md_writeRepeat_56 : decode q_mMd_writeRepeat.1 56 = .ok (.iconst 0, 1) := by decide +kernel
theorem d_Md_writeRepeat_57 : decode q_mMd_writeRepeat.1 57 = .ok (.istore 7, 2) := by decide +kernel
theorem d_Md_writeRepeat_59 : decode q_mMd_writeRepeat.1 59 = .ok (.iconst 0, 1) := by decide +kernel
theorem d_Md_writeRepeat_60 : decode q_mMd_writeRepeat.1 60 = .ok (.istore 8, 2) := by decide +kernel
theorem d_Md_writeRepeat_62 : decode q_mMd_writeRepeat.1 62 = .ok (.iload 8, 2) := by decide +kernel
theorem d_Md_writeRepeat_64 : decode q_mMd_writeRepeat.1 64 = .ok (.iload 7, 2) := by decide +kernel
theorem d_Md_writeRepeat_66 : decode q_mMd_writeRepeat.1 66 = .ok (.if_icmp .ge 23, 3) := by decide +kernel
theorem d_Md_writeRepeat_69 : decode q_mMd_writeRepeat.1 69 = .ok (.aload_n 0, 1) := by decide +kernel
theorem d_Md_writeRepeat_70 : decode q_mMd_writeRepeat.1 70 = .ok (.iload_n 3, 1) := by decide +kernel
theorem d_Md_writeRepeat_71 : decode q_mMd_writeRepeat.1 71 = .ok (.iload 6, 2) := by decide +kernel
theorem d_Md_writeRepeat_73 : decode q_mMd_writeRepeat.1 73 = .ok (.invokevirtual 187, 3) := by decide +kernel
theorem d_Md_writeRepeat_76 : decode q_mMd_writeRepeat.1 76 = .ok (.iload 6, 2) := by decide +kernel
theorem d_Md_writeRepeat_78 : decode q_mMd_writeRepeat.1 78 = .ok (.iload 4, 2) := by decide +kernel
theorem d_Md_writeRepeat_80 : decode q_mMd_writeRepeat.1 80 = .ok (.iadd, 1) := by decide +kernel
theorem d_Md_writeRepeat_81 : decode q_mMd_writeRepeat.1 81 = .ok (.istore 6, 2) := by decide +kernel
theorem d_Md_writeRepeat_83 : decode q_mMd_writeRepeat.1 83 = .ok (.iinc 8 1, 3) := by decide +kernel
theorem d_Md_writeRepeat_86 : decode q_mMd_writeRepeat.1 86 = .ok (.goto (-24), 3) := by decide +kernel
theorem d_Md_writeRepeat_89 : decode q_mMd_writeRepeat.1 89 = .ok (.iload 5, 2) := by decide +kernel
theorem d_Md_writeRepeat_91 : decode q_mMd_writeRepeat.1 91 = .ok (.iconst 2, 1) := by decide +kernel
theorem d_Md_writeRepeat_92 : decode q_mMd_writeRepeat.1 92 = .ok (.if_icmp .ne 23, 3) := by decide +kernel
theorem d_Md_writeRepeat_95 : decode q_mMd_writeRepeat.1 95 = .ok (.aload_n 0, 1) := by decide +kernel
theorem d_Md_writeRepeat_96 : decode q_mMd_writeRepeat.1 96 = .ok (.iload 6, 2) := by decide +kernel
theorem d_Md_writeRepeat_98 : decode q_mMd_writeRepeat.1 98 = .ok (.iload_n 2, 1) := by decide +kernel
theorem d_Md_writeRepeat_99 : decode q_mMd_writeRepeat.1 99 = .ok (.iload 6, 2) := by decide +kernel
theorem d_Md_writeRepeat_101 : decode q_mMd_writeRepeat.1 101 = .ok (.iconst 1, 1) := by decide +kernel
theorem d_Md_writeRepeat_102 : decode q_mMd_writeRepeat.1 102 = .ok (.iadd, 1) := by decide +kernel
theorem d_Md_writeRepeat_103 : decode q_mMd_writeRepeat.1 103 = .ok (.aload_n 0, 1) := by decide +kernel
theorem d_Md_writeRepeat_104 : decode q_mMd_writeRepeat.1 104 = .ok (.getfield 39, 3) := by decide +kernel
theorem d_Md_writeRepeat_107 : decode q_mMd_writeRepeat.1 107 = .ok (.iload_n 1, 1) := by decide +kernel
theorem d_Md_writeRepeat_108 : decode q_mMd_writeRepeat.1 108 = .ok (.baload, 1) := by decide +kernel
theorem d_Md_writeRepeat_109 : decode q_mMd_writeRepeat.1 109 = .ok (.invokevirtual 191, 3) := by decide +kernel
theorem d_Md_writeRepeat_112 : decode q_mMd_writeRepeat.1 112 = .ok (.goto 165, 3) := by decide +kernel
theorem d_Md_writeRepeat_115 : decode q_mMd_writeRepeat.1 115 = .ok (.iload 5, 2) := by decide +kernel
theorem d_Md_writeRepeat_117 : decode q_mMd_writeRepeat.1 117 = .ok (.iconst 1, 1) := by decide +kernel
theorem d_Md_writeRepeat_118 : decode q_mMd_writeRepeat.1 118 = .ok (.if_icmp .eq 9, 3) := by decide +kernel
theorem d_Md_writeRepeat_121 : decode q_mMd_writeRepeat.1 121 = .ok (.iload 5, 2) := by decide +kernel
theorem d_Md_writeRepeat_123 : decode q_mMd_writeRepeat.1 123 = .ok (.iconst 5, 1) := by decide +kernel
theorem d_Md_writeRepeat_124 : decode q_mMd_writeRepeat.1 124 = .ok (.if_icmp .ne 53, 3) := by decide +kernel
theorem d_Md_writeRepeat_127 : decode q_mMd_writeRepeat.1 127 = .ok (.aload_n 0, 1) := by decide +kernel
theorem d_Md_writeRepeat_128 : decode q_mMd_writeRepeat.1 128 = .ok (.iload 6, 2) := by decide +kernel
theorem d_Md_writeRepeat_130 : decode q_mMd_writeRepeat.1 130 = .ok (.iload 6, 2) := by decide +kernel
theorem d_Md_writeRepeat_132 : decode q_mMd_writeRepeat.1 132 = .ok (.iconst 1, 1) := by decide +kernel
theorem d_Md_writeRepeat_133 : decode q_mMd_writeRepeat.1 133 = .ok (.iadd, 1) := by decide +kernel
theorem d_Md_writeRepeat_134 : decode q_mMd_writeRepeat.1 134 = .ok (.iload 6, 2) := by decide +kernel
theorem d_Md_writeRepeat_136 : decode q_mMd_writeRepeat.1 136 = .ok (.iload 4, 2) := by decide +kernel
theorem d_Md_writeRepeat_138 : decode q_mMd_writeRepeat.1 138 = .ok (.iadd, 1) := by decide +kernel
theorem d_Md_writeRepeat_139 : decode q_mMd_writeRepeat.1 139 = .ok (.iconst 2, 1) := by decide +kernel
theorem d_Md_writeRepeat_140 : decode q_mMd_writeRepeat.1 140 = .ok (.iadd, 1) := by decide +kernel
theorem d_Md_writeRepeat_141 : decode q_mMd_writeRepeat.1 141 = .ok (.aload_n 0, 1) := by decide +kernel
theorem d_Md_writeRepeat_142 : decode q_mMd_writeRepeat.1 142 = .ok (.getfield 39, 3) := by decide +kernel
theorem d_Md_writeRepeat_145 : decode q_mMd_writeRepeat.1 145 = .ok (.iload_n 1, 1) := by decide +kernel
theorem d_Md_writeRepeat_146 : decode q_mMd_writeRepeat.1 146 = .ok (.baload, 1) := by decide +kernel
theorem d_Md_writeRepeat_147 : decode q_mMd_writeRepeat.1 147 = .ok (.invokevirtual 191, 3) := by decide +kernel
theorem d_Md_writeRepeat_150 : decode q_mMd_writeRepeat.1 150 = .ok (.aload_n 0, 1) := by decide +kernel
theorem d_Md_writeRepeat_151 : decode q_mMd_writeRepeat.1 151 = .ok (.iload_n 3, 1) := by decide +kernel
theorem d_Md_writeRepeat_152 : decode q_mMd_writeRepeat.1 152 = .ok (.iload 6, 2) := by decide +kernel
theorem d_Md_writeRepeat_154 : decode q_mMd_writeRepeat.1 154 = .ok (.iconst 1, 1) := by decide +kernel
theorem d_Md_writeRepeat_155 : decode q_mMd_writeRepeat.1 155 = .ok (.iadd, 1) := by decide +kernel
theorem d_Md_writeRepeat_156 : decode q_mMd_writeRepeat.1 156 = .ok (.invokevirtual 187, 3) := by decide +kernel
theorem d_Md_writeRepeat_159 : decode q_mMd_writeRepeat.1 159 = .ok (.aload_n 0, 1) := by decide +kernel
theorem d_Md_writeRepeat_160 : decode q_mMd_writeRepeat.1 160 = .ok (.iload 6, 2) := by decide +kernel
theorem d_Md_writeRepeat_162 : decode q_mMd_writeRepeat.1 162 = .ok (.iload 4, 2) := by decide +kernel
theorem d_Md_writeRepeat_164 : decode q_mMd_writeRepeat.1 164 = .ok (.iadd, 1) := by decide +kernel
theorem d_Md_writeRepeat_165 : decode q_mMd_writeRepeat.1 165 = .ok (.iconst 1, 1) := by decide +kernel
theorem d_Md_writeRepeat_166 : decode q_mMd_writeRepeat.1 166 = .ok (.iadd, 1) := by decide +kernel
theorem d_Md_writeRepeat_167 : decode q_mMd_writeRepeat.1 167 = .ok (.iconst 2, 1) := by decide +kernel
theorem d_Md_writeRepeat_168 : decode q_mMd_writeRepeat.1 168 = .ok (.iload 6, 2) := by decide +kernel
theorem d_Md_writeRepeat_170 : decode q_mMd_writeRepeat.1 170 = .ok (.iconst 0, 1) := by decide +kernel
theorem d_Md_writeRepeat_171 : decode q_mMd_writeRepeat.1 171 = .ok (.invokevirtual 180, 3) := by decide +kernel
theorem d_Md_writeRepeat_174 : decode q_mMd_writeRepeat.1 174 = .ok (.goto 103, 3) := by decide +kernel
theorem d_Md_writeRepeat_177 : decode q_mMd_writeRepeat.1 177 = .ok (.iload 5, 2) := by decide +kernel
theorem d_Md_writeRepeat_179 : decode q_mMd_writeRepeat.1 179 = .ok (.iconst 3, 1) := by decide +kernel
theorem d_Md_writeRepeat_180 : decode q_mMd_writeRepeat.1 180 = .ok (.if_icmp .eq 10, 3) := by decide +kernel
theorem d_Md_writeRepeat_183 : decode q_mMd_writeRepeat.1 183 = .ok (.iload 5, 2) := by decide +kernel
theorem d_Md_writeRepeat_185 : decode q_mMd_writeRepeat.1 185 = .ok (.bipush 6, 2) := by decide +kernel
theorem d_Md_writeRepeat_187 : decode q_mMd_writeRepeat.1 187 = .ok (.if_icmp .ne 90, 3) := by decide +kernel
theorem d_Md_writeRepeat_190 : decode q_mMd_writeRepeat.1 190 = .ok (.iload_n 2, 1) := by decide +kernel
theorem d_Md_writeRepeat_191 : decode q_mMd_writeRepeat.1 191 = .ok (.aload_n 0, 1) := by decide +kernel
theorem d_Md_writeRepeat_192 : decode q_mMd_writeRepeat.1 192 = .ok (.getfield 43, 3) := by decide +kernel
theorem d_Md_writeRepeat_195 : decode q_mMd_writeRepeat.1 195 = .ok (.iload_n 1, 1) := by decide +kernel
theorem d_Md_writeRepeat_196 : decode q_mMd_writeRepeat.1 196 = .ok (.iaload, 1) := by decide +kernel
theorem d_Md_writeRepeat_197 : decode q_mMd_writeRepeat.1 197 = .ok (.iadd, 1) := by decide +kernel
theorem d_Md_writeRepeat_198 : decode q_mMd_writeRepeat.1 198 = .ok (.istore 8, 2) := by decide +kernel
theorem d_Md_writeRepeat_200 : decode q_mMd_writeRepeat.1 200 = .ok (.iload 5, 2) := by decide +kernel
theorem d_Md_writeRepeat_202 : decode q_mMd_writeRepeat.1 202 = .ok (.iconst 3, 1) := by decide +kernel
theorem d_Md_writeRepeat_203 : decode q_mMd_writeRepeat.1 203 = .ok (.if_icmp .ne 7, 3) := by decide +kernel
theorem d_Md_writeRepeat_206 : decode q_mMd_writeRepeat.1 206 = .ok (.iconst 1, 1) := by decide +kernel
theorem d_Md_writeRepeat_207 : decode q_mMd_writeRepeat.1 207 = .ok (.goto 16, 3) := by decide +kernel
theorem d_Md_writeRepeat_210 : decode q_mMd_writeRepeat.1 210 = .ok (.aload_n 0, 1) := by decide +kernel
theorem d_Md_writeRepeat_211 : decode q_mMd_writeRepeat.1 211 = .ok (.getfield 36, 3) := by decide +kernel
theorem d_Md_writeRepeat_214 : decode q_mMd_writeRepeat.1 214 = .ok (.iload_n 1, 1) := by decide +kernel
theorem d_Md_writeRepeat_215 : decode q_mMd_writeRepeat.1 215 = .ok (.iaload, 1) := by decide +kernel
theorem d_Md_writeRepeat_216 : decode q_mMd_writeRepeat.1 216 = .ok (.aload_n 0, 1) := by decide +kernel
theorem d_Md_writeRepeat_217 : decode q_mMd_writeRepeat.1 217 = .ok (.getfield 33, 3) := by decide +kernel
theorem d_Md_writeRepeat_220 : decode q_mMd_writeRepeat.1 220 = .ok (.iload_n 1, 1) := by decide +kernel
theorem d_Md_writeRepeat_221 : decode q_mMd_writeRepeat.1 221 = .ok (.iaload, 1) := by decide +kernel
theorem d_Md_writeRepeat_222 : decode q_mMd_writeRepeat.1 222 = .ok (.isub, 1) := by decide +kernel
theorem d_Md_writeRepeat_223 : decode q_mMd_writeRepeat.1 223 = .ok (.istore 9, 2) := by decide +kernel
theorem d_Md_writeRepeat_225 : decode q_mMd_writeRepeat.1 225 = .ok (.iconst 0, 1) := by decide +kernel
theorem d_Md_writeRepeat_226 : decode q_mMd_writeRepeat.1 226 = .ok (.istore 10, 2) := by decide +kernel
theorem d_Md_writeRepeat_228 : decode q_mMd_writeRepeat.1 228 = .ok (.iload 10, 2) := by decide +kernel
theorem d_Md_writeRepeat_230 : decode q_mMd_writeRepeat.1 230 = .ok (.iload 9, 2) := by decide +kernel
theorem d_Md_writeRepeat_232 : decode q_mMd_writeRepeat.1 232 = .ok (.if_icmp .ge 45, 3) := by decide +kernel
theorem d_Md_writeRepeat_235 : decode q_mMd_writeRepeat.1 235 = .ok (.aload_n 0, 1) := by decide +kernel
theorem d_Md_writeRepeat_236 : decode q_mMd_writeRepeat.1 236 = .ok (.iload 6, 2) := by decide +kernel
theorem d_Md_writeRepeat_238 : decode q_mMd_writeRepeat.1 238 = .ok (.iload 6, 2) := by decide +kernel
theorem d_Md_writeRepeat_240 : decode q_mMd_writeRepeat.1 240 = .ok (.iconst 1, 1) := by decide +kernel
theorem d_Md_writeRepeat_241 : decode q_mMd_writeRepeat.1 241 = .ok (.iadd, 1) := by decide +kernel
theorem d_Md_writeRepeat_242 : decode q_mMd_writeRepeat.1 242 = .ok (.iload 8, 2) := by decide +kernel
theorem d_Md_writeRepeat_244 : decode q_mMd_writeRepeat.1 244 = .ok (.aload_n 0, 1) := by decide +kernel
theorem d_Md_writeRepeat_245 : decode q_mMd_writeRepeat.1 245 = .ok (.getfield 39, 3) := by decide +kernel
theorem d_Md_writeRepeat_248 : decode q_mMd_writeRepeat.1 248 = .ok (.iload_n 1, 1) := by decide +kernel
theorem d_Md_writeRepeat_249 : decode q_mMd_writeRepeat.1 249 = .ok (.baload, 1) := by decide +kernel
theorem d_Md_writeRepeat_250 : decode q_mMd_writeRepeat.1 250 = .ok (.invokevirtual 191, 3) := by decide +kernel
theorem d_Md_writeRepeat_253 : decode q_mMd_writeRepeat.1 253 = .ok (.aload_n 0, 1) := by decide +kernel
theorem d_Md_writeRepeat_254 : decode q_mMd_writeRepeat.1 254 = .ok (.iload_n 3, 1) := by decide +kernel
theorem d_Md_writeRepeat_255 : decode q_mMd_writeRepeat.1 255 = .ok (.iload 6, 2) := by decide +kernel
theorem d_Md_writeRepeat_257 : decode q_mMd_writeRepeat.1 257 = .ok (.iconst 1, 1) := by decide +kernel
theorem d_Md_writeRepeat_258 : decode q_mMd_writeRepeat.1 258 = .ok (.iadd, 1) := by decide +kernel
theorem d_Md_writeRepeat_259 : decode q_mMd_writeRepeat.1 259 = .ok (.invokevirtual 187, 3) := by decide +kernel
theorem d_Md_writeRepeat_262 : decode q_mMd_writeRepeat.1 262 = .ok (.iload 6, 2) := by decide +kernel
theorem d_Md_writeRepeat_264 : decode q_mMd_writeRepeat.1 264 = .ok (.iload 4, 2) := by decide +kernel
theorem d_Md_writeRepeat_266 : decode q_mMd_writeRepeat.1 266 = .ok (.iconst 1, 1) := by decide +kernel
theorem d_Md_writeRepeat_267 : decode q_mMd_writeRepeat.1 267 = .ok (.iadd, 1) := by decide +kernel
theorem d_Md_writeRepeat_268 : decode q_mMd_writeRepeat.1 268 = .ok (.iadd, 1) := by decide +kernel
theorem d_Md_writeRepeat_269 : decode q_mMd_writeRepeat.1 269 = .ok (.istore 6, 2) := by decide +kernel
theorem d_Md_writeRepeat_271 : decode q_mMd_writeRepeat.1 271 = .ok (.iinc 10 1, 3) := by decide +kernel
theorem d_Md_writeRepeat_274 : decode q_mMd_writeRepeat.1 274 = .ok (.goto (-46), 3) := by decide +kernel
theorem d_Md_writeRepeat_277 : decode q_mMd_writeRepeat.1 277 = .ok (.return_, 1) := by decide +kernel
theorem d_Md_split_0 : decode q_mMd_split.1 0 = .ok (.aload_n 0, 1) := by decide +kernel
theorem d_Md_split_1 : decode q_mMd_split.1 1 = .ok (.iload_n 1, 1) := by decide +kernel
theorem d_Md_split_2 : decode q_mMd_split.1 2 = .ok (.iconst 1, 1) := by decide +kernel
theorem d_Md_split_3 : decode q_mMd_split.1 3 = .ok (.iload 4, 2) := by decide +kernel
theorem d_Md_split_5 : decode q_mMd_split.1 5 = .ok (.ifCond .eq 7, 3) := by decide +kernel
theorem d_Md_split_8 : decode q_mMd_split.1 8 = .ok (.iload_n 3, 1) := by decide +kernel
theorem d_Md_split_9 : decode q_mMd_split.1 9 = .ok (.goto 4, 3) := by decide +kernel
theorem d_Md_split_12 : decode q_mMd_split.1 12 = .ok (.iload_n 2, 1) := by decide +kernel
theorem d_Md_split_13 : decode q_mMd_split.1 13 = .ok (.iload 4, 2) := by decide +kernel
theorem d_Md_split_15 : decode q_mMd_split.1 15 = .ok (.ifCond .eq 7, 3) := by decide +kernel
theorem d_Md_split_18 : decode q_mMd_split.1 18 = .ok (.iload_n 2, 1) := by decide +kernel
theorem d_Md_split_19 : decode q_mMd_split.1 19 = .ok (.goto 4, 3) := by decide +kernel
theorem d_Md_split_22 : decode q_mMd_split.1 22 = .ok (.iload_n 3, 1) := by decide +kernel
theorem d_Md_split_23 : decode q_mMd_split.1 23 = .ok (.invokevirtual 180, 3) := by decide +kernel
theorem d_Md_split_26 : decode q_mMd_split.1 26 = .ok (.return_, 1) := by decide +kernel
theorem d_Md_position_0 : decode q_mMd_position.1 0 = .ok (.aload_n 0, 1) := by decide +kernel
theorem d_Md_position_1 : decode q_mMd_position.1 1 = .ok (.iconst 0, 1) := by decide +kernel
theorem d_Md_position_2 : decode q_mMd_position.1 2 = .ok (.putfield 103, 3) := by decide +kernel
theorem d_Md_position_5 : decode q_mMd_position.1 5 = .ok (.aload_n 0, 1) := by decide +kernel
theorem d_Md_position_6 : decode q_mMd_position.1 6 = .ok (.getfield 13, 3) := by decide +kernel
theorem d_Md_position_9 : decode q_mMd_position.1 9 = .ok (.ireturn, 1) := by decide +kernel
theorem d_Md_clear_0 : decode q_mMd_clear.1 0 = .ok (.aload_n 0, 1) := by decide +kernel
theorem d_Md_clear_1 : decode q_mMd_clear.1 1 = .ok (.iconst 0, 1) := by decide +kernel
theorem d_Md_clear_2 : decode q_mMd_clear.1 2 = .ok (.putfield 103, 3) := by decide +kernel
theorem d_Md_clear_5 : decode q_mMd_clear.1 5 = .ok (.aload_n 0, 1) := by decide +kernel
theorem d_Md_clear_6 : decode q_mMd_clear.1 6 = .ok (.iconst 0, 1) := by decide +kernel
theorem d_Md_clear_7 : decode q_mMd_clear.1 7 = .ok (.putfield 106, 3) := by decide +kernel
theorem d_Md_clear_10 : decode q_mMd_clear.1 10 = .ok (.aload_n 0, 1) := by decide +kernel
theorem d_Md_clear_11 : decode q_mMd_clear.1 11 = .ok (.iconst 0, 1) := by decide +kernel
theorem d_Md_clear_12 : decode q_mMd_clear.1 12 = .ok (.putfield 109, 3) := by decide +kernel
theorem d_Md_clear_15 : decode q_mMd_clear.1 15 = .ok (.aload_n 0, 1) := by decide +kernel
theorem d_Md_clear_16 : decode q_mMd_clear.1 16 = .ok (.iconst (-1), 1) := by decide +kernel
theorem d_Md_clear_17 : decode q_mMd_clear.1 17 = .ok (.putfield 13, 3) := by decide +kernel
theorem d_Md_clear_20 : decode q_mMd_clear.1 20 = .ok (.aload_n 0, 1) := by decide +kernel
theorem d_Md_clear_21 : decode q_mMd_clear.1 21 = .ok (.iconst 0, 1) := by decide +kernel
theorem d_Md_clear_22 : decode q_mMd_clear.1 22 = .ok (.putfield 212, 3) := by decide +kernel
theorem d_Md_clear_25 : decode q_mMd_clear.1 25 = .ok (.return_, 1) := by decide +kernel
theorem d_Md_instruction_0 : decode q_mMd_instruction.1 0 = .ok (.aload_n 0, 1) := by decide +kernel
theorem d_Md_instruction_1 : decode q_mMd_instruction.1 1 = .ok (.iconst 0, 1) := by decide +kernel
theorem d_Md_instruction_2 : decode q_mMd_instruction.1 2 = .ok (.putfield 103, 3) := by decide +kernel
theorem d_Md_instruction_5 : decode q_mMd_instruction.1 5 = .ok (.iload_n 1, 1) := by decide +kernel
theorem d_Md_instruction_6 : decode q_mMd_instruction.1 6 = .ok (.ifCond .lt 20, 3) := by decide +kernel
theorem d_Md_instruction_9 : decode q_mMd_instruction.1 9 = .ok (.iload_n 1, 1) := by decide +kernel
theorem d_Md_instruction_10 : decode q_mMd_instruction.1 10 = .ok (.aload_n 0, 1) := by decide +kernel
theorem d_Md_instruction_11 : decode q_mMd_instruction.1 11 = .ok (.getfield 109, 3) := by decide +kernel
theorem d_Md_instruction_14 : decode q_mMd_instruction.1 14 = .ok (.if_icmp .ge 12, 3) := by decide +kernel
theorem d_Md_instruction_17 : decode q_mMd_instruction.1 17 = .ok (.iload_n 2, 1) := by decide +kernel
theorem d_Md_instruction_18 : decode q_mMd_instruction.1 18 = .ok (.ifCond .lt 8, 3) := by decide +kernel
theorem d_Md_instruction_21 : decode q_mMd_instruction.1 21 = .ok (.iload_n 2, 1) := by decide +kernel
theorem d_Md_instruction_22 : decode q_mMd_instruction.1 22 = .ok (.iconst 2, 1) := by decide +kernel
theorem d_Md_instruction_23 : decode q_mMd_instruction.1 23 = .ok (.if_icmp .le 5, 3) := by decide +kernel
theorem d_Md_instruction_26 : decode q_mMd_instruction.1 26 = .ok (.iconst (-1), 1) := by decide +kernel
theorem d_Md_instruction_27 : decode q_mMd_instruction.1 27 = .ok (.ireturn, 1) := by decide +kernel
theorem d_Md_instruction_28 : decode q_mMd_instruction.1 28 = .ok (.iload_n 2, 1) := by decide +kernel
theorem d_Md_instruction_29 : decode q_mMd_instruction.1 29 = .ok (.ifCond .ne 10, 3) := by decide +kernel
theorem d_Md_instruction_32 : decode q_mMd_instruction.1 32 = .ok (.aload_n 0, 1) := by decide +kernel
theorem d_Md_instruction_33 : decode q_mMd_instruction.1 33 = .ok (.getfield 58, 3) := by decide +kernel
theorem d_Md_instruction_36 : decode q_mMd_instruction.1 36 = .ok (.iload_n 1, 1) := by decide +kernel
theorem d_Md_instruction_37 : decode q_mMd_instruction.1 37 = .ok (.iaload, 1) := by decide +kernel
theorem d_Md_instruction_38 : decode q_mMd_instruction.1 38 = .ok (.ireturn, 1) := by decide +kernel
theorem d_Md_instruction_39 : decode q_mMd_instruction.1 39 = .ok (.iload_n 2, 1) := by decide +kernel
theorem d_Md_instruction_40 : decode q_mMd_instruction.1 40 = .ok (.iconst 2, 1) := by decide +kernel
theorem d_Md_instruction_41 : decode q_mMd_instruction.1 41 = .ok (.if_icmp .ne 12, 3) := by decide +kernel
theorem d_Md_instruction_44 : decode q_mMd_instruction.1 44 = .ok (.aload_n 0, 1) := by decide +kernel
theorem d_Md_instruction_45 : decode q_mMd_instruction.1 45 = .ok (.getfield 64, 3) := by decide +kernel
theorem d_Md_instruction_48 : decode q_mMd_instruction.1 48 = .ok (.iload_n 1, 1) := by decide +kernel
theorem d_Md_instruction_49 : decode q_mMd_instruction.1 49 = .ok (.iaload, 1) := by decide +kernel
theorem d_Md_instruction_50 : decode q_mMd_instruction.1 50 = .ok (.goto 31, 3) := by decide +kernel
theorem d_Md_instruction_53 : decode q_mMd_instruction.1 53 = .ok (.aload_n 0, 1) := by decide +kernel
theorem d_Md_instruction_54 : decode q_mMd_instruction.1 54 = .ok (.getfield 58, 3) := by decide +kernel
theorem d_Md_instruction_57 : decode q_mMd_instruction.1 57 = .ok (.iload_n 1, 1) := by decide +kernel
theorem d_Md_instruction_58 : decode q_mMd_instruction.1 58 = .ok (.iaload, 1) := by decide +kernel
theorem d_Md_instruction_59 : decode q_mMd_instruction.1 59 = .ok (.ifCond .ne 16, 3) := by decide +kernel
theorem d_Md_instruction_62 : decode q_mMd_instruction.1 62 = .ok (.aload_n 0, 1) := by decide +kernel
theorem d_Md_instruction_63 : decode q_mMd_instruction.1 63 = .ok (.aload_n 0, 1) := by decide +kernel
theorem d_Md_instruction_64 : decode q_mMd_instruction.1 64 = .ok (.getfield 61, 3) := by decide +kernel
theorem d_Md_instruction_67 : decode q_mMd_instruction.1 67 = .ok (.iload_n 1, 1) := by decide +kernel
theorem d_Md_instruction_68 : decode q_mMd_instruction.1 68 = .ok (.iaload, 1) := by decide +kernel
theorem d_Md_instruction_69 : decode q_mMd_instruction.1 69 = .ok (.invokevirtual 216, 3) := by decide +kernel
theorem d_Md_instruction_72 : decode q_mMd_instruction.1 72 = .ok (.goto 9, 3) := by decide +kernel
theorem d_Md_instruction_75 : decode q_mMd_instruction.1 75 = .ok (.aload_n 0, 1) := by decide +kernel
theorem d_Md_instruction_76 : decode q_mMd_instruction.1 76 = .ok (.getfield 61, 3) := by decide +kernel
theorem d_Md_instruction_79 : decode q_mMd_instruction.1 79 = .ok (.iload_n 1, 1) := by decide +kernel
theorem d_Md_instruction_80 : decode q_mMd_instruction.1 80 = .ok (.iaload, 1) := by decide +kernel
theorem d_Md_instruction_81 : decode q_mMd_instruction.1 81 = .ok (.ireturn, 1) := by decide +kernel
