theorem d_Md_choose_0 : decode q_mMd_choose.1 0 = .ok (.iconst 0, 1) := by decide +kernel
theorem d_Md_choose_1 : decode q_mMd_choose.1 1 = .ok (.istore_n 3, 1) := by decide +kernel
theorem d_Md_choose_2 : decode q_mMd_choose.1 2 = .ok (.iload_n 3, 1) := by decide +kernel
theorem d_Md_choose_3 : decode q_mMd_choose.1 3 = .ok (.aload_n 0, 1) := by decide +kernel
theorem d_Md_choose_4 : decode q_mMd_choose.1 4 = .ok (.getfield 109, 3) := by decide +kernel
theorem d_Md_choose_7 : decode q_mMd_choose.1 7 = .ok (.if_icmp .ge 16, 3) := by decide +kernel
theorem d_Md_choose_10 : decode q_mMd_choose.1 10 = .ok (.aload_n 0, 1) := by decide +kernel
theorem d_Md_choose_11 : decode q_mMd_choose.1 11 = .ok (.getfield 97, 3) := by decide +kernel
theorem d_Md_choose_14 : decode q_mMd_choose.1 14 = .ok (.iload_n 3, 1) := by decide +kernel
theorem d_Md_choose_15 : decode q_mMd_choose.1 15 = .ok (.iconst 0, 1) := by decide +kernel
theorem d_Md_choose_16 : decode q_mMd_choose.1 16 = .ok (.bastore, 1) := by decide +kernel
theorem d_Md_choose_17 : decode q_mMd_choose.1 17 = .ok (.iinc 3 1, 3) := by decide +kernel
theorem d_Md_choose_20 : decode q_mMd_choose.1 20 = .ok (.goto (-18), 3) := by decide +kernel
theorem d_Md_choose_23 : decode q_mMd_choose.1 23 = .ok (.aload_n 0, 1) := by decide +kernel
theorem d_Md_choose_24 : decode q_mMd_choose.1 24 = .ok (.iconst 1, 1) := by decide +kernel
theorem d_Md_choose_25 : decode q_mMd_choose.1 25 = .ok (.putfield 240, 3) := by decide +kernel
theorem d_Md_choose_28 : decode q_mMd_choose.1 28 = .ok (.aload_n 0, 1) := by decide +kernel
theorem d_Md_choose_29 : decode q_mMd_choose.1 29 = .ok (.getfield 91, 3) := by decide +kernel
theorem d_Md_choose_32 : decode q_mMd_choose.1 32 = .ok (.iconst 0, 1) := by decide +kernel
theorem d_Md_choose_33 : decode q_mMd_choose.1 33 = .ok (.iload_n 1, 1) := by decide +kernel
theorem d_Md_choose_34 : decode q_mMd_choose.1 34 = .ok (.iastore, 1) := by decide +kernel
theorem d_Md_choose_35 : decode q_mMd_choose.1 35 = .ok (.aload_n 0, 1) := by decide +kernel
theorem d_Md_choose_36 : decode q_mMd_choose.1 36 = .ok (.getfield 94, 3) := by decide +kernel
theorem d_Md_choose_39 : decode q_mMd_choose.1 39 = .ok (.iconst 0, 1) := by decide +kernel
theorem d_Md_choose_40 : decode q_mMd_choose.1 40 = .ok (.iconst (-1), 1) := by decide +kernel
theorem d_Md_choose_41 : decode q_mMd_choose.1 41 = .ok (.iastore, 1) := by decide +kernel
theorem d_Md_choose_42 : decode q_mMd_choose.1 42 = .ok (.aload_n 0, 1) := by decide +kernel
theorem d_Md_choose_43 : decode q_mMd_choose.1 43 = .ok (.getfield 240, 3) := by decide +kernel
theorem d_Md_choose_46 : decode q_mMd_choose.1 46 = .ok (.ifCond .le 272, 3) := by decide +kernel
theorem d_Md_choose_49 : decode q_mMd_choose.1 49 = .ok (.aload_n 0, 1) := by decide +kernel
theorem d_Md_choose_50 : decode q_mMd_choose.1 50 = .ok (.dup, 1) := by decide +kernel
theorem d_Md_choose_51 : decode q_mMd_choose.1 51 = .ok (.getfield 240, 3) := by decide +kernel
theorem d_Md_choose_54 : decode q_mMd_choose.1 54 = .ok (.iconst 1, 1) := by decide +kernel
theorem d_Md_choose_55 : decode q_mMd_choose.1 55 = .ok (.isub, 1) := by decide +kernel
theorem d_Md_choose_56 : decode q_mMd_choose.1 56 = .ok (.putfield 240, 3) := by decide +kernel
theorem d_Md_choose_59 : decode q_mMd_choose.1 59 = .ok (.aload_n 0, 1) := by decide +kernel
theorem d_Md_choose_60 : decode q_mMd_choose.1 60 = .ok (.getfield 91, 3) := by decide +kernel
theorem d_Md_choose_63 : decode q_mMd_choose.1 63 = .ok (.aload_n 0, 1) := by decide +kernel
theorem d_Md_choose_64 : decode q_mMd_choose.1 64 = .ok (.getfield 240, 3) := by decide +kernel
theorem d_Md_choose_67 : decode q_mMd_choose.1 67 = .ok (.iaload, 1) := by decide +kernel
theorem d_Md_choose_68 : decode q_mMd_choose.1 68 = .ok (.istore_n 3, 1) := by decide +kernel
theorem d_Md_choose_69 : decode q_mMd_choose.1 69 = .ok (.aload_n 0, 1) := by decide +kernel
theorem d_Md_choose_70 : decode q_mMd_choose.1 70 = .ok (.getfield 97, 3) := by decide +kernel
theorem d_Md_choose_73 : decode q_mMd_choose.1 73 = .ok (.iload_n 3, 1) := by decide +kernel
theorem d_Md_choose_74 : decode q_mMd_choose.1 74 = .ok (.baload, 1) := by decide +kernel
theorem d_Md_choose_75 : decode q_mMd_choose.1 75 = .ok (.ifCond .ne 240, 3) := by decide +kernel
theorem d_Md_choose_78 : decode q_mMd_choose.1 78 = .ok (.aload_n 0, 1) := by decide +kernel
theorem d_Md_choose_79 : decode q_mMd_choose.1 79 = .ok (.getfield 97, 3) := by decide +kernel
theorem d_Md_choose_82 : decode q_mMd_choose.1 82 = .ok (.iload_n 3, 1) := by decide +kernel
theorem d_Md_choose_83 : decode q_mMd_choose.1 83 = .ok (.iconst 1, 1) := by decide +kernel
theorem d_Md_choose_84 : decode q_mMd_choose.1 84 = .ok (.bastore, 1) := by decide +kernel
theorem d_Md_choose_85 : decode q_mMd_choose.1 85 = .ok (.aload_n 0, 1) := by decide +kernel
theorem d_Md_choose_86 : decode q_mMd_choose.1 86 = .ok (.getfield 100, 3) := by decide +kernel
theorem d_Md_choose_89 : decode q_mMd_choose.1 89 = .ok (.iload_n 3, 1) := by decide +kernel
theorem d_Md_choose_90 : decode q_mMd_choose.1 90 = .ok (.aload_n 0, 1) := by decide +kernel
theorem d_Md_choose_91 : decode q_mMd_choose.1 91 = .ok (.getfield 94, 3) := by decide +kernel
theorem d_Md_choose_94 : decode q_mMd_choose.1 94 = .ok (.aload_n 0, 1) := by decide +kernel
theorem d_Md_choose_95 : decode q_mMd_choose.1 95 = .ok (.getfield 240, 3) := by decide +kernel
theorem d_Md_choose_98 : decode q_mMd_choose.1 98 = .ok (.iaload, 1) := by decide +kernel
theorem d_Md_choose_99 : decode q_mMd_choose.1 99 = .ok (.iastore, 1) := by decide +kernel
theorem d_Md_choose_100 : decode q_mMd_choose.1 100 = .ok (.aload_n 0, 1) := by decide +kernel
theorem d_Md_choose_101 : decode q_mMd_choose.1 101 = .ok (.getfield 58, 3) := by decide +kernel
theorem d_Md_choose_104 : decode q_mMd_choose.1 104 = .ok (.iload_n 3, 1) := by decide +kernel
theorem d_Md_choose_105 : decode q_mMd_choose.1 105 = .ok (.iaload, 1) := by decide +kernel
theorem d_Md_choose_106 : decode q_mMd_choose.1 106 = .ok (.iconst 4, 1) := by decide +kernel
theorem d_Md_choose_107 : decode q_mMd_choose.1 107 = .ok (.if_icmp .ne 11, 3) := by decide +kernel
theorem d_Md_choose_110 : decode q_mMd_choose.1 110 = .ok (.aload_n 0, 1) := by decide +kernel
theorem d_Md_choose_111 : decode q_mMd_choose.1 111 = .ok (.iload_n 2, 1) := by decide +kernel
theorem d_Md_choose_112 : decode q_mMd_choose.1 112 = .ok (.invokevirtual 234, 3) := by decide +kernel
theorem d_Md_choose_115 : decode q_mMd_choose.1 115 = .ok (.ifCond .ne 21, 3) := by decide +kernel
theorem d_Md_choose_118 : decode q_mMd_choose.1 118 = .ok (.aload_n 0, 1) := by decide +kernel
theorem d_Md_choose_119 : decode q_mMd_choose.1 119 = .ok (.getfield 58, 3) := by decide +kernel
theorem d_Md_choose_122 : decode q_mMd_choose.1 122 = .ok (.iload_n 3, 1) := by decide +kernel
theorem d_Md_choose_123 : decode q_mMd_choose.1 123 = .ok (.iaload, 1) := by decide +kernel
theorem d_Md_choose_124 : decode q_mMd_choose.1 124 = .ok (.ifCond .ne 14, 3) := by decide +kernel
theorem d_Md_choose_127 : decode q_mMd_choose.1 127 = .ok (.aload_n 0, 1) := by decide +kernel
theorem d_Md_choose_128 : decode q_mMd_choose.1 128 = .ok (.iload_n 3, 1) := by decide +kernel
theorem d_Md_choose_129 : decode q_mMd_choose.1 129 = .ok (.iload_n 2, 1) := by decide +kernel
theorem d_Md_choose_130 : decode q_mMd_choose.1 130 = .ok (.invokevirtual 237, 3) := by decide +kernel
theorem d_Md_choose_133 : decode q_mMd_choose.1 133 = .ok (.ifCond .eq 5, 3) := by decide +kernel
theorem d_Md_choose_136 : decode q_mMd_choose.1 136 = .ok (.iload_n 3, 1) := by decide +kernel
theorem d_Md_choose_137 : decode q_mMd_choose.1 137 = .ok (.ireturn, 1) := by decide +kernel
theorem d_Md_choose_138 : decode q_mMd_choose.1 138 = .ok (.aload_n 0, 1) := by decide +kernel
theorem d_Md_choose_139 : decode q_mMd_choose.1 139 = .ok (.getfield 85, 3) := by decide +kernel
theorem d_Md_choose_142 : decode q_mMd_choose.1 142 = .ok (.iload_n 3, 1) := by decide +kernel
theorem d_Md_choose_143 : decode q_mMd_choose.1 143 = .ok (.aload_n 0, 1) := by decide +kernel
theorem d_Md_choose_144 : decode q_mMd_choose.1 144 = .ok (.getfield 85, 3) := by decide +kernel
theorem d_Md_choose_147 : decode q_mMd_choose.1 147 = .ok (.iload_n 3, 1) := by decide +kernel
theorem d_Md_choose_148 : decode q_mMd_choose.1 148 = .ok (.baload, 1) := by decide +kernel
theorem d_Md_choose_149 : decode q_mMd_choose.1 149 = .ok (.ifCond .ne 12, 3) := by decide +kernel
theorem d_Md_choose_152 : decode q_mMd_choose.1 152 = .ok (.aload_n 0, 1) := by decide +kernel
theorem d_Md_choose_153 : decode q_mMd_choose.1 153 = .ok (.getfield 58, 3) := by decide +kernel
theorem d_Md_choose_156 : decode q_mMd_choose.1 156 = .ok (.iload_n 3, 1) := by decide +kernel
theorem d_Md_choose_157 : decode q_mMd_choose.1 157 = .ok (.iaload, 1) := by decide +kernel
theorem d_Md_choose_158 : decode q_mMd_choose.1 158 = .ok (.ifCond .ne 7, 3) := by decide +kernel
theorem d_Md_choose_161 : decode q_mMd_choose.1 161 = .ok (.iconst 1, 1) := by decide +kernel
theorem d_Md_choose_162 : decode q_mMd_choose.1 162 = .ok (.goto 4, 3) := by decide +kernel
theorem d_Md_choose_165 : decode q_mMd_choose.1 165 = .ok (.iconst 0, 1) := by decide +kernel
theorem d_Md_choose_166 : decode q_mMd_choose.1 166 = .ok (.bastore, 1) := by decide +kernel
theorem d_Md_choose_167 : decode q_mMd_choose.1 167 = .ok (.aload_n 0, 1) := by decide +kernel
theorem d_Md_choose_168 : decode q_mMd_choose.1 168 = .ok (.getfield 58, 3) := by decide +kernel
theorem d_Md_choose_171 : decode q_mMd_choose.1 171 = .ok (.iload_n 3, 1) := by decide +kernel
theorem d_Md_choose_172 : decode q_mMd_choose.1 172 = .ok (.iaload, 1) := by decide +kernel
theorem d_Md_choose_173 : decode q_mMd_choose.1 173 = .ok (.iconst 1, 1) := by decide +kernel
theorem d_Md_choose_174 : decode q_mMd_choose.1 174 = .ok (.if_icmp .ne 70, 3) := by decide +kernel
theorem d_Md_choose_177 : decode q_mMd_choose.1 177 = .ok (.aload_n 0, 1) := by decide +kernel
theorem d_Md_choose_178 : decode q_mMd_choose.1 178 = .ok (.getfield 91, 3) := by decide +kernel
theorem d_Md_choose_181 : decode q_mMd_choose.1 181 = .ok (.aload_n 0, 1) := by decide +kernel
theorem d_Md_choose_182 : decode q_mMd_choose.1 182 = .ok (.getfield 240, 3) := by decide +kernel
theorem d_Md_choose_185 : decode q_mMd_choose.1 185 = .ok (.aload_n 0, 1) := by decide +kernel
theorem d_Md_choose_186 : decode q_mMd_choose.1 186 = .ok (.getfield 64, 3) := by decide +kernel
theorem d_Md_choose_189 : decode q_mMd_choose.1 189 = .ok (.iload_n 3, 1) := by decide +kernel
theorem d_Md_choose_190 : decode q_mMd_choose.1 190 = .ok (.iaload, 1) := by decide +kernel
theorem d_Md_choose_191 : decode q_mMd_choose.1 191 = .ok (.iastore, 1) := by decide +kernel
theorem d_Md_choose_192 : decode q_mMd_choose.1 192 = .ok (.aload_n 0, 1) := by decide +kernel
theorem d_Md_choose_193 : decode q_mMd_choose.1 193 = .ok (.getfield 94, 3) := by decide +kernel
theorem d_Md_choose_196 : decode q_mMd_choose.1 196 = .ok (.aload_n 0, 1) := by decide +kernel
theorem d_Md_choose_197 : decode q_mMd_choose.1 197 = .ok (.getfield 240, 3) := by decide +kernel
theorem d_Md_choose_200 : decode q_mMd_choose.1 200 = .ok (.iload_n 3, 1) := by decide +kernel
theorem d_Md_choose_201 : decode q_mMd_choose.1 201 = .ok (.iastore, 1) := by decide +kernel
theorem d_Md_choose_202 : decode q_mMd_choose.1 202 = .ok (.aload_n 0, 1) := by decide +kernel
theorem d_Md_choose_203 : decode q_mMd_choose.1 203 = .ok (.getfield 91, 3) := by decide +kernel
theorem d_Md_choose_206 : decode q_mMd_choose.1 206 = .ok (.aload_n 0, 1) := by decide +kernel
theorem d_Md_choose_207 : decode q_mMd_choose.1 207 = .ok (.getfield 240, 3) := by decide +kernel
theorem d_Md_choose_210 : decode q_mMd_choose.1 210 = .ok (.iconst 1, 1) := by decide +kernel
theorem d_Md_choose_211 : decode q_mMd_choose.1 211 = .ok (.iadd, 1) := by decide +kernel
theorem d_Md_choose_212 : decode q_mMd_choose.1 212 = .ok (.aload_n 0, 1) := by decide +kernel
theorem d_Md_choose_213 : decode q_mMd_choose.1 213 = .ok (.getfield 61, 3) := by decide +kernel
theorem d_Md_choose_216 : decode q_mMd_choose.1 216 = .ok (.iload_n 3, 1) := by decide +kernel
theorem d_Md_choose_217 : decode q_mMd_choose.1 217 = .ok (.iaload, 1) := by decide +kernel
theorem d_Md_choose_218 : decode q_mMd_choose.1 218 = .ok (.iastore, 1) := by decide +kernel
theorem d_Md_choose_219 : decode q_mMd_choose.1 219 = .ok (.aload_n 0, 1) := by decide +kernel
theorem d_Md_choose_220 : decode q_mMd_choose.1 220 = .ok (.getfield 94, 3) := by decide +kernel
theorem d_Md_choose_223 : decode q_mMd_choose.1 223 = .ok (.aload_n 0, 1) := by decide +kernel
theorem d_Md_choose_224 : decode q_mMd_choose.1 224 = .ok (.getfield 240, 3) := by decide +kernel
theorem d_Md_choose_227 : decode q_mMd_choose.1 227 = .ok (.iconst 1, 1) := by decide +kernel
theorem d_Md_choose_228 : decode q_mMd_choose.1 228 = .ok (.iadd, 1) := by decide +kernel
theorem d_Md_choose_229 : decode q_mMd_choose.1 229 = .ok (.iload_n 3, 1) := by decide +kernel
theorem d_Md_choose_230 : decode q_mMd_choose.1 230 = .ok (.iastore, 1) := by decide +kernel
theorem d_Md_choose_231 : decode q_mMd_choose.1 231 = .ok (.aload_n 0, 1) := by decide +kernel
theorem d_Md_choose_232 : decode q_mMd_choose.1 232 = .ok (.dup, 1) := by decide +kernel
theorem d_Md_choose_233 : decode q_mMd_choose.1 233 = .ok (.getfield 240, 3) := by decide +kernel
theorem d_Md_choose_236 : decode q_mMd_choose.1 236 = .ok (.iconst 2, 1) := by decide +kernel
theorem d_Md_choose_237 : decode q_mMd_choose.1 237 = .ok (.iadd, 1) := by decide +kernel
theorem d_Md_choose_238 : decode q_mMd_choose.1 238 = .ok (.putfield 240, 3) := by decide +kernel
theorem d_Md_choose_241 : decode q_mMd_choose.1 241 = .ok (.goto 74, 3) := by decide +kernel
theorem d_Md_choose_244 : decode q_mMd_choose.1 244 = .ok (.aload_n 0, 1) := by decide +kernel
theorem d_Md_choose_245 : decode q_mMd_choose.1 245 = .ok (.getfield 58, 3) := by decide +kernel
theorem d_Md_choose_248 : decode q_mMd_choose.1 248 = .ok (.iload_n 3, 1) := by decide +kernel
theorem d_Md_choose_249 : decode q_mMd_choose.1 249 = .ok (.iaload, 1) := by decide +kernel
theorem d_Md_choose_250 : decode q_mMd_choose.1 250 = .ok (.iconst 2, 1) := by decide +kernel
theorem d_Md_choose_251 : decode q_mMd_choose.1 251 = .ok (.if_icmp .eq 13, 3) := by decide +kernel
theorem d_Md_choose_254 : decode q_mMd_choose.1 254 = .ok (.aload_n 0, 1) := by decide +kernel
theorem d_Md_choose_255 : decode q_mMd_choose.1 255 = .ok (.getfield 58, 3) := by decide +kernel
theorem d_Md_choose_258 : decode q_mMd_choose.1 258 = .ok (.iload_n 3, 1) := by decide +kernel
theorem d_Md_choose_259 : decode q_mMd_choose.1 259 = .ok (.iaload, 1) := by decide +kernel
theorem d_Md_choose_260 : decode q_mMd_choose.1 260 = .ok (.iconst 3, 1) := by decide +kernel
theorem d_Md_choose_261 : decode q_mMd_choose.1 261 = .ok (.if_icmp .ne 54, 3) := by decide +kernel
theorem d_Md_choose_264 : decode q_mMd_choose.1 264 = .ok (.aload_n 0, 1) := by decide +kernel
theorem d_Md_choose_265 : decode q_mMd_choose.1 265 = .ok (.getfield 91, 3) := by decide +kernel
theorem d_Md_choose_268 : decode q_mMd_choose.1 268 = .ok (.aload_n 0, 1) := by decide +kernel
theorem d_Md_choose_269 : decode q_mMd_choose.1 269 = .ok (.getfield 240, 3) := by decide +kernel
theorem d_Md_choose_272 : decode q_mMd_choose.1 272 = .ok (.aload_n 0, 1) := by decide +kernel
theorem d_Md_choose_273 : decode q_mMd_choose.1 273 = .ok (.getfield 58, 3) := by decide +kernel
theorem d_Md_choose_276 : decode q_mMd_choose.1 276 = .ok (.iload_n 3, 1) := by decide +kernel
theorem d_Md_choose_277 : decode q_mMd_choose.1 277 = .ok (.iaload, 1) := by decide +kernel
theorem d_Md_choose_278 : decode q_mMd_choose.1 278 = .ok (.iconst 2, 1) := by decide +kernel
theorem d_Md_choose_279 : decode q_mMd_choose.1 279 = .ok (.if_icmp .ne 12, 3) := by decide +kernel
theorem d_Md_choose_282 : decode q_mMd_choose.1 282 = .ok (.aload_n 0, 1) := by decide +kernel
theorem d_Md_choose_283 : decode q_mMd_choose.1 283 = .ok (.getfield 61, 3) := by decide +kernel
theorem d_Md_choose_286 : decode q_mMd_choose.1 286 = .ok (.iload_n 3, 1) := by decide +kernel
theorem d_Md_choose_287 : decode q_mMd_choose.1 287 = .ok (.iaload, 1) := by decide +kernel
theorem d_Md_choose_288 : decode q_mMd_choose.1 288 = .ok (.goto 6, 3) := by decide +kernel
theorem d_Md_choose_291 : decode q_mMd_choose.1 291 = .ok (.iload_n 3, 1) := by decide +kernel
theorem d_Md_choose_292 : decode q_mMd_choose.1 292 = .ok (.iconst 1, 1) := by decide +kernel
theorem d_Md_choose_293 : decode q_mMd_choose.1 293 = .ok (.iadd, 1) := by decide +kernel
theorem d_Md_choose_294 : decode q_mMd_choose.1 294 = .ok (.iastore, 1) := by decide +kernel
theorem d_Md_choose_295 : decode q_mMd_choose.1 295 = .ok (.aload_n 0, 1) := by decide +kernel
theorem d_Md_choose_296 : decode q_mMd_choose.1 296 = .ok (.getfield 94, 3) := by decide +kernel
theorem d_Md_choose_299 : decode q_mMd_choose.1 299 = .ok (.aload_n 0, 1) := by decide +kernel
theorem d_Md_choose_300 : decode q_mMd_choose.1 300 = .ok (.getfield 240, 3) := by decide +kernel
theorem d_Md_choose_303 : decode q_mMd_choose.1 303 = .ok (.iload_n 3, 1) := by decide +kernel
theorem d_Md_choose_304 : decode q_mMd_choose.1 304 = .ok (.iastore, 1) := by decide +kernel
theorem d_Md_choose_305 : decode q_mMd_choose.1 305 = .ok (.aload_n 0, 1) := by decide +kernel
theorem d_Md_choose_306 : decode q_mMd_choose.1 306 = .ok (.dup, 1) := by decide +kernel
theorem d_Md_choose_307 : decode q_mMd_choose.1 307 = .ok (.getfield 240, 3) := by decide +kernel
theorem d_Md_choose_310 : decode q_mMd_choose.1 310 = .ok (.iconst 1, 1) := by decide +kernel
theorem d_Md_choose_311 : decode q_mMd_choose.1 311 = .ok (.iadd, 1) := by decide +kernel
theorem d_Md_choose_312 : decode q_mMd_choose.1 312 = .ok (.putfield 240, 3) := by decide +kernel
theorem d_Md_choose_315 : decode q_mMd_choose.1 315 = .ok (.goto (-273), 3) := by decide +kernel
theorem d_Md_choose_318 : decode q_mMd_choose.1 318 = .ok (.iconst (-1), 1) := by decide +kernel
theorem d_Md_choose_319 : decode q_mMd_choose.1 319 = .ok (.ireturn, 1) := by decide +kernel
theorem d_Md_setMarks_0 : decode q_mMd_setMarks.1 0 = .ok (.iconst 0, 1) := by decide +kernel
theorem d_Md_setMarks_1 : decode q_mMd_setMarks.1 1 = .ok (.istore_n 3, 1) := by decide +kernel
theorem d_Md_setMarks_2 : decode q_mMd_setMarks.1 2 = .ok (.iload_n 3, 1) := by decide +kernel
theorem d_Md_setMarks_3 : decode q_mMd_setMarks.1 3 = .ok (.aload_n 0, 1) := by decide +kernel
theorem d_Md_setMarks_4 : decode q_mMd_setMarks.1 4 = .ok (.getfield 109, 3) := by decide +kernel
theorem d_Md_setMarks_7 : decode q_mMd_setMarks.1 7 = .ok (.if_icmp .ge 16, 3) := by decide +kernel
theorem d_Md_setMarks_10 : decode q_mMd_setMarks.1 10 = .ok (.aload_n 0, 1) := by decide +kernel
theorem d_Md_setMarks_11 : decode q_mMd_setMarks.1 11 = .ok (.getfield 97, 3) := by decide +kernel
theorem d_Md_setMarks_14 : decode q_mMd_setMarks.1 14 = .ok (.iload_n 3, 1) := by decide +kernel
theorem d_Md_setMarks_15 : decode q_mMd_setMarks.1 15 = .ok (.iconst 0, 1) := by decide +kernel
theorem d_Md_setMarks_16 : decode q_mMd_setMarks.1 16 = .ok (.bastore, 1) := by decide +kernel
theorem d_Md_setMarks_17 : decode q_mMd_setMarks.1 17 = .ok (.iinc 3 1, 3) := by decide +kernel
theorem d_Md_setMarks_20 : decode q_mMd_setMarks.1 20 = .ok (.goto (-18), 3) := by decide +kernel
theorem d_Md_setMarks_23 : decode q_mMd_setMarks.1 23 = .ok (.iload_n 1, 1) := by decide +kernel
theorem d_Md_setMarks_24 : decode q_mMd_setMarks.1 24 = .ok (.istore_n 3, 1) := by decide +kernel
theorem d_Md_setMarks_25 : decode q_mMd_setMarks.1 25 = .ok (.iload_n 3, 1) := by decide +kernel
theorem d_Md_setMarks_26 : decode q_mMd_setMarks.1 26 = .ok (.ifCond .lt 35, 3) := by decide +kernel
theorem d_Md_setMarks_29 : decode q_mMd_setMarks.1 29 = .ok (.aload_n 0, 1) := by decide +kernel
theorem d_Md_setMarks_30 : decode q_mMd_setMarks.1 30 = .ok (.getfield 58, 3) := by decide +kernel
theorem d_Md_setMarks_33 : decode q_mMd_setMarks.1 33 = .ok (.iload_n 3, 1) := by decide +kernel
theorem d_Md_setMarks_34 : decode q_mMd_setMarks.1 34 = .ok (.iaload, 1) := by decide +kernel
theorem d_Md_setMarks_35 : decode q_mMd_setMarks.1 35 = .ok (.iconst 3, 1) := by decide +kernel
theorem d_Md_setMarks_36 : decode q_mMd_setMarks.1 36 = .ok (.if_icmp .ne 15, 3) := by decide +kernel
theorem d_Md_setMarks_39 : decode q_mMd_setMarks.1 39 = .ok (.aload_n 0, 1) := by decide +kernel
theorem d_Md_setMarks_40 : decode q_mMd_setMarks.1 40 = .ok (.getfield 79, 3) := by decide +kernel
theorem d_Md_setMarks_43 : decode q_mMd_setMarks.1 43 = .ok (.aload_n 0, 1) := by decide +kernel
theorem d_Md_setMarks_44 : decode q_mMd_setMarks.1 44 = .ok (.getfield 61, 3) := by decide +kernel
theorem d_Md_setMarks_47 : decode q_mMd_setMarks.1 47 = .ok (.iload_n 3, 1) := by decide +kernel
theorem d_Md_setMarks_48 : decode q_mMd_setMarks.1 48 = .ok (.iaload, 1) := by decide +kernel
theorem d_Md_setMarks_49 : decode q_mMd_setMarks.1 49 = .ok (.iload_n 2, 1) := by decide +kernel
theorem d_Md_setMarks_50 : decode q_mMd_setMarks.1 50 = .ok (.iastore, 1) := by decide +kernel
theorem d_Md_setMarks_51 : decode q_mMd_setMarks.1 51 = .ok (.aload_n 0, 1) := by decide +kernel
theorem d_Md_setMarks_52 : decode q_mMd_setMarks.1 52 = .ok (.getfield 100, 3) := by decide +kernel
theorem d_Md_setMarks_55 : decode q_mMd_setMarks.1 55 = .ok (.iload_n 3, 1) := by decide +kernel
theorem d_Md_setMarks_56 : decode q_mMd_setMarks.1 56 = .ok (.iaload, 1) := by decide +kernel
theorem d_Md_setMarks_57 : decode q_mMd_setMarks.1 57 = .ok (.istore_n 3, 1) := by decide +kernel
theorem d_Md_setMarks_58 : decode q_mMd_setMarks.1 58 = .ok (.goto (-33), 3) := by decide +kernel
theorem d_Md_setMarks_61 : decode q_mMd_setMarks.1 61 = .ok (.return_, 1) := by decide +kernel
theorem d_Md_step_0 : decode q_mMd_step.1 0 = .ok (.iconst 0, 1) := by decide +kernel
theorem d_Md_step_1 : decode q_mMd_step.1 1 = .ok (.istore_n 2, 1) := by decide +kernel
theorem d_Md_step_2 : decode q_mMd_step.1 2 = .ok (.iload_n 2, 1) := by decide +kernel
theorem d_Md_step_3 : decode q_mMd_step.1 3 = .ok (.aload_n 0, 1) := by decide +kernel
theorem d_Md_step_4 : decode q_mMd_step.1 4 = .ok (.getfield 109, 3) := by decide +kernel
theorem d_Md_step_7 : decode q_mMd_step.1 7 = .ok (.if_icmp .ge 16, 3) := by decide +kernel
theorem d_Md_step_10 : decode q_mMd_step.1 10 = .ok (.aload_n 0, 1) := by decide +kernel
theorem d_Md_step_11 : decode q_mMd_step.1 11 = .ok (.getfield 88, 3) := by decide +kernel
theorem d_Md_step_14 : decode q_mMd_step.1 14 = .ok (.iload_n 2, 1) := by decide +kernel
theorem d_Md_step_15 : decode q_mMd_step.1 15 = .ok (.iconst 0, 1) := by decide +kernel
theorem d_Md_step_16 : decode q_mMd_step.1 16 = .ok (.bastore, 1) := by decide +kernel
theorem d_Md_step_17 : decode q_mMd_step.1 17 = .ok (.iinc 2 1, 3) := by decide +kernel
theorem d_Md_step_20 : decode q_mMd_step.1 20 = .ok (.goto (-18), 3) := by decide +kernel
theorem d_Md_step_23 : decode q_mMd_step.1 23 = .ok (.iconst 0, 1) := by decide +kernel
theorem d_Md_step_24 : decode q_mMd_step.1 24 = .ok (.istore_n 2, 1) := by decide +kernel
theorem d_Md_step_25 : decode q_mMd_step.1 25 = .ok (.iload_n 2, 1) := by decide +kernel
theorem d_Md_step_26 : decode q_mMd_step.1 26 = .ok (.aload_n 0, 1) := by decide +kernel
theorem d_Md_step_27 : decode q_mMd_step.1 27 = .ok (.getfield 109, 3) := by decide +kernel
theorem d_Md_step_30 : decode q_mMd_step.1 30 = .ok (.if_icmp .ge 47, 3) := by decide +kernel
theorem d_Md_step_33 : decode q_mMd_step.1 33 = .ok (.aload_n 0, 1) := by decide +kernel
theorem d_Md_step_34 : decode q_mMd_step.1 34 = .ok (.getfield 85, 3) := by decide +kernel
theorem d_Md_step_37 : decode q_mMd_step.1 37 = .ok (.iload_n 2, 1) := by decide +kernel
theorem d_Md_step_38 : decode q_mMd_step.1 38 = .ok (.baload, 1) := by decide +kernel
theorem d_Md_step_39 : decode q_mMd_step.1 39 = .ok (.ifCond .eq 32, 3) := by decide +kernel
theorem d_Md_step_42 : decode q_mMd_step.1 42 = .ok (.aload_n 0, 1) := by decide +kernel
theorem d_Md_step_43 : decode q_mMd_step.1 43 = .ok (.getfield 58, 3) := by decide +kernel
theorem d_Md_step_46 : decode q_mMd_step.1 46 = .ok (.iload_n 2, 1) := by decide +kernel
theorem d_Md_step_47 : decode q_mMd_step.1 47 = .ok (.iaload, 1) := by decide +kernel
theorem d_Md_step_48 : decode q_mMd_step.1 48 = .ok (.ifCond .ne 23, 3) := by decide +kernel
theorem d_Md_step_51 : decode q_mMd_step.1 51 = .ok (.aload_n 0, 1) := by decide +kernel
theorem d_Md_step_52 : decode q_mMd_step.1 52 = .ok (.iload_n 2, 1) := by decide +kernel
theorem d_Md_step_53 : decode q_mMd_step.1 53 = .ok (.iload_n 1, 1) := by decide +kernel
theorem d_Md_step_54 : decode q_mMd_step.1 54 = .ok (.invokevirtual 228, 3) := by decide +kernel
theorem d_Md_step_57 : decode q_mMd_step.1 57 = .ok (.ifCond .eq 14, 3) := by decide +kernel
theorem d_Md_step_60 : decode q_mMd_step.1 60 = .ok (.aload_n 0, 1) := by decide +kernel
theorem d_Md_step_61 : decode q_mMd_step.1 61 = .ok (.aload_n 0, 1) := by decide +kernel
theorem d_Md_step_62 : decode q_mMd_step.1 62 = .ok (.getfield 88, 3) := by decide +kernel
theorem d_Md_step_65 : decode q_mMd_step.1 65 = .ok (.iload_n 2, 1) := by decide +kernel
theorem d_Md_step_66 : decode q_mMd_step.1 66 = .ok (.iconst 1, 1) := by decide +kernel
theorem d_Md_step_67 : decode q_mMd_step.1 67 = .ok (.iadd, 1) := by decide +kernel
theorem d_Md_step_68 : decode q_mMd_step.1 68 = .ok (.invokevirtual 249, 3) := by decide +kernel
theorem d_Md_step_71 : decode q_mMd_step.1 71 = .ok (.iinc 2 1, 3) := by decide +kernel
theorem d_Md_step_74 : decode q_mMd_step.1 74 = .ok (.goto (-49), 3) := by decide +kernel
theorem d_Md_step_77 : decode q_mMd_step.1 77 = .ok (.iconst 0, 1) := by decide +kernel
theorem d_Md_step_78 : decode q_mMd_step.1 78 = .ok (.istore_n 2, 1) := by decide +kernel
theorem d_Md_step_79 : decode q_mMd_step.1 79 = .ok (.iload_n 2, 1) := by decide +kernel
theorem d_Md_step_80 : decode q_mMd_step.1 80 = .ok (.aload_n 0, 1) := by decide +kernel
theorem d_Md_step_81 : decode q_mMd_step.1 81 = .ok (.getfield 109, 3) := by decide +kernel
theorem d_Md_step_84 : decode q_mMd_step.1 84 = .ok (.if_icmp .ge 21, 3) := by decide +kernel
theorem d_Md_step_87 : decode q_mMd_step.1 87 = .ok (.aload_n 0, 1) := by decide +kernel
theorem d_Md_step_88 : decode q_mMd_step.1 88 = .ok (.getfield 85, 3) := by decide +kernel
theorem d_Md_step_91 : decode q_mMd_step.1 91 = .ok (.iload_n 2, 1) := by decide +kernel
theorem d_Md_step_92 : decode q_mMd_step.1 92 = .ok (.aload_n 0, 1) := by decide +kernel
theorem d_Md_step_93 : decode q_mMd_step.1 93 = .ok (.getfield 88, 3) := by decide +kernel
theorem d_Md_step_96 : decode q_mMd_step.1 96 = .ok (.iload_n 2, 1) := by decide +kernel
theorem d_Md_step_97 : decode q_mMd_step.1 97 = .ok (.baload, 1) := by decide +kernel
theorem d_Md_step_98 : decode q_mMd_step.1 98 = .ok (.bastore, 1) := by decide +kernel
theorem d_Md_step_99 : decode q_mMd_step.1 99 = .ok (.iinc 2 1, 3) := by decide +kernel
theorem d_Md_step_102 : decode q_mMd_step.1 102 = .ok (.goto (-23), 3) := by decide +kernel
theorem d_Md_step_105 : decode q_mMd_step.1 105 = .ok (.return_, 1) := by decide +kernel
theorem d_Md_live_0 : decode q_mMd_live.1 0 = .ok (.aload_n 0, 1) := by decide +kernel
theorem d_Md_live_1 : decode q_mMd_live.1 1 = .ok (.iconst 0, 1) := by decide +kernel
theorem d_Md_live_2 : decode q_mMd_live.1 2 = .ok (.putfield 103, 3) := by decide +kernel
theorem d_Md_live_5 : decode q_mMd_live.1 5 = .ok (.iconst 0, 1) := by decide +kernel
theorem d_Md_live_6 : decode q_mMd_live.1 6 = .ok (.istore_n 1, 1) := by decide +kernel
theorem d_Md_live_7 : decode q_mMd_live.1 7 = .ok (.aload_n 0, 1) := by decide +kernel
theorem d_Md_live_8 : decode q_mMd_live.1 8 = .ok (.getfield 212, 3) := by decide +kernel
theorem d_Md_live_11 : decode q_mMd_live.1 11 = .ok (.ifCond .eq 40, 3) := by decide +kernel
theorem d_Md_live_14 : decode q_mMd_live.1 14 = .ok (.aload_n 0, 1) := by decide +kernel
theorem d_Md_live_15 : decode q_mMd_live.1 15 = .ok (.invokevirtual 263, 3) := by decide +kernel
theorem d_Md_live_18 : decode q_mMd_live.1 18 = .ok (.iconst 0, 1) := by decide +kernel
theorem d_Md_live_19 : decode q_mMd_live.1 19 = .ok (.istore_n 2, 1) := by decide +kernel
theorem d_Md_live_20 : decode q_mMd_live.1 20 = .ok (.iload_n 2, 1) := by decide +kernel
theorem d_Md_live_21 : decode q_mMd_live.1 21 = .ok (.aload_n 0, 1) := by decide +kernel
theorem d_Md_live_22 : decode q_mMd_live.1 22 = .ok (.getfield 109, 3) := by decide +kernel
theorem d_Md_live_25 : decode q_mMd_live.1 25 = .ok (.if_icmp .ge 26, 3) := by decide +kernel
theorem d_Md_live_28 : decode q_mMd_live.1 28 = .ok (.aload_n 0, 1) := by decide +kernel
theorem d_Md_live_29 : decode q_mMd_live.1 29 = .ok (.getfield 82, 3) := by decide +kernel
theorem d_Md_live_32 : decode q_mMd_live.1 32 = .ok (.iload_n 2, 1) := by decide +kernel
theorem d_Md_live_33 : decode q_mMd_live.1 33 = .ok (.baload, 1) := by decide +kernel
theorem d_Md_live_34 : decode q_mMd_live.1 34 = .ok (.ifCond .eq 9, 3) := by decide +kernel
theorem d_Md_live_37 : decode q_mMd_live.1 37 = .ok (.iload_n 1, 1) := by decide +kernel
theorem d_Md_live_38 : decode q_mMd_live.1 38 = .ok (.iconst 1, 1) := by decide +kernel
theorem d_Md_live_39 : decode q_mMd_live.1 39 = .ok (.iadd, 1) := by decide +kernel
theorem d_Md_live_40 : decode q_mMd_live.1 40 = .ok (.goto 4, 3) := by decide +kernel
theorem d_Md_live_43 : decode q_mMd_live.1 43 = .ok (.iload_n 1, 1) := by decide +kernel
theorem d_Md_live_44 : decode q_mMd_live.1 44 = .ok (.istore_n 1, 1) := by decide +kernel
theorem d_Md_live_45 : decode q_mMd_live.1 45 = .ok (.iinc 2 1, 3) := by decide +kernel
theorem d_Md_live_48 : decode q_mMd_live.1 48 = .ok (.goto (-28), 3) := by decide +kernel
theorem d_Md_live_51 : decode q_mMd_live.1 51 = .ok (.iload_n 1, 1) := by decide +kernel
theorem d_Md_live_52 : decode q_mMd_live.1 52 = .ok (.ireturn, 1) := by decide +kernel
theorem d_Md_isLive_0 : decode q_mMd_isLive.1 0 = .ok (.aload_n 0, 1) := by decide +kernel
theorem d_Md_isLive_1 : decode q_mMd_isLive.1 1 = .ok (.iconst 0, 1) := by decide +kernel
theorem d_Md_isLive_2 : decode q_mMd_isLive.1 2 = .ok (.putfield 103, 3) := by decide +kernel
theorem d_Md_isLive_5 : decode q_mMd_isLive.1 5 = .ok (.aload_n 0, 1) := by decide +kernel
theorem d_Md_isLive_6 : decode q_mMd_isLive.1 6 = .ok (.getfield 212, 3) := by decide +kernel
theorem d_Md_isLive_9 : decode q_mMd_isLive.1 9 = .ok (.ifCond .eq 15, 3) := by decide +kernel
theorem d_Md_isLive_12 : decode q_mMd_isLive.1 12 = .ok (.iload_n 1, 1) := by decide +kernel
theorem d_Md_isLive_13 : decode q_mMd_isLive.1 13 = .ok (.ifCond .lt 11, 3) := by decide +kernel
theorem d_Md_isLive_16 : decode q_mMd_isLive.1 16 = .ok (.iload_n 1, 1) := by decide +kernel
theorem d_Md_isLive_17 : decode q_mMd_isLive.1 17 = .ok (.aload_n 0, 1) := by decide +kernel
theorem d_Md_isLive_18 : decode q_mMd_isLive.1 18 = .ok (.getfield 109, 3) := by decide +kernel
theorem d_Md_isLive_21 : decode q_mMd_isLive.1 21 = .ok (.if_icmp .lt 5, 3) := by decide +kernel
theorem d_Md_isLive_24 : decode q_mMd_isLive.1 24 = .ok (.iconst 0, 1) := by decide +kernel
theorem d_Md_isLive_25 : decode q_mMd_isLive.1 25 = .ok (.ireturn, 1) := by decide +kernel
theorem d_Md_isLive_26 : decode q_mMd_isLive.1 26 = .ok (.aload_n 0, 1) := by decide +kernel
theorem d_Md_isLive_27 : decode q_mMd_isLive.1 27 = .ok (.invokevirtual 263, 3) := by decide +kernel
theorem d_Md_isLive_30 : decode q_mMd_isLive.1 30 = .ok (.aload_n 0, 1) := by decide +kernel
theorem d_Md_isLive_31 : decode q_mMd_isLive.1 31 = .ok (.getfield 82, 3) := by decide +kernel
theorem d_Md_isLive_34 : decode q_mMd_isLive.1 34 = .ok (.iload_n 1, 1) := by decide +kernel
theorem d_Md_isLive_35 : decode q_mMd_isLive.1 35 = .ok (.baload, 1) := by decide +kernel
theorem d_Md_isLive_36 : decode q_mMd_isLive.1 36 = .ok (.ireturn, 1) := by decide +kernel
theorem d_Md_mark_0 : decode q_mMd_mark.1 0 = .ok (.aload_n 0, 1) := by decide +kernel
theorem d_Md_mark_1 : decode q_mMd_mark.1 1 = .ok (.iconst 0, 1) := by decide +kernel
theorem d_Md_mark_2 : decode q_mMd_mark.1 2 = .ok (.putfield 103, 3) := by decide +kernel
theorem d_Md_mark_5 : decode q_mMd_mark.1 5 = .ok (.aload_n 0, 1) := by decide +kernel
theorem d_Md_mark_6 : decode q_mMd_mark.1 6 = .ok (.getfield 212, 3) := by decide +kernel
theorem d_Md_mark_9 : decode q_mMd_mark.1 9 = .ok (.ifCond .eq 19, 3) := by decide +kernel
theorem d_Md_mark_12 : decode q_mMd_mark.1 12 = .ok (.iload_n 1, 1) := by decide +kernel
theorem d_Md_mark_13 : decode q_mMd_mark.1 13 = .ok (.ifCond .lt 15, 3) := by decide +kernel
theorem d_Md_mark_16 : decode q_mMd_mark.1 16 = .ok (.iload_n 1, 1) := by decide +kernel
theorem d_Md_mark_17 : decode q_mMd_mark.1 17 = .ok (.iconst 2, 1) := by decide +kernel
theorem d_Md_mark_18 : decode q_mMd_mark.1 18 = .ok (.aload_n 0, 1) := by decide +kernel
theorem d_Md_mark_19 : decode q_mMd_mark.1 19 = .ok (.getfield 164, 3) := by decide +kernel
theorem d_Md_mark_22 : decode q_mMd_mark.1 22 = .ok (.imul, 1) := by decide +kernel
theorem d_Md_mark_23 : decode q_mMd_mark.1 23 = .ok (.iconst 1, 1) := by decide +kernel
theorem d_Md_mark_24 : decode q_mMd_mark.1 24 = .ok (.iadd, 1) := by decide +kernel
theorem d_Md_mark_25 : decode q_mMd_mark.1 25 = .ok (.if_icmp .le 5, 3) := by decide +kernel
theorem d_Md_mark_28 : decode q_mMd_mark.1 28 = .ok (.iconst (-1), 1) := by decide +kernel
theorem d_Md_mark_29 : decode q_mMd_mark.1 29 = .ok (.ireturn, 1) := by decide +kernel
theorem d_Md_mark_30 : decode q_mMd_mark.1 30 = .ok (.aload_n 0, 1) := by decide +kernel
theorem d_Md_mark_31 : decode q_mMd_mark.1 31 = .ok (.invokevirtual 263, 3) := by decide +kernel
theorem d_Md_mark_34 : decode q_mMd_mark.1 34 = .ok (.aload_n 0, 1) := by decide +kernel
theorem d_Md_mark_35 : decode q_mMd_mark.1 35 = .ok (.getfield 246, 3) := by decide +kernel
theorem d_Md_mark_38 : decode q_mMd_mark.1 38 = .ok (.ifCond .eq 12, 3) := by decide +kernel
theorem d_Md_mark_41 : decode q_mMd_mark.1 41 = .ok (.aload_n 0, 1) := by decide +kernel
theorem d_Md_mark_42 : decode q_mMd_mark.1 42 = .ok (.getfield 79, 3) := by decide +kernel
theorem d_Md_mark_45 : decode q_mMd_mark.1 45 = .ok (.iload_n 1, 1) := by decide +kernel
theorem d_Md_mark_46 : decode q_mMd_mark.1 46 = .ok (.iaload, 1) := by decide +kernel
theorem d_Md_mark_47 : decode q_mMd_mark.1 47 = .ok (.goto 4, 3) := by decide +kernel
theorem d_Md_mark_50 : decode q_mMd_mark.1 50 = .ok (.iconst (-1), 1) := by decide +kernel
theorem d_Md_mark_51 : decode q_mMd_mark.1 51 = .ok (.ireturn, 1) := by decide +kernel
theorem d_Md_fed_0 : decode q_mMd_fed.1 0 = .ok (.aload_n 0, 1) := by decide +kernel
theorem d_Md_fed_1 : decode q_mMd_fed.1 1 = .ok (.iconst 0, 1) := by decide +kernel
theorem d_Md_fed_2 : decode q_mMd_fed.1 2 = .ok (.putfield 103, 3) := by decide +kernel
theorem d_Md_fed_5 : decode q_mMd_fed.1 5 = .ok (.aload_n 0, 1) := by decide +kernel
theorem d_Md_fed_6 : decode q_mMd_fed.1 6 = .ok (.getfield 212, 3) := by decide +kernel
theorem d_Md_fed_9 : decode q_mMd_fed.1 9 = .ok (.ifCond .eq 10, 3) := by decide +kernel
theorem d_Md_fed_12 : decode q_mMd_fed.1 12 = .ok (.aload_n 0, 1) := by decide +kernel
theorem d_Md_fed_13 : decode q_mMd_fed.1 13 = .ok (.getfield 222, 3) := by decide +kernel
theorem d_Md_fed_16 : decode q_mMd_fed.1 16 = .ok (.goto 4, 3) := by decide +kernel
theorem d_Md_fed_19 : decode q_mMd_fed.1 19 = .ok (.iconst (-1), 1) := by decide +kernel
theorem d_Md_fed_20 : decode q_mMd_fed.1 20 = .ok (.ireturn, 1) := by decide +kernel
theorem d_Ar_fill_0 : decode q_mAr_fill.1 0 = .ok (.iconst 0, 1) := by decide +kernel
theorem d_Ar_fill_1 : decode q_mAr_fill.1 1 = .ok (.istore_n 2, 1) := by decide +kernel
theorem d_Ar_fill_2 : decode q_mAr_fill.1 2 = .ok (.aload_n 0, 1) := by decide +kernel
theorem d_Ar_fill_3 : decode q_mAr_fill.1 3 = .ok (.arraylength, 1) := by decide +kernel
theorem d_Ar_fill_4 : decode q_mAr_fill.1 4 = .ok (.istore_n 3, 1) := by decide +kernel
theorem d_Ar_fill_5 : decode q_mAr_fill.1 5 = .ok (.iload_n 2, 1) := by decide +kernel
theorem d_Ar_fill_6 : decode q_mAr_fill.1 6 = .ok (.iload_n 3, 1) := by decide +kernel
theorem d_Ar_fill_7 : decode q_mAr_fill.1 7 = .ok (.if_icmp .ge 13, 3) := by decide +kernel
theorem d_Ar_fill_10 : decode q_mAr_fill.1 10 = .ok (.aload_n 0, 1) := by decide +kernel
theorem d_Ar_fill_11 : decode q_mAr_fill.1 11 = .ok (.iload_n 2, 1) := by decide +kernel
theorem d_Ar_fill_12 : decode q_mAr_fill.1 12 = .ok (.iload_n 1, 1) := by decide +kernel
theorem d_Ar_fill_13 : decode q_mAr_fill.1 13 = .ok (.iastore, 1) := by decide +kernel
theorem d_Ar_fill_14 : decode q_mAr_fill.1 14 = .ok (.iinc 2 1, 3) := by decide +kernel
theorem d_Ar_fill_17 : decode q_mAr_fill.1 17 = .ok (.goto (-12), 3) := by decide +kernel
theorem d_Ar_fill_20 : decode q_mAr_fill.1 20 = .ok (.return_, 1) := by decide +kernel
theorem d_Ar_fill2_0 : decode q_mAr_fill2.1 0 = .ok (.iconst 0, 1) := by decide +kernel
theorem d_Ar_fill2_1 : decode q_mAr_fill2.1 1 = .ok (.istore_n 3, 1) := by decide +kernel
theorem d_Ar_fill2_2 : decode q_mAr_fill2.1 2 = .ok (.aload_n 0, 1) := by decide +kernel
theorem d_Ar_fill2_3 : decode q_mAr_fill2.1 3 = .ok (.arraylength, 1) := by decide +kernel
theorem d_Ar_fill2_4 : decode q_mAr_fill2.1 4 = .ok (.istore 4, 2) := by decide +kernel
theorem d_Ar_fill2_6 : decode q_mAr_fill2.1 6 = .ok (.iload_n 3, 1) := by decide +kernel
theorem d_Ar_fill2_7 : decode q_mAr_fill2.1 7 = .ok (.iload 4, 2) := by decide +kernel
theorem d_Ar_fill2_9 : decode q_mAr_fill2.1 9 = .ok (.if_icmp .ge 13, 3) := by decide +kernel
theorem d_Ar_fill2_12 : decode q_mAr_fill2.1 12 = .ok (.aload_n 0, 1) := by decide +kernel
theorem d_Ar_fill2_13 : decode q_mAr_fill2.1 13 = .ok (.iload_n 3, 1) := by decide +kernel
theorem d_Ar_fill2_14 : decode q_mAr_fill2.1 14 = .ok (.lload_n 1, 1) := by decide +kernel
theorem d_Ar_fill2_15 : decode q_mAr_fill2.1 15 = .ok (.lastore, 1) := by decide +kernel
theorem d_Ar_fill2_16 : decode q_mAr_fill2.1 16 = .ok (.iinc 3 1, 3) := by decide +kernel
theorem d_Ar_fill2_19 : decode q_mAr_fill2.1 19 = .ok (.goto (-13), 3) := by decide +kernel
theorem d_Ar_fill2_22 : decode q_mAr_fill2.1 22 = .ok (.return_, 1) := by decide +kernel
theorem d_Lo_bitCount_0 : decode q_mLo_bitCount.1 0 = .ok (.lload_n 0, 1) := by decide +kernel
theorem d_Lo_bitCount_1 : decode q_mLo_bitCount.1 1 = .ok (.lload_n 0, 1) := by decide +kernel
theorem d_Lo_bitCount_2 : decode q_mLo_bitCount.1 2 = .ok (.iconst 1, 1) := by decide +kernel
theorem d_Lo_bitCount_3 : decode q_mLo_bitCount.1 3 = .ok (.lushr, 1) := by decide +kernel
theorem d_Lo_bitCount_4 : decode q_mLo_bitCount.1 4 = .ok (.ldc2_w 314, 3) := by decide +kernel
theorem d_Lo_bitCount_7 : decode q_mLo_bitCount.1 7 = .ok (.land, 1) := by decide +kernel
theorem d_Lo_bitCount_8 : decode q_mLo_bitCount.1 8 = .ok (.lsub, 1) := by decide +kernel
theorem d_Lo_bitCount_9 : decode q_mLo_bitCount.1 9 = .ok (.lstore_n 0, 1) := by decide +kernel
theorem d_Lo_bitCount_10 : decode q_mLo_bitCount.1 10 = .ok (.lload_n 0, 1) := by decide +kernel
theorem d_Lo_bitCount_11 : decode q_mLo_bitCount.1 11 = .ok (.ldc2_w 316, 3) := by decide +kernel
theorem d_Lo_bitCount_14 : decode q_mLo_bitCount.1 14 = .ok (.land, 1) := by decide +kernel
theorem d_Lo_bitCount_15 : decode q_mLo_bitCount.1 15 = .ok (.lload_n 0, 1) := by decide +kernel
theorem d_Lo_bitCount_16 : decode q_mLo_bitCount.1 16 = .ok (.iconst 2, 1) := by decide +kernel
theorem d_Lo_bitCount_17 : decode q_mLo_bitCount.1 17 = .ok (.lushr, 1) := by decide +kernel
theorem d_Lo_bitCount_18 : decode q_mLo_bitCount.1 18 = .ok (.ldc2_w 316, 3) := by decide +kernel
theorem d_Lo_bitCount_21 : decode q_mLo_bitCount.1 21 = .ok (.land, 1) := by decide +kernel
theorem d_Lo_bitCount_22 : decode q_mLo_bitCount.1 22 = .ok (.ladd, 1) := by decide +kernel
theorem d_Lo_bitCount_23 : decode q_mLo_bitCount.1 23 = .ok (.lstore_n 0, 1) := by decide +kernel
theorem d_Lo_bitCount_24 : decode q_mLo_bitCount.1 24 = .ok (.lload_n 0, 1) := by decide +kernel
theorem d_Lo_bitCount_25 : decode q_mLo_bitCount.1 25 = .ok (.lload_n 0, 1) := by decide +kernel
theorem d_Lo_bitCount_26 : decode q_mLo_bitCount.1 26 = .ok (.iconst 4, 1) := by decide +kernel
theorem d_Lo_bitCount_27 : decode q_mLo_bitCount.1 27 = .ok (.lushr, 1) := by decide +kernel
theorem d_Lo_bitCount_28 : decode q_mLo_bitCount.1 28 = .ok (.ladd, 1) := by decide +kernel
theorem d_Lo_bitCount_29 : decode q_mLo_bitCount.1 29 = .ok (.ldc2_w 318, 3) := by decide +kernel
theorem d_Lo_bitCount_32 : decode q_mLo_bitCount.1 32 = .ok (.land, 1) := by decide +kernel
theorem d_Lo_bitCount_33 : decode q_mLo_bitCount.1 33 = .ok (.lstore_n 0, 1) := by decide +kernel
theorem d_Lo_bitCount_34 : decode q_mLo_bitCount.1 34 = .ok (.lload_n 0, 1) := by decide +kernel
theorem d_Lo_bitCount_35 : decode q_mLo_bitCount.1 35 = .ok (.lload_n 0, 1) := by decide +kernel
theorem d_Lo_bitCount_36 : decode q_mLo_bitCount.1 36 = .ok (.bipush 8, 2) := by decide +kernel
theorem d_Lo_bitCount_38 : decode q_mLo_bitCount.1 38 = .ok (.lushr, 1) := by decide +kernel
theorem d_Lo_bitCount_39 : decode q_mLo_bitCount.1 39 = .ok (.ladd, 1) := by decide +kernel
theorem d_Lo_bitCount_40 : decode q_mLo_bitCount.1 40 = .ok (.lstore_n 0, 1) := by decide +kernel
theorem d_Lo_bitCount_41 : decode q_mLo_bitCount.1 41 = .ok (.lload_n 0, 1) := by decide +kernel
theorem d_Lo_bitCount_42 : decode q_mLo_bitCount.1 42 = .ok (.lload_n 0, 1) := by decide +kernel
theorem d_Lo_bitCount_43 : decode q_mLo_bitCount.1 43 = .ok (.bipush 16, 2) := by decide +kernel
theorem d_Lo_bitCount_45 : decode q_mLo_bitCount.1 45 = .ok (.lushr, 1) := by decide +kernel
theorem d_Lo_bitCount_46 : decode q_mLo_bitCount.1 46 = .ok (.ladd, 1) := by decide +kernel
theorem d_Lo_bitCount_47 : decode q_mLo_bitCount.1 47 = .ok (.lstore_n 0, 1) := by decide +kernel
theorem d_Lo_bitCount_48 : decode q_mLo_bitCount.1 48 = .ok (.lload_n 0, 1) := by decide +kernel
theorem d_Lo_bitCount_49 : decode q_mLo_bitCount.1 49 = .ok (.lload_n 0, 1) := by decide +kernel
theorem d_Lo_bitCount_50 : decode q_mLo_bitCount.1 50 = .ok (.bipush 32, 2) := by decide +kernel
theorem d_Lo_bitCount_52 : decode q_mLo_bitCount.1 52 = .ok (.lushr, 1) := by decide +kernel
theorem d_Lo_bitCount_53 : decode q_mLo_bitCount.1 53 = .ok (.ladd, 1) := by decide +kernel
theorem d_Lo_bitCount_54 : decode q_mLo_bitCount.1 54 = .ok (.lstore_n 0, 1) := by decide +kernel
theorem d_Lo_bitCount_55 : decode q_mLo_bitCount.1 55 = .ok (.lload_n 0, 1) := by decide +kernel
theorem d_Lo_bitCount_56 : decode q_mLo_bitCount.1 56 = .ok (.l2i, 1) := by decide +kernel
theorem d_Lo_bitCount_57 : decode q_mLo_bitCount.1 57 = .ok (.bipush 127, 2) := by decide +kernel
theorem d_Lo_bitCount_59 : decode q_mLo_bitCount.1 59 = .ok (.iand, 1) := by decide +kernel
theorem d_Lo_bitCount_60 : decode q_mLo_bitCount.1 60 = .ok (.ireturn, 1) := by decide +kernel
