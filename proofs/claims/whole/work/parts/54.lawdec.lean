theorem d_La_0 : decode q_mLa.1 0 = .ok (.new 8, 3) := by decide +kernel
theorem d_La_3 : decode q_mLa.1 3 = .ok (.dup, 1) := by decide +kernel
theorem d_La_4 : decode q_mLa.1 4 = .ok (.invokespecial 17, 3) := by decide +kernel
theorem d_La_7 : decode q_mLa.1 7 = .ok (.astore_n 1, 1) := by decide +kernel
theorem d_La_8 : decode q_mLa.1 8 = .ok (.new 18, 3) := by decide +kernel
theorem d_La_11 : decode q_mLa.1 11 = .ok (.dup, 1) := by decide +kernel
theorem d_La_12 : decode q_mLa.1 12 = .ok (.invokespecial 20, 3) := by decide +kernel
theorem d_La_15 : decode q_mLa.1 15 = .ok (.astore_n 2, 1) := by decide +kernel
theorem d_La_16 : decode q_mLa.1 16 = .ok (.iconst 1, 1) := by decide +kernel
theorem d_La_17 : decode q_mLa.1 17 = .ok (.newarray .long, 2) := by decide +kernel
theorem d_La_19 : decode q_mLa.1 19 = .ok (.astore_n 3, 1) := by decide +kernel
theorem d_La_20 : decode q_mLa.1 20 = .ok (.iconst 0, 1) := by decide +kernel
theorem d_La_21 : decode q_mLa.1 21 = .ok (.istore 4, 2) := by decide +kernel
theorem d_La_23 : decode q_mLa.1 23 = .ok (.iload 4, 2) := by decide +kernel
theorem d_La_25 : decode q_mLa.1 25 = .ok (.aload_n 0, 1) := by decide +kernel
theorem d_La_26 : decode q_mLa.1 26 = .ok (.arraylength, 1) := by decide +kernel
theorem d_La_27 : decode q_mLa.1 27 = .ok (.iconst 3, 1) := by decide +kernel
theorem d_La_28 : decode q_mLa.1 28 = .ok (.isub, 1) := by decide +kernel
theorem d_La_29 : decode q_mLa.1 29 = .ok (.if_icmp .gt 383, 3) := by decide +kernel
theorem d_La_32 : decode q_mLa.1 32 = .ok (.aload_n 0, 1) := by decide +kernel
theorem d_La_33 : decode q_mLa.1 33 = .ok (.iload 4, 2) := by decide +kernel
theorem d_La_35 : decode q_mLa.1 35 = .ok (.iaload, 1) := by decide +kernel
theorem d_La_36 : decode q_mLa.1 36 = .ok (.bipush 15, 2) := by decide +kernel
theorem d_La_38 : decode q_mLa.1 38 = .ok (.iand, 1) := by decide +kernel
theorem d_La_39 : decode q_mLa.1 39 = .ok (.tableswitch 367 0 12 #[65, 92, 136, 149, 160, 197, 210, 251, 278, 291, 304, 329, 354], 65) := by decide +kernel
theorem d_La_104 : decode q_mLa.1 104 = .ok (.aload_n 1, 1) := by decide +kernel
theorem d_La_105 : decode q_mLa.1 105 = .ok (.aload_n 0, 1) := by decide +kernel
theorem d_La_106 : decode q_mLa.1 106 = .ok (.iload 4, 2) := by decide +kernel
theorem d_La_108 : decode q_mLa.1 108 = .ok (.iconst 1, 1) := by decide +kernel
theorem d_La_109 : decode q_mLa.1 109 = .ok (.iadd, 1) := by decide +kernel
theorem d_La_110 : decode q_mLa.1 110 = .ok (.iaload, 1) := by decide +kernel
theorem d_La_111 : decode q_mLa.1 111 = .ok (.i2c, 1) := by decide +kernel
theorem d_La_112 : decode q_mLa.1 112 = .ok (.invokevirtual 21, 3) := by decide +kernel
theorem d_La_115 : decode q_mLa.1 115 = .ok (.aload_n 2, 1) := by decide +kernel
theorem d_La_116 : decode q_mLa.1 116 = .ok (.aload_n 0, 1) := by decide +kernel
theorem d_La_117 : decode q_mLa.1 117 = .ok (.iload 4, 2) := by decide +kernel
theorem d_La_119 : decode q_mLa.1 119 = .ok (.iconst 1, 1) := by decide +kernel
theorem d_La_120 : decode q_mLa.1 120 = .ok (.iadd, 1) := by decide +kernel
theorem d_La_121 : decode q_mLa.1 121 = .ok (.iaload, 1) := by decide +kernel
theorem d_La_122 : decode q_mLa.1 122 = .ok (.i2c, 1) := by decide +kernel
theorem d_La_123 : decode q_mLa.1 123 = .ok (.invokevirtual 25, 3) := by decide +kernel
theorem d_La_126 : decode q_mLa.1 126 = .ok (.if_icmp .eq 280, 3) := by decide +kernel
theorem d_La_129 : decode q_mLa.1 129 = .ok (.iconst 0, 1) := by decide +kernel
theorem d_La_130 : decode q_mLa.1 130 = .ok (.ireturn, 1) := by decide +kernel
theorem d_La_131 : decode q_mLa.1 131 = .ok (.aload_n 1, 1) := by decide +kernel
theorem d_La_132 : decode q_mLa.1 132 = .ok (.aload_n 3, 1) := by decide +kernel
theorem d_La_133 : decode q_mLa.1 133 = .ok (.invokestatic 26, 3) := by decide +kernel
theorem d_La_136 : decode q_mLa.1 136 = .ok (.istore 5, 2) := by decide +kernel
theorem d_La_138 : decode q_mLa.1 138 = .ok (.aload_n 2, 1) := by decide +kernel
theorem d_La_139 : decode q_mLa.1 139 = .ok (.invokevirtual 31, 3) := by decide +kernel
theorem d_La_142 : decode q_mLa.1 142 = .ok (.istore 6, 2) := by decide +kernel
theorem d_La_144 : decode q_mLa.1 144 = .ok (.aload_n 2, 1) := by decide +kernel
theorem d_La_145 : decode q_mLa.1 145 = .ok (.invokevirtual 32, 3) := by decide +kernel
theorem d_La_148 : decode q_mLa.1 148 = .ok (.iload 5, 2) := by decide +kernel
theorem d_La_150 : decode q_mLa.1 150 = .ok (.if_icmp .eq 5, 3) := by decide +kernel
theorem d_La_153 : decode q_mLa.1 153 = .ok (.iconst 0, 1) := by decide +kernel
theorem d_La_154 : decode q_mLa.1 154 = .ok (.ireturn, 1) := by decide +kernel
theorem d_La_155 : decode q_mLa.1 155 = .ok (.iload 5, 2) := by decide +kernel
theorem d_La_157 : decode q_mLa.1 157 = .ok (.ifCond .ne 15, 3) := by decide +kernel
theorem d_La_160 : decode q_mLa.1 160 = .ok (.aload_n 3, 1) := by decide +kernel
theorem d_La_161 : decode q_mLa.1 161 = .ok (.iconst 0, 1) := by decide +kernel
theorem d_La_162 : decode q_mLa.1 162 = .ok (.laload, 1) := by decide +kernel
theorem d_La_163 : decode q_mLa.1 163 = .ok (.iload 6, 2) := by decide +kernel
theorem d_La_165 : decode q_mLa.1 165 = .ok (.i2l, 1) := by decide +kernel
theorem d_La_166 : decode q_mLa.1 166 = .ok (.lcmp, 1) := by decide +kernel
theorem d_La_167 : decode q_mLa.1 167 = .ok (.ifCond .eq 5, 3) := by decide +kernel
theorem d_La_170 : decode q_mLa.1 170 = .ok (.iconst 0, 1) := by decide +kernel
theorem d_La_171 : decode q_mLa.1 171 = .ok (.ireturn, 1) := by decide +kernel
theorem d_La_172 : decode q_mLa.1 172 = .ok (.goto 234, 3) := by decide +kernel
theorem d_La_175 : decode q_mLa.1 175 = .ok (.aload_n 1, 1) := by decide +kernel
theorem d_La_176 : decode q_mLa.1 176 = .ok (.invokevirtual 35, 3) := by decide +kernel
theorem d_La_179 : decode q_mLa.1 179 = .ok (.aload_n 2, 1) := by decide +kernel
theorem d_La_180 : decode q_mLa.1 180 = .ok (.invokevirtual 38, 3) := by decide +kernel
theorem d_La_183 : decode q_mLa.1 183 = .ok (.if_icmp .eq 223, 3) := by decide +kernel
theorem d_La_186 : decode q_mLa.1 186 = .ok (.iconst 0, 1) := by decide +kernel
theorem d_La_187 : decode q_mLa.1 187 = .ok (.ireturn, 1) := by decide +kernel
theorem d_La_188 : decode q_mLa.1 188 = .ok (.aload_n 1, 1) := by decide +kernel
theorem d_La_189 : decode q_mLa.1 189 = .ok (.invokevirtual 39, 3) := by decide +kernel
theorem d_La_192 : decode q_mLa.1 192 = .ok (.aload_n 2, 1) := by decide +kernel
theorem d_La_193 : decode q_mLa.1 193 = .ok (.invokevirtual 42, 3) := by decide +kernel
theorem d_La_196 : decode q_mLa.1 196 = .ok (.goto 210, 3) := by decide +kernel
theorem d_La_199 : decode q_mLa.1 199 = .ok (.aload_n 1, 1) := by decide +kernel
theorem d_La_200 : decode q_mLa.1 200 = .ok (.aload_n 0, 1) := by decide +kernel
theorem d_La_201 : decode q_mLa.1 201 = .ok (.iload 4, 2) := by decide +kernel
theorem d_La_203 : decode q_mLa.1 203 = .ok (.iconst 1, 1) := by decide +kernel
theorem d_La_204 : decode q_mLa.1 204 = .ok (.iadd, 1) := by decide +kernel
theorem d_La_205 : decode q_mLa.1 205 = .ok (.iaload, 1) := by decide +kernel
theorem d_La_206 : decode q_mLa.1 206 = .ok (.aload_n 0, 1) := by decide +kernel
theorem d_La_207 : decode q_mLa.1 207 = .ok (.iload 4, 2) := by decide +kernel
theorem d_La_209 : decode q_mLa.1 209 = .ok (.iconst 2, 1) := by decide +kernel
theorem d_La_210 : decode q_mLa.1 210 = .ok (.iadd, 1) := by decide +kernel
theorem d_La_211 : decode q_mLa.1 211 = .ok (.iaload, 1) := by decide +kernel
theorem d_La_212 : decode q_mLa.1 212 = .ok (.invokevirtual 43, 3) := by decide +kernel
theorem d_La_215 : decode q_mLa.1 215 = .ok (.aload_n 2, 1) := by decide +kernel
theorem d_La_216 : decode q_mLa.1 216 = .ok (.aload_n 0, 1) := by decide +kernel
theorem d_La_217 : decode q_mLa.1 217 = .ok (.iload 4, 2) := by decide +kernel
theorem d_La_219 : decode q_mLa.1 219 = .ok (.iconst 1, 1) := by decide +kernel
theorem d_La_220 : decode q_mLa.1 220 = .ok (.iadd, 1) := by decide +kernel
theorem d_La_221 : decode q_mLa.1 221 = .ok (.iaload, 1) := by decide +kernel
theorem d_La_222 : decode q_mLa.1 222 = .ok (.aload_n 0, 1) := by decide +kernel
theorem d_La_223 : decode q_mLa.1 223 = .ok (.iload 4, 2) := by decide +kernel
theorem d_La_225 : decode q_mLa.1 225 = .ok (.iconst 2, 1) := by decide +kernel
theorem d_La_226 : decode q_mLa.1 226 = .ok (.iadd, 1) := by decide +kernel
theorem d_La_227 : decode q_mLa.1 227 = .ok (.iaload, 1) := by decide +kernel
theorem d_La_228 : decode q_mLa.1 228 = .ok (.invokevirtual 47, 3) := by decide +kernel
theorem d_La_231 : decode q_mLa.1 231 = .ok (.if_icmp .eq 175, 3) := by decide +kernel
theorem d_La_234 : decode q_mLa.1 234 = .ok (.iconst 0, 1) := by decide +kernel
theorem d_La_235 : decode q_mLa.1 235 = .ok (.ireturn, 1) := by decide +kernel
theorem d_La_236 : decode q_mLa.1 236 = .ok (.aload_n 1, 1) := by decide +kernel
theorem d_La_237 : decode q_mLa.1 237 = .ok (.invokevirtual 48, 3) := by decide +kernel
theorem d_La_240 : decode q_mLa.1 240 = .ok (.aload_n 2, 1) := by decide +kernel
theorem d_La_241 : decode q_mLa.1 241 = .ok (.invokevirtual 51, 3) := by decide +kernel
theorem d_La_244 : decode q_mLa.1 244 = .ok (.if_icmp .eq 162, 3) := by decide +kernel
theorem d_La_247 : decode q_mLa.1 247 = .ok (.iconst 0, 1) := by decide +kernel
theorem d_La_248 : decode q_mLa.1 248 = .ok (.ireturn, 1) := by decide +kernel
theorem d_La_249 : decode q_mLa.1 249 = .ok (.aload_n 1, 1) := by decide +kernel
theorem d_La_250 : decode q_mLa.1 250 = .ok (.aload_n 0, 1) := by decide +kernel
theorem d_La_251 : decode q_mLa.1 251 = .ok (.iload 4, 2) := by decide +kernel
theorem d_La_253 : decode q_mLa.1 253 = .ok (.iconst 1, 1) := by decide +kernel
theorem d_La_254 : decode q_mLa.1 254 = .ok (.iadd, 1) := by decide +kernel
theorem d_La_255 : decode q_mLa.1 255 = .ok (.iaload, 1) := by decide +kernel
theorem d_La_256 : decode q_mLa.1 256 = .ok (.ifCond .eq 7, 3) := by decide +kernel
theorem d_La_259 : decode q_mLa.1 259 = .ok (.iconst 1, 1) := by decide +kernel
theorem d_La_260 : decode q_mLa.1 260 = .ok (.goto 4, 3) := by decide +kernel
theorem d_La_263 : decode q_mLa.1 263 = .ok (.iconst 0, 1) := by decide +kernel
theorem d_La_264 : decode q_mLa.1 264 = .ok (.invokevirtual 52, 3) := by decide +kernel
theorem d_La_267 : decode q_mLa.1 267 = .ok (.aload_n 2, 1) := by decide +kernel
theorem d_La_268 : decode q_mLa.1 268 = .ok (.aload_n 0, 1) := by decide +kernel
theorem d_La_269 : decode q_mLa.1 269 = .ok (.iload 4, 2) := by decide +kernel
theorem d_La_271 : decode q_mLa.1 271 = .ok (.iconst 1, 1) := by decide +kernel
theorem d_La_272 : decode q_mLa.1 272 = .ok (.iadd, 1) := by decide +kernel
theorem d_La_273 : decode q_mLa.1 273 = .ok (.iaload, 1) := by decide +kernel
theorem d_La_274 : decode q_mLa.1 274 = .ok (.ifCond .eq 7, 3) := by decide +kernel
theorem d_La_277 : decode q_mLa.1 277 = .ok (.iconst 1, 1) := by decide +kernel
theorem d_La_278 : decode q_mLa.1 278 = .ok (.goto 4, 3) := by decide +kernel
theorem d_La_281 : decode q_mLa.1 281 = .ok (.iconst 0, 1) := by decide +kernel
theorem d_La_282 : decode q_mLa.1 282 = .ok (.invokevirtual 56, 3) := by decide +kernel
theorem d_La_285 : decode q_mLa.1 285 = .ok (.if_icmp .eq 121, 3) := by decide +kernel
theorem d_La_288 : decode q_mLa.1 288 = .ok (.iconst 0, 1) := by decide +kernel
theorem d_La_289 : decode q_mLa.1 289 = .ok (.ireturn, 1) := by decide +kernel
theorem d_La_290 : decode q_mLa.1 290 = .ok (.aload_n 1, 1) := by decide +kernel
theorem d_La_291 : decode q_mLa.1 291 = .ok (.aload_n 0, 1) := by decide +kernel
theorem d_La_292 : decode q_mLa.1 292 = .ok (.iload 4, 2) := by decide +kernel
theorem d_La_294 : decode q_mLa.1 294 = .ok (.iconst 1, 1) := by decide +kernel
theorem d_La_295 : decode q_mLa.1 295 = .ok (.iadd, 1) := by decide +kernel
theorem d_La_296 : decode q_mLa.1 296 = .ok (.iaload, 1) := by decide +kernel
theorem d_La_297 : decode q_mLa.1 297 = .ok (.i2c, 1) := by decide +kernel
theorem d_La_298 : decode q_mLa.1 298 = .ok (.invokevirtual 57, 3) := by decide +kernel
theorem d_La_301 : decode q_mLa.1 301 = .ok (.aload_n 2, 1) := by decide +kernel
theorem d_La_302 : decode q_mLa.1 302 = .ok (.aload_n 0, 1) := by decide +kernel
theorem d_La_303 : decode q_mLa.1 303 = .ok (.iload 4, 2) := by decide +kernel
theorem d_La_305 : decode q_mLa.1 305 = .ok (.iconst 1, 1) := by decide +kernel
theorem d_La_306 : decode q_mLa.1 306 = .ok (.iadd, 1) := by decide +kernel
theorem d_La_307 : decode q_mLa.1 307 = .ok (.iaload, 1) := by decide +kernel
theorem d_La_308 : decode q_mLa.1 308 = .ok (.i2c, 1) := by decide +kernel
theorem d_La_309 : decode q_mLa.1 309 = .ok (.invokevirtual 60, 3) := by decide +kernel
theorem d_La_312 : decode q_mLa.1 312 = .ok (.if_icmp .eq 94, 3) := by decide +kernel
theorem d_La_315 : decode q_mLa.1 315 = .ok (.iconst 0, 1) := by decide +kernel
theorem d_La_316 : decode q_mLa.1 316 = .ok (.ireturn, 1) := by decide +kernel
theorem d_La_317 : decode q_mLa.1 317 = .ok (.aload_n 1, 1) := by decide +kernel
theorem d_La_318 : decode q_mLa.1 318 = .ok (.invokevirtual 61, 3) := by decide +kernel
theorem d_La_321 : decode q_mLa.1 321 = .ok (.aload_n 2, 1) := by decide +kernel
theorem d_La_322 : decode q_mLa.1 322 = .ok (.invokevirtual 65, 3) := by decide +kernel
theorem d_La_325 : decode q_mLa.1 325 = .ok (.if_icmp .eq 81, 3) := by decide +kernel
theorem d_La_328 : decode q_mLa.1 328 = .ok (.iconst 0, 1) := by decide +kernel
theorem d_La_329 : decode q_mLa.1 329 = .ok (.ireturn, 1) := by decide +kernel
theorem d_La_330 : decode q_mLa.1 330 = .ok (.aload_n 1, 1) := by decide +kernel
theorem d_La_331 : decode q_mLa.1 331 = .ok (.invokevirtual 66, 3) := by decide +kernel
theorem d_La_334 : decode q_mLa.1 334 = .ok (.aload_n 2, 1) := by decide +kernel
theorem d_La_335 : decode q_mLa.1 335 = .ok (.invokevirtual 69, 3) := by decide +kernel
theorem d_La_338 : decode q_mLa.1 338 = .ok (.if_icmp .eq 68, 3) := by decide +kernel
theorem d_La_341 : decode q_mLa.1 341 = .ok (.iconst 0, 1) := by decide +kernel
theorem d_La_342 : decode q_mLa.1 342 = .ok (.ireturn, 1) := by decide +kernel
theorem d_La_343 : decode q_mLa.1 343 = .ok (.aload_n 1, 1) := by decide +kernel
theorem d_La_344 : decode q_mLa.1 344 = .ok (.aload_n 0, 1) := by decide +kernel
theorem d_La_345 : decode q_mLa.1 345 = .ok (.iload 4, 2) := by decide +kernel
theorem d_La_347 : decode q_mLa.1 347 = .ok (.iconst 1, 1) := by decide +kernel
theorem d_La_348 : decode q_mLa.1 348 = .ok (.iadd, 1) := by decide +kernel
theorem d_La_349 : decode q_mLa.1 349 = .ok (.iaload, 1) := by decide +kernel
theorem d_La_350 : decode q_mLa.1 350 = .ok (.invokevirtual 70, 3) := by decide +kernel
theorem d_La_353 : decode q_mLa.1 353 = .ok (.aload_n 2, 1) := by decide +kernel
theorem d_La_354 : decode q_mLa.1 354 = .ok (.aload_n 0, 1) := by decide +kernel
theorem d_La_355 : decode q_mLa.1 355 = .ok (.iload 4, 2) := by decide +kernel
theorem d_La_357 : decode q_mLa.1 357 = .ok (.iconst 1, 1) := by decide +kernel
theorem d_La_358 : decode q_mLa.1 358 = .ok (.iadd, 1) := by decide +kernel
theorem d_La_359 : decode q_mLa.1 359 = .ok (.iaload, 1) := by decide +kernel
theorem d_La_360 : decode q_mLa.1 360 = .ok (.invokevirtual 74, 3) := by decide +kernel
theorem d_La_363 : decode q_mLa.1 363 = .ok (.if_icmp .eq 43, 3) := by decide +kernel
theorem d_La_366 : decode q_mLa.1 366 = .ok (.iconst 0, 1) := by decide +kernel
theorem d_La_367 : decode q_mLa.1 367 = .ok (.ireturn, 1) := by decide +kernel
theorem d_La_368 : decode q_mLa.1 368 = .ok (.aload_n 1, 1) := by decide +kernel
theorem d_La_369 : decode q_mLa.1 369 = .ok (.aload_n 0, 1) := by decide +kernel
theorem d_La_370 : decode q_mLa.1 370 = .ok (.iload 4, 2) := by decide +kernel
theorem d_La_372 : decode q_mLa.1 372 = .ok (.iconst 1, 1) := by decide +kernel
theorem d_La_373 : decode q_mLa.1 373 = .ok (.iadd, 1) := by decide +kernel
theorem d_La_374 : decode q_mLa.1 374 = .ok (.iaload, 1) := by decide +kernel
theorem d_La_375 : decode q_mLa.1 375 = .ok (.invokevirtual 75, 3) := by decide +kernel
theorem d_La_378 : decode q_mLa.1 378 = .ok (.aload_n 2, 1) := by decide +kernel
theorem d_La_379 : decode q_mLa.1 379 = .ok (.aload_n 0, 1) := by decide +kernel
theorem d_La_380 : decode q_mLa.1 380 = .ok (.iload 4, 2) := by decide +kernel
theorem d_La_382 : decode q_mLa.1 382 = .ok (.iconst 1, 1) := by decide +kernel
theorem d_La_383 : decode q_mLa.1 383 = .ok (.iadd, 1) := by decide +kernel
theorem d_La_384 : decode q_mLa.1 384 = .ok (.iaload, 1) := by decide +kernel
theorem d_La_385 : decode q_mLa.1 385 = .ok (.invokevirtual 79, 3) := by decide +kernel
theorem d_La_388 : decode q_mLa.1 388 = .ok (.if_icmp .eq 18, 3) := by decide +kernel
theorem d_La_391 : decode q_mLa.1 391 = .ok (.iconst 0, 1) := by decide +kernel
theorem d_La_392 : decode q_mLa.1 392 = .ok (.ireturn, 1) := by decide +kernel
theorem d_La_393 : decode q_mLa.1 393 = .ok (.aload_n 1, 1) := by decide +kernel
theorem d_La_394 : decode q_mLa.1 394 = .ok (.invokevirtual 80, 3) := by decide +kernel
theorem d_La_397 : decode q_mLa.1 397 = .ok (.aload_n 2, 1) := by decide +kernel
theorem d_La_398 : decode q_mLa.1 398 = .ok (.invokevirtual 83, 3) := by decide +kernel
theorem d_La_401 : decode q_mLa.1 401 = .ok (.if_icmp .eq 5, 3) := by decide +kernel
theorem d_La_404 : decode q_mLa.1 404 = .ok (.iconst 0, 1) := by decide +kernel
theorem d_La_405 : decode q_mLa.1 405 = .ok (.ireturn, 1) := by decide +kernel
theorem d_La_406 : decode q_mLa.1 406 = .ok (.iinc 4 3, 3) := by decide +kernel
theorem d_La_409 : decode q_mLa.1 409 = .ok (.goto (-386), 3) := by decide +kernel
theorem d_La_412 : decode q_mLa.1 412 = .ok (.iconst 1, 1) := by decide +kernel
theorem d_La_413 : decode q_mLa.1 413 = .ok (.ireturn, 1) := by decide +kernel
