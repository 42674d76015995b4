theorem dX9_init_0 : decode cX9_init 0 = .ok (.aload_n 0, 1) := by decide +kernel
theorem dX9_init_1 : decode cX9_init 1 = .ok (.invokespecial 1, 3) := by decide +kernel
theorem dX9_init_4 : decode cX9_init 4 = .ok (.aload_n 0, 1) := by decide +kernel
theorem dX9_init_5 : decode cX9_init 5 = .ok (.bipush 60, 2) := by decide +kernel
theorem dX9_init_7 : decode cX9_init 7 = .ok (.newarray .int, 2) := by decide +kernel
theorem dX9_init_9 : decode cX9_init 9 = .ok (.putfield 7, 3) := by decide +kernel
theorem dX9_init_12 : decode cX9_init 12 = .ok (.aload_n 0, 1) := by decide +kernel
theorem dX9_init_13 : decode cX9_init 13 = .ok (.sipush 600, 3) := by decide +kernel
theorem dX9_init_16 : decode cX9_init 16 = .ok (.newarray .int, 2) := by decide +kernel
theorem dX9_init_18 : decode cX9_init 18 = .ok (.putfield 13, 3) := by decide +kernel
theorem dX9_init_21 : decode cX9_init 21 = .ok (.aload_n 0, 1) := by decide +kernel
theorem dX9_init_22 : decode cX9_init 22 = .ok (.bipush 30, 2) := by decide +kernel
theorem dX9_init_24 : decode cX9_init 24 = .ok (.newarray .int, 2) := by decide +kernel
theorem dX9_init_26 : decode cX9_init 26 = .ok (.putfield 16, 3) := by decide +kernel
theorem dX9_init_29 : decode cX9_init 29 = .ok (.aload_n 0, 1) := by decide +kernel
theorem dX9_init_30 : decode cX9_init 30 = .ok (.sipush 1560, 3) := by decide +kernel
theorem dX9_init_33 : decode cX9_init 33 = .ok (.newarray .int, 2) := by decide +kernel
theorem dX9_init_35 : decode cX9_init 35 = .ok (.putfield 19, 3) := by decide +kernel
theorem dX9_init_38 : decode cX9_init 38 = .ok (.aload_n 0, 1) := by decide +kernel
theorem dX9_init_39 : decode cX9_init 39 = .ok (.bipush 26, 2) := by decide +kernel
theorem dX9_init_41 : decode cX9_init 41 = .ok (.newarray .int, 2) := by decide +kernel
theorem dX9_init_43 : decode cX9_init 43 = .ok (.putfield 22, 3) := by decide +kernel
theorem dX9_init_46 : decode cX9_init 46 = .ok (.aload_n 0, 1) := by decide +kernel
theorem dX9_init_47 : decode cX9_init 47 = .ok (.bipush 50, 2) := by decide +kernel
theorem dX9_init_49 : decode cX9_init 49 = .ok (.newarray .char, 2) := by decide +kernel
theorem dX9_init_51 : decode cX9_init 51 = .ok (.putfield 25, 3) := by decide +kernel
theorem dX9_init_54 : decode cX9_init 54 = .ok (.aload_n 0, 1) := by decide +kernel
theorem dX9_init_55 : decode cX9_init 55 = .ok (.bipush 50, 2) := by decide +kernel
theorem dX9_init_57 : decode cX9_init 57 = .ok (.newarray .int, 2) := by decide +kernel
theorem dX9_init_59 : decode cX9_init 59 = .ok (.putfield 29, 3) := by decide +kernel
theorem dX9_init_62 : decode cX9_init 62 = .ok (.aload_n 0, 1) := by decide +kernel
theorem dX9_init_63 : decode cX9_init 63 = .ok (.bipush 50, 2) := by decide +kernel
theorem dX9_init_65 : decode cX9_init 65 = .ok (.newarray .int, 2) := by decide +kernel
theorem dX9_init_67 : decode cX9_init 67 = .ok (.putfield 32, 3) := by decide +kernel
theorem dX9_init_70 : decode cX9_init 70 = .ok (.aload_n 0, 1) := by decide +kernel
theorem dX9_init_71 : decode cX9_init 71 = .ok (.bipush 50, 2) := by decide +kernel
theorem dX9_init_73 : decode cX9_init 73 = .ok (.newarray .char, 2) := by decide +kernel
theorem dX9_init_75 : decode cX9_init 75 = .ok (.putfield 35, 3) := by decide +kernel
theorem dX9_init_78 : decode cX9_init 78 = .ok (.aload_n 0, 1) := by decide +kernel
theorem dX9_init_79 : decode cX9_init 79 = .ok (.bipush 50, 2) := by decide +kernel
theorem dX9_init_81 : decode cX9_init 81 = .ok (.newarray .int, 2) := by decide +kernel
theorem dX9_init_83 : decode cX9_init 83 = .ok (.putfield 38, 3) := by decide +kernel
theorem dX9_init_86 : decode cX9_init 86 = .ok (.aload_n 0, 1) := by decide +kernel
theorem dX9_init_87 : decode cX9_init 87 = .ok (.bipush 50, 2) := by decide +kernel
theorem dX9_init_89 : decode cX9_init 89 = .ok (.newarray .int, 2) := by decide +kernel
theorem dX9_init_91 : decode cX9_init 91 = .ok (.putfield 41, 3) := by decide +kernel
theorem dX9_init_94 : decode cX9_init 94 = .ok (.aload_n 0, 1) := by decide +kernel
theorem dX9_init_95 : decode cX9_init 95 = .ok (.bipush 50, 2) := by decide +kernel
theorem dX9_init_97 : decode cX9_init 97 = .ok (.newarray .boolean, 2) := by decide +kernel
theorem dX9_init_99 : decode cX9_init 99 = .ok (.putfield 44, 3) := by decide +kernel
theorem dX9_init_102 : decode cX9_init 102 = .ok (.aload_n 0, 1) := by decide +kernel
theorem dX9_init_103 : decode cX9_init 103 = .ok (.sipush 3000, 3) := by decide +kernel
theorem dX9_init_106 : decode cX9_init 106 = .ok (.newarray .int, 2) := by decide +kernel
theorem dX9_init_108 : decode cX9_init 108 = .ok (.putfield 48, 3) := by decide +kernel
theorem dX9_init_111 : decode cX9_init 111 = .ok (.aload_n 0, 1) := by decide +kernel
theorem dX9_init_112 : decode cX9_init 112 = .ok (.bipush 50, 2) := by decide +kernel
theorem dX9_init_114 : decode cX9_init 114 = .ok (.newarray .int, 2) := by decide +kernel
theorem dX9_init_116 : decode cX9_init 116 = .ok (.putfield 51, 3) := by decide +kernel
theorem dX9_init_119 : decode cX9_init 119 = .ok (.aload_n 0, 1) := by decide +kernel
theorem dX9_init_120 : decode cX9_init 120 = .ok (.bipush 60, 2) := by decide +kernel
theorem dX9_init_122 : decode cX9_init 122 = .ok (.newarray .int, 2) := by decide +kernel
theorem dX9_init_124 : decode cX9_init 124 = .ok (.putfield 54, 3) := by decide +kernel
theorem dX9_init_127 : decode cX9_init 127 = .ok (.aload_n 0, 1) := by decide +kernel
theorem dX9_init_128 : decode cX9_init 128 = .ok (.sipush 13000, 3) := by decide +kernel
theorem dX9_init_131 : decode cX9_init 131 = .ok (.newarray .int, 2) := by decide +kernel
theorem dX9_init_133 : decode cX9_init 133 = .ok (.putfield 57, 3) := by decide +kernel
theorem dX9_init_136 : decode cX9_init 136 = .ok (.aload_n 0, 1) := by decide +kernel
theorem dX9_init_137 : decode cX9_init 137 = .ok (.sipush 13000, 3) := by decide +kernel
theorem dX9_init_140 : decode cX9_init 140 = .ok (.newarray .int, 2) := by decide +kernel
theorem dX9_init_142 : decode cX9_init 142 = .ok (.putfield 60, 3) := by decide +kernel
theorem dX9_init_145 : decode cX9_init 145 = .ok (.aload_n 0, 1) := by decide +kernel
theorem dX9_init_146 : decode cX9_init 146 = .ok (.sipush 13000, 3) := by decide +kernel
theorem dX9_init_149 : decode cX9_init 149 = .ok (.newarray .int, 2) := by decide +kernel
theorem dX9_init_151 : decode cX9_init 151 = .ok (.putfield 63, 3) := by decide +kernel
theorem dX9_init_154 : decode cX9_init 154 = .ok (.aload_n 0, 1) := by decide +kernel
theorem dX9_init_155 : decode cX9_init 155 = .ok (.sipush 13000, 3) := by decide +kernel
theorem dX9_init_158 : decode cX9_init 158 = .ok (.newarray .int, 2) := by decide +kernel
theorem dX9_init_160 : decode cX9_init 160 = .ok (.putfield 66, 3) := by decide +kernel
theorem dX9_init_163 : decode cX9_init 163 = .ok (.aload_n 0, 1) := by decide +kernel
theorem dX9_init_164 : decode cX9_init 164 = .ok (.sipush 7000, 3) := by decide +kernel
theorem dX9_init_167 : decode cX9_init 167 = .ok (.newarray .int, 2) := by decide +kernel
theorem dX9_init_169 : decode cX9_init 169 = .ok (.putfield 69, 3) := by decide +kernel
theorem dX9_init_172 : decode cX9_init 172 = .ok (.aload_n 0, 1) := by decide +kernel
theorem dX9_init_173 : decode cX9_init 173 = .ok (.sipush 7000, 3) := by decide +kernel
theorem dX9_init_176 : decode cX9_init 176 = .ok (.newarray .int, 2) := by decide +kernel
theorem dX9_init_178 : decode cX9_init 178 = .ok (.putfield 72, 3) := by decide +kernel
theorem dX9_init_181 : decode cX9_init 181 = .ok (.aload_n 0, 1) := by decide +kernel
theorem dX9_init_182 : decode cX9_init 182 = .ok (.sipush 7000, 3) := by decide +kernel
theorem dX9_init_185 : decode cX9_init 185 = .ok (.newarray .int, 2) := by decide +kernel
theorem dX9_init_187 : decode cX9_init 187 = .ok (.putfield 75, 3) := by decide +kernel
theorem dX9_init_190 : decode cX9_init 190 = .ok (.aload_n 0, 1) := by decide +kernel
theorem dX9_init_191 : decode cX9_init 191 = .ok (.sipush 7000, 3) := by decide +kernel
theorem dX9_init_194 : decode cX9_init 194 = .ok (.newarray .int, 2) := by decide +kernel
theorem dX9_init_196 : decode cX9_init 196 = .ok (.putfield 78, 3) := by decide +kernel
theorem dX9_init_199 : decode cX9_init 199 = .ok (.aload_n 0, 1) := by decide +kernel
theorem dX9_init_200 : decode cX9_init 200 = .ok (.sipush 7000, 3) := by decide +kernel
theorem dX9_init_203 : decode cX9_init 203 = .ok (.newarray .int, 2) := by decide +kernel
theorem dX9_init_205 : decode cX9_init 205 = .ok (.putfield 81, 3) := by decide +kernel
theorem dX9_init_208 : decode cX9_init 208 = .ok (.aload_n 0, 1) := by decide +kernel
theorem dX9_init_209 : decode cX9_init 209 = .ok (.sipush 7000, 3) := by decide +kernel
theorem dX9_init_212 : decode cX9_init 212 = .ok (.newarray .int, 2) := by decide +kernel
theorem dX9_init_214 : decode cX9_init 214 = .ok (.putfield 84, 3) := by decide +kernel
theorem dX9_init_217 : decode cX9_init 217 = .ok (.aload_n 0, 1) := by decide +kernel
theorem dX9_init_218 : decode cX9_init 218 = .ok (.sipush 4000, 3) := by decide +kernel
theorem dX9_init_221 : decode cX9_init 221 = .ok (.newarray .int, 2) := by decide +kernel
theorem dX9_init_223 : decode cX9_init 223 = .ok (.putfield 87, 3) := by decide +kernel
theorem dX9_init_226 : decode cX9_init 226 = .ok (.aload_n 0, 1) := by decide +kernel
theorem dX9_init_227 : decode cX9_init 227 = .ok (.sipush 4000, 3) := by decide +kernel
theorem dX9_init_230 : decode cX9_init 230 = .ok (.newarray .int, 2) := by decide +kernel
theorem dX9_init_232 : decode cX9_init 232 = .ok (.putfield 90, 3) := by decide +kernel
theorem dX9_init_235 : decode cX9_init 235 = .ok (.aload_n 0, 1) := by decide +kernel
theorem dX9_init_236 : decode cX9_init 236 = .ok (.sipush 4000, 3) := by decide +kernel
theorem dX9_init_239 : decode cX9_init 239 = .ok (.newarray .int, 2) := by decide +kernel
theorem dX9_init_241 : decode cX9_init 241 = .ok (.putfield 93, 3) := by decide +kernel
theorem dX9_init_244 : decode cX9_init 244 = .ok (.aload_n 0, 1) := by decide +kernel
theorem dX9_init_245 : decode cX9_init 245 = .ok (.bipush 40, 2) := by decide +kernel
theorem dX9_init_247 : decode cX9_init 247 = .ok (.newarray .char, 2) := by decide +kernel
theorem dX9_init_249 : decode cX9_init 249 = .ok (.putfield 96, 3) := by decide +kernel
theorem dX9_init_252 : decode cX9_init 252 = .ok (.aload_n 0, 1) := by decide +kernel
theorem dX9_init_253 : decode cX9_init 253 = .ok (.bipush 40, 2) := by decide +kernel
theorem dX9_init_255 : decode cX9_init 255 = .ok (.newarray .int, 2) := by decide +kernel
theorem dX9_init_257 : decode cX9_init 257 = .ok (.putfield 99, 3) := by decide +kernel
theorem dX9_init_260 : decode cX9_init 260 = .ok (.aload_n 0, 1) := by decide +kernel
theorem dX9_init_261 : decode cX9_init 261 = .ok (.bipush 40, 2) := by decide +kernel
theorem dX9_init_263 : decode cX9_init 263 = .ok (.newarray .int, 2) := by decide +kernel
theorem dX9_init_265 : decode cX9_init 265 = .ok (.putfield 102, 3) := by decide +kernel
theorem dX9_init_268 : decode cX9_init 268 = .ok (.aload_n 0, 1) := by decide +kernel
theorem dX9_init_269 : decode cX9_init 269 = .ok (.bipush 40, 2) := by decide +kernel
theorem dX9_init_271 : decode cX9_init 271 = .ok (.newarray .int, 2) := by decide +kernel
theorem dX9_init_273 : decode cX9_init 273 = .ok (.putfield 105, 3) := by decide +kernel
theorem dX9_init_276 : decode cX9_init 276 = .ok (.aload_n 0, 1) := by decide +kernel
theorem dX9_init_277 : decode cX9_init 277 = .ok (.bipush 40, 2) := by decide +kernel
theorem dX9_init_279 : decode cX9_init 279 = .ok (.newarray .int, 2) := by decide +kernel
theorem dX9_init_281 : decode cX9_init 281 = .ok (.putfield 108, 3) := by decide +kernel
theorem dX9_init_284 : decode cX9_init 284 = .ok (.aload_n 0, 1) := by decide +kernel
theorem dX9_init_285 : decode cX9_init 285 = .ok (.bipush 40, 2) := by decide +kernel
theorem dX9_init_287 : decode cX9_init 287 = .ok (.newarray .int, 2) := by decide +kernel
theorem dX9_init_289 : decode cX9_init 289 = .ok (.putfield 111, 3) := by decide +kernel
theorem dX9_init_292 : decode cX9_init 292 = .ok (.aload_n 0, 1) := by decide +kernel
theorem dX9_init_293 : decode cX9_init 293 = .ok (.iconst 5, 1) := by decide +kernel
theorem dX9_init_294 : decode cX9_init 294 = .ok (.newarray .boolean, 2) := by decide +kernel
theorem dX9_init_296 : decode cX9_init 296 = .ok (.putfield 114, 3) := by decide +kernel
theorem dX9_init_299 : decode cX9_init 299 = .ok (.aload_n 0, 1) := by decide +kernel
theorem dX9_init_300 : decode cX9_init 300 = .ok (.iconst 5, 1) := by decide +kernel
theorem dX9_init_301 : decode cX9_init 301 = .ok (.newarray .int, 2) := by decide +kernel
theorem dX9_init_303 : decode cX9_init 303 = .ok (.putfield 117, 3) := by decide +kernel
theorem dX9_init_306 : decode cX9_init 306 = .ok (.aload_n 0, 1) := by decide +kernel
theorem dX9_init_307 : decode cX9_init 307 = .ok (.iconst 5, 1) := by decide +kernel
theorem dX9_init_308 : decode cX9_init 308 = .ok (.newarray .int, 2) := by decide +kernel
theorem dX9_init_310 : decode cX9_init 310 = .ok (.putfield 120, 3) := by decide +kernel
theorem dX9_init_313 : decode cX9_init 313 = .ok (.aload_n 0, 1) := by decide +kernel
theorem dX9_init_314 : decode cX9_init 314 = .ok (.iconst 5, 1) := by decide +kernel
theorem dX9_init_315 : decode cX9_init 315 = .ok (.newarray .int, 2) := by decide +kernel
theorem dX9_init_317 : decode cX9_init 317 = .ok (.putfield 123, 3) := by decide +kernel
theorem dX9_init_320 : decode cX9_init 320 = .ok (.aload_n 0, 1) := by decide +kernel
theorem dX9_init_321 : decode cX9_init 321 = .ok (.iconst 5, 1) := by decide +kernel
theorem dX9_init_322 : decode cX9_init 322 = .ok (.newarray .int, 2) := by decide +kernel
theorem dX9_init_324 : decode cX9_init 324 = .ok (.putfield 126, 3) := by decide +kernel
theorem dX9_init_327 : decode cX9_init 327 = .ok (.aload_n 0, 1) := by decide +kernel
theorem dX9_init_328 : decode cX9_init 328 = .ok (.bipush 40, 2) := by decide +kernel
theorem dX9_init_330 : decode cX9_init 330 = .ok (.newarray .int, 2) := by decide +kernel
theorem dX9_init_332 : decode cX9_init 332 = .ok (.putfield 129, 3) := by decide +kernel
theorem dX9_init_335 : decode cX9_init 335 = .ok (.aload_n 0, 1) := by decide +kernel
theorem dX9_init_336 : decode cX9_init 336 = .ok (.bipush 40, 2) := by decide +kernel
theorem dX9_init_338 : decode cX9_init 338 = .ok (.newarray .int, 2) := by decide +kernel
theorem dX9_init_340 : decode cX9_init 340 = .ok (.putfield 132, 3) := by decide +kernel
theorem dX9_init_343 : decode cX9_init 343 = .ok (.aload_n 0, 1) := by decide +kernel
theorem dX9_init_344 : decode cX9_init 344 = .ok (.bipush 10, 2) := by decide +kernel
theorem dX9_init_346 : decode cX9_init 346 = .ok (.newarray .int, 2) := by decide +kernel
theorem dX9_init_348 : decode cX9_init 348 = .ok (.putfield 135, 3) := by decide +kernel
theorem dX9_init_351 : decode cX9_init 351 = .ok (.aload_n 0, 1) := by decide +kernel
theorem dX9_init_352 : decode cX9_init 352 = .ok (.bipush 10, 2) := by decide +kernel
theorem dX9_init_354 : decode cX9_init 354 = .ok (.newarray .int, 2) := by decide +kernel
theorem dX9_init_356 : decode cX9_init 356 = .ok (.putfield 138, 3) := by decide +kernel
theorem dX9_init_359 : decode cX9_init 359 = .ok (.aload_n 0, 1) := by decide +kernel
theorem dX9_init_360 : decode cX9_init 360 = .ok (.sipush 1800, 3) := by decide +kernel
theorem dX9_init_363 : decode cX9_init 363 = .ok (.newarray .int, 2) := by decide +kernel
theorem dX9_init_365 : decode cX9_init 365 = .ok (.putfield 141, 3) := by decide +kernel
theorem dX9_init_368 : decode cX9_init 368 = .ok (.aload_n 0, 1) := by decide +kernel
theorem dX9_init_369 : decode cX9_init 369 = .ok (.bipush 30, 2) := by decide +kernel
theorem dX9_init_371 : decode cX9_init 371 = .ok (.newarray .int, 2) := by decide +kernel
theorem dX9_init_373 : decode cX9_init 373 = .ok (.putfield 144, 3) := by decide +kernel
theorem dX9_init_376 : decode cX9_init 376 = .ok (.aload_n 0, 1) := by decide +kernel
theorem dX9_init_377 : decode cX9_init 377 = .ok (.bipush 60, 2) := by decide +kernel
theorem dX9_init_379 : decode cX9_init 379 = .ok (.newarray .int, 2) := by decide +kernel
theorem dX9_init_381 : decode cX9_init 381 = .ok (.putfield 147, 3) := by decide +kernel
theorem dX9_init_384 : decode cX9_init 384 = .ok (.aload_n 0, 1) := by decide +kernel
theorem dX9_init_385 : decode cX9_init 385 = .ok (.sipush 1560, 3) := by decide +kernel
theorem dX9_init_388 : decode cX9_init 388 = .ok (.newarray .int, 2) := by decide +kernel
theorem dX9_init_390 : decode cX9_init 390 = .ok (.putfield 150, 3) := by decide +kernel
theorem dX9_init_393 : decode cX9_init 393 = .ok (.aload_n 0, 1) := by decide +kernel
theorem dX9_init_394 : decode cX9_init 394 = .ok (.bipush 26, 2) := by decide +kernel
theorem dX9_init_396 : decode cX9_init 396 = .ok (.newarray .int, 2) := by decide +kernel
theorem dX9_init_398 : decode cX9_init 398 = .ok (.putfield 153, 3) := by decide +kernel
theorem dX9_init_401 : decode cX9_init 401 = .ok (.aload_n 0, 1) := by decide +kernel
theorem dX9_init_402 : decode cX9_init 402 = .ok (.sipush 200, 3) := by decide +kernel
theorem dX9_init_405 : decode cX9_init 405 = .ok (.newarray .int, 2) := by decide +kernel
theorem dX9_init_407 : decode cX9_init 407 = .ok (.putfield 156, 3) := by decide +kernel
theorem dX9_init_410 : decode cX9_init 410 = .ok (.return_, 1) := by decide +kernel
theorem dX9_thrown_0 : decode cX9_thrown 0 = .ok (.aload_n 0, 1) := by decide +kernel
theorem dX9_thrown_1 : decode cX9_thrown 1 = .ok (.getfield 159, 3) := by decide +kernel
theorem dX9_thrown_4 : decode cX9_thrown 4 = .ok (.ireturn, 1) := by decide +kernel
theorem dX9_in_0 : decode cX9_in 0 = .ok (.lload_n 0, 1) := by decide +kernel
theorem dX9_in_1 : decode cX9_in 1 = .ok (.lload_n 2, 1) := by decide +kernel
theorem dX9_in_2 : decode cX9_in 2 = .ok (.lcmp, 1) := by decide +kernel
theorem dX9_in_3 : decode cX9_in 3 = .ok (.ifCond .lt 14, 3) := by decide +kernel
theorem dX9_in_6 : decode cX9_in 6 = .ok (.lload_n 0, 1) := by decide +kernel
theorem dX9_in_7 : decode cX9_in 7 = .ok (.lload 4, 2) := by decide +kernel
theorem dX9_in_9 : decode cX9_in 9 = .ok (.lcmp, 1) := by decide +kernel
theorem dX9_in_10 : decode cX9_in 10 = .ok (.ifCond .gt 7, 3) := by decide +kernel
theorem dX9_in_13 : decode cX9_in 13 = .ok (.iconst 1, 1) := by decide +kernel
theorem dX9_in_14 : decode cX9_in 14 = .ok (.goto 4, 3) := by decide +kernel
theorem dX9_in_17 : decode cX9_in 17 = .ok (.iconst 0, 1) := by decide +kernel
theorem dX9_in_18 : decode cX9_in 18 = .ok (.ireturn, 1) := by decide +kernel
theorem dX9_fails_0 : decode cX9_fails 0 = .ok (.aload_n 0, 1) := by decide +kernel
theorem dX9_fails_1 : decode cX9_fails 1 = .ok (.getfield 159, 3) := by decide +kernel
theorem dX9_fails_4 : decode cX9_fails 4 = .ok (.ifCond .ne 12, 3) := by decide +kernel
theorem dX9_fails_7 : decode cX9_fails 7 = .ok (.iload_n 1, 1) := by decide +kernel
theorem dX9_fails_8 : decode cX9_fails 8 = .ok (.ifCond .eq 8, 3) := by decide +kernel
theorem dX9_fails_11 : decode cX9_fails 11 = .ok (.aload_n 0, 1) := by decide +kernel
theorem dX9_fails_12 : decode cX9_fails 12 = .ok (.iload_n 2, 1) := by decide +kernel
theorem dX9_fails_13 : decode cX9_fails 13 = .ok (.putfield 159, 3) := by decide +kernel
theorem dX9_fails_16 : decode cX9_fails 16 = .ok (.aload_n 0, 1) := by decide +kernel
theorem dX9_fails_17 : decode cX9_fails 17 = .ok (.getfield 159, 3) := by decide +kernel
theorem dX9_fails_20 : decode cX9_fails 20 = .ok (.ifCond .le 7, 3) := by decide +kernel
theorem dX9_fails_23 : decode cX9_fails 23 = .ok (.iconst 1, 1) := by decide +kernel
theorem dX9_fails_24 : decode cX9_fails 24 = .ok (.goto 4, 3) := by decide +kernel
theorem dX9_fails_27 : decode cX9_fails 27 = .ok (.iconst 0, 1) := by decide +kernel
theorem dX9_fails_28 : decode cX9_fails 28 = .ok (.ireturn, 1) := by decide +kernel
theorem dX9_type_0 : decode cX9_type 0 = .ok (.aload_n 0, 1) := by decide +kernel
theorem dX9_type_1 : decode cX9_type 1 = .ok (.iconst 0, 1) := by decide +kernel
theorem dX9_type_2 : decode cX9_type 2 = .ok (.putfield 159, 3) := by decide +kernel
theorem dX9_type_5 : decode cX9_type 5 = .ok (.aload_n 0, 1) := by decide +kernel
theorem dX9_type_6 : decode cX9_type 6 = .ok (.iload_n 1, 1) := by decide +kernel
theorem dX9_type_7 : decode cX9_type 7 = .ok (.i2l, 1) := by decide +kernel
theorem dX9_type_8 : decode cX9_type 8 = .ok (.ldc2_w 163, 3) := by decide +kernel
theorem dX9_type_11 : decode cX9_type 11 = .ok (.ldc2_w 165, 3) := by decide +kernel
theorem dX9_type_14 : decode cX9_type 14 = .ok (.invokestatic 167, 3) := by decide +kernel
theorem dX9_type_17 : decode cX9_type 17 = .ok (.ifCond .ne 21, 3) := by decide +kernel
theorem dX9_type_20 : decode cX9_type 20 = .ok (.iload_n 1, 1) := by decide +kernel
theorem dX9_type_21 : decode cX9_type 21 = .ok (.i2l, 1) := by decide +kernel
theorem dX9_type_22 : decode cX9_type 22 = .ok (.ldc2_w 171, 3) := by decide +kernel
theorem dX9_type_25 : decode cX9_type 25 = .ok (.ldc2_w 173, 3) := by decide +kernel
theorem dX9_type_28 : decode cX9_type 28 = .ok (.invokestatic 167, 3) := by decide +kernel
theorem dX9_type_31 : decode cX9_type 31 = .ok (.ifCond .ne 7, 3) := by decide +kernel
theorem dX9_type_34 : decode cX9_type 34 = .ok (.iconst 1, 1) := by decide +kernel
theorem dX9_type_35 : decode cX9_type 35 = .ok (.goto 4, 3) := by decide +kernel
theorem dX9_type_38 : decode cX9_type 38 = .ok (.iconst 0, 1) := by decide +kernel
theorem dX9_type_39 : decode cX9_type 39 = .ok (.iconst 1, 1) := by decide +kernel
theorem dX9_type_40 : decode cX9_type 40 = .ok (.invokevirtual 175, 3) := by decide +kernel
theorem dX9_type_43 : decode cX9_type 43 = .ok (.ifCond .ne 25, 3) := by decide +kernel
theorem dX9_type_46 : decode cX9_type 46 = .ok (.aload_n 0, 1) := by decide +kernel
theorem dX9_type_47 : decode cX9_type 47 = .ok (.aload_n 0, 1) := by decide +kernel
theorem dX9_type_48 : decode cX9_type 48 = .ok (.getfield 179, 3) := by decide +kernel
theorem dX9_type_51 : decode cX9_type 51 = .ok (.bipush 60, 2) := by decide +kernel
theorem dX9_type_53 : decode cX9_type 53 = .ok (.if_icmp .ne 7, 3) := by decide +kernel
theorem dX9_type_56 : decode cX9_type 56 = .ok (.iconst 1, 1) := by decide +kernel
theorem dX9_type_57 : decode cX9_type 57 = .ok (.goto 4, 3) := by decide +kernel
theorem dX9_type_60 : decode cX9_type 60 = .ok (.iconst 0, 1) := by decide +kernel
theorem dX9_type_61 : decode cX9_type 61 = .ok (.iconst 2, 1) := by decide +kernel
theorem dX9_type_62 : decode cX9_type 62 = .ok (.invokevirtual 175, 3) := by decide +kernel
theorem dX9_type_65 : decode cX9_type 65 = .ok (.ifCond .eq 5, 3) := by decide +kernel
theorem dX9_type_68 : decode cX9_type 68 = .ok (.iconst (-1), 1) := by decide +kernel
theorem dX9_type_69 : decode cX9_type 69 = .ok (.ireturn, 1) := by decide +kernel
theorem dX9_type_70 : decode cX9_type 70 = .ok (.aload_n 0, 1) := by decide +kernel
theorem dX9_type_71 : decode cX9_type 71 = .ok (.getfield 7, 3) := by decide +kernel
theorem dX9_type_74 : decode cX9_type 74 = .ok (.aload_n 0, 1) := by decide +kernel
theorem dX9_type_75 : decode cX9_type 75 = .ok (.getfield 179, 3) := by decide +kernel
theorem dX9_type_78 : decode cX9_type 78 = .ok (.iload_n 1, 1) := by decide +kernel
theorem dX9_type_79 : decode cX9_type 79 = .ok (.iastore, 1) := by decide +kernel
theorem dX9_type_80 : decode cX9_type 80 = .ok (.aload_n 0, 1) := by decide +kernel
theorem dX9_type_81 : decode cX9_type 81 = .ok (.dup, 1) := by decide +kernel
theorem dX9_type_82 : decode cX9_type 82 = .ok (.getfield 179, 3) := by decide +kernel
theorem dX9_type_85 : decode cX9_type 85 = .ok (.iconst 1, 1) := by decide +kernel
theorem dX9_type_86 : decode cX9_type 86 = .ok (.iadd, 1) := by decide +kernel
theorem dX9_type_87 : decode cX9_type 87 = .ok (.putfield 179, 3) := by decide +kernel
theorem dX9_type_90 : decode cX9_type 90 = .ok (.aload_n 0, 1) := by decide +kernel
theorem dX9_type_91 : decode cX9_type 91 = .ok (.getfield 179, 3) := by decide +kernel
theorem dX9_type_94 : decode cX9_type 94 = .ok (.ireturn, 1) := by decide +kernel
theorem dX9_wipe_0 : decode cX9_wipe 0 = .ok (.aload_n 0, 1) := by decide +kernel
theorem dX9_wipe_1 : decode cX9_wipe 1 = .ok (.iconst 0, 1) := by decide +kernel
theorem dX9_wipe_2 : decode cX9_wipe 2 = .ok (.putfield 159, 3) := by decide +kernel
theorem dX9_wipe_5 : decode cX9_wipe 5 = .ok (.aload_n 0, 1) := by decide +kernel
theorem dX9_wipe_6 : decode cX9_wipe 6 = .ok (.getfield 179, 3) := by decide +kernel
theorem dX9_wipe_9 : decode cX9_wipe 9 = .ok (.istore_n 1, 1) := by decide +kernel
theorem dX9_wipe_10 : decode cX9_wipe 10 = .ok (.aload_n 0, 1) := by decide +kernel
theorem dX9_wipe_11 : decode cX9_wipe 11 = .ok (.iconst 0, 1) := by decide +kernel
theorem dX9_wipe_12 : decode cX9_wipe 12 = .ok (.putfield 179, 3) := by decide +kernel
theorem dX9_wipe_15 : decode cX9_wipe 15 = .ok (.iload_n 1, 1) := by decide +kernel
theorem dX9_wipe_16 : decode cX9_wipe 16 = .ok (.ireturn, 1) := by decide +kernel
theorem dX9_text_0 : decode cX9_text 0 = .ok (.aload_n 0, 1) := by decide +kernel
theorem dX9_text_1 : decode cX9_text 1 = .ok (.iconst 0, 1) := by decide +kernel
theorem dX9_text_2 : decode cX9_text 2 = .ok (.putfield 159, 3) := by decide +kernel
theorem dX9_text_5 : decode cX9_text 5 = .ok (.aload_n 0, 1) := by decide +kernel
theorem dX9_text_6 : decode cX9_text 6 = .ok (.aload_n 0, 1) := by decide +kernel
theorem dX9_text_7 : decode cX9_text 7 = .ok (.getfield 179, 3) := by decide +kernel
theorem dX9_text_10 : decode cX9_text 10 = .ok (.bipush 20, 2) := by decide +kernel
theorem dX9_text_12 : decode cX9_text 12 = .ok (.if_icmp .le 7, 3) := by decide +kernel
theorem dX9_text_15 : decode cX9_text 15 = .ok (.iconst 1, 1) := by decide +kernel
theorem dX9_text_16 : decode cX9_text 16 = .ok (.goto 4, 3) := by decide +kernel
theorem dX9_text_19 : decode cX9_text 19 = .ok (.iconst 0, 1) := by decide +kernel
theorem dX9_text_20 : decode cX9_text 20 = .ok (.iconst 1, 1) := by decide +kernel
theorem dX9_text_21 : decode cX9_text 21 = .ok (.invokevirtual 175, 3) := by decide +kernel
theorem dX9_text_24 : decode cX9_text 24 = .ok (.ifCond .ne 25, 3) := by decide +kernel
theorem dX9_text_27 : decode cX9_text 27 = .ok (.aload_n 0, 1) := by decide +kernel
theorem dX9_text_28 : decode cX9_text 28 = .ok (.aload_n 0, 1) := by decide +kernel
theorem dX9_text_29 : decode cX9_text 29 = .ok (.getfield 182, 3) := by decide +kernel
theorem dX9_text_32 : decode cX9_text 32 = .ok (.bipush 30, 2) := by decide +kernel
theorem dX9_text_34 : decode cX9_text 34 = .ok (.if_icmp .ne 7, 3) := by decide +kernel
theorem dX9_text_37 : decode cX9_text 37 = .ok (.iconst 1, 1) := by decide +kernel
theorem dX9_text_38 : decode cX9_text 38 = .ok (.goto 4, 3) := by decide +kernel
theorem dX9_text_41 : decode cX9_text 41 = .ok (.iconst 0, 1) := by decide +kernel
theorem dX9_text_42 : decode cX9_text 42 = .ok (.iconst 2, 1) := by decide +kernel
theorem dX9_text_43 : decode cX9_text 43 = .ok (.invokevirtual 175, 3) := by decide +kernel
theorem dX9_text_46 : decode cX9_text 46 = .ok (.ifCond .eq 5, 3) := by decide +kernel
theorem dX9_text_49 : decode cX9_text 49 = .ok (.iconst (-1), 1) := by decide +kernel
theorem dX9_text_50 : decode cX9_text 50 = .ok (.ireturn, 1) := by decide +kernel
theorem dX9_text_51 : decode cX9_text 51 = .ok (.iconst 0, 1) := by decide +kernel
theorem dX9_text_52 : decode cX9_text 52 = .ok (.istore_n 1, 1) := by decide +kernel
theorem dX9_text_53 : decode cX9_text 53 = .ok (.iload_n 1, 1) := by decide +kernel
theorem dX9_text_54 : decode cX9_text 54 = .ok (.aload_n 0, 1) := by decide +kernel
theorem dX9_text_55 : decode cX9_text 55 = .ok (.getfield 179, 3) := by decide +kernel
theorem dX9_text_58 : decode cX9_text 58 = .ok (.if_icmp .ge 29, 3) := by decide +kernel
theorem dX9_text_61 : decode cX9_text 61 = .ok (.aload_n 0, 1) := by decide +kernel
theorem dX9_text_62 : decode cX9_text 62 = .ok (.getfield 13, 3) := by decide +kernel
theorem dX9_text_65 : decode cX9_text 65 = .ok (.bipush 20, 2) := by decide +kernel
theorem dX9_text_67 : decode cX9_text 67 = .ok (.aload_n 0, 1) := by decide +kernel
theorem dX9_text_68 : decode cX9_text 68 = .ok (.getfield 182, 3) := by decide +kernel
theorem dX9_text_71 : decode cX9_text 71 = .ok (.imul, 1) := by decide +kernel
theorem dX9_text_72 : decode cX9_text 72 = .ok (.iload_n 1, 1) := by decide +kernel
theorem dX9_text_73 : decode cX9_text 73 = .ok (.iadd, 1) := by decide +kernel
theorem dX9_text_74 : decode cX9_text 74 = .ok (.aload_n 0, 1) := by decide +kernel
theorem dX9_text_75 : decode cX9_text 75 = .ok (.getfield 7, 3) := by decide +kernel
theorem dX9_text_78 : decode cX9_text 78 = .ok (.iload_n 1, 1) := by decide +kernel
theorem dX9_text_79 : decode cX9_text 79 = .ok (.iaload, 1) := by decide +kernel
theorem dX9_text_80 : decode cX9_text 80 = .ok (.iastore, 1) := by decide +kernel
theorem dX9_text_81 : decode cX9_text 81 = .ok (.iinc 1 1, 3) := by decide +kernel
theorem dX9_text_84 : decode cX9_text 84 = .ok (.goto (-31), 3) := by decide +kernel
theorem dX9_text_87 : decode cX9_text 87 = .ok (.aload_n 0, 1) := by decide +kernel
theorem dX9_text_88 : decode cX9_text 88 = .ok (.getfield 16, 3) := by decide +kernel
theorem dX9_text_91 : decode cX9_text 91 = .ok (.aload_n 0, 1) := by decide +kernel
theorem dX9_text_92 : decode cX9_text 92 = .ok (.getfield 182, 3) := by decide +kernel
theorem dX9_text_95 : decode cX9_text 95 = .ok (.aload_n 0, 1) := by decide +kernel
theorem dX9_text_96 : decode cX9_text 96 = .ok (.getfield 179, 3) := by decide +kernel
theorem dX9_text_99 : decode cX9_text 99 = .ok (.iastore, 1) := by decide +kernel
theorem dX9_text_100 : decode cX9_text 100 = .ok (.aload_n 0, 1) := by decide +kernel
theorem dX9_text_101 : decode cX9_text 101 = .ok (.iconst 0, 1) := by decide +kernel
theorem dX9_text_102 : decode cX9_text 102 = .ok (.putfield 179, 3) := by decide +kernel
theorem dX9_text_105 : decode cX9_text 105 = .ok (.aload_n 0, 1) := by decide +kernel
theorem dX9_text_106 : decode cX9_text 106 = .ok (.dup, 1) := by decide +kernel
theorem dX9_text_107 : decode cX9_text 107 = .ok (.getfield 182, 3) := by decide +kernel
theorem dX9_text_110 : decode cX9_text 110 = .ok (.iconst 1, 1) := by decide +kernel
theorem dX9_text_111 : decode cX9_text 111 = .ok (.iadd, 1) := by decide +kernel
theorem dX9_text_112 : decode cX9_text 112 = .ok (.putfield 182, 3) := by decide +kernel
theorem dX9_text_115 : decode cX9_text 115 = .ok (.aload_n 0, 1) := by decide +kernel
theorem dX9_text_116 : decode cX9_text 116 = .ok (.getfield 182, 3) := by decide +kernel
theorem dX9_text_119 : decode cX9_text 119 = .ok (.iconst 1, 1) := by decide +kernel
theorem dX9_text_120 : decode cX9_text 120 = .ok (.isub, 1) := by decide +kernel
theorem dX9_text_121 : decode cX9_text 121 = .ok (.ireturn, 1) := by decide +kernel
theorem dX9_isVariable_0 : decode cX9_isVariable 0 = .ok (.iload_n 0, 1) := by decide +kernel
theorem dX9_isVariable_1 : decode cX9_isVariable 1 = .ok (.i2l, 1) := by decide +kernel
theorem dX9_isVariable_2 : decode cX9_isVariable 2 = .ok (.lconst 0, 1) := by decide +kernel
theorem dX9_isVariable_3 : decode cX9_isVariable 3 = .ok (.ldc2_w 185, 3) := by decide +kernel
theorem dX9_isVariable_6 : decode cX9_isVariable 6 = .ok (.invokestatic 167, 3) := by decide +kernel
theorem dX9_isVariable_9 : decode cX9_isVariable 9 = .ok (.ireturn, 1) := by decide +kernel
theorem dX9_set_0 : decode cX9_set 0 = .ok (.aload_n 0, 1) := by decide +kernel
theorem dX9_set_1 : decode cX9_set 1 = .ok (.iconst 0, 1) := by decide +kernel
theorem dX9_set_2 : decode cX9_set 2 = .ok (.putfield 159, 3) := by decide +kernel
theorem dX9_set_5 : decode cX9_set 5 = .ok (.aload_n 0, 1) := by decide +kernel
theorem dX9_set_6 : decode cX9_set 6 = .ok (.iload_n 1, 1) := by decide +kernel
theorem dX9_set_7 : decode cX9_set 7 = .ok (.invokestatic 187, 3) := by decide +kernel
theorem dX9_set_10 : decode cX9_set 10 = .ok (.ifCond .ne 7, 3) := by decide +kernel
theorem dX9_set_13 : decode cX9_set 13 = .ok (.iconst 1, 1) := by decide +kernel
theorem dX9_set_14 : decode cX9_set 14 = .ok (.goto 4, 3) := by decide +kernel
theorem dX9_set_17 : decode cX9_set 17 = .ok (.iconst 0, 1) := by decide +kernel
theorem dX9_set_18 : decode cX9_set 18 = .ok (.iconst 1, 1) := by decide +kernel
theorem dX9_set_19 : decode cX9_set 19 = .ok (.invokevirtual 175, 3) := by decide +kernel
theorem dX9_set_22 : decode cX9_set 22 = .ok (.ifCond .eq 5, 3) := by decide +kernel
theorem dX9_set_25 : decode cX9_set 25 = .ok (.iconst (-1), 1) := by decide +kernel
theorem dX9_set_26 : decode cX9_set 26 = .ok (.ireturn, 1) := by decide +kernel
theorem dX9_set_27 : decode cX9_set 27 = .ok (.aload_n 0, 1) := by decide +kernel
theorem dX9_set_28 : decode cX9_set 28 = .ok (.getfield 22, 3) := by decide +kernel
theorem dX9_set_31 : decode cX9_set 31 = .ok (.iload_n 1, 1) := by decide +kernel
theorem dX9_set_32 : decode cX9_set 32 = .ok (.iaload, 1) := by decide +kernel
theorem dX9_set_33 : decode cX9_set 33 = .ok (.istore_n 2, 1) := by decide +kernel
theorem dX9_set_34 : decode cX9_set 34 = .ok (.iconst 0, 1) := by decide +kernel
theorem dX9_set_35 : decode cX9_set 35 = .ok (.istore_n 3, 1) := by decide +kernel
theorem dX9_set_36 : decode cX9_set 36 = .ok (.iload_n 3, 1) := by decide +kernel
theorem dX9_set_37 : decode cX9_set 37 = .ok (.aload_n 0, 1) := by decide +kernel
theorem dX9_set_38 : decode cX9_set 38 = .ok (.getfield 179, 3) := by decide +kernel
theorem dX9_set_41 : decode cX9_set 41 = .ok (.if_icmp .ge 26, 3) := by decide +kernel
theorem dX9_set_44 : decode cX9_set 44 = .ok (.aload_n 0, 1) := by decide +kernel
theorem dX9_set_45 : decode cX9_set 45 = .ok (.getfield 19, 3) := by decide +kernel
theorem dX9_set_48 : decode cX9_set 48 = .ok (.bipush 60, 2) := by decide +kernel
theorem dX9_set_50 : decode cX9_set 50 = .ok (.iload_n 1, 1) := by decide +kernel
theorem dX9_set_51 : decode cX9_set 51 = .ok (.imul, 1) := by decide +kernel
theorem dX9_set_52 : decode cX9_set 52 = .ok (.iload_n 3, 1) := by decide +kernel
theorem dX9_set_53 : decode cX9_set 53 = .ok (.iadd, 1) := by decide +kernel
theorem dX9_set_54 : decode cX9_set 54 = .ok (.aload_n 0, 1) := by decide +kernel
theorem dX9_set_55 : decode cX9_set 55 = .ok (.getfield 7, 3) := by decide +kernel
theorem dX9_set_58 : decode cX9_set 58 = .ok (.iload_n 3, 1) := by decide +kernel
theorem dX9_set_59 : decode cX9_set 59 = .ok (.iaload, 1) := by decide +kernel
theorem dX9_set_60 : decode cX9_set 60 = .ok (.iastore, 1) := by decide +kernel
theorem dX9_set_61 : decode cX9_set 61 = .ok (.iinc 3 1, 3) := by decide +kernel
theorem dX9_set_64 : decode cX9_set 64 = .ok (.goto (-28), 3) := by decide +kernel
theorem dX9_set_67 : decode cX9_set 67 = .ok (.aload_n 0, 1) := by decide +kernel
theorem dX9_set_68 : decode cX9_set 68 = .ok (.getfield 22, 3) := by decide +kernel
theorem dX9_set_71 : decode cX9_set 71 = .ok (.iload_n 1, 1) := by decide +kernel
theorem dX9_set_72 : decode cX9_set 72 = .ok (.aload_n 0, 1) := by decide +kernel
theorem dX9_set_73 : decode cX9_set 73 = .ok (.getfield 179, 3) := by decide +kernel
theorem dX9_set_76 : decode cX9_set 76 = .ok (.iastore, 1) := by decide +kernel
theorem dX9_set_77 : decode cX9_set 77 = .ok (.aload_n 0, 1) := by decide +kernel
theorem dX9_set_78 : decode cX9_set 78 = .ok (.iconst 0, 1) := by decide +kernel
theorem dX9_set_79 : decode cX9_set 79 = .ok (.putfield 179, 3) := by decide +kernel
theorem dX9_set_82 : decode cX9_set 82 = .ok (.iload_n 2, 1) := by decide +kernel
theorem dX9_set_83 : decode cX9_set 83 = .ok (.ireturn, 1) := by decide +kernel
theorem dX9_size_0 : decode cX9_size 0 = .ok (.aload_n 0, 1) := by decide +kernel
theorem dX9_size_1 : decode cX9_size 1 = .ok (.iconst 0, 1) := by decide +kernel
theorem dX9_size_2 : decode cX9_size 2 = .ok (.putfield 159, 3) := by decide +kernel
theorem dX9_size_5 : decode cX9_size 5 = .ok (.aload_n 0, 1) := by decide +kernel
theorem dX9_size_6 : decode cX9_size 6 = .ok (.iload_n 1, 1) := by decide +kernel
theorem dX9_size_7 : decode cX9_size 7 = .ok (.invokestatic 187, 3) := by decide +kernel
theorem dX9_size_10 : decode cX9_size 10 = .ok (.ifCond .ne 7, 3) := by decide +kernel
theorem dX9_size_13 : decode cX9_size 13 = .ok (.iconst 1, 1) := by decide +kernel
theorem dX9_size_14 : decode cX9_size 14 = .ok (.goto 4, 3) := by decide +kernel
theorem dX9_size_17 : decode cX9_size 17 = .ok (.iconst 0, 1) := by decide +kernel
theorem dX9_size_18 : decode cX9_size 18 = .ok (.iconst 1, 1) := by decide +kernel
theorem dX9_size_19 : decode cX9_size 19 = .ok (.invokevirtual 175, 3) := by decide +kernel
theorem dX9_size_22 : decode cX9_size 22 = .ok (.ifCond .eq 7, 3) := by decide +kernel
theorem dX9_size_25 : decode cX9_size 25 = .ok (.iconst (-1), 1) := by decide +kernel
theorem dX9_size_26 : decode cX9_size 26 = .ok (.goto 9, 3) := by decide +kernel
theorem dX9_size_29 : decode cX9_size 29 = .ok (.aload_n 0, 1) := by decide +kernel
theorem dX9_size_30 : decode cX9_size 30 = .ok (.getfield 22, 3) := by decide +kernel
theorem dX9_size_33 : decode cX9_size 33 = .ok (.iload_n 1, 1) := by decide +kernel
theorem dX9_size_34 : decode cX9_size 34 = .ok (.iaload, 1) := by decide +kernel
theorem dX9_size_35 : decode cX9_size 35 = .ok (.ireturn, 1) := by decide +kernel
theorem dX9_at_0 : decode cX9_at 0 = .ok (.aload_n 0, 1) := by decide +kernel
theorem dX9_at_1 : decode cX9_at 1 = .ok (.iconst 0, 1) := by decide +kernel
theorem dX9_at_2 : decode cX9_at 2 = .ok (.putfield 159, 3) := by decide +kernel
theorem dX9_at_5 : decode cX9_at 5 = .ok (.aload_n 0, 1) := by decide +kernel
theorem dX9_at_6 : decode cX9_at 6 = .ok (.iload_n 1, 1) := by decide +kernel
theorem dX9_at_7 : decode cX9_at 7 = .ok (.invokestatic 187, 3) := by decide +kernel
theorem dX9_at_10 : decode cX9_at 10 = .ok (.ifCond .ne 7, 3) := by decide +kernel
theorem dX9_at_13 : decode cX9_at 13 = .ok (.iconst 1, 1) := by decide +kernel
theorem dX9_at_14 : decode cX9_at 14 = .ok (.goto 4, 3) := by decide +kernel
theorem dX9_at_17 : decode cX9_at 17 = .ok (.iconst 0, 1) := by decide +kernel
theorem dX9_at_18 : decode cX9_at 18 = .ok (.iconst 1, 1) := by decide +kernel
theorem dX9_at_19 : decode cX9_at 19 = .ok (.invokevirtual 175, 3) := by decide +kernel
theorem dX9_at_22 : decode cX9_at 22 = .ok (.ifCond .ne 34, 3) := by decide +kernel
theorem dX9_at_25 : decode cX9_at 25 = .ok (.aload_n 0, 1) := by decide +kernel
theorem dX9_at_26 : decode cX9_at 26 = .ok (.iload_n 2, 1) := by decide +kernel
theorem dX9_at_27 : decode cX9_at 27 = .ok (.i2l, 1) := by decide +kernel
theorem dX9_at_28 : decode cX9_at 28 = .ok (.lconst 0, 1) := by decide +kernel
theorem dX9_at_29 : decode cX9_at 29 = .ok (.aload_n 0, 1) := by decide +kernel
theorem dX9_at_30 : decode cX9_at 30 = .ok (.getfield 22, 3) := by decide +kernel
theorem dX9_at_33 : decode cX9_at 33 = .ok (.iload_n 1, 1) := by decide +kernel
theorem dX9_at_34 : decode cX9_at 34 = .ok (.iaload, 1) := by decide +kernel
theorem dX9_at_35 : decode cX9_at 35 = .ok (.iconst 1, 1) := by decide +kernel
theorem dX9_at_36 : decode cX9_at 36 = .ok (.isub, 1) := by decide +kernel
theorem dX9_at_37 : decode cX9_at 37 = .ok (.i2l, 1) := by decide +kernel
theorem dX9_at_38 : decode cX9_at 38 = .ok (.invokestatic 167, 3) := by decide +kernel
theorem dX9_at_41 : decode cX9_at 41 = .ok (.ifCond .ne 7, 3) := by decide +kernel
theorem dX9_at_44 : decode cX9_at 44 = .ok (.iconst 1, 1) := by decide +kernel
theorem dX9_at_45 : decode cX9_at 45 = .ok (.goto 4, 3) := by decide +kernel
theorem dX9_at_48 : decode cX9_at 48 = .ok (.iconst 0, 1) := by decide +kernel
theorem dX9_at_49 : decode cX9_at 49 = .ok (.iconst 2, 1) := by decide +kernel
theorem dX9_at_50 : decode cX9_at 50 = .ok (.invokevirtual 175, 3) := by decide +kernel
theorem dX9_at_53 : decode cX9_at 53 = .ok (.ifCond .eq 5, 3) := by decide +kernel
theorem dX9_at_56 : decode cX9_at 56 = .ok (.iconst (-1), 1) := by decide +kernel
theorem dX9_at_57 : decode cX9_at 57 = .ok (.ireturn, 1) := by decide +kernel
theorem dX9_at_58 : decode cX9_at 58 = .ok (.aload_n 0, 1) := by decide +kernel
theorem dX9_at_59 : decode cX9_at 59 = .ok (.getfield 19, 3) := by decide +kernel
theorem dX9_at_62 : decode cX9_at 62 = .ok (.bipush 60, 2) := by decide +kernel
theorem dX9_at_64 : decode cX9_at 64 = .ok (.iload_n 1, 1) := by decide +kernel
theorem dX9_at_65 : decode cX9_at 65 = .ok (.imul, 1) := by decide +kernel
theorem dX9_at_66 : decode cX9_at 66 = .ok (.iload_n 2, 1) := by decide +kernel
theorem dX9_at_67 : decode cX9_at 67 = .ok (.iadd, 1) := by decide +kernel
theorem dX9_at_68 : decode cX9_at 68 = .ok (.iaload, 1) := by decide +kernel
theorem dX9_at_69 : decode cX9_at 69 = .ok (.ireturn, 1) := by decide +kernel
theorem dX9_isPattern_0 : decode cX9_isPattern 0 = .ok (.iload_n 1, 1) := by decide +kernel
theorem dX9_isPattern_1 : decode cX9_isPattern 1 = .ok (.i2l, 1) := by decide +kernel
theorem dX9_isPattern_2 : decode cX9_isPattern 2 = .ok (.lconst 0, 1) := by decide +kernel
theorem dX9_isPattern_3 : decode cX9_isPattern 3 = .ok (.aload_n 0, 1) := by decide +kernel
theorem dX9_isPattern_4 : decode cX9_isPattern 4 = .ok (.getfield 191, 3) := by decide +kernel
theorem dX9_isPattern_7 : decode cX9_isPattern 7 = .ok (.iconst 1, 1) := by decide +kernel
theorem dX9_isPattern_8 : decode cX9_isPattern 8 = .ok (.isub, 1) := by decide +kernel
theorem dX9_isPattern_9 : decode cX9_isPattern 9 = .ok (.i2l, 1) := by decide +kernel
theorem dX9_isPattern_10 : decode cX9_isPattern 10 = .ok (.invokestatic 167, 3) := by decide +kernel
theorem dX9_isPattern_13 : decode cX9_isPattern 13 = .ok (.ireturn, 1) := by decide +kernel
theorem dX9_isText_0 : decode cX9_isText 0 = .ok (.iload_n 1, 1) := by decide +kernel
theorem dX9_isText_1 : decode cX9_isText 1 = .ok (.i2l, 1) := by decide +kernel
theorem dX9_isText_2 : decode cX9_isText 2 = .ok (.lconst 0, 1) := by decide +kernel
theorem dX9_isText_3 : decode cX9_isText 3 = .ok (.aload_n 0, 1) := by decide +kernel
theorem dX9_isText_4 : decode cX9_isText 4 = .ok (.getfield 182, 3) := by decide +kernel
theorem dX9_isText_7 : decode cX9_isText 7 = .ok (.iconst 1, 1) := by decide +kernel
theorem dX9_isText_8 : decode cX9_isText 8 = .ok (.isub, 1) := by decide +kernel
theorem dX9_isText_9 : decode cX9_isText 9 = .ok (.i2l, 1) := by decide +kernel
theorem dX9_isText_10 : decode cX9_isText 10 = .ok (.invokestatic 167, 3) := by decide +kernel
theorem dX9_isText_13 : decode cX9_isText 13 = .ok (.ireturn, 1) := by decide +kernel
theorem dX9_sortOf_0 : decode cX9_sortOf 0 = .ok (.iload_n 0, 1) := by decide +kernel
theorem dX9_sortOf_1 : decode cX9_sortOf 1 = .ok (.tableswitch 391 35 124 #[379, 383, 391, 377, 391, 391, 391, 388, 391, 391, 391, 383, 391, 391, 391, 391, 391, 391, 391, 391, 391, 391, 391, 391, 391, 391, 391, 391, 391, 385, 391, 391, 391, 391, 391, 391, 391, 391, 391, 391, 391, 391, 391, 391, 391, 391, 391, 391, 391, 391, 391, 391, 391, 391, 391, 391, 391, 391, 391, 391, 391, 391, 391, 391, 391, 391, 391, 388, 381, 391, 388, 391, 375, 375, 388, 375, 375, 379, 379, 379, 375, 379, 391, 385, 391, 388, 391, 388, 391, 377], 375) := by decide +kernel
theorem dX9_sortOf_376 : decode cX9_sortOf 376 = .ok (.iconst 1, 1) := by decide +kernel
theorem dX9_sortOf_377 : decode cX9_sortOf 377 = .ok (.ireturn, 1) := by decide +kernel
theorem dX9_sortOf_378 : decode cX9_sortOf 378 = .ok (.iconst 2, 1) := by decide +kernel
theorem dX9_sortOf_379 : decode cX9_sortOf 379 = .ok (.ireturn, 1) := by decide +kernel
theorem dX9_sortOf_380 : decode cX9_sortOf 380 = .ok (.iconst 3, 1) := by decide +kernel
theorem dX9_sortOf_381 : decode cX9_sortOf 381 = .ok (.ireturn, 1) := by decide +kernel
theorem dX9_sortOf_382 : decode cX9_sortOf 382 = .ok (.iconst 4, 1) := by decide +kernel
theorem dX9_sortOf_383 : decode cX9_sortOf 383 = .ok (.ireturn, 1) := by decide +kernel
theorem dX9_sortOf_384 : decode cX9_sortOf 384 = .ok (.iconst 5, 1) := by decide +kernel
theorem dX9_sortOf_385 : decode cX9_sortOf 385 = .ok (.ireturn, 1) := by decide +kernel
theorem dX9_sortOf_386 : decode cX9_sortOf 386 = .ok (.bipush 6, 2) := by decide +kernel
theorem dX9_sortOf_388 : decode cX9_sortOf 388 = .ok (.ireturn, 1) := by decide +kernel
theorem dX9_sortOf_389 : decode cX9_sortOf 389 = .ok (.bipush 7, 2) := by decide +kernel
theorem dX9_sortOf_391 : decode cX9_sortOf 391 = .ok (.ireturn, 1) := by decide +kernel
theorem dX9_sortOf_392 : decode cX9_sortOf 392 = .ok (.iconst 0, 1) := by decide +kernel
theorem dX9_sortOf_393 : decode cX9_sortOf 393 = .ok (.ireturn, 1) := by decide +kernel
theorem dX9_pattern_0 : decode cX9_pattern 0 = .ok (.aload_n 0, 1) := by decide +kernel
theorem dX9_pattern_1 : decode cX9_pattern 1 = .ok (.iconst 0, 1) := by decide +kernel
theorem dX9_pattern_2 : decode cX9_pattern 2 = .ok (.putfield 159, 3) := by decide +kernel
theorem dX9_pattern_5 : decode cX9_pattern 5 = .ok (.iload_n 1, 1) := by decide +kernel
theorem dX9_pattern_6 : decode cX9_pattern 6 = .ok (.invokestatic 194, 3) := by decide +kernel
theorem dX9_pattern_9 : decode cX9_pattern 9 = .ok (.istore 4, 2) := by decide +kernel
theorem dX9_pattern_11 : decode cX9_pattern 11 = .ok (.iload 4, 2) := by decide +kernel
theorem dX9_pattern_13 : decode cX9_pattern 13 = .ok (.bipush 7, 2) := by decide +kernel
theorem dX9_pattern_15 : decode cX9_pattern 15 = .ok (.if_icmp .eq 114, 3) := by decide +kernel
theorem dX9_pattern_18 : decode cX9_pattern 18 = .ok (.iload 4, 2) := by decide +kernel
theorem dX9_pattern_20 : decode cX9_pattern 20 = .ok (.iconst 1, 1) := by decide +kernel
theorem dX9_pattern_21 : decode cX9_pattern 21 = .ok (.if_icmp .ne 14, 3) := by decide +kernel
theorem dX9_pattern_24 : decode cX9_pattern 24 = .ok (.aload_n 0, 1) := by decide +kernel
theorem dX9_pattern_25 : decode cX9_pattern 25 = .ok (.iload_n 2, 1) := by decide +kernel
theorem dX9_pattern_26 : decode cX9_pattern 26 = .ok (.invokevirtual 198, 3) := by decide +kernel
theorem dX9_pattern_29 : decode cX9_pattern 29 = .ok (.ifCond .eq 104, 3) := by decide +kernel
theorem dX9_pattern_32 : decode cX9_pattern 32 = .ok (.goto 97, 3) := by decide +kernel
theorem dX9_pattern_35 : decode cX9_pattern 35 = .ok (.iload 4, 2) := by decide +kernel
theorem dX9_pattern_37 : decode cX9_pattern 37 = .ok (.iconst 2, 1) := by decide +kernel
theorem dX9_pattern_38 : decode cX9_pattern 38 = .ok (.if_icmp .ne 22, 3) := by decide +kernel
theorem dX9_pattern_41 : decode cX9_pattern 41 = .ok (.aload_n 0, 1) := by decide +kernel
theorem dX9_pattern_42 : decode cX9_pattern 42 = .ok (.iload_n 2, 1) := by decide +kernel
theorem dX9_pattern_43 : decode cX9_pattern 43 = .ok (.invokevirtual 201, 3) := by decide +kernel
theorem dX9_pattern_46 : decode cX9_pattern 46 = .ok (.ifCond .eq 87, 3) := by decide +kernel
theorem dX9_pattern_49 : decode cX9_pattern 49 = .ok (.aload_n 0, 1) := by decide +kernel
theorem dX9_pattern_50 : decode cX9_pattern 50 = .ok (.iload_n 3, 1) := by decide +kernel
theorem dX9_pattern_51 : decode cX9_pattern 51 = .ok (.invokevirtual 201, 3) := by decide +kernel
theorem dX9_pattern_54 : decode cX9_pattern 54 = .ok (.ifCond .eq 79, 3) := by decide +kernel
theorem dX9_pattern_57 : decode cX9_pattern 57 = .ok (.goto 72, 3) := by decide +kernel
theorem dX9_pattern_60 : decode cX9_pattern 60 = .ok (.iload 4, 2) := by decide +kernel
theorem dX9_pattern_62 : decode cX9_pattern 62 = .ok (.iconst 3, 1) := by decide +kernel
theorem dX9_pattern_63 : decode cX9_pattern 63 = .ok (.if_icmp .ne 18, 3) := by decide +kernel
theorem dX9_pattern_66 : decode cX9_pattern 66 = .ok (.iload_n 2, 1) := by decide +kernel
theorem dX9_pattern_67 : decode cX9_pattern 67 = .ok (.i2l, 1) := by decide +kernel
theorem dX9_pattern_68 : decode cX9_pattern 68 = .ok (.lconst 0, 1) := by decide +kernel
theorem dX9_pattern_69 : decode cX9_pattern 69 = .ok (.ldc2_w 204, 3) := by decide +kernel
theorem dX9_pattern_72 : decode cX9_pattern 72 = .ok (.invokestatic 167, 3) := by decide +kernel
theorem dX9_pattern_75 : decode cX9_pattern 75 = .ok (.ifCond .eq 58, 3) := by decide +kernel
theorem dX9_pattern_78 : decode cX9_pattern 78 = .ok (.goto 51, 3) := by decide +kernel
theorem dX9_pattern_81 : decode cX9_pattern 81 = .ok (.iload 4, 2) := by decide +kernel
theorem dX9_pattern_83 : decode cX9_pattern 83 = .ok (.iconst 4, 1) := by decide +kernel
theorem dX9_pattern_84 : decode cX9_pattern 84 = .ok (.if_icmp .ne 14, 3) := by decide +kernel
theorem dX9_pattern_87 : decode cX9_pattern 87 = .ok (.aload_n 0, 1) := by decide +kernel
theorem dX9_pattern_88 : decode cX9_pattern 88 = .ok (.iload_n 2, 1) := by decide +kernel
theorem dX9_pattern_89 : decode cX9_pattern 89 = .ok (.invokevirtual 201, 3) := by decide +kernel
theorem dX9_pattern_92 : decode cX9_pattern 92 = .ok (.ifCond .eq 41, 3) := by decide +kernel
theorem dX9_pattern_95 : decode cX9_pattern 95 = .ok (.goto 34, 3) := by decide +kernel
theorem dX9_pattern_98 : decode cX9_pattern 98 = .ok (.iload 4, 2) := by decide +kernel
theorem dX9_pattern_100 : decode cX9_pattern 100 = .ok (.iconst 5, 1) := by decide +kernel
theorem dX9_pattern_101 : decode cX9_pattern 101 = .ok (.if_icmp .ne 21, 3) := by decide +kernel
theorem dX9_pattern_104 : decode cX9_pattern 104 = .ok (.aload_n 0, 1) := by decide +kernel
theorem dX9_pattern_105 : decode cX9_pattern 105 = .ok (.iload_n 2, 1) := by decide +kernel
theorem dX9_pattern_106 : decode cX9_pattern 106 = .ok (.invokevirtual 201, 3) := by decide +kernel
theorem dX9_pattern_109 : decode cX9_pattern 109 = .ok (.ifCond .eq 24, 3) := by decide +kernel
theorem dX9_pattern_112 : decode cX9_pattern 112 = .ok (.iload_n 3, 1) := by decide +kernel
theorem dX9_pattern_113 : decode cX9_pattern 113 = .ok (.invokestatic 187, 3) := by decide +kernel
theorem dX9_pattern_116 : decode cX9_pattern 116 = .ok (.ifCond .eq 17, 3) := by decide +kernel
theorem dX9_pattern_119 : decode cX9_pattern 119 = .ok (.goto 10, 3) := by decide +kernel
theorem dX9_pattern_122 : decode cX9_pattern 122 = .ok (.iload_n 2, 1) := by decide +kernel
theorem dX9_pattern_123 : decode cX9_pattern 123 = .ok (.invokestatic 187, 3) := by decide +kernel
theorem dX9_pattern_126 : decode cX9_pattern 126 = .ok (.ifCond .eq 7, 3) := by decide +kernel
theorem dX9_pattern_129 : decode cX9_pattern 129 = .ok (.iconst 1, 1) := by decide +kernel
theorem dX9_pattern_130 : decode cX9_pattern 130 = .ok (.goto 4, 3) := by decide +kernel
theorem dX9_pattern_133 : decode cX9_pattern 133 = .ok (.iconst 0, 1) := by decide +kernel
theorem dX9_pattern_134 : decode cX9_pattern 134 = .ok (.istore 5, 2) := by decide +kernel
theorem dX9_pattern_136 : decode cX9_pattern 136 = .ok (.aload_n 0, 1) := by decide +kernel
theorem dX9_pattern_137 : decode cX9_pattern 137 = .ok (.iload 4, 2) := by decide +kernel
theorem dX9_pattern_139 : decode cX9_pattern 139 = .ok (.ifCond .ne 7, 3) := by decide +kernel
theorem dX9_pattern_142 : decode cX9_pattern 142 = .ok (.iconst 1, 1) := by decide +kernel
theorem dX9_pattern_143 : decode cX9_pattern 143 = .ok (.goto 4, 3) := by decide +kernel
theorem dX9_pattern_146 : decode cX9_pattern 146 = .ok (.iconst 0, 1) := by decide +kernel
theorem dX9_pattern_147 : decode cX9_pattern 147 = .ok (.iconst 1, 1) := by decide +kernel
theorem dX9_pattern_148 : decode cX9_pattern 148 = .ok (.invokevirtual 175, 3) := by decide +kernel
theorem dX9_pattern_151 : decode cX9_pattern 151 = .ok (.ifCond .ne 43, 3) := by decide +kernel
theorem dX9_pattern_154 : decode cX9_pattern 154 = .ok (.aload_n 0, 1) := by decide +kernel
theorem dX9_pattern_155 : decode cX9_pattern 155 = .ok (.iload 5, 2) := by decide +kernel
theorem dX9_pattern_157 : decode cX9_pattern 157 = .ok (.ifCond .ne 7, 3) := by decide +kernel
theorem dX9_pattern_160 : decode cX9_pattern 160 = .ok (.iconst 1, 1) := by decide +kernel
theorem dX9_pattern_161 : decode cX9_pattern 161 = .ok (.goto 4, 3) := by decide +kernel
theorem dX9_pattern_164 : decode cX9_pattern 164 = .ok (.iconst 0, 1) := by decide +kernel
theorem dX9_pattern_165 : decode cX9_pattern 165 = .ok (.iconst 2, 1) := by decide +kernel
theorem dX9_pattern_166 : decode cX9_pattern 166 = .ok (.invokevirtual 175, 3) := by decide +kernel
theorem dX9_pattern_169 : decode cX9_pattern 169 = .ok (.ifCond .ne 25, 3) := by decide +kernel
theorem dX9_pattern_172 : decode cX9_pattern 172 = .ok (.aload_n 0, 1) := by decide +kernel
theorem dX9_pattern_173 : decode cX9_pattern 173 = .ok (.aload_n 0, 1) := by decide +kernel
theorem dX9_pattern_174 : decode cX9_pattern 174 = .ok (.getfield 191, 3) := by decide +kernel
theorem dX9_pattern_177 : decode cX9_pattern 177 = .ok (.bipush 50, 2) := by decide +kernel
theorem dX9_pattern_179 : decode cX9_pattern 179 = .ok (.if_icmp .ne 7, 3) := by decide +kernel
theorem dX9_pattern_182 : decode cX9_pattern 182 = .ok (.iconst 1, 1) := by decide +kernel
theorem dX9_pattern_183 : decode cX9_pattern 183 = .ok (.goto 4, 3) := by decide +kernel
theorem dX9_pattern_186 : decode cX9_pattern 186 = .ok (.iconst 0, 1) := by decide +kernel
theorem dX9_pattern_187 : decode cX9_pattern 187 = .ok (.iconst 3, 1) := by decide +kernel
theorem dX9_pattern_188 : decode cX9_pattern 188 = .ok (.invokevirtual 175, 3) := by decide +kernel
theorem dX9_pattern_191 : decode cX9_pattern 191 = .ok (.ifCond .eq 5, 3) := by decide +kernel
theorem dX9_pattern_194 : decode cX9_pattern 194 = .ok (.iconst (-1), 1) := by decide +kernel
theorem dX9_pattern_195 : decode cX9_pattern 195 = .ok (.ireturn, 1) := by decide +kernel
theorem dX9_pattern_196 : decode cX9_pattern 196 = .ok (.aload_n 0, 1) := by decide +kernel
theorem dX9_pattern_197 : decode cX9_pattern 197 = .ok (.getfield 25, 3) := by decide +kernel
theorem dX9_pattern_200 : decode cX9_pattern 200 = .ok (.aload_n 0, 1) := by decide +kernel
theorem dX9_pattern_201 : decode cX9_pattern 201 = .ok (.getfield 191, 3) := by decide +kernel
theorem dX9_pattern_204 : decode cX9_pattern 204 = .ok (.iload_n 1, 1) := by decide +kernel
theorem dX9_pattern_205 : decode cX9_pattern 205 = .ok (.castore, 1) := by decide +kernel
theorem dX9_pattern_206 : decode cX9_pattern 206 = .ok (.aload_n 0, 1) := by decide +kernel
theorem dX9_pattern_207 : decode cX9_pattern 207 = .ok (.getfield 29, 3) := by decide +kernel
theorem dX9_pattern_210 : decode cX9_pattern 210 = .ok (.aload_n 0, 1) := by decide +kernel
theorem dX9_pattern_211 : decode cX9_pattern 211 = .ok (.getfield 191, 3) := by decide +kernel
theorem dX9_pattern_214 : decode cX9_pattern 214 = .ok (.iload_n 2, 1) := by decide +kernel
theorem dX9_pattern_215 : decode cX9_pattern 215 = .ok (.iastore, 1) := by decide +kernel
theorem dX9_pattern_216 : decode cX9_pattern 216 = .ok (.aload_n 0, 1) := by decide +kernel
theorem dX9_pattern_217 : decode cX9_pattern 217 = .ok (.getfield 32, 3) := by decide +kernel
theorem dX9_pattern_220 : decode cX9_pattern 220 = .ok (.aload_n 0, 1) := by decide +kernel
theorem dX9_pattern_221 : decode cX9_pattern 221 = .ok (.getfield 191, 3) := by decide +kernel
theorem dX9_pattern_224 : decode cX9_pattern 224 = .ok (.iload_n 3, 1) := by decide +kernel
theorem dX9_pattern_225 : decode cX9_pattern 225 = .ok (.iastore, 1) := by decide +kernel
theorem dX9_pattern_226 : decode cX9_pattern 226 = .ok (.aload_n 0, 1) := by decide +kernel
theorem dX9_pattern_227 : decode cX9_pattern 227 = .ok (.dup, 1) := by decide +kernel
theorem dX9_pattern_228 : decode cX9_pattern 228 = .ok (.getfield 191, 3) := by decide +kernel
theorem dX9_pattern_231 : decode cX9_pattern 231 = .ok (.iconst 1, 1) := by decide +kernel
theorem dX9_pattern_232 : decode cX9_pattern 232 = .ok (.iadd, 1) := by decide +kernel
theorem dX9_pattern_233 : decode cX9_pattern 233 = .ok (.putfield 191, 3) := by decide +kernel
theorem dX9_pattern_236 : decode cX9_pattern 236 = .ok (.aload_n 0, 1) := by decide +kernel
theorem dX9_pattern_237 : decode cX9_pattern 237 = .ok (.getfield 191, 3) := by decide +kernel
theorem dX9_pattern_240 : decode cX9_pattern 240 = .ok (.iconst 1, 1) := by decide +kernel
theorem dX9_pattern_241 : decode cX9_pattern 241 = .ok (.isub, 1) := by decide +kernel
theorem dX9_pattern_242 : decode cX9_pattern 242 = .ok (.ireturn, 1) := by decide +kernel
theorem dX9_isTerm_0 : decode cX9_isTerm 0 = .ok (.iload_n 1, 1) := by decide +kernel
theorem dX9_isTerm_1 : decode cX9_isTerm 1 = .ok (.i2l, 1) := by decide +kernel
theorem dX9_isTerm_2 : decode cX9_isTerm 2 = .ok (.lconst 0, 1) := by decide +kernel
theorem dX9_isTerm_3 : decode cX9_isTerm 3 = .ok (.aload_n 0, 1) := by decide +kernel
theorem dX9_isTerm_4 : decode cX9_isTerm 4 = .ok (.getfield 206, 3) := by decide +kernel
theorem dX9_isTerm_7 : decode cX9_isTerm 7 = .ok (.iconst 1, 1) := by decide +kernel
theorem dX9_isTerm_8 : decode cX9_isTerm 8 = .ok (.isub, 1) := by decide +kernel
theorem dX9_isTerm_9 : decode cX9_isTerm 9 = .ok (.i2l, 1) := by decide +kernel
theorem dX9_isTerm_10 : decode cX9_isTerm 10 = .ok (.invokestatic 167, 3) := by decide +kernel
theorem dX9_isTerm_13 : decode cX9_isTerm 13 = .ok (.ireturn, 1) := by decide +kernel
theorem dX9_termSort_0 : decode cX9_termSort 0 = .ok (.iload_n 0, 1) := by decide +kernel
theorem dX9_termSort_1 : decode cX9_termSort 1 = .ok (.lookupswitch 123 #[(35, 119), (38, 121), (42, 121), (43, 121), (45, 121), (47, 121), (60, 121), (61, 121), (100, 121), (114, 119), (116, 115), (118, 117), (119, 119)], 115) := by decide +kernel
theorem dX9_termSort_116 : decode cX9_termSort 116 = .ok (.iconst 1, 1) := by decide +kernel
theorem dX9_termSort_117 : decode cX9_termSort 117 = .ok (.ireturn, 1) := by decide +kernel
theorem dX9_termSort_118 : decode cX9_termSort 118 = .ok (.iconst 2, 1) := by decide +kernel
theorem dX9_termSort_119 : decode cX9_termSort 119 = .ok (.ireturn, 1) := by decide +kernel
theorem dX9_termSort_120 : decode cX9_termSort 120 = .ok (.iconst 3, 1) := by decide +kernel
theorem dX9_termSort_121 : decode cX9_termSort 121 = .ok (.ireturn, 1) := by decide +kernel
theorem dX9_termSort_122 : decode cX9_termSort 122 = .ok (.iconst 4, 1) := by decide +kernel
theorem dX9_termSort_123 : decode cX9_termSort 123 = .ok (.ireturn, 1) := by decide +kernel
theorem dX9_termSort_124 : decode cX9_termSort 124 = .ok (.iconst 0, 1) := by decide +kernel
theorem dX9_termSort_125 : decode cX9_termSort 125 = .ok (.ireturn, 1) := by decide +kernel
theorem dX9_term_0 : decode cX9_term 0 = .ok (.aload_n 0, 1) := by decide +kernel
theorem dX9_term_1 : decode cX9_term 1 = .ok (.iconst 0, 1) := by decide +kernel
theorem dX9_term_2 : decode cX9_term 2 = .ok (.putfield 159, 3) := by decide +kernel
theorem dX9_term_5 : decode cX9_term 5 = .ok (.iload_n 1, 1) := by decide +kernel
theorem dX9_term_6 : decode cX9_term 6 = .ok (.invokestatic 209, 3) := by decide +kernel
theorem dX9_term_9 : decode cX9_term 9 = .ok (.istore 4, 2) := by decide +kernel
theorem dX9_term_11 : decode cX9_term 11 = .ok (.iload 4, 2) := by decide +kernel
theorem dX9_term_13 : decode cX9_term 13 = .ok (.iconst 1, 1) := by decide +kernel
theorem dX9_term_14 : decode cX9_term 14 = .ok (.if_icmp .ne 11, 3) := by decide +kernel
theorem dX9_term_17 : decode cX9_term 17 = .ok (.aload_n 0, 1) := by decide +kernel
theorem dX9_term_18 : decode cX9_term 18 = .ok (.iload_n 2, 1) := by decide +kernel
theorem dX9_term_19 : decode cX9_term 19 = .ok (.invokevirtual 198, 3) := by decide +kernel
theorem dX9_term_22 : decode cX9_term 22 = .ok (.goto 43, 3) := by decide +kernel
theorem dX9_term_25 : decode cX9_term 25 = .ok (.iload 4, 2) := by decide +kernel
theorem dX9_term_27 : decode cX9_term 27 = .ok (.iconst 2, 1) := by decide +kernel
theorem dX9_term_28 : decode cX9_term 28 = .ok (.if_icmp .ne 10, 3) := by decide +kernel
theorem dX9_term_31 : decode cX9_term 31 = .ok (.iload_n 2, 1) := by decide +kernel
theorem dX9_term_32 : decode cX9_term 32 = .ok (.invokestatic 187, 3) := by decide +kernel
theorem dX9_term_35 : decode cX9_term 35 = .ok (.goto 30, 3) := by decide +kernel
theorem dX9_term_38 : decode cX9_term 38 = .ok (.aload_n 0, 1) := by decide +kernel
theorem dX9_term_39 : decode cX9_term 39 = .ok (.iload_n 2, 1) := by decide +kernel
theorem dX9_term_40 : decode cX9_term 40 = .ok (.invokevirtual 212, 3) := by decide +kernel
theorem dX9_term_43 : decode cX9_term 43 = .ok (.ifCond .eq 21, 3) := by decide +kernel
theorem dX9_term_46 : decode cX9_term 46 = .ok (.iload 4, 2) := by decide +kernel
theorem dX9_term_48 : decode cX9_term 48 = .ok (.iconst 3, 1) := by decide +kernel
theorem dX9_term_49 : decode cX9_term 49 = .ok (.if_icmp .eq 11, 3) := by decide +kernel
theorem dX9_term_52 : decode cX9_term 52 = .ok (.aload_n 0, 1) := by decide +kernel
theorem dX9_term_53 : decode cX9_term 53 = .ok (.iload_n 3, 1) := by decide +kernel
theorem dX9_term_54 : decode cX9_term 54 = .ok (.invokevirtual 212, 3) := by decide +kernel
theorem dX9_term_57 : decode cX9_term 57 = .ok (.ifCond .eq 7, 3) := by decide +kernel
theorem dX9_term_60 : decode cX9_term 60 = .ok (.iconst 1, 1) := by decide +kernel
theorem dX9_term_61 : decode cX9_term 61 = .ok (.goto 4, 3) := by decide +kernel
theorem dX9_term_64 : decode cX9_term 64 = .ok (.iconst 0, 1) := by decide +kernel
theorem dX9_term_65 : decode cX9_term 65 = .ok (.istore 5, 2) := by decide +kernel
theorem dX9_term_67 : decode cX9_term 67 = .ok (.aload_n 0, 1) := by decide +kernel
theorem dX9_term_68 : decode cX9_term 68 = .ok (.iload 4, 2) := by decide +kernel
theorem dX9_term_70 : decode cX9_term 70 = .ok (.ifCond .ne 7, 3) := by decide +kernel
theorem dX9_term_73 : decode cX9_term 73 = .ok (.iconst 1, 1) := by decide +kernel
theorem dX9_term_74 : decode cX9_term 74 = .ok (.goto 4, 3) := by decide +kernel
theorem dX9_term_77 : decode cX9_term 77 = .ok (.iconst 0, 1) := by decide +kernel
theorem dX9_term_78 : decode cX9_term 78 = .ok (.iconst 1, 1) := by decide +kernel
theorem dX9_term_79 : decode cX9_term 79 = .ok (.invokevirtual 175, 3) := by decide +kernel
theorem dX9_term_82 : decode cX9_term 82 = .ok (.ifCond .ne 43, 3) := by decide +kernel
theorem dX9_term_85 : decode cX9_term 85 = .ok (.aload_n 0, 1) := by decide +kernel
theorem dX9_term_86 : decode cX9_term 86 = .ok (.iload 5, 2) := by decide +kernel
theorem dX9_term_88 : decode cX9_term 88 = .ok (.ifCond .ne 7, 3) := by decide +kernel
theorem dX9_term_91 : decode cX9_term 91 = .ok (.iconst 1, 1) := by decide +kernel
theorem dX9_term_92 : decode cX9_term 92 = .ok (.goto 4, 3) := by decide +kernel
theorem dX9_term_95 : decode cX9_term 95 = .ok (.iconst 0, 1) := by decide +kernel
theorem dX9_term_96 : decode cX9_term 96 = .ok (.iconst 2, 1) := by decide +kernel
theorem dX9_term_97 : decode cX9_term 97 = .ok (.invokevirtual 175, 3) := by decide +kernel
theorem dX9_term_100 : decode cX9_term 100 = .ok (.ifCond .ne 25, 3) := by decide +kernel
theorem dX9_term_103 : decode cX9_term 103 = .ok (.aload_n 0, 1) := by decide +kernel
theorem dX9_term_104 : decode cX9_term 104 = .ok (.aload_n 0, 1) := by decide +kernel
theorem dX9_term_105 : decode cX9_term 105 = .ok (.getfield 206, 3) := by decide +kernel
theorem dX9_term_108 : decode cX9_term 108 = .ok (.bipush 50, 2) := by decide +kernel
theorem dX9_term_110 : decode cX9_term 110 = .ok (.if_icmp .ne 7, 3) := by decide +kernel
theorem dX9_term_113 : decode cX9_term 113 = .ok (.iconst 1, 1) := by decide +kernel
theorem dX9_term_114 : decode cX9_term 114 = .ok (.goto 4, 3) := by decide +kernel
theorem dX9_term_117 : decode cX9_term 117 = .ok (.iconst 0, 1) := by decide +kernel
theorem dX9_term_118 : decode cX9_term 118 = .ok (.iconst 3, 1) := by decide +kernel
theorem dX9_term_119 : decode cX9_term 119 = .ok (.invokevirtual 175, 3) := by decide +kernel
theorem dX9_term_122 : decode cX9_term 122 = .ok (.ifCond .eq 5, 3) := by decide +kernel
theorem dX9_term_125 : decode cX9_term 125 = .ok (.iconst (-1), 1) := by decide +kernel
theorem dX9_term_126 : decode cX9_term 126 = .ok (.ireturn, 1) := by decide +kernel
theorem dX9_term_127 : decode cX9_term 127 = .ok (.aload_n 0, 1) := by decide +kernel
theorem dX9_term_128 : decode cX9_term 128 = .ok (.getfield 35, 3) := by decide +kernel
theorem dX9_term_131 : decode cX9_term 131 = .ok (.aload_n 0, 1) := by decide +kernel
theorem dX9_term_132 : decode cX9_term 132 = .ok (.getfield 206, 3) := by decide +kernel
theorem dX9_term_135 : decode cX9_term 135 = .ok (.iload_n 1, 1) := by decide +kernel
theorem dX9_term_136 : decode cX9_term 136 = .ok (.castore, 1) := by decide +kernel
theorem dX9_term_137 : decode cX9_term 137 = .ok (.aload_n 0, 1) := by decide +kernel
theorem dX9_term_138 : decode cX9_term 138 = .ok (.getfield 38, 3) := by decide +kernel
theorem dX9_term_141 : decode cX9_term 141 = .ok (.aload_n 0, 1) := by decide +kernel
theorem dX9_term_142 : decode cX9_term 142 = .ok (.getfield 206, 3) := by decide +kernel
theorem dX9_term_145 : decode cX9_term 145 = .ok (.iload_n 2, 1) := by decide +kernel
theorem dX9_term_146 : decode cX9_term 146 = .ok (.iastore, 1) := by decide +kernel
theorem dX9_term_147 : decode cX9_term 147 = .ok (.aload_n 0, 1) := by decide +kernel
theorem dX9_term_148 : decode cX9_term 148 = .ok (.getfield 41, 3) := by decide +kernel
theorem dX9_term_151 : decode cX9_term 151 = .ok (.aload_n 0, 1) := by decide +kernel
theorem dX9_term_152 : decode cX9_term 152 = .ok (.getfield 206, 3) := by decide +kernel
theorem dX9_term_155 : decode cX9_term 155 = .ok (.iload_n 3, 1) := by decide +kernel
theorem dX9_term_156 : decode cX9_term 156 = .ok (.iastore, 1) := by decide +kernel
theorem dX9_term_157 : decode cX9_term 157 = .ok (.aload_n 0, 1) := by decide +kernel
theorem dX9_term_158 : decode cX9_term 158 = .ok (.dup, 1) := by decide +kernel
theorem dX9_term_159 : decode cX9_term 159 = .ok (.getfield 206, 3) := by decide +kernel
theorem dX9_term_162 : decode cX9_term 162 = .ok (.iconst 1, 1) := by decide +kernel
theorem dX9_term_163 : decode cX9_term 163 = .ok (.iadd, 1) := by decide +kernel
theorem dX9_term_164 : decode cX9_term 164 = .ok (.putfield 206, 3) := by decide +kernel
theorem dX9_term_167 : decode cX9_term 167 = .ok (.aload_n 0, 1) := by decide +kernel
theorem dX9_term_168 : decode cX9_term 168 = .ok (.getfield 206, 3) := by decide +kernel
theorem dX9_term_171 : decode cX9_term 171 = .ok (.iconst 1, 1) := by decide +kernel
theorem dX9_term_172 : decode cX9_term 172 = .ok (.isub, 1) := by decide +kernel
theorem dX9_term_173 : decode cX9_term 173 = .ok (.ireturn, 1) := by decide +kernel
theorem dX9_isNumber_0 : decode cX9_isNumber 0 = .ok (.aload_n 0, 1) := by decide +kernel
theorem dX9_isNumber_1 : decode cX9_isNumber 1 = .ok (.getfield 51, 3) := by decide +kernel
theorem dX9_isNumber_4 : decode cX9_isNumber 4 = .ok (.iload_n 1, 1) := by decide +kernel
theorem dX9_isNumber_5 : decode cX9_isNumber 5 = .ok (.iaload, 1) := by decide +kernel
theorem dX9_isNumber_6 : decode cX9_isNumber 6 = .ok (.ifCond .le 21, 3) := by decide +kernel
theorem dX9_isNumber_9 : decode cX9_isNumber 9 = .ok (.aload_n 0, 1) := by decide +kernel
theorem dX9_isNumber_10 : decode cX9_isNumber 10 = .ok (.getfield 48, 3) := by decide +kernel
theorem dX9_isNumber_13 : decode cX9_isNumber 13 = .ok (.bipush 60, 2) := by decide +kernel
theorem dX9_isNumber_15 : decode cX9_isNumber 15 = .ok (.iload_n 1, 1) := by decide +kernel
theorem dX9_isNumber_16 : decode cX9_isNumber 16 = .ok (.imul, 1) := by decide +kernel
theorem dX9_isNumber_17 : decode cX9_isNumber 17 = .ok (.iaload, 1) := by decide +kernel
theorem dX9_isNumber_18 : decode cX9_isNumber 18 = .ok (.bipush 45, 2) := by decide +kernel
theorem dX9_isNumber_20 : decode cX9_isNumber 20 = .ok (.if_icmp .ne 7, 3) := by decide +kernel
theorem dX9_isNumber_23 : decode cX9_isNumber 23 = .ok (.iconst 1, 1) := by decide +kernel
theorem dX9_isNumber_24 : decode cX9_isNumber 24 = .ok (.goto 4, 3) := by decide +kernel
theorem dX9_isNumber_27 : decode cX9_isNumber 27 = .ok (.iconst 0, 1) := by decide +kernel
theorem dX9_isNumber_28 : decode cX9_isNumber 28 = .ok (.istore_n 2, 1) := by decide +kernel
theorem dX9_isNumber_29 : decode cX9_isNumber 29 = .ok (.aload_n 0, 1) := by decide +kernel
theorem dX9_isNumber_30 : decode cX9_isNumber 30 = .ok (.getfield 51, 3) := by decide +kernel
theorem dX9_isNumber_33 : decode cX9_isNumber 33 = .ok (.iload_n 1, 1) := by decide +kernel
theorem dX9_isNumber_34 : decode cX9_isNumber 34 = .ok (.iaload, 1) := by decide +kernel
theorem dX9_isNumber_35 : decode cX9_isNumber 35 = .ok (.iload_n 2, 1) := by decide +kernel
theorem dX9_isNumber_36 : decode cX9_isNumber 36 = .ok (.isub, 1) := by decide +kernel
theorem dX9_isNumber_37 : decode cX9_isNumber 37 = .ok (.i2l, 1) := by decide +kernel
theorem dX9_isNumber_38 : decode cX9_isNumber 38 = .ok (.lconst 1, 1) := by decide +kernel
theorem dX9_isNumber_39 : decode cX9_isNumber 39 = .ok (.ldc2_w 215, 3) := by decide +kernel
theorem dX9_isNumber_42 : decode cX9_isNumber 42 = .ok (.invokestatic 167, 3) := by decide +kernel
theorem dX9_isNumber_45 : decode cX9_isNumber 45 = .ok (.istore_n 3, 1) := by decide +kernel
theorem dX9_isNumber_46 : decode cX9_isNumber 46 = .ok (.iload_n 2, 1) := by decide +kernel
theorem dX9_isNumber_47 : decode cX9_isNumber 47 = .ok (.istore 4, 2) := by decide +kernel
theorem dX9_isNumber_49 : decode cX9_isNumber 49 = .ok (.iload 4, 2) := by decide +kernel
theorem dX9_isNumber_51 : decode cX9_isNumber 51 = .ok (.aload_n 0, 1) := by decide +kernel
theorem dX9_isNumber_52 : decode cX9_isNumber 52 = .ok (.getfield 51, 3) := by decide +kernel
theorem dX9_isNumber_55 : decode cX9_isNumber 55 = .ok (.iload_n 1, 1) := by decide +kernel
theorem dX9_isNumber_56 : decode cX9_isNumber 56 = .ok (.iaload, 1) := by decide +kernel
theorem dX9_isNumber_57 : decode cX9_isNumber 57 = .ok (.if_icmp .ge 44, 3) := by decide +kernel
theorem dX9_isNumber_60 : decode cX9_isNumber 60 = .ok (.iload_n 3, 1) := by decide +kernel
theorem dX9_isNumber_61 : decode cX9_isNumber 61 = .ok (.ifCond .eq 32, 3) := by decide +kernel
theorem dX9_isNumber_64 : decode cX9_isNumber 64 = .ok (.aload_n 0, 1) := by decide +kernel
theorem dX9_isNumber_65 : decode cX9_isNumber 65 = .ok (.getfield 48, 3) := by decide +kernel
theorem dX9_isNumber_68 : decode cX9_isNumber 68 = .ok (.bipush 60, 2) := by decide +kernel
theorem dX9_isNumber_70 : decode cX9_isNumber 70 = .ok (.iload_n 1, 1) := by decide +kernel
theorem dX9_isNumber_71 : decode cX9_isNumber 71 = .ok (.imul, 1) := by decide +kernel
theorem dX9_isNumber_72 : decode cX9_isNumber 72 = .ok (.iload 4, 2) := by decide +kernel
theorem dX9_isNumber_74 : decode cX9_isNumber 74 = .ok (.iadd, 1) := by decide +kernel
theorem dX9_isNumber_75 : decode cX9_isNumber 75 = .ok (.iaload, 1) := by decide +kernel
theorem dX9_isNumber_76 : decode cX9_isNumber 76 = .ok (.i2l, 1) := by decide +kernel
theorem dX9_isNumber_77 : decode cX9_isNumber 77 = .ok (.ldc2_w 217, 3) := by decide +kernel
theorem dX9_isNumber_80 : decode cX9_isNumber 80 = .ok (.ldc2_w 219, 3) := by decide +kernel
theorem dX9_isNumber_83 : decode cX9_isNumber 83 = .ok (.invokestatic 167, 3) := by decide +kernel
theorem dX9_isNumber_86 : decode cX9_isNumber 86 = .ok (.ifCond .eq 7, 3) := by decide +kernel
theorem dX9_isNumber_89 : decode cX9_isNumber 89 = .ok (.iconst 1, 1) := by decide +kernel
theorem dX9_isNumber_90 : decode cX9_isNumber 90 = .ok (.goto 4, 3) := by decide +kernel
theorem dX9_isNumber_93 : decode cX9_isNumber 93 = .ok (.iconst 0, 1) := by decide +kernel
theorem dX9_isNumber_94 : decode cX9_isNumber 94 = .ok (.istore_n 3, 1) := by decide +kernel
theorem dX9_isNumber_95 : decode cX9_isNumber 95 = .ok (.iinc 4 1, 3) := by decide +kernel
theorem dX9_isNumber_98 : decode cX9_isNumber 98 = .ok (.goto (-49), 3) := by decide +kernel
theorem dX9_isNumber_101 : decode cX9_isNumber 101 = .ok (.iload_n 3, 1) := by decide +kernel
theorem dX9_isNumber_102 : decode cX9_isNumber 102 = .ok (.ireturn, 1) := by decide +kernel
theorem dX9_numberOf_0 : decode cX9_numberOf 0 = .ok (.lconst 0, 1) := by decide +kernel
theorem dX9_numberOf_1 : decode cX9_numberOf 1 = .ok (.lstore_n 2, 1) := by decide +kernel
theorem dX9_numberOf_2 : decode cX9_numberOf 2 = .ok (.aload_n 0, 1) := by decide +kernel
theorem dX9_numberOf_3 : decode cX9_numberOf 3 = .ok (.getfield 48, 3) := by decide +kernel
theorem dX9_numberOf_6 : decode cX9_numberOf 6 = .ok (.bipush 60, 2) := by decide +kernel
theorem dX9_numberOf_8 : decode cX9_numberOf 8 = .ok (.iload_n 1, 1) := by decide +kernel
theorem dX9_numberOf_9 : decode cX9_numberOf 9 = .ok (.imul, 1) := by decide +kernel
theorem dX9_numberOf_10 : decode cX9_numberOf 10 = .ok (.iaload, 1) := by decide +kernel
theorem dX9_numberOf_11 : decode cX9_numberOf 11 = .ok (.bipush 45, 2) := by decide +kernel
theorem dX9_numberOf_13 : decode cX9_numberOf 13 = .ok (.if_icmp .ne 7, 3) := by decide +kernel
theorem dX9_numberOf_16 : decode cX9_numberOf 16 = .ok (.iconst 1, 1) := by decide +kernel
theorem dX9_numberOf_17 : decode cX9_numberOf 17 = .ok (.goto 4, 3) := by decide +kernel
theorem dX9_numberOf_20 : decode cX9_numberOf 20 = .ok (.iconst 0, 1) := by decide +kernel
theorem dX9_numberOf_21 : decode cX9_numberOf 21 = .ok (.istore 4, 2) := by decide +kernel
theorem dX9_numberOf_23 : decode cX9_numberOf 23 = .ok (.iload 4, 2) := by decide +kernel
theorem dX9_numberOf_25 : decode cX9_numberOf 25 = .ok (.ifCond .eq 7, 3) := by decide +kernel
theorem dX9_numberOf_28 : decode cX9_numberOf 28 = .ok (.iconst 1, 1) := by decide +kernel
theorem dX9_numberOf_29 : decode cX9_numberOf 29 = .ok (.goto 4, 3) := by decide +kernel
theorem dX9_numberOf_32 : decode cX9_numberOf 32 = .ok (.iconst 0, 1) := by decide +kernel
theorem dX9_numberOf_33 : decode cX9_numberOf 33 = .ok (.istore 5, 2) := by decide +kernel
theorem dX9_numberOf_35 : decode cX9_numberOf 35 = .ok (.iload 5, 2) := by decide +kernel
theorem dX9_numberOf_37 : decode cX9_numberOf 37 = .ok (.aload_n 0, 1) := by decide +kernel
theorem dX9_numberOf_38 : decode cX9_numberOf 38 = .ok (.getfield 51, 3) := by decide +kernel
theorem dX9_numberOf_41 : decode cX9_numberOf 41 = .ok (.iload_n 1, 1) := by decide +kernel
theorem dX9_numberOf_42 : decode cX9_numberOf 42 = .ok (.iaload, 1) := by decide +kernel
theorem dX9_numberOf_43 : decode cX9_numberOf 43 = .ok (.if_icmp .ge 33, 3) := by decide +kernel
theorem dX9_numberOf_46 : decode cX9_numberOf 46 = .ok (.ldc2_w 221, 3) := by decide +kernel
theorem dX9_numberOf_49 : decode cX9_numberOf 49 = .ok (.lload_n 2, 1) := by decide +kernel
theorem dX9_numberOf_50 : decode cX9_numberOf 50 = .ok (.lmul, 1) := by decide +kernel
theorem dX9_numberOf_51 : decode cX9_numberOf 51 = .ok (.aload_n 0, 1) := by decide +kernel
theorem dX9_numberOf_52 : decode cX9_numberOf 52 = .ok (.getfield 48, 3) := by decide +kernel
theorem dX9_numberOf_55 : decode cX9_numberOf 55 = .ok (.bipush 60, 2) := by decide +kernel
theorem dX9_numberOf_57 : decode cX9_numberOf 57 = .ok (.iload_n 1, 1) := by decide +kernel
theorem dX9_numberOf_58 : decode cX9_numberOf 58 = .ok (.imul, 1) := by decide +kernel
theorem dX9_numberOf_59 : decode cX9_numberOf 59 = .ok (.iload 5, 2) := by decide +kernel
theorem dX9_numberOf_61 : decode cX9_numberOf 61 = .ok (.iadd, 1) := by decide +kernel
theorem dX9_numberOf_62 : decode cX9_numberOf 62 = .ok (.iaload, 1) := by decide +kernel
theorem dX9_numberOf_63 : decode cX9_numberOf 63 = .ok (.i2l, 1) := by decide +kernel
theorem dX9_numberOf_64 : decode cX9_numberOf 64 = .ok (.ladd, 1) := by decide +kernel
theorem dX9_numberOf_65 : decode cX9_numberOf 65 = .ok (.ldc2_w 217, 3) := by decide +kernel
theorem dX9_numberOf_68 : decode cX9_numberOf 68 = .ok (.lsub, 1) := by decide +kernel
theorem dX9_numberOf_69 : decode cX9_numberOf 69 = .ok (.lstore_n 2, 1) := by decide +kernel
theorem dX9_numberOf_70 : decode cX9_numberOf 70 = .ok (.iinc 5 1, 3) := by decide +kernel
theorem dX9_numberOf_73 : decode cX9_numberOf 73 = .ok (.goto (-38), 3) := by decide +kernel
theorem dX9_numberOf_76 : decode cX9_numberOf 76 = .ok (.iload 4, 2) := by decide +kernel
theorem dX9_numberOf_78 : decode cX9_numberOf 78 = .ok (.ifCond .eq 8, 3) := by decide +kernel
theorem dX9_numberOf_81 : decode cX9_numberOf 81 = .ok (.lload_n 2, 1) := by decide +kernel
theorem dX9_numberOf_82 : decode cX9_numberOf 82 = .ok (.lneg, 1) := by decide +kernel
theorem dX9_numberOf_83 : decode cX9_numberOf 83 = .ok (.goto 4, 3) := by decide +kernel
theorem dX9_numberOf_86 : decode cX9_numberOf 86 = .ok (.lload_n 2, 1) := by decide +kernel
theorem dX9_numberOf_87 : decode cX9_numberOf 87 = .ok (.lreturn, 1) := by decide +kernel
theorem dX9_putNumber_0 : decode cX9_putNumber 0 = .ok (.lload_n 2, 1) := by decide +kernel
theorem dX9_putNumber_1 : decode cX9_putNumber 1 = .ok (.lconst 0, 1) := by decide +kernel
theorem dX9_putNumber_2 : decode cX9_putNumber 2 = .ok (.lcmp, 1) := by decide +kernel
theorem dX9_putNumber_3 : decode cX9_putNumber 3 = .ok (.ifCond .ge 8, 3) := by decide +kernel
theorem dX9_putNumber_6 : decode cX9_putNumber 6 = .ok (.lload_n 2, 1) := by decide +kernel
theorem dX9_putNumber_7 : decode cX9_putNumber 7 = .ok (.lneg, 1) := by decide +kernel
theorem dX9_putNumber_8 : decode cX9_putNumber 8 = .ok (.goto 4, 3) := by decide +kernel
theorem dX9_putNumber_11 : decode cX9_putNumber 11 = .ok (.lload_n 2, 1) := by decide +kernel
theorem dX9_putNumber_12 : decode cX9_putNumber 12 = .ok (.lstore 4, 2) := by decide +kernel
theorem dX9_putNumber_14 : decode cX9_putNumber 14 = .ok (.lload 4, 2) := by decide +kernel
theorem dX9_putNumber_16 : decode cX9_putNumber 16 = .ok (.ldc2_w 223, 3) := by decide +kernel
theorem dX9_putNumber_19 : decode cX9_putNumber 19 = .ok (.lcmp, 1) := by decide +kernel
theorem dX9_putNumber_20 : decode cX9_putNumber 20 = .ok (.ifCond .le 5, 3) := by decide +kernel
theorem dX9_putNumber_23 : decode cX9_putNumber 23 = .ok (.iconst 1, 1) := by decide +kernel
theorem dX9_putNumber_24 : decode cX9_putNumber 24 = .ok (.ireturn, 1) := by decide +kernel
theorem dX9_putNumber_25 : decode cX9_putNumber 25 = .ok (.iconst 1, 1) := by decide +kernel
theorem dX9_putNumber_26 : decode cX9_putNumber 26 = .ok (.istore 6, 2) := by decide +kernel
theorem dX9_putNumber_28 : decode cX9_putNumber 28 = .ok (.lload 4, 2) := by decide +kernel
theorem dX9_putNumber_30 : decode cX9_putNumber 30 = .ok (.lstore 7, 2) := by decide +kernel
theorem dX9_putNumber_32 : decode cX9_putNumber 32 = .ok (.lload 7, 2) := by decide +kernel
theorem dX9_putNumber_34 : decode cX9_putNumber 34 = .ok (.ldc2_w 215, 3) := by decide +kernel
theorem dX9_putNumber_37 : decode cX9_putNumber 37 = .ok (.lcmp, 1) := by decide +kernel
theorem dX9_putNumber_38 : decode cX9_putNumber 38 = .ok (.ifCond .le 17, 3) := by decide +kernel
theorem dX9_putNumber_41 : decode cX9_putNumber 41 = .ok (.iinc 6 1, 3) := by decide +kernel
theorem dX9_putNumber_44 : decode cX9_putNumber 44 = .ok (.lload 7, 2) := by decide +kernel
theorem dX9_putNumber_46 : decode cX9_putNumber 46 = .ok (.ldc2_w 221, 3) := by decide +kernel
theorem dX9_putNumber_49 : decode cX9_putNumber 49 = .ok (.ldiv, 1) := by decide +kernel
theorem dX9_putNumber_50 : decode cX9_putNumber 50 = .ok (.lstore 7, 2) := by decide +kernel
theorem dX9_putNumber_52 : decode cX9_putNumber 52 = .ok (.goto (-20), 3) := by decide +kernel
theorem dX9_putNumber_55 : decode cX9_putNumber 55 = .ok (.iconst 0, 1) := by decide +kernel
theorem dX9_putNumber_56 : decode cX9_putNumber 56 = .ok (.istore 7, 2) := by decide +kernel
theorem dX9_putNumber_58 : decode cX9_putNumber 58 = .ok (.lload_n 2, 1) := by decide +kernel
theorem dX9_putNumber_59 : decode cX9_putNumber 59 = .ok (.lconst 0, 1) := by decide +kernel
theorem dX9_putNumber_60 : decode cX9_putNumber 60 = .ok (.lcmp, 1) := by decide +kernel
theorem dX9_putNumber_61 : decode cX9_putNumber 61 = .ok (.ifCond .ge 17, 3) := by decide +kernel
theorem dX9_putNumber_64 : decode cX9_putNumber 64 = .ok (.aload_n 0, 1) := by decide +kernel
theorem dX9_putNumber_65 : decode cX9_putNumber 65 = .ok (.getfield 48, 3) := by decide +kernel
theorem dX9_putNumber_68 : decode cX9_putNumber 68 = .ok (.bipush 60, 2) := by decide +kernel
theorem dX9_putNumber_70 : decode cX9_putNumber 70 = .ok (.iload_n 1, 1) := by decide +kernel
theorem dX9_putNumber_71 : decode cX9_putNumber 71 = .ok (.imul, 1) := by decide +kernel
theorem dX9_putNumber_72 : decode cX9_putNumber 72 = .ok (.bipush 45, 2) := by decide +kernel
theorem dX9_putNumber_74 : decode cX9_putNumber 74 = .ok (.iastore, 1) := by decide +kernel
theorem dX9_putNumber_75 : decode cX9_putNumber 75 = .ok (.iconst 1, 1) := by decide +kernel
theorem dX9_putNumber_76 : decode cX9_putNumber 76 = .ok (.istore 7, 2) := by decide +kernel
theorem dX9_putNumber_78 : decode cX9_putNumber 78 = .ok (.iload 6, 2) := by decide +kernel
theorem dX9_putNumber_80 : decode cX9_putNumber 80 = .ok (.iconst 1, 1) := by decide +kernel
theorem dX9_putNumber_81 : decode cX9_putNumber 81 = .ok (.isub, 1) := by decide +kernel
theorem dX9_putNumber_82 : decode cX9_putNumber 82 = .ok (.istore 8, 2) := by decide +kernel
theorem dX9_putNumber_84 : decode cX9_putNumber 84 = .ok (.iload 8, 2) := by decide +kernel
theorem dX9_putNumber_86 : decode cX9_putNumber 86 = .ok (.ifCond .lt 42, 3) := by decide +kernel
theorem dX9_putNumber_89 : decode cX9_putNumber 89 = .ok (.aload_n 0, 1) := by decide +kernel
theorem dX9_putNumber_90 : decode cX9_putNumber 90 = .ok (.getfield 48, 3) := by decide +kernel
theorem dX9_putNumber_93 : decode cX9_putNumber 93 = .ok (.bipush 60, 2) := by decide +kernel
theorem dX9_putNumber_95 : decode cX9_putNumber 95 = .ok (.iload_n 1, 1) := by decide +kernel
theorem dX9_putNumber_96 : decode cX9_putNumber 96 = .ok (.imul, 1) := by decide +kernel
theorem dX9_putNumber_97 : decode cX9_putNumber 97 = .ok (.iload 7, 2) := by decide +kernel
theorem dX9_putNumber_99 : decode cX9_putNumber 99 = .ok (.iadd, 1) := by decide +kernel
theorem dX9_putNumber_100 : decode cX9_putNumber 100 = .ok (.iload 8, 2) := by decide +kernel
theorem dX9_putNumber_102 : decode cX9_putNumber 102 = .ok (.iadd, 1) := by decide +kernel
theorem dX9_putNumber_103 : decode cX9_putNumber 103 = .ok (.bipush 48, 2) := by decide +kernel
theorem dX9_putNumber_105 : decode cX9_putNumber 105 = .ok (.lload 4, 2) := by decide +kernel
theorem dX9_putNumber_107 : decode cX9_putNumber 107 = .ok (.ldc2_w 221, 3) := by decide +kernel
theorem dX9_putNumber_110 : decode cX9_putNumber 110 = .ok (.lrem, 1) := by decide +kernel
theorem dX9_putNumber_111 : decode cX9_putNumber 111 = .ok (.l2i, 1) := by decide +kernel
theorem dX9_putNumber_112 : decode cX9_putNumber 112 = .ok (.iadd, 1) := by decide +kernel
theorem dX9_putNumber_113 : decode cX9_putNumber 113 = .ok (.iastore, 1) := by decide +kernel
theorem dX9_putNumber_114 : decode cX9_putNumber 114 = .ok (.lload 4, 2) := by decide +kernel
theorem dX9_putNumber_116 : decode cX9_putNumber 116 = .ok (.ldc2_w 221, 3) := by decide +kernel
theorem dX9_putNumber_119 : decode cX9_putNumber 119 = .ok (.ldiv, 1) := by decide +kernel
theorem dX9_putNumber_120 : decode cX9_putNumber 120 = .ok (.lstore 4, 2) := by decide +kernel
theorem dX9_putNumber_122 : decode cX9_putNumber 122 = .ok (.iinc 8 (-1), 3) := by decide +kernel
theorem dX9_putNumber_125 : decode cX9_putNumber 125 = .ok (.goto (-41), 3) := by decide +kernel
theorem dX9_putNumber_128 : decode cX9_putNumber 128 = .ok (.aload_n 0, 1) := by decide +kernel
theorem dX9_putNumber_129 : decode cX9_putNumber 129 = .ok (.getfield 51, 3) := by decide +kernel
theorem dX9_putNumber_132 : decode cX9_putNumber 132 = .ok (.iload_n 1, 1) := by decide +kernel
theorem dX9_putNumber_133 : decode cX9_putNumber 133 = .ok (.iload 7, 2) := by decide +kernel
theorem dX9_putNumber_135 : decode cX9_putNumber 135 = .ok (.iload 6, 2) := by decide +kernel
theorem dX9_putNumber_137 : decode cX9_putNumber 137 = .ok (.iadd, 1) := by decide +kernel
theorem dX9_putNumber_138 : decode cX9_putNumber 138 = .ok (.iastore, 1) := by decide +kernel
theorem dX9_putNumber_139 : decode cX9_putNumber 139 = .ok (.iconst 0, 1) := by decide +kernel
theorem dX9_putNumber_140 : decode cX9_putNumber 140 = .ok (.ireturn, 1) := by decide +kernel
theorem dX9_reckon_0 : decode cX9_reckon 0 = .ok (.aload_n 0, 1) := by decide +kernel
theorem dX9_reckon_1 : decode cX9_reckon 1 = .ok (.iload_n 3, 1) := by decide +kernel
theorem dX9_reckon_2 : decode cX9_reckon 2 = .ok (.invokevirtual 225, 3) := by decide +kernel
theorem dX9_reckon_5 : decode cX9_reckon 5 = .ok (.ifCond .eq 12, 3) := by decide +kernel
theorem dX9_reckon_8 : decode cX9_reckon 8 = .ok (.aload_n 0, 1) := by decide +kernel
theorem dX9_reckon_9 : decode cX9_reckon 9 = .ok (.iload 4, 2) := by decide +kernel
theorem dX9_reckon_11 : decode cX9_reckon 11 = .ok (.invokevirtual 225, 3) := by decide +kernel
theorem dX9_reckon_14 : decode cX9_reckon 14 = .ok (.ifCond .ne 5, 3) := by decide +kernel
theorem dX9_reckon_17 : decode cX9_reckon 17 = .ok (.iconst 1, 1) := by decide +kernel
theorem dX9_reckon_18 : decode cX9_reckon 18 = .ok (.ireturn, 1) := by decide +kernel
theorem dX9_reckon_19 : decode cX9_reckon 19 = .ok (.aload_n 0, 1) := by decide +kernel
theorem dX9_reckon_20 : decode cX9_reckon 20 = .ok (.iload_n 3, 1) := by decide +kernel
theorem dX9_reckon_21 : decode cX9_reckon 21 = .ok (.invokevirtual 228, 3) := by decide +kernel
theorem dX9_reckon_24 : decode cX9_reckon 24 = .ok (.lstore 5, 2) := by decide +kernel
theorem dX9_reckon_26 : decode cX9_reckon 26 = .ok (.aload_n 0, 1) := by decide +kernel
theorem dX9_reckon_27 : decode cX9_reckon 27 = .ok (.iload 4, 2) := by decide +kernel
theorem dX9_reckon_29 : decode cX9_reckon 29 = .ok (.invokevirtual 228, 3) := by decide +kernel
theorem dX9_reckon_32 : decode cX9_reckon 32 = .ok (.lstore 7, 2) := by decide +kernel
theorem dX9_reckon_34 : decode cX9_reckon 34 = .ok (.iload_n 2, 1) := by decide +kernel
theorem dX9_reckon_35 : decode cX9_reckon 35 = .ok (.bipush 60, 2) := by decide +kernel
theorem dX9_reckon_37 : decode cX9_reckon 37 = .ok (.if_icmp .ne 24, 3) := by decide +kernel
theorem dX9_reckon_40 : decode cX9_reckon 40 = .ok (.aload_n 0, 1) := by decide +kernel
theorem dX9_reckon_41 : decode cX9_reckon 41 = .ok (.getfield 51, 3) := by decide +kernel
theorem dX9_reckon_44 : decode cX9_reckon 44 = .ok (.iload_n 1, 1) := by decide +kernel
theorem dX9_reckon_45 : decode cX9_reckon 45 = .ok (.iconst 0, 1) := by decide +kernel
theorem dX9_reckon_46 : decode cX9_reckon 46 = .ok (.iastore, 1) := by decide +kernel
theorem dX9_reckon_47 : decode cX9_reckon 47 = .ok (.lload 5, 2) := by decide +kernel
theorem dX9_reckon_49 : decode cX9_reckon 49 = .ok (.lload 7, 2) := by decide +kernel
theorem dX9_reckon_51 : decode cX9_reckon 51 = .ok (.lcmp, 1) := by decide +kernel
theorem dX9_reckon_52 : decode cX9_reckon 52 = .ok (.ifCond .ge 7, 3) := by decide +kernel
theorem dX9_reckon_55 : decode cX9_reckon 55 = .ok (.iconst 0, 1) := by decide +kernel
theorem dX9_reckon_56 : decode cX9_reckon 56 = .ok (.goto 4, 3) := by decide +kernel
theorem dX9_reckon_59 : decode cX9_reckon 59 = .ok (.iconst (-1), 1) := by decide +kernel
theorem dX9_reckon_60 : decode cX9_reckon 60 = .ok (.ireturn, 1) := by decide +kernel
theorem dX9_reckon_61 : decode cX9_reckon 61 = .ok (.iload_n 2, 1) := by decide +kernel
theorem dX9_reckon_62 : decode cX9_reckon 62 = .ok (.bipush 47, 2) := by decide +kernel
theorem dX9_reckon_64 : decode cX9_reckon 64 = .ok (.if_icmp .ne 12, 3) := by decide +kernel
theorem dX9_reckon_67 : decode cX9_reckon 67 = .ok (.lload 7, 2) := by decide +kernel
theorem dX9_reckon_69 : decode cX9_reckon 69 = .ok (.lconst 0, 1) := by decide +kernel
theorem dX9_reckon_70 : decode cX9_reckon 70 = .ok (.lcmp, 1) := by decide +kernel
theorem dX9_reckon_71 : decode cX9_reckon 71 = .ok (.ifCond .ne 5, 3) := by decide +kernel
theorem dX9_reckon_74 : decode cX9_reckon 74 = .ok (.iconst 2, 1) := by decide +kernel
theorem dX9_reckon_75 : decode cX9_reckon 75 = .ok (.ireturn, 1) := by decide +kernel
theorem dX9_reckon_76 : decode cX9_reckon 76 = .ok (.aload_n 0, 1) := by decide +kernel
theorem dX9_reckon_77 : decode cX9_reckon 77 = .ok (.iload_n 1, 1) := by decide +kernel
theorem dX9_reckon_78 : decode cX9_reckon 78 = .ok (.iload_n 2, 1) := by decide +kernel
theorem dX9_reckon_79 : decode cX9_reckon 79 = .ok (.bipush 43, 2) := by decide +kernel
theorem dX9_reckon_81 : decode cX9_reckon 81 = .ok (.if_icmp .ne 11, 3) := by decide +kernel
theorem dX9_reckon_84 : decode cX9_reckon 84 = .ok (.lload 5, 2) := by decide +kernel
theorem dX9_reckon_86 : decode cX9_reckon 86 = .ok (.lload 7, 2) := by decide +kernel
theorem dX9_reckon_88 : decode cX9_reckon 88 = .ok (.ladd, 1) := by decide +kernel
theorem dX9_reckon_89 : decode cX9_reckon 89 = .ok (.goto 36, 3) := by decide +kernel
theorem dX9_reckon_92 : decode cX9_reckon 92 = .ok (.iload_n 2, 1) := by decide +kernel
theorem dX9_reckon_93 : decode cX9_reckon 93 = .ok (.bipush 45, 2) := by decide +kernel
theorem dX9_reckon_95 : decode cX9_reckon 95 = .ok (.if_icmp .ne 11, 3) := by decide +kernel
theorem dX9_reckon_98 : decode cX9_reckon 98 = .ok (.lload 5, 2) := by decide +kernel
theorem dX9_reckon_100 : decode cX9_reckon 100 = .ok (.lload 7, 2) := by decide +kernel
theorem dX9_reckon_102 : decode cX9_reckon 102 = .ok (.lsub, 1) := by decide +kernel
theorem dX9_reckon_103 : decode cX9_reckon 103 = .ok (.goto 22, 3) := by decide +kernel
theorem dX9_reckon_106 : decode cX9_reckon 106 = .ok (.iload_n 2, 1) := by decide +kernel
theorem dX9_reckon_107 : decode cX9_reckon 107 = .ok (.bipush 42, 2) := by decide +kernel
theorem dX9_reckon_109 : decode cX9_reckon 109 = .ok (.if_icmp .ne 11, 3) := by decide +kernel
theorem dX9_reckon_112 : decode cX9_reckon 112 = .ok (.lload 5, 2) := by decide +kernel
theorem dX9_reckon_114 : decode cX9_reckon 114 = .ok (.lload 7, 2) := by decide +kernel
theorem dX9_reckon_116 : decode cX9_reckon 116 = .ok (.lmul, 1) := by decide +kernel
theorem dX9_reckon_117 : decode cX9_reckon 117 = .ok (.goto 8, 3) := by decide +kernel
theorem dX9_reckon_120 : decode cX9_reckon 120 = .ok (.lload 5, 2) := by decide +kernel
theorem dX9_reckon_122 : decode cX9_reckon 122 = .ok (.lload 7, 2) := by decide +kernel
theorem dX9_reckon_124 : decode cX9_reckon 124 = .ok (.ldiv, 1) := by decide +kernel
theorem dX9_reckon_125 : decode cX9_reckon 125 = .ok (.invokevirtual 232, 3) := by decide +kernel
theorem dX9_reckon_128 : decode cX9_reckon 128 = .ok (.ireturn, 1) := by decide +kernel
theorem dX9_append_0 : decode cX9_append 0 = .ok (.iconst 0, 1) := by decide +kernel
theorem dX9_append_1 : decode cX9_append 1 = .ok (.istore_n 3, 1) := by decide +kernel
theorem dX9_append_2 : decode cX9_append 2 = .ok (.iload_n 3, 1) := by decide +kernel
theorem dX9_append_3 : decode cX9_append 3 = .ok (.aload_n 0, 1) := by decide +kernel
theorem dX9_append_4 : decode cX9_append 4 = .ok (.getfield 51, 3) := by decide +kernel
theorem dX9_append_7 : decode cX9_append 7 = .ok (.iload_n 2, 1) := by decide +kernel
theorem dX9_append_8 : decode cX9_append 8 = .ok (.iaload, 1) := by decide +kernel
theorem dX9_append_9 : decode cX9_append 9 = .ok (.if_icmp .ge 46, 3) := by decide +kernel
theorem dX9_append_12 : decode cX9_append 12 = .ok (.aload_n 0, 1) := by decide +kernel
theorem dX9_append_13 : decode cX9_append 13 = .ok (.getfield 48, 3) := by decide +kernel
theorem dX9_append_16 : decode cX9_append 16 = .ok (.bipush 60, 2) := by decide +kernel
theorem dX9_append_18 : decode cX9_append 18 = .ok (.iload_n 1, 1) := by decide +kernel
theorem dX9_append_19 : decode cX9_append 19 = .ok (.imul, 1) := by decide +kernel
theorem dX9_append_20 : decode cX9_append 20 = .ok (.aload_n 0, 1) := by decide +kernel
theorem dX9_append_21 : decode cX9_append 21 = .ok (.getfield 51, 3) := by decide +kernel
theorem dX9_append_24 : decode cX9_append 24 = .ok (.iload_n 1, 1) := by decide +kernel
theorem dX9_append_25 : decode cX9_append 25 = .ok (.iaload, 1) := by decide +kernel
theorem dX9_append_26 : decode cX9_append 26 = .ok (.iadd, 1) := by decide +kernel
theorem dX9_append_27 : decode cX9_append 27 = .ok (.aload_n 0, 1) := by decide +kernel
theorem dX9_append_28 : decode cX9_append 28 = .ok (.getfield 48, 3) := by decide +kernel
theorem dX9_append_31 : decode cX9_append 31 = .ok (.bipush 60, 2) := by decide +kernel
theorem dX9_append_33 : decode cX9_append 33 = .ok (.iload_n 2, 1) := by decide +kernel
theorem dX9_append_34 : decode cX9_append 34 = .ok (.imul, 1) := by decide +kernel
theorem dX9_append_35 : decode cX9_append 35 = .ok (.iload_n 3, 1) := by decide +kernel
theorem dX9_append_36 : decode cX9_append 36 = .ok (.iadd, 1) := by decide +kernel
theorem dX9_append_37 : decode cX9_append 37 = .ok (.iaload, 1) := by decide +kernel
theorem dX9_append_38 : decode cX9_append 38 = .ok (.iastore, 1) := by decide +kernel
theorem dX9_append_39 : decode cX9_append 39 = .ok (.aload_n 0, 1) := by decide +kernel
theorem dX9_append_40 : decode cX9_append 40 = .ok (.getfield 51, 3) := by decide +kernel
theorem dX9_append_43 : decode cX9_append 43 = .ok (.iload_n 1, 1) := by decide +kernel
theorem dX9_append_44 : decode cX9_append 44 = .ok (.dup2, 1) := by decide +kernel
theorem dX9_append_45 : decode cX9_append 45 = .ok (.iaload, 1) := by decide +kernel
theorem dX9_append_46 : decode cX9_append 46 = .ok (.iconst 1, 1) := by decide +kernel
theorem dX9_append_47 : decode cX9_append 47 = .ok (.iadd, 1) := by decide +kernel
theorem dX9_append_48 : decode cX9_append 48 = .ok (.iastore, 1) := by decide +kernel
theorem dX9_append_49 : decode cX9_append 49 = .ok (.iinc 3 1, 3) := by decide +kernel
theorem dX9_append_52 : decode cX9_append 52 = .ok (.goto (-50), 3) := by decide +kernel
theorem dX9_append_55 : decode cX9_append 55 = .ok (.return_, 1) := by decide +kernel
theorem dX9_isSame_0 : decode cX9_isSame 0 = .ok (.aload_n 0, 1) := by decide +kernel
theorem dX9_isSame_1 : decode cX9_isSame 1 = .ok (.getfield 51, 3) := by decide +kernel
theorem dX9_isSame_4 : decode cX9_isSame 4 = .ok (.iload_n 1, 1) := by decide +kernel
theorem dX9_isSame_5 : decode cX9_isSame 5 = .ok (.iaload, 1) := by decide +kernel
theorem dX9_isSame_6 : decode cX9_isSame 6 = .ok (.aload_n 0, 1) := by decide +kernel
theorem dX9_isSame_7 : decode cX9_isSame 7 = .ok (.getfield 51, 3) := by decide +kernel
theorem dX9_isSame_10 : decode cX9_isSame 10 = .ok (.iload_n 2, 1) := by decide +kernel
theorem dX9_isSame_11 : decode cX9_isSame 11 = .ok (.iaload, 1) := by decide +kernel
theorem dX9_isSame_12 : decode cX9_isSame 12 = .ok (.if_icmp .ne 7, 3) := by decide +kernel
theorem dX9_isSame_15 : decode cX9_isSame 15 = .ok (.iconst 1, 1) := by decide +kernel
theorem dX9_isSame_16 : decode cX9_isSame 16 = .ok (.goto 4, 3) := by decide +kernel
theorem dX9_isSame_19 : decode cX9_isSame 19 = .ok (.iconst 0, 1) := by decide +kernel
theorem dX9_isSame_20 : decode cX9_isSame 20 = .ok (.istore_n 3, 1) := by decide +kernel
theorem dX9_isSame_21 : decode cX9_isSame 21 = .ok (.iconst 0, 1) := by decide +kernel
theorem dX9_isSame_22 : decode cX9_isSame 22 = .ok (.istore 4, 2) := by decide +kernel
theorem dX9_isSame_24 : decode cX9_isSame 24 = .ok (.iload 4, 2) := by decide +kernel
theorem dX9_isSame_26 : decode cX9_isSame 26 = .ok (.aload_n 0, 1) := by decide +kernel
theorem dX9_isSame_27 : decode cX9_isSame 27 = .ok (.getfield 51, 3) := by decide +kernel
theorem dX9_isSame_30 : decode cX9_isSame 30 = .ok (.iload_n 1, 1) := by decide +kernel
theorem dX9_isSame_31 : decode cX9_isSame 31 = .ok (.iaload, 1) := by decide +kernel
theorem dX9_isSame_32 : decode cX9_isSame 32 = .ok (.if_icmp .ge 46, 3) := by decide +kernel
theorem dX9_isSame_35 : decode cX9_isSame 35 = .ok (.iload_n 3, 1) := by decide +kernel
theorem dX9_isSame_36 : decode cX9_isSame 36 = .ok (.ifCond .eq 42, 3) := by decide +kernel
theorem dX9_isSame_39 : decode cX9_isSame 39 = .ok (.aload_n 0, 1) := by decide +kernel
theorem dX9_isSame_40 : decode cX9_isSame 40 = .ok (.getfield 48, 3) := by decide +kernel
theorem dX9_isSame_43 : decode cX9_isSame 43 = .ok (.bipush 60, 2) := by decide +kernel
theorem dX9_isSame_45 : decode cX9_isSame 45 = .ok (.iload_n 1, 1) := by decide +kernel
theorem dX9_isSame_46 : decode cX9_isSame 46 = .ok (.imul, 1) := by decide +kernel
theorem dX9_isSame_47 : decode cX9_isSame 47 = .ok (.iload 4, 2) := by decide +kernel
theorem dX9_isSame_49 : decode cX9_isSame 49 = .ok (.iadd, 1) := by decide +kernel
theorem dX9_isSame_50 : decode cX9_isSame 50 = .ok (.iaload, 1) := by decide +kernel
theorem dX9_isSame_51 : decode cX9_isSame 51 = .ok (.aload_n 0, 1) := by decide +kernel
theorem dX9_isSame_52 : decode cX9_isSame 52 = .ok (.getfield 48, 3) := by decide +kernel
theorem dX9_isSame_55 : decode cX9_isSame 55 = .ok (.bipush 60, 2) := by decide +kernel
theorem dX9_isSame_57 : decode cX9_isSame 57 = .ok (.iload_n 2, 1) := by decide +kernel
theorem dX9_isSame_58 : decode cX9_isSame 58 = .ok (.imul, 1) := by decide +kernel
theorem dX9_isSame_59 : decode cX9_isSame 59 = .ok (.iload 4, 2) := by decide +kernel
theorem dX9_isSame_61 : decode cX9_isSame 61 = .ok (.iadd, 1) := by decide +kernel
theorem dX9_isSame_62 : decode cX9_isSame 62 = .ok (.iaload, 1) := by decide +kernel
theorem dX9_isSame_63 : decode cX9_isSame 63 = .ok (.if_icmp .ne 7, 3) := by decide +kernel
theorem dX9_isSame_66 : decode cX9_isSame 66 = .ok (.iconst 1, 1) := by decide +kernel
theorem dX9_isSame_67 : decode cX9_isSame 67 = .ok (.goto 4, 3) := by decide +kernel
theorem dX9_isSame_70 : decode cX9_isSame 70 = .ok (.iconst 0, 1) := by decide +kernel
theorem dX9_isSame_71 : decode cX9_isSame 71 = .ok (.istore_n 3, 1) := by decide +kernel
theorem dX9_isSame_72 : decode cX9_isSame 72 = .ok (.iinc 4 1, 3) := by decide +kernel
theorem dX9_isSame_75 : decode cX9_isSame 75 = .ok (.goto (-51), 3) := by decide +kernel
theorem dX9_isSame_78 : decode cX9_isSame 78 = .ok (.iload_n 3, 1) := by decide +kernel
theorem dX9_isSame_79 : decode cX9_isSame 79 = .ok (.ireturn, 1) := by decide +kernel
theorem dX9_takeVariable_0 : decode cX9_takeVariable 0 = .ok (.aload_n 0, 1) := by decide +kernel
theorem dX9_takeVariable_1 : decode cX9_takeVariable 1 = .ok (.getfield 51, 3) := by decide +kernel
theorem dX9_takeVariable_4 : decode cX9_takeVariable 4 = .ok (.iload_n 1, 1) := by decide +kernel
theorem dX9_takeVariable_5 : decode cX9_takeVariable 5 = .ok (.aload_n 0, 1) := by decide +kernel
theorem dX9_takeVariable_6 : decode cX9_takeVariable 6 = .ok (.getfield 22, 3) := by decide +kernel
theorem dX9_takeVariable_9 : decode cX9_takeVariable 9 = .ok (.iload_n 2, 1) := by decide +kernel
theorem dX9_takeVariable_10 : decode cX9_takeVariable 10 = .ok (.iaload, 1) := by decide +kernel
theorem dX9_takeVariable_11 : decode cX9_takeVariable 11 = .ok (.iastore, 1) := by decide +kernel
theorem dX9_takeVariable_12 : decode cX9_takeVariable 12 = .ok (.iconst 0, 1) := by decide +kernel
theorem dX9_takeVariable_13 : decode cX9_takeVariable 13 = .ok (.istore_n 3, 1) := by decide +kernel
theorem dX9_takeVariable_14 : decode cX9_takeVariable 14 = .ok (.iload_n 3, 1) := by decide +kernel
theorem dX9_takeVariable_15 : decode cX9_takeVariable 15 = .ok (.aload_n 0, 1) := by decide +kernel
theorem dX9_takeVariable_16 : decode cX9_takeVariable 16 = .ok (.getfield 22, 3) := by decide +kernel
theorem dX9_takeVariable_19 : decode cX9_takeVariable 19 = .ok (.iload_n 2, 1) := by decide +kernel
theorem dX9_takeVariable_20 : decode cX9_takeVariable 20 = .ok (.iaload, 1) := by decide +kernel
theorem dX9_takeVariable_21 : decode cX9_takeVariable 21 = .ok (.if_icmp .ge 31, 3) := by decide +kernel
theorem dX9_takeVariable_24 : decode cX9_takeVariable 24 = .ok (.aload_n 0, 1) := by decide +kernel
theorem dX9_takeVariable_25 : decode cX9_takeVariable 25 = .ok (.getfield 48, 3) := by decide +kernel
theorem dX9_takeVariable_28 : decode cX9_takeVariable 28 = .ok (.bipush 60, 2) := by decide +kernel
theorem dX9_takeVariable_30 : decode cX9_takeVariable 30 = .ok (.iload_n 1, 1) := by decide +kernel
theorem dX9_takeVariable_31 : decode cX9_takeVariable 31 = .ok (.imul, 1) := by decide +kernel
theorem dX9_takeVariable_32 : decode cX9_takeVariable 32 = .ok (.iload_n 3, 1) := by decide +kernel
theorem dX9_takeVariable_33 : decode cX9_takeVariable 33 = .ok (.iadd, 1) := by decide +kernel
theorem dX9_takeVariable_34 : decode cX9_takeVariable 34 = .ok (.aload_n 0, 1) := by decide +kernel
theorem dX9_takeVariable_35 : decode cX9_takeVariable 35 = .ok (.getfield 19, 3) := by decide +kernel
theorem dX9_takeVariable_38 : decode cX9_takeVariable 38 = .ok (.bipush 60, 2) := by decide +kernel
theorem dX9_takeVariable_40 : decode cX9_takeVariable 40 = .ok (.iload_n 2, 1) := by decide +kernel
theorem dX9_takeVariable_41 : decode cX9_takeVariable 41 = .ok (.imul, 1) := by decide +kernel
theorem dX9_takeVariable_42 : decode cX9_takeVariable 42 = .ok (.iload_n 3, 1) := by decide +kernel
theorem dX9_takeVariable_43 : decode cX9_takeVariable 43 = .ok (.iadd, 1) := by decide +kernel
theorem dX9_takeVariable_44 : decode cX9_takeVariable 44 = .ok (.iaload, 1) := by decide +kernel
theorem dX9_takeVariable_45 : decode cX9_takeVariable 45 = .ok (.iastore, 1) := by decide +kernel
theorem dX9_takeVariable_46 : decode cX9_takeVariable 46 = .ok (.iinc 3 1, 3) := by decide +kernel
theorem dX9_takeVariable_49 : decode cX9_takeVariable 49 = .ok (.goto (-35), 3) := by decide +kernel
theorem dX9_takeVariable_52 : decode cX9_takeVariable 52 = .ok (.return_, 1) := by decide +kernel
theorem dX9_workOne_0 : decode cX9_workOne 0 = .ok (.aload_n 0, 1) := by decide +kernel
theorem dX9_workOne_1 : decode cX9_workOne 1 = .ok (.getfield 35, 3) := by decide +kernel
theorem dX9_workOne_4 : decode cX9_workOne 4 = .ok (.iload_n 1, 1) := by decide +kernel
theorem dX9_workOne_5 : decode cX9_workOne 5 = .ok (.caload, 1) := by decide +kernel
theorem dX9_workOne_6 : decode cX9_workOne 6 = .ok (.istore_n 2, 1) := by decide +kernel
theorem dX9_workOne_7 : decode cX9_workOne 7 = .ok (.aload_n 0, 1) := by decide +kernel
theorem dX9_workOne_8 : decode cX9_workOne 8 = .ok (.getfield 38, 3) := by decide +kernel
theorem dX9_workOne_11 : decode cX9_workOne 11 = .ok (.iload_n 1, 1) := by decide +kernel
theorem dX9_workOne_12 : decode cX9_workOne 12 = .ok (.iaload, 1) := by decide +kernel
theorem dX9_workOne_13 : decode cX9_workOne 13 = .ok (.istore_n 3, 1) := by decide +kernel
theorem dX9_workOne_14 : decode cX9_workOne 14 = .ok (.aload_n 0, 1) := by decide +kernel
theorem dX9_workOne_15 : decode cX9_workOne 15 = .ok (.getfield 41, 3) := by decide +kernel
theorem dX9_workOne_18 : decode cX9_workOne 18 = .ok (.iload_n 1, 1) := by decide +kernel
theorem dX9_workOne_19 : decode cX9_workOne 19 = .ok (.iaload, 1) := by decide +kernel
theorem dX9_workOne_20 : decode cX9_workOne 20 = .ok (.istore 4, 2) := by decide +kernel
theorem dX9_workOne_22 : decode cX9_workOne 22 = .ok (.aload_n 0, 1) := by decide +kernel
theorem dX9_workOne_23 : decode cX9_workOne 23 = .ok (.getfield 51, 3) := by decide +kernel
theorem dX9_workOne_26 : decode cX9_workOne 26 = .ok (.iload_n 1, 1) := by decide +kernel
theorem dX9_workOne_27 : decode cX9_workOne 27 = .ok (.iconst 0, 1) := by decide +kernel
theorem dX9_workOne_28 : decode cX9_workOne 28 = .ok (.iastore, 1) := by decide +kernel
theorem dX9_workOne_29 : decode cX9_workOne 29 = .ok (.iload_n 2, 1) := by decide +kernel
theorem dX9_workOne_30 : decode cX9_workOne 30 = .ok (.lookupswitch 408 #[(35, 230), (38, 194), (61, 392), (100, 310), (114, 243), (116, 74), (118, 132), (119, 140)], 74) := by decide +kernel
theorem dX9_workOne_104 : decode cX9_workOne 104 = .ok (.aload_n 0, 1) := by decide +kernel
theorem dX9_workOne_105 : decode cX9_workOne 105 = .ok (.getfield 51, 3) := by decide +kernel
theorem dX9_workOne_108 : decode cX9_workOne 108 = .ok (.iload_n 1, 1) := by decide +kernel
theorem dX9_workOne_109 : decode cX9_workOne 109 = .ok (.aload_n 0, 1) := by decide +kernel
theorem dX9_workOne_110 : decode cX9_workOne 110 = .ok (.getfield 16, 3) := by decide +kernel
theorem dX9_workOne_113 : decode cX9_workOne 113 = .ok (.iload_n 3, 1) := by decide +kernel
theorem dX9_workOne_114 : decode cX9_workOne 114 = .ok (.iaload, 1) := by decide +kernel
theorem dX9_workOne_115 : decode cX9_workOne 115 = .ok (.iastore, 1) := by decide +kernel
theorem dX9_workOne_116 : decode cX9_workOne 116 = .ok (.iconst 0, 1) := by decide +kernel
theorem dX9_workOne_117 : decode cX9_workOne 117 = .ok (.istore 5, 2) := by decide +kernel
theorem dX9_workOne_119 : decode cX9_workOne 119 = .ok (.iload 5, 2) := by decide +kernel
theorem dX9_workOne_121 : decode cX9_workOne 121 = .ok (.aload_n 0, 1) := by decide +kernel
theorem dX9_workOne_122 : decode cX9_workOne 122 = .ok (.getfield 16, 3) := by decide +kernel
theorem dX9_workOne_125 : decode cX9_workOne 125 = .ok (.iload_n 3, 1) := by decide +kernel
theorem dX9_workOne_126 : decode cX9_workOne 126 = .ok (.iaload, 1) := by decide +kernel
theorem dX9_workOne_127 : decode cX9_workOne 127 = .ok (.if_icmp .ge 33, 3) := by decide +kernel
theorem dX9_workOne_130 : decode cX9_workOne 130 = .ok (.aload_n 0, 1) := by decide +kernel
theorem dX9_workOne_131 : decode cX9_workOne 131 = .ok (.getfield 48, 3) := by decide +kernel
theorem dX9_workOne_134 : decode cX9_workOne 134 = .ok (.bipush 60, 2) := by decide +kernel
theorem dX9_workOne_136 : decode cX9_workOne 136 = .ok (.iload_n 1, 1) := by decide +kernel
theorem dX9_workOne_137 : decode cX9_workOne 137 = .ok (.imul, 1) := by decide +kernel
theorem dX9_workOne_138 : decode cX9_workOne 138 = .ok (.iload 5, 2) := by decide +kernel
theorem dX9_workOne_140 : decode cX9_workOne 140 = .ok (.iadd, 1) := by decide +kernel
theorem dX9_workOne_141 : decode cX9_workOne 141 = .ok (.aload_n 0, 1) := by decide +kernel
theorem dX9_workOne_142 : decode cX9_workOne 142 = .ok (.getfield 13, 3) := by decide +kernel
theorem dX9_workOne_145 : decode cX9_workOne 145 = .ok (.bipush 20, 2) := by decide +kernel
theorem dX9_workOne_147 : decode cX9_workOne 147 = .ok (.iload_n 3, 1) := by decide +kernel
theorem dX9_workOne_148 : decode cX9_workOne 148 = .ok (.imul, 1) := by decide +kernel
theorem dX9_workOne_149 : decode cX9_workOne 149 = .ok (.iload 5, 2) := by decide +kernel
theorem dX9_workOne_151 : decode cX9_workOne 151 = .ok (.iadd, 1) := by decide +kernel
theorem dX9_workOne_152 : decode cX9_workOne 152 = .ok (.iaload, 1) := by decide +kernel
theorem dX9_workOne_153 : decode cX9_workOne 153 = .ok (.iastore, 1) := by decide +kernel
theorem dX9_workOne_154 : decode cX9_workOne 154 = .ok (.iinc 5 1, 3) := by decide +kernel
theorem dX9_workOne_157 : decode cX9_workOne 157 = .ok (.goto (-38), 3) := by decide +kernel
theorem dX9_workOne_160 : decode cX9_workOne 160 = .ok (.iconst 0, 1) := by decide +kernel
theorem dX9_workOne_161 : decode cX9_workOne 161 = .ok (.ireturn, 1) := by decide +kernel
theorem dX9_workOne_162 : decode cX9_workOne 162 = .ok (.aload_n 0, 1) := by decide +kernel
theorem dX9_workOne_163 : decode cX9_workOne 163 = .ok (.iload_n 1, 1) := by decide +kernel
theorem dX9_workOne_164 : decode cX9_workOne 164 = .ok (.iload_n 3, 1) := by decide +kernel
theorem dX9_workOne_165 : decode cX9_workOne 165 = .ok (.invokevirtual 236, 3) := by decide +kernel
theorem dX9_workOne_168 : decode cX9_workOne 168 = .ok (.iconst 0, 1) := by decide +kernel
theorem dX9_workOne_169 : decode cX9_workOne 169 = .ok (.ireturn, 1) := by decide +kernel
theorem dX9_workOne_170 : decode cX9_workOne 170 = .ok (.aload_n 0, 1) := by decide +kernel
theorem dX9_workOne_171 : decode cX9_workOne 171 = .ok (.getfield 51, 3) := by decide +kernel
theorem dX9_workOne_174 : decode cX9_workOne 174 = .ok (.iload_n 3, 1) := by decide +kernel
theorem dX9_workOne_175 : decode cX9_workOne 175 = .ok (.iaload, 1) := by decide +kernel
theorem dX9_workOne_176 : decode cX9_workOne 176 = .ok (.iconst 1, 1) := by decide +kernel
theorem dX9_workOne_177 : decode cX9_workOne 177 = .ok (.if_icmp .ne 25, 3) := by decide +kernel
theorem dX9_workOne_180 : decode cX9_workOne 180 = .ok (.aload_n 0, 1) := by decide +kernel
theorem dX9_workOne_181 : decode cX9_workOne 181 = .ok (.getfield 48, 3) := by decide +kernel
theorem dX9_workOne_184 : decode cX9_workOne 184 = .ok (.bipush 60, 2) := by decide +kernel
theorem dX9_workOne_186 : decode cX9_workOne 186 = .ok (.iload_n 3, 1) := by decide +kernel
theorem dX9_workOne_187 : decode cX9_workOne 187 = .ok (.imul, 1) := by decide +kernel
theorem dX9_workOne_188 : decode cX9_workOne 188 = .ok (.iaload, 1) := by decide +kernel
theorem dX9_workOne_189 : decode cX9_workOne 189 = .ok (.i2l, 1) := by decide +kernel
theorem dX9_workOne_190 : decode cX9_workOne 190 = .ok (.ldc2_w 240, 3) := by decide +kernel
theorem dX9_workOne_193 : decode cX9_workOne 193 = .ok (.ldc2_w 242, 3) := by decide +kernel
theorem dX9_workOne_196 : decode cX9_workOne 196 = .ok (.invokestatic 167, 3) := by decide +kernel
theorem dX9_workOne_199 : decode cX9_workOne 199 = .ok (.ifCond .ne 6, 3) := by decide +kernel
theorem dX9_workOne_202 : decode cX9_workOne 202 = .ok (.bipush 8, 2) := by decide +kernel
theorem dX9_workOne_204 : decode cX9_workOne 204 = .ok (.ireturn, 1) := by decide +kernel
theorem dX9_workOne_205 : decode cX9_workOne 205 = .ok (.aload_n 0, 1) := by decide +kernel
theorem dX9_workOne_206 : decode cX9_workOne 206 = .ok (.iload_n 1, 1) := by decide +kernel
theorem dX9_workOne_207 : decode cX9_workOne 207 = .ok (.aload_n 0, 1) := by decide +kernel
theorem dX9_workOne_208 : decode cX9_workOne 208 = .ok (.getfield 48, 3) := by decide +kernel
theorem dX9_workOne_211 : decode cX9_workOne 211 = .ok (.bipush 60, 2) := by decide +kernel
theorem dX9_workOne_213 : decode cX9_workOne 213 = .ok (.iload_n 3, 1) := by decide +kernel
theorem dX9_workOne_214 : decode cX9_workOne 214 = .ok (.imul, 1) := by decide +kernel
theorem dX9_workOne_215 : decode cX9_workOne 215 = .ok (.iaload, 1) := by decide +kernel
theorem dX9_workOne_216 : decode cX9_workOne 216 = .ok (.bipush 97, 2) := by decide +kernel
theorem dX9_workOne_218 : decode cX9_workOne 218 = .ok (.isub, 1) := by decide +kernel
theorem dX9_workOne_219 : decode cX9_workOne 219 = .ok (.invokevirtual 236, 3) := by decide +kernel
theorem dX9_workOne_222 : decode cX9_workOne 222 = .ok (.iconst 0, 1) := by decide +kernel
theorem dX9_workOne_223 : decode cX9_workOne 223 = .ok (.ireturn, 1) := by decide +kernel
theorem dX9_workOne_224 : decode cX9_workOne 224 = .ok (.aload_n 0, 1) := by decide +kernel
theorem dX9_workOne_225 : decode cX9_workOne 225 = .ok (.getfield 51, 3) := by decide +kernel
theorem dX9_workOne_228 : decode cX9_workOne 228 = .ok (.iload_n 3, 1) := by decide +kernel
theorem dX9_workOne_229 : decode cX9_workOne 229 = .ok (.iaload, 1) := by decide +kernel
theorem dX9_workOne_230 : decode cX9_workOne 230 = .ok (.aload_n 0, 1) := by decide +kernel
theorem dX9_workOne_231 : decode cX9_workOne 231 = .ok (.getfield 51, 3) := by decide +kernel
theorem dX9_workOne_234 : decode cX9_workOne 234 = .ok (.iload 4, 2) := by decide +kernel
theorem dX9_workOne_236 : decode cX9_workOne 236 = .ok (.iaload, 1) := by decide +kernel
theorem dX9_workOne_237 : decode cX9_workOne 237 = .ok (.iadd, 1) := by decide +kernel
theorem dX9_workOne_238 : decode cX9_workOne 238 = .ok (.bipush 60, 2) := by decide +kernel
theorem dX9_workOne_240 : decode cX9_workOne 240 = .ok (.if_icmp .le 5, 3) := by decide +kernel
theorem dX9_workOne_243 : decode cX9_workOne 243 = .ok (.iconst 4, 1) := by decide +kernel
theorem dX9_workOne_244 : decode cX9_workOne 244 = .ok (.ireturn, 1) := by decide +kernel
theorem dX9_workOne_245 : decode cX9_workOne 245 = .ok (.aload_n 0, 1) := by decide +kernel
theorem dX9_workOne_246 : decode cX9_workOne 246 = .ok (.iload_n 1, 1) := by decide +kernel
theorem dX9_workOne_247 : decode cX9_workOne 247 = .ok (.iload_n 3, 1) := by decide +kernel
theorem dX9_workOne_248 : decode cX9_workOne 248 = .ok (.invokevirtual 244, 3) := by decide +kernel
theorem dX9_workOne_251 : decode cX9_workOne 251 = .ok (.aload_n 0, 1) := by decide +kernel
theorem dX9_workOne_252 : decode cX9_workOne 252 = .ok (.iload_n 1, 1) := by decide +kernel
theorem dX9_workOne_253 : decode cX9_workOne 253 = .ok (.iload 4, 2) := by decide +kernel
theorem dX9_workOne_255 : decode cX9_workOne 255 = .ok (.invokevirtual 244, 3) := by decide +kernel
theorem dX9_workOne_258 : decode cX9_workOne 258 = .ok (.iconst 0, 1) := by decide +kernel
theorem dX9_workOne_259 : decode cX9_workOne 259 = .ok (.ireturn, 1) := by decide +kernel
theorem dX9_workOne_260 : decode cX9_workOne 260 = .ok (.aload_n 0, 1) := by decide +kernel
theorem dX9_workOne_261 : decode cX9_workOne 261 = .ok (.iload_n 1, 1) := by decide +kernel
theorem dX9_workOne_262 : decode cX9_workOne 262 = .ok (.aload_n 0, 1) := by decide +kernel
theorem dX9_workOne_263 : decode cX9_workOne 263 = .ok (.getfield 51, 3) := by decide +kernel
theorem dX9_workOne_266 : decode cX9_workOne 266 = .ok (.iload_n 3, 1) := by decide +kernel
theorem dX9_workOne_267 : decode cX9_workOne 267 = .ok (.iaload, 1) := by decide +kernel
theorem dX9_workOne_268 : decode cX9_workOne 268 = .ok (.i2l, 1) := by decide +kernel
theorem dX9_workOne_269 : decode cX9_workOne 269 = .ok (.invokevirtual 232, 3) := by decide +kernel
theorem dX9_workOne_272 : decode cX9_workOne 272 = .ok (.ireturn, 1) := by decide +kernel
theorem dX9_workOne_273 : decode cX9_workOne 273 = .ok (.aload_n 0, 1) := by decide +kernel
theorem dX9_workOne_274 : decode cX9_workOne 274 = .ok (.getfield 51, 3) := by decide +kernel
theorem dX9_workOne_277 : decode cX9_workOne 277 = .ok (.iload_n 1, 1) := by decide +kernel
theorem dX9_workOne_278 : decode cX9_workOne 278 = .ok (.aload_n 0, 1) := by decide +kernel
theorem dX9_workOne_279 : decode cX9_workOne 279 = .ok (.getfield 51, 3) := by decide +kernel
theorem dX9_workOne_282 : decode cX9_workOne 282 = .ok (.iload_n 3, 1) := by decide +kernel
theorem dX9_workOne_283 : decode cX9_workOne 283 = .ok (.iaload, 1) := by decide +kernel
theorem dX9_workOne_284 : decode cX9_workOne 284 = .ok (.iastore, 1) := by decide +kernel
theorem dX9_workOne_285 : decode cX9_workOne 285 = .ok (.iconst 0, 1) := by decide +kernel
theorem dX9_workOne_286 : decode cX9_workOne 286 = .ok (.istore 5, 2) := by decide +kernel
theorem dX9_workOne_288 : decode cX9_workOne 288 = .ok (.iload 5, 2) := by decide +kernel
theorem dX9_workOne_290 : decode cX9_workOne 290 = .ok (.aload_n 0, 1) := by decide +kernel
theorem dX9_workOne_291 : decode cX9_workOne 291 = .ok (.getfield 51, 3) := by decide +kernel
theorem dX9_workOne_294 : decode cX9_workOne 294 = .ok (.iload_n 3, 1) := by decide +kernel
theorem dX9_workOne_295 : decode cX9_workOne 295 = .ok (.iaload, 1) := by decide +kernel
theorem dX9_workOne_296 : decode cX9_workOne 296 = .ok (.if_icmp .ge 42, 3) := by decide +kernel
theorem dX9_workOne_299 : decode cX9_workOne 299 = .ok (.aload_n 0, 1) := by decide +kernel
theorem dX9_workOne_300 : decode cX9_workOne 300 = .ok (.getfield 48, 3) := by decide +kernel
theorem dX9_workOne_303 : decode cX9_workOne 303 = .ok (.bipush 60, 2) := by decide +kernel
theorem dX9_workOne_305 : decode cX9_workOne 305 = .ok (.iload_n 1, 1) := by decide +kernel
theorem dX9_workOne_306 : decode cX9_workOne 306 = .ok (.imul, 1) := by decide +kernel
theorem dX9_workOne_307 : decode cX9_workOne 307 = .ok (.iload 5, 2) := by decide +kernel
theorem dX9_workOne_309 : decode cX9_workOne 309 = .ok (.iadd, 1) := by decide +kernel
theorem dX9_workOne_310 : decode cX9_workOne 310 = .ok (.aload_n 0, 1) := by decide +kernel
theorem dX9_workOne_311 : decode cX9_workOne 311 = .ok (.getfield 48, 3) := by decide +kernel
theorem dX9_workOne_314 : decode cX9_workOne 314 = .ok (.bipush 60, 2) := by decide +kernel
theorem dX9_workOne_316 : decode cX9_workOne 316 = .ok (.iload_n 3, 1) := by decide +kernel
theorem dX9_workOne_317 : decode cX9_workOne 317 = .ok (.imul, 1) := by decide +kernel
theorem dX9_workOne_318 : decode cX9_workOne 318 = .ok (.aload_n 0, 1) := by decide +kernel
theorem dX9_workOne_319 : decode cX9_workOne 319 = .ok (.getfield 51, 3) := by decide +kernel
theorem dX9_workOne_322 : decode cX9_workOne 322 = .ok (.iload_n 3, 1) := by decide +kernel
theorem dX9_workOne_323 : decode cX9_workOne 323 = .ok (.iaload, 1) := by decide +kernel
theorem dX9_workOne_324 : decode cX9_workOne 324 = .ok (.iadd, 1) := by decide +kernel
theorem dX9_workOne_325 : decode cX9_workOne 325 = .ok (.iconst 1, 1) := by decide +kernel
theorem dX9_workOne_326 : decode cX9_workOne 326 = .ok (.isub, 1) := by decide +kernel
theorem dX9_workOne_327 : decode cX9_workOne 327 = .ok (.iload 5, 2) := by decide +kernel
theorem dX9_workOne_329 : decode cX9_workOne 329 = .ok (.isub, 1) := by decide +kernel
theorem dX9_workOne_330 : decode cX9_workOne 330 = .ok (.iaload, 1) := by decide +kernel
theorem dX9_workOne_331 : decode cX9_workOne 331 = .ok (.iastore, 1) := by decide +kernel
theorem dX9_workOne_332 : decode cX9_workOne 332 = .ok (.iinc 5 1, 3) := by decide +kernel
theorem dX9_workOne_335 : decode cX9_workOne 335 = .ok (.goto (-47), 3) := by decide +kernel
theorem dX9_workOne_338 : decode cX9_workOne 338 = .ok (.iconst 0, 1) := by decide +kernel
theorem dX9_workOne_339 : decode cX9_workOne 339 = .ok (.ireturn, 1) := by decide +kernel
theorem dX9_workOne_340 : decode cX9_workOne 340 = .ok (.aload_n 0, 1) := by decide +kernel
theorem dX9_workOne_341 : decode cX9_workOne 341 = .ok (.iload 4, 2) := by decide +kernel
theorem dX9_workOne_343 : decode cX9_workOne 343 = .ok (.invokevirtual 225, 3) := by decide +kernel
theorem dX9_workOne_346 : decode cX9_workOne 346 = .ok (.ifCond .eq 19, 3) := by decide +kernel
theorem dX9_workOne_349 : decode cX9_workOne 349 = .ok (.aload_n 0, 1) := by decide +kernel
theorem dX9_workOne_350 : decode cX9_workOne 350 = .ok (.iload 4, 2) := by decide +kernel
theorem dX9_workOne_352 : decode cX9_workOne 352 = .ok (.invokevirtual 228, 3) := by decide +kernel
theorem dX9_workOne_355 : decode cX9_workOne 355 = .ok (.lconst 0, 1) := by decide +kernel
theorem dX9_workOne_356 : decode cX9_workOne 356 = .ok (.ldc2_w 204, 3) := by decide +kernel
theorem dX9_workOne_359 : decode cX9_workOne 359 = .ok (.invokestatic 167, 3) := by decide +kernel
theorem dX9_workOne_362 : decode cX9_workOne 362 = .ok (.ifCond .ne 5, 3) := by decide +kernel
theorem dX9_workOne_365 : decode cX9_workOne 365 = .ok (.iconst 1, 1) := by decide +kernel
theorem dX9_workOne_366 : decode cX9_workOne 366 = .ok (.ireturn, 1) := by decide +kernel
theorem dX9_workOne_367 : decode cX9_workOne 367 = .ok (.aload_n 0, 1) := by decide +kernel
theorem dX9_workOne_368 : decode cX9_workOne 368 = .ok (.getfield 51, 3) := by decide +kernel
theorem dX9_workOne_371 : decode cX9_workOne 371 = .ok (.iload_n 3, 1) := by decide +kernel
theorem dX9_workOne_372 : decode cX9_workOne 372 = .ok (.iaload, 1) := by decide +kernel
theorem dX9_workOne_373 : decode cX9_workOne 373 = .ok (.i2l, 1) := by decide +kernel
theorem dX9_workOne_374 : decode cX9_workOne 374 = .ok (.aload_n 0, 1) := by decide +kernel
theorem dX9_workOne_375 : decode cX9_workOne 375 = .ok (.iload 4, 2) := by decide +kernel
theorem dX9_workOne_377 : decode cX9_workOne 377 = .ok (.invokevirtual 228, 3) := by decide +kernel
theorem dX9_workOne_380 : decode cX9_workOne 380 = .ok (.lmul, 1) := by decide +kernel
theorem dX9_workOne_381 : decode cX9_workOne 381 = .ok (.ldc2_w 204, 3) := by decide +kernel
theorem dX9_workOne_384 : decode cX9_workOne 384 = .ok (.lcmp, 1) := by decide +kernel
theorem dX9_workOne_385 : decode cX9_workOne 385 = .ok (.ifCond .le 5, 3) := by decide +kernel
theorem dX9_workOne_388 : decode cX9_workOne 388 = .ok (.iconst 4, 1) := by decide +kernel
theorem dX9_workOne_389 : decode cX9_workOne 389 = .ok (.ireturn, 1) := by decide +kernel
theorem dX9_workOne_390 : decode cX9_workOne 390 = .ok (.aload_n 0, 1) := by decide +kernel
theorem dX9_workOne_391 : decode cX9_workOne 391 = .ok (.iload 4, 2) := by decide +kernel
theorem dX9_workOne_393 : decode cX9_workOne 393 = .ok (.invokevirtual 228, 3) := by decide +kernel
theorem dX9_workOne_396 : decode cX9_workOne 396 = .ok (.lstore 5, 2) := by decide +kernel
theorem dX9_workOne_398 : decode cX9_workOne 398 = .ok (.lload 5, 2) := by decide +kernel
theorem dX9_workOne_400 : decode cX9_workOne 400 = .ok (.lconst 0, 1) := by decide +kernel
theorem dX9_workOne_401 : decode cX9_workOne 401 = .ok (.lcmp, 1) := by decide +kernel
theorem dX9_workOne_402 : decode cX9_workOne 402 = .ok (.ifCond .le 18, 3) := by decide +kernel
theorem dX9_workOne_405 : decode cX9_workOne 405 = .ok (.aload_n 0, 1) := by decide +kernel
theorem dX9_workOne_406 : decode cX9_workOne 406 = .ok (.iload_n 1, 1) := by decide +kernel
theorem dX9_workOne_407 : decode cX9_workOne 407 = .ok (.iload_n 3, 1) := by decide +kernel
theorem dX9_workOne_408 : decode cX9_workOne 408 = .ok (.invokevirtual 244, 3) := by decide +kernel
theorem dX9_workOne_411 : decode cX9_workOne 411 = .ok (.lload 5, 2) := by decide +kernel
theorem dX9_workOne_413 : decode cX9_workOne 413 = .ok (.lconst 1, 1) := by decide +kernel
theorem dX9_workOne_414 : decode cX9_workOne 414 = .ok (.lsub, 1) := by decide +kernel
theorem dX9_workOne_415 : decode cX9_workOne 415 = .ok (.lstore 5, 2) := by decide +kernel
theorem dX9_workOne_417 : decode cX9_workOne 417 = .ok (.goto (-19), 3) := by decide +kernel
theorem dX9_workOne_420 : decode cX9_workOne 420 = .ok (.iconst 0, 1) := by decide +kernel
theorem dX9_workOne_421 : decode cX9_workOne 421 = .ok (.ireturn, 1) := by decide +kernel
theorem dX9_workOne_422 : decode cX9_workOne 422 = .ok (.aload_n 0, 1) := by decide +kernel
theorem dX9_workOne_423 : decode cX9_workOne 423 = .ok (.iload_n 3, 1) := by decide +kernel
theorem dX9_workOne_424 : decode cX9_workOne 424 = .ok (.iload 4, 2) := by decide +kernel
theorem dX9_workOne_426 : decode cX9_workOne 426 = .ok (.invokevirtual 247, 3) := by decide +kernel
theorem dX9_workOne_429 : decode cX9_workOne 429 = .ok (.ifCond .eq 7, 3) := by decide +kernel
theorem dX9_workOne_432 : decode cX9_workOne 432 = .ok (.iconst 0, 1) := by decide +kernel
theorem dX9_workOne_433 : decode cX9_workOne 433 = .ok (.goto 4, 3) := by decide +kernel
theorem dX9_workOne_436 : decode cX9_workOne 436 = .ok (.iconst (-1), 1) := by decide +kernel
theorem dX9_workOne_437 : decode cX9_workOne 437 = .ok (.ireturn, 1) := by decide +kernel
theorem dX9_workOne_438 : decode cX9_workOne 438 = .ok (.aload_n 0, 1) := by decide +kernel
theorem dX9_workOne_439 : decode cX9_workOne 439 = .ok (.iload_n 1, 1) := by decide +kernel
theorem dX9_workOne_440 : decode cX9_workOne 440 = .ok (.iload_n 2, 1) := by decide +kernel
theorem dX9_workOne_441 : decode cX9_workOne 441 = .ok (.iload_n 3, 1) := by decide +kernel
theorem dX9_workOne_442 : decode cX9_workOne 442 = .ok (.iload 4, 2) := by decide +kernel
theorem dX9_workOne_444 : decode cX9_workOne 444 = .ok (.invokevirtual 251, 3) := by decide +kernel
theorem dX9_workOne_447 : decode cX9_workOne 447 = .ok (.ireturn, 1) := by decide +kernel
theorem dX9_workOut_0 : decode cX9_workOut 0 = .ok (.iconst 0, 1) := by decide +kernel
theorem dX9_workOut_1 : decode cX9_workOut 1 = .ok (.istore_n 2, 1) := by decide +kernel
theorem dX9_workOut_2 : decode cX9_workOut 2 = .ok (.iload_n 2, 1) := by decide +kernel
theorem dX9_workOut_3 : decode cX9_workOut 3 = .ok (.bipush 50, 2) := by decide +kernel
theorem dX9_workOut_5 : decode cX9_workOut 5 = .ok (.if_icmp .ge 25, 3) := by decide +kernel
theorem dX9_workOut_8 : decode cX9_workOut 8 = .ok (.aload_n 0, 1) := by decide +kernel
theorem dX9_workOut_9 : decode cX9_workOut 9 = .ok (.getfield 44, 3) := by decide +kernel
theorem dX9_workOut_12 : decode cX9_workOut 12 = .ok (.iload_n 2, 1) := by decide +kernel
theorem dX9_workOut_13 : decode cX9_workOut 13 = .ok (.iload_n 2, 1) := by decide +kernel
theorem dX9_workOut_14 : decode cX9_workOut 14 = .ok (.iload_n 1, 1) := by decide +kernel
theorem dX9_workOut_15 : decode cX9_workOut 15 = .ok (.if_icmp .ne 7, 3) := by decide +kernel
theorem dX9_workOut_18 : decode cX9_workOut 18 = .ok (.iconst 1, 1) := by decide +kernel
theorem dX9_workOut_19 : decode cX9_workOut 19 = .ok (.goto 4, 3) := by decide +kernel
theorem dX9_workOut_22 : decode cX9_workOut 22 = .ok (.iconst 0, 1) := by decide +kernel
theorem dX9_workOut_23 : decode cX9_workOut 23 = .ok (.bastore, 1) := by decide +kernel
theorem dX9_workOut_24 : decode cX9_workOut 24 = .ok (.iinc 2 1, 3) := by decide +kernel
theorem dX9_workOut_27 : decode cX9_workOut 27 = .ok (.goto (-25), 3) := by decide +kernel
theorem dX9_workOut_30 : decode cX9_workOut 30 = .ok (.iload_n 1, 1) := by decide +kernel
theorem dX9_workOut_31 : decode cX9_workOut 31 = .ok (.istore_n 2, 1) := by decide +kernel
theorem dX9_workOut_32 : decode cX9_workOut 32 = .ok (.iload_n 2, 1) := by decide +kernel
theorem dX9_workOut_33 : decode cX9_workOut 33 = .ok (.ifCond .lt 71, 3) := by decide +kernel
theorem dX9_workOut_36 : decode cX9_workOut 36 = .ok (.aload_n 0, 1) := by decide +kernel
theorem dX9_workOut_37 : decode cX9_workOut 37 = .ok (.getfield 35, 3) := by decide +kernel
theorem dX9_workOut_40 : decode cX9_workOut 40 = .ok (.iload_n 2, 1) := by decide +kernel
theorem dX9_workOut_41 : decode cX9_workOut 41 = .ok (.caload, 1) := by decide +kernel
theorem dX9_workOut_42 : decode cX9_workOut 42 = .ok (.invokestatic 209, 3) := by decide +kernel
theorem dX9_workOut_45 : decode cX9_workOut 45 = .ok (.istore_n 3, 1) := by decide +kernel
theorem dX9_workOut_46 : decode cX9_workOut 46 = .ok (.aload_n 0, 1) := by decide +kernel
theorem dX9_workOut_47 : decode cX9_workOut 47 = .ok (.getfield 44, 3) := by decide +kernel
theorem dX9_workOut_50 : decode cX9_workOut 50 = .ok (.iload_n 2, 1) := by decide +kernel
theorem dX9_workOut_51 : decode cX9_workOut 51 = .ok (.baload, 1) := by decide +kernel
theorem dX9_workOut_52 : decode cX9_workOut 52 = .ok (.ifCond .eq 46, 3) := by decide +kernel
theorem dX9_workOut_55 : decode cX9_workOut 55 = .ok (.iload_n 3, 1) := by decide +kernel
theorem dX9_workOut_56 : decode cX9_workOut 56 = .ok (.iconst 2, 1) := by decide +kernel
theorem dX9_workOut_57 : decode cX9_workOut 57 = .ok (.if_icmp .le 41, 3) := by decide +kernel
theorem dX9_workOut_60 : decode cX9_workOut 60 = .ok (.aload_n 0, 1) := by decide +kernel
theorem dX9_workOut_61 : decode cX9_workOut 61 = .ok (.getfield 44, 3) := by decide +kernel
theorem dX9_workOut_64 : decode cX9_workOut 64 = .ok (.aload_n 0, 1) := by decide +kernel
theorem dX9_workOut_65 : decode cX9_workOut 65 = .ok (.getfield 38, 3) := by decide +kernel
theorem dX9_workOut_68 : decode cX9_workOut 68 = .ok (.iload_n 2, 1) := by decide +kernel
theorem dX9_workOut_69 : decode cX9_workOut 69 = .ok (.iaload, 1) := by decide +kernel
theorem dX9_workOut_70 : decode cX9_workOut 70 = .ok (.iconst 1, 1) := by decide +kernel
theorem dX9_workOut_71 : decode cX9_workOut 71 = .ok (.bastore, 1) := by decide +kernel
theorem dX9_workOut_72 : decode cX9_workOut 72 = .ok (.aload_n 0, 1) := by decide +kernel
theorem dX9_workOut_73 : decode cX9_workOut 73 = .ok (.getfield 44, 3) := by decide +kernel
theorem dX9_workOut_76 : decode cX9_workOut 76 = .ok (.iload_n 3, 1) := by decide +kernel
theorem dX9_workOut_77 : decode cX9_workOut 77 = .ok (.iconst 4, 1) := by decide +kernel
theorem dX9_workOut_78 : decode cX9_workOut 78 = .ok (.if_icmp .ne 12, 3) := by decide +kernel
theorem dX9_workOut_81 : decode cX9_workOut 81 = .ok (.aload_n 0, 1) := by decide +kernel
theorem dX9_workOut_82 : decode cX9_workOut 82 = .ok (.getfield 41, 3) := by decide +kernel
theorem dX9_workOut_85 : decode cX9_workOut 85 = .ok (.iload_n 2, 1) := by decide +kernel
theorem dX9_workOut_86 : decode cX9_workOut 86 = .ok (.iaload, 1) := by decide +kernel
theorem dX9_workOut_87 : decode cX9_workOut 87 = .ok (.goto 9, 3) := by decide +kernel
theorem dX9_workOut_90 : decode cX9_workOut 90 = .ok (.aload_n 0, 1) := by decide +kernel
theorem dX9_workOut_91 : decode cX9_workOut 91 = .ok (.getfield 38, 3) := by decide +kernel
theorem dX9_workOut_94 : decode cX9_workOut 94 = .ok (.iload_n 2, 1) := by decide +kernel
theorem dX9_workOut_95 : decode cX9_workOut 95 = .ok (.iaload, 1) := by decide +kernel
theorem dX9_workOut_96 : decode cX9_workOut 96 = .ok (.iconst 1, 1) := by decide +kernel
theorem dX9_workOut_97 : decode cX9_workOut 97 = .ok (.bastore, 1) := by decide +kernel
theorem dX9_workOut_98 : decode cX9_workOut 98 = .ok (.iinc 2 (-1), 3) := by decide +kernel
theorem dX9_workOut_101 : decode cX9_workOut 101 = .ok (.goto (-69), 3) := by decide +kernel
theorem dX9_workOut_104 : decode cX9_workOut 104 = .ok (.iconst 0, 1) := by decide +kernel
theorem dX9_workOut_105 : decode cX9_workOut 105 = .ok (.istore_n 2, 1) := by decide +kernel
theorem dX9_workOut_106 : decode cX9_workOut 106 = .ok (.iconst 0, 1) := by decide +kernel
theorem dX9_workOut_107 : decode cX9_workOut 107 = .ok (.istore_n 3, 1) := by decide +kernel
theorem dX9_workOut_108 : decode cX9_workOut 108 = .ok (.iload_n 3, 1) := by decide +kernel
theorem dX9_workOut_109 : decode cX9_workOut 109 = .ok (.iload_n 1, 1) := by decide +kernel
theorem dX9_workOut_110 : decode cX9_workOut 110 = .ok (.if_icmp .gt 32, 3) := by decide +kernel
theorem dX9_workOut_113 : decode cX9_workOut 113 = .ok (.iload_n 2, 1) := by decide +kernel
theorem dX9_workOut_114 : decode cX9_workOut 114 = .ok (.ifCond .ne 28, 3) := by decide +kernel
theorem dX9_workOut_117 : decode cX9_workOut 117 = .ok (.aload_n 0, 1) := by decide +kernel
theorem dX9_workOut_118 : decode cX9_workOut 118 = .ok (.getfield 44, 3) := by decide +kernel
theorem dX9_workOut_121 : decode cX9_workOut 121 = .ok (.iload_n 3, 1) := by decide +kernel
theorem dX9_workOut_122 : decode cX9_workOut 122 = .ok (.baload, 1) := by decide +kernel
theorem dX9_workOut_123 : decode cX9_workOut 123 = .ok (.ifCond .eq 11, 3) := by decide +kernel
theorem dX9_workOut_126 : decode cX9_workOut 126 = .ok (.aload_n 0, 1) := by decide +kernel
theorem dX9_workOut_127 : decode cX9_workOut 127 = .ok (.iload_n 3, 1) := by decide +kernel
theorem dX9_workOut_128 : decode cX9_workOut 128 = .ok (.invokevirtual 255, 3) := by decide +kernel
theorem dX9_workOut_131 : decode cX9_workOut 131 = .ok (.goto 4, 3) := by decide +kernel
theorem dX9_workOut_134 : decode cX9_workOut 134 = .ok (.iconst 0, 1) := by decide +kernel
theorem dX9_workOut_135 : decode cX9_workOut 135 = .ok (.istore_n 2, 1) := by decide +kernel
theorem dX9_workOut_136 : decode cX9_workOut 136 = .ok (.iinc 3 1, 3) := by decide +kernel
theorem dX9_workOut_139 : decode cX9_workOut 139 = .ok (.goto (-31), 3) := by decide +kernel
theorem dX9_workOut_142 : decode cX9_workOut 142 = .ok (.iload_n 2, 1) := by decide +kernel
theorem dX9_workOut_143 : decode cX9_workOut 143 = .ok (.ireturn, 1) := by decide +kernel
theorem dX9_addGoal_0 : decode cX9_addGoal 0 = .ok (.aload_n 0, 1) := by decide +kernel
theorem dX9_addGoal_1 : decode cX9_addGoal 1 = .ok (.getfield 57, 3) := by decide +kernel
theorem dX9_addGoal_4 : decode cX9_addGoal 4 = .ok (.aload_n 0, 1) := by decide +kernel
theorem dX9_addGoal_5 : decode cX9_addGoal 5 = .ok (.getfield 259, 3) := by decide +kernel
theorem dX9_addGoal_8 : decode cX9_addGoal 8 = .ok (.iload_n 1, 1) := by decide +kernel
theorem dX9_addGoal_9 : decode cX9_addGoal 9 = .ok (.iastore, 1) := by decide +kernel
theorem dX9_addGoal_10 : decode cX9_addGoal 10 = .ok (.aload_n 0, 1) := by decide +kernel
theorem dX9_addGoal_11 : decode cX9_addGoal 11 = .ok (.getfield 60, 3) := by decide +kernel
theorem dX9_addGoal_14 : decode cX9_addGoal 14 = .ok (.aload_n 0, 1) := by decide +kernel
theorem dX9_addGoal_15 : decode cX9_addGoal 15 = .ok (.getfield 259, 3) := by decide +kernel
theorem dX9_addGoal_18 : decode cX9_addGoal 18 = .ok (.iload_n 2, 1) := by decide +kernel
theorem dX9_addGoal_19 : decode cX9_addGoal 19 = .ok (.iastore, 1) := by decide +kernel
theorem dX9_addGoal_20 : decode cX9_addGoal 20 = .ok (.aload_n 0, 1) := by decide +kernel
theorem dX9_addGoal_21 : decode cX9_addGoal 21 = .ok (.getfield 63, 3) := by decide +kernel
theorem dX9_addGoal_24 : decode cX9_addGoal 24 = .ok (.aload_n 0, 1) := by decide +kernel
theorem dX9_addGoal_25 : decode cX9_addGoal 25 = .ok (.getfield 259, 3) := by decide +kernel
theorem dX9_addGoal_28 : decode cX9_addGoal 28 = .ok (.iload_n 3, 1) := by decide +kernel
theorem dX9_addGoal_29 : decode cX9_addGoal 29 = .ok (.iastore, 1) := by decide +kernel
theorem dX9_addGoal_30 : decode cX9_addGoal 30 = .ok (.aload_n 0, 1) := by decide +kernel
theorem dX9_addGoal_31 : decode cX9_addGoal 31 = .ok (.getfield 66, 3) := by decide +kernel
theorem dX9_addGoal_34 : decode cX9_addGoal 34 = .ok (.aload_n 0, 1) := by decide +kernel
theorem dX9_addGoal_35 : decode cX9_addGoal 35 = .ok (.getfield 259, 3) := by decide +kernel
theorem dX9_addGoal_38 : decode cX9_addGoal 38 = .ok (.iload 4, 2) := by decide +kernel
theorem dX9_addGoal_40 : decode cX9_addGoal 40 = .ok (.iastore, 1) := by decide +kernel
theorem dX9_addGoal_41 : decode cX9_addGoal 41 = .ok (.aload_n 0, 1) := by decide +kernel
theorem dX9_addGoal_42 : decode cX9_addGoal 42 = .ok (.dup, 1) := by decide +kernel
theorem dX9_addGoal_43 : decode cX9_addGoal 43 = .ok (.getfield 259, 3) := by decide +kernel
theorem dX9_addGoal_46 : decode cX9_addGoal 46 = .ok (.iconst 1, 1) := by decide +kernel
theorem dX9_addGoal_47 : decode cX9_addGoal 47 = .ok (.iadd, 1) := by decide +kernel
theorem dX9_addGoal_48 : decode cX9_addGoal 48 = .ok (.putfield 259, 3) := by decide +kernel
theorem dX9_addGoal_51 : decode cX9_addGoal 51 = .ok (.aload_n 0, 1) := by decide +kernel
theorem dX9_addGoal_52 : decode cX9_addGoal 52 = .ok (.getfield 259, 3) := by decide +kernel
theorem dX9_addGoal_55 : decode cX9_addGoal 55 = .ok (.iconst 1, 1) := by decide +kernel
theorem dX9_addGoal_56 : decode cX9_addGoal 56 = .ok (.isub, 1) := by decide +kernel
theorem dX9_addGoal_57 : decode cX9_addGoal 57 = .ok (.ireturn, 1) := by decide +kernel
theorem dX9_addChoice_0 : decode cX9_addChoice 0 = .ok (.aload_n 0, 1) := by decide +kernel
theorem dX9_addChoice_1 : decode cX9_addChoice 1 = .ok (.getfield 69, 3) := by decide +kernel
theorem dX9_addChoice_4 : decode cX9_addChoice 4 = .ok (.aload_n 0, 1) := by decide +kernel
theorem dX9_addChoice_5 : decode cX9_addChoice 5 = .ok (.getfield 262, 3) := by decide +kernel
theorem dX9_addChoice_8 : decode cX9_addChoice 8 = .ok (.iload_n 1, 1) := by decide +kernel
theorem dX9_addChoice_9 : decode cX9_addChoice 9 = .ok (.iastore, 1) := by decide +kernel
theorem dX9_addChoice_10 : decode cX9_addChoice 10 = .ok (.aload_n 0, 1) := by decide +kernel
theorem dX9_addChoice_11 : decode cX9_addChoice 11 = .ok (.getfield 72, 3) := by decide +kernel
theorem dX9_addChoice_14 : decode cX9_addChoice 14 = .ok (.aload_n 0, 1) := by decide +kernel
theorem dX9_addChoice_15 : decode cX9_addChoice 15 = .ok (.getfield 262, 3) := by decide +kernel
theorem dX9_addChoice_18 : decode cX9_addChoice 18 = .ok (.iload_n 2, 1) := by decide +kernel
theorem dX9_addChoice_19 : decode cX9_addChoice 19 = .ok (.iastore, 1) := by decide +kernel
theorem dX9_addChoice_20 : decode cX9_addChoice 20 = .ok (.aload_n 0, 1) := by decide +kernel
theorem dX9_addChoice_21 : decode cX9_addChoice 21 = .ok (.getfield 75, 3) := by decide +kernel
theorem dX9_addChoice_24 : decode cX9_addChoice 24 = .ok (.aload_n 0, 1) := by decide +kernel
theorem dX9_addChoice_25 : decode cX9_addChoice 25 = .ok (.getfield 262, 3) := by decide +kernel
theorem dX9_addChoice_28 : decode cX9_addChoice 28 = .ok (.iload_n 3, 1) := by decide +kernel
theorem dX9_addChoice_29 : decode cX9_addChoice 29 = .ok (.iastore, 1) := by decide +kernel
theorem dX9_addChoice_30 : decode cX9_addChoice 30 = .ok (.aload_n 0, 1) := by decide +kernel
theorem dX9_addChoice_31 : decode cX9_addChoice 31 = .ok (.getfield 78, 3) := by decide +kernel
theorem dX9_addChoice_34 : decode cX9_addChoice 34 = .ok (.aload_n 0, 1) := by decide +kernel
theorem dX9_addChoice_35 : decode cX9_addChoice 35 = .ok (.getfield 262, 3) := by decide +kernel
theorem dX9_addChoice_38 : decode cX9_addChoice 38 = .ok (.iload 4, 2) := by decide +kernel
theorem dX9_addChoice_40 : decode cX9_addChoice 40 = .ok (.iastore, 1) := by decide +kernel
theorem dX9_addChoice_41 : decode cX9_addChoice 41 = .ok (.aload_n 0, 1) := by decide +kernel
theorem dX9_addChoice_42 : decode cX9_addChoice 42 = .ok (.getfield 81, 3) := by decide +kernel
theorem dX9_addChoice_45 : decode cX9_addChoice 45 = .ok (.aload_n 0, 1) := by decide +kernel
theorem dX9_addChoice_46 : decode cX9_addChoice 46 = .ok (.getfield 262, 3) := by decide +kernel
theorem dX9_addChoice_49 : decode cX9_addChoice 49 = .ok (.aload_n 0, 1) := by decide +kernel
theorem dX9_addChoice_50 : decode cX9_addChoice 50 = .ok (.getfield 265, 3) := by decide +kernel
theorem dX9_addChoice_53 : decode cX9_addChoice 53 = .ok (.iastore, 1) := by decide +kernel
theorem dX9_addChoice_54 : decode cX9_addChoice 54 = .ok (.aload_n 0, 1) := by decide +kernel
theorem dX9_addChoice_55 : decode cX9_addChoice 55 = .ok (.getfield 84, 3) := by decide +kernel
theorem dX9_addChoice_58 : decode cX9_addChoice 58 = .ok (.aload_n 0, 1) := by decide +kernel
theorem dX9_addChoice_59 : decode cX9_addChoice 59 = .ok (.getfield 262, 3) := by decide +kernel
theorem dX9_addChoice_62 : decode cX9_addChoice 62 = .ok (.aload_n 0, 1) := by decide +kernel
theorem dX9_addChoice_63 : decode cX9_addChoice 63 = .ok (.getfield 259, 3) := by decide +kernel
theorem dX9_addChoice_66 : decode cX9_addChoice 66 = .ok (.iastore, 1) := by decide +kernel
theorem dX9_addChoice_67 : decode cX9_addChoice 67 = .ok (.aload_n 0, 1) := by decide +kernel
theorem dX9_addChoice_68 : decode cX9_addChoice 68 = .ok (.dup, 1) := by decide +kernel
theorem dX9_addChoice_69 : decode cX9_addChoice 69 = .ok (.getfield 262, 3) := by decide +kernel
theorem dX9_addChoice_72 : decode cX9_addChoice 72 = .ok (.iconst 1, 1) := by decide +kernel
theorem dX9_addChoice_73 : decode cX9_addChoice 73 = .ok (.iadd, 1) := by decide +kernel
theorem dX9_addChoice_74 : decode cX9_addChoice 74 = .ok (.putfield 262, 3) := by decide +kernel
theorem dX9_addChoice_77 : decode cX9_addChoice 77 = .ok (.return_, 1) := by decide +kernel
theorem dX9_isIn_0 : decode cX9_isIn 0 = .ok (.iconst 0, 1) := by decide +kernel
theorem dX9_isIn_1 : decode cX9_isIn 1 = .ok (.istore_n 3, 1) := by decide +kernel
theorem dX9_isIn_2 : decode cX9_isIn 2 = .ok (.iconst 0, 1) := by decide +kernel
theorem dX9_isIn_3 : decode cX9_isIn 3 = .ok (.istore 4, 2) := by decide +kernel
theorem dX9_isIn_5 : decode cX9_isIn 5 = .ok (.iload 4, 2) := by decide +kernel
theorem dX9_isIn_7 : decode cX9_isIn 7 = .ok (.aload_n 0, 1) := by decide +kernel
theorem dX9_isIn_8 : decode cX9_isIn 8 = .ok (.getfield 16, 3) := by decide +kernel
theorem dX9_isIn_11 : decode cX9_isIn 11 = .ok (.iload_n 2, 1) := by decide +kernel
theorem dX9_isIn_12 : decode cX9_isIn 12 = .ok (.iaload, 1) := by decide +kernel
theorem dX9_isIn_13 : decode cX9_isIn 13 = .ok (.if_icmp .ge 35, 3) := by decide +kernel
theorem dX9_isIn_16 : decode cX9_isIn 16 = .ok (.iload_n 3, 1) := by decide +kernel
theorem dX9_isIn_17 : decode cX9_isIn 17 = .ok (.ifCond .ne 19, 3) := by decide +kernel
theorem dX9_isIn_20 : decode cX9_isIn 20 = .ok (.aload_n 0, 1) := by decide +kernel
theorem dX9_isIn_21 : decode cX9_isIn 21 = .ok (.getfield 13, 3) := by decide +kernel
theorem dX9_isIn_24 : decode cX9_isIn 24 = .ok (.bipush 20, 2) := by decide +kernel
theorem dX9_isIn_26 : decode cX9_isIn 26 = .ok (.iload_n 2, 1) := by decide +kernel
theorem dX9_isIn_27 : decode cX9_isIn 27 = .ok (.imul, 1) := by decide +kernel
theorem dX9_isIn_28 : decode cX9_isIn 28 = .ok (.iload 4, 2) := by decide +kernel
theorem dX9_isIn_30 : decode cX9_isIn 30 = .ok (.iadd, 1) := by decide +kernel
theorem dX9_isIn_31 : decode cX9_isIn 31 = .ok (.iaload, 1) := by decide +kernel
theorem dX9_isIn_32 : decode cX9_isIn 32 = .ok (.iload_n 1, 1) := by decide +kernel
theorem dX9_isIn_33 : decode cX9_isIn 33 = .ok (.if_icmp .ne 7, 3) := by decide +kernel
theorem dX9_isIn_36 : decode cX9_isIn 36 = .ok (.iconst 1, 1) := by decide +kernel
theorem dX9_isIn_37 : decode cX9_isIn 37 = .ok (.goto 4, 3) := by decide +kernel
theorem dX9_isIn_40 : decode cX9_isIn 40 = .ok (.iconst 0, 1) := by decide +kernel
theorem dX9_isIn_41 : decode cX9_isIn 41 = .ok (.istore_n 3, 1) := by decide +kernel
theorem dX9_isIn_42 : decode cX9_isIn 42 = .ok (.iinc 4 1, 3) := by decide +kernel
theorem dX9_isIn_45 : decode cX9_isIn 45 = .ok (.goto (-40), 3) := by decide +kernel
theorem dX9_isIn_48 : decode cX9_isIn 48 = .ok (.iload_n 3, 1) := by decide +kernel
theorem dX9_isIn_49 : decode cX9_isIn 49 = .ok (.ireturn, 1) := by decide +kernel
theorem dX9_assign_0 : decode cX9_assign 0 = .ok (.iload_n 2, 1) := by decide +kernel
theorem dX9_assign_1 : decode cX9_assign 1 = .ok (.istore 4, 2) := by decide +kernel
theorem dX9_assign_3 : decode cX9_assign 3 = .ok (.iload 4, 2) := by decide +kernel
theorem dX9_assign_5 : decode cX9_assign 5 = .ok (.iload_n 3, 1) := by decide +kernel
theorem dX9_assign_6 : decode cX9_assign 6 = .ok (.if_icmp .ge 30, 3) := by decide +kernel
theorem dX9_assign_9 : decode cX9_assign 9 = .ok (.aload_n 0, 1) := by decide +kernel
theorem dX9_assign_10 : decode cX9_assign 10 = .ok (.getfield 19, 3) := by decide +kernel
theorem dX9_assign_13 : decode cX9_assign 13 = .ok (.bipush 60, 2) := by decide +kernel
theorem dX9_assign_15 : decode cX9_assign 15 = .ok (.iload_n 1, 1) := by decide +kernel
theorem dX9_assign_16 : decode cX9_assign 16 = .ok (.imul, 1) := by decide +kernel
theorem dX9_assign_17 : decode cX9_assign 17 = .ok (.iload 4, 2) := by decide +kernel
theorem dX9_assign_19 : decode cX9_assign 19 = .ok (.iadd, 1) := by decide +kernel
theorem dX9_assign_20 : decode cX9_assign 20 = .ok (.iload_n 2, 1) := by decide +kernel
theorem dX9_assign_21 : decode cX9_assign 21 = .ok (.isub, 1) := by decide +kernel
theorem dX9_assign_22 : decode cX9_assign 22 = .ok (.aload_n 0, 1) := by decide +kernel
theorem dX9_assign_23 : decode cX9_assign 23 = .ok (.getfield 54, 3) := by decide +kernel
theorem dX9_assign_26 : decode cX9_assign 26 = .ok (.iload 4, 2) := by decide +kernel
theorem dX9_assign_28 : decode cX9_assign 28 = .ok (.iaload, 1) := by decide +kernel
theorem dX9_assign_29 : decode cX9_assign 29 = .ok (.iastore, 1) := by decide +kernel
theorem dX9_assign_30 : decode cX9_assign 30 = .ok (.iinc 4 1, 3) := by decide +kernel
theorem dX9_assign_33 : decode cX9_assign 33 = .ok (.goto (-30), 3) := by decide +kernel
theorem dX9_assign_36 : decode cX9_assign 36 = .ok (.aload_n 0, 1) := by decide +kernel
theorem dX9_assign_37 : decode cX9_assign 37 = .ok (.getfield 22, 3) := by decide +kernel
theorem dX9_assign_40 : decode cX9_assign 40 = .ok (.iload_n 1, 1) := by decide +kernel
theorem dX9_assign_41 : decode cX9_assign 41 = .ok (.iload_n 3, 1) := by decide +kernel
theorem dX9_assign_42 : decode cX9_assign 42 = .ok (.iload_n 2, 1) := by decide +kernel
theorem dX9_assign_43 : decode cX9_assign 43 = .ok (.isub, 1) := by decide +kernel
theorem dX9_assign_44 : decode cX9_assign 44 = .ok (.iastore, 1) := by decide +kernel
theorem dX9_assign_45 : decode cX9_assign 45 = .ok (.return_, 1) := by decide +kernel
theorem dX9_assignCursor_0 : decode cX9_assignCursor 0 = .ok (.aload_n 0, 1) := by decide +kernel
theorem dX9_assignCursor_1 : decode cX9_assignCursor 1 = .ok (.getfield 22, 3) := by decide +kernel
theorem dX9_assignCursor_4 : decode cX9_assignCursor 4 = .ok (.iload_n 1, 1) := by decide +kernel
theorem dX9_assignCursor_5 : decode cX9_assignCursor 5 = .ok (.aload_n 0, 1) := by decide +kernel
theorem dX9_assignCursor_6 : decode cX9_assignCursor 6 = .ok (.getfield 268, 3) := by decide +kernel
theorem dX9_assignCursor_9 : decode cX9_assignCursor 9 = .ok (.bipush 9, 2) := by decide +kernel
theorem dX9_assignCursor_11 : decode cX9_assignCursor 11 = .ok (.if_icmp .le 7, 3) := by decide +kernel
theorem dX9_assignCursor_14 : decode cX9_assignCursor 14 = .ok (.iconst 2, 1) := by decide +kernel
theorem dX9_assignCursor_15 : decode cX9_assignCursor 15 = .ok (.goto 4, 3) := by decide +kernel
theorem dX9_assignCursor_18 : decode cX9_assignCursor 18 = .ok (.iconst 1, 1) := by decide +kernel
theorem dX9_assignCursor_19 : decode cX9_assignCursor 19 = .ok (.iastore, 1) := by decide +kernel
theorem dX9_assignCursor_20 : decode cX9_assignCursor 20 = .ok (.aload_n 0, 1) := by decide +kernel
theorem dX9_assignCursor_21 : decode cX9_assignCursor 21 = .ok (.getfield 19, 3) := by decide +kernel
theorem dX9_assignCursor_24 : decode cX9_assignCursor 24 = .ok (.bipush 60, 2) := by decide +kernel
theorem dX9_assignCursor_26 : decode cX9_assignCursor 26 = .ok (.iload_n 1, 1) := by decide +kernel
theorem dX9_assignCursor_27 : decode cX9_assignCursor 27 = .ok (.imul, 1) := by decide +kernel
theorem dX9_assignCursor_28 : decode cX9_assignCursor 28 = .ok (.bipush 48, 2) := by decide +kernel
theorem dX9_assignCursor_30 : decode cX9_assignCursor 30 = .ok (.aload_n 0, 1) := by decide +kernel
theorem dX9_assignCursor_31 : decode cX9_assignCursor 31 = .ok (.getfield 268, 3) := by decide +kernel
theorem dX9_assignCursor_34 : decode cX9_assignCursor 34 = .ok (.bipush 9, 2) := by decide +kernel
theorem dX9_assignCursor_36 : decode cX9_assignCursor 36 = .ok (.if_icmp .le 13, 3) := by decide +kernel
theorem dX9_assignCursor_39 : decode cX9_assignCursor 39 = .ok (.aload_n 0, 1) := by decide +kernel
theorem dX9_assignCursor_40 : decode cX9_assignCursor 40 = .ok (.getfield 268, 3) := by decide +kernel
theorem dX9_assignCursor_43 : decode cX9_assignCursor 43 = .ok (.bipush 10, 2) := by decide +kernel
theorem dX9_assignCursor_45 : decode cX9_assignCursor 45 = .ok (.idiv, 1) := by decide +kernel
theorem dX9_assignCursor_46 : decode cX9_assignCursor 46 = .ok (.goto 7, 3) := by decide +kernel
theorem dX9_assignCursor_49 : decode cX9_assignCursor 49 = .ok (.aload_n 0, 1) := by decide +kernel
theorem dX9_assignCursor_50 : decode cX9_assignCursor 50 = .ok (.getfield 268, 3) := by decide +kernel
theorem dX9_assignCursor_53 : decode cX9_assignCursor 53 = .ok (.iadd, 1) := by decide +kernel
theorem dX9_assignCursor_54 : decode cX9_assignCursor 54 = .ok (.iastore, 1) := by decide +kernel
theorem dX9_assignCursor_55 : decode cX9_assignCursor 55 = .ok (.aload_n 0, 1) := by decide +kernel
theorem dX9_assignCursor_56 : decode cX9_assignCursor 56 = .ok (.getfield 19, 3) := by decide +kernel
theorem dX9_assignCursor_59 : decode cX9_assignCursor 59 = .ok (.bipush 60, 2) := by decide +kernel
theorem dX9_assignCursor_61 : decode cX9_assignCursor 61 = .ok (.iload_n 1, 1) := by decide +kernel
theorem dX9_assignCursor_62 : decode cX9_assignCursor 62 = .ok (.imul, 1) := by decide +kernel
theorem dX9_assignCursor_63 : decode cX9_assignCursor 63 = .ok (.iconst 1, 1) := by decide +kernel
theorem dX9_assignCursor_64 : decode cX9_assignCursor 64 = .ok (.iadd, 1) := by decide +kernel
theorem dX9_assignCursor_65 : decode cX9_assignCursor 65 = .ok (.bipush 48, 2) := by decide +kernel
theorem dX9_assignCursor_67 : decode cX9_assignCursor 67 = .ok (.aload_n 0, 1) := by decide +kernel
theorem dX9_assignCursor_68 : decode cX9_assignCursor 68 = .ok (.getfield 268, 3) := by decide +kernel
theorem dX9_assignCursor_71 : decode cX9_assignCursor 71 = .ok (.bipush 10, 2) := by decide +kernel
theorem dX9_assignCursor_73 : decode cX9_assignCursor 73 = .ok (.irem, 1) := by decide +kernel
theorem dX9_assignCursor_74 : decode cX9_assignCursor 74 = .ok (.iadd, 1) := by decide +kernel
theorem dX9_assignCursor_75 : decode cX9_assignCursor 75 = .ok (.iastore, 1) := by decide +kernel
theorem dX9_assignCursor_76 : decode cX9_assignCursor 76 = .ok (.return_, 1) := by decide +kernel
theorem dX9_textTakes_0 : decode cX9_textTakes 0 = .ok (.aload_n 0, 1) := by decide +kernel
theorem dX9_textTakes_1 : decode cX9_textTakes 1 = .ok (.getfield 268, 3) := by decide +kernel
theorem dX9_textTakes_4 : decode cX9_textTakes 4 = .ok (.aload_n 0, 1) := by decide +kernel
theorem dX9_textTakes_5 : decode cX9_textTakes 5 = .ok (.getfield 16, 3) := by decide +kernel
theorem dX9_textTakes_8 : decode cX9_textTakes 8 = .ok (.iload_n 1, 1) := by decide +kernel
theorem dX9_textTakes_9 : decode cX9_textTakes 9 = .ok (.iaload, 1) := by decide +kernel
theorem dX9_textTakes_10 : decode cX9_textTakes 10 = .ok (.iadd, 1) := by decide +kernel
theorem dX9_textTakes_11 : decode cX9_textTakes 11 = .ok (.aload_n 0, 1) := by decide +kernel
theorem dX9_textTakes_12 : decode cX9_textTakes 12 = .ok (.getfield 271, 3) := by decide +kernel
theorem dX9_textTakes_15 : decode cX9_textTakes 15 = .ok (.if_icmp .gt 7, 3) := by decide +kernel
theorem dX9_textTakes_18 : decode cX9_textTakes 18 = .ok (.iconst 1, 1) := by decide +kernel
theorem dX9_textTakes_19 : decode cX9_textTakes 19 = .ok (.goto 4, 3) := by decide +kernel
theorem dX9_textTakes_22 : decode cX9_textTakes 22 = .ok (.iconst 0, 1) := by decide +kernel
theorem dX9_textTakes_23 : decode cX9_textTakes 23 = .ok (.istore_n 2, 1) := by decide +kernel
theorem dX9_textTakes_24 : decode cX9_textTakes 24 = .ok (.iconst 0, 1) := by decide +kernel
theorem dX9_textTakes_25 : decode cX9_textTakes 25 = .ok (.istore_n 3, 1) := by decide +kernel
theorem dX9_textTakes_26 : decode cX9_textTakes 26 = .ok (.iload_n 3, 1) := by decide +kernel
theorem dX9_textTakes_27 : decode cX9_textTakes 27 = .ok (.aload_n 0, 1) := by decide +kernel
theorem dX9_textTakes_28 : decode cX9_textTakes 28 = .ok (.getfield 16, 3) := by decide +kernel
theorem dX9_textTakes_31 : decode cX9_textTakes 31 = .ok (.iload_n 1, 1) := by decide +kernel
theorem dX9_textTakes_32 : decode cX9_textTakes 32 = .ok (.iaload, 1) := by decide +kernel
theorem dX9_textTakes_33 : decode cX9_textTakes 33 = .ok (.if_icmp .ge 44, 3) := by decide +kernel
theorem dX9_textTakes_36 : decode cX9_textTakes 36 = .ok (.iload_n 2, 1) := by decide +kernel
theorem dX9_textTakes_37 : decode cX9_textTakes 37 = .ok (.ifCond .eq 40, 3) := by decide +kernel
theorem dX9_textTakes_40 : decode cX9_textTakes 40 = .ok (.aload_n 0, 1) := by decide +kernel
theorem dX9_textTakes_41 : decode cX9_textTakes 41 = .ok (.getfield 54, 3) := by decide +kernel
theorem dX9_textTakes_44 : decode cX9_textTakes 44 = .ok (.aload_n 0, 1) := by decide +kernel
theorem dX9_textTakes_45 : decode cX9_textTakes 45 = .ok (.getfield 268, 3) := by decide +kernel
theorem dX9_textTakes_48 : decode cX9_textTakes 48 = .ok (.iload_n 3, 1) := by decide +kernel
theorem dX9_textTakes_49 : decode cX9_textTakes 49 = .ok (.iadd, 1) := by decide +kernel
theorem dX9_textTakes_50 : decode cX9_textTakes 50 = .ok (.iaload, 1) := by decide +kernel
theorem dX9_textTakes_51 : decode cX9_textTakes 51 = .ok (.aload_n 0, 1) := by decide +kernel
theorem dX9_textTakes_52 : decode cX9_textTakes 52 = .ok (.getfield 13, 3) := by decide +kernel
theorem dX9_textTakes_55 : decode cX9_textTakes 55 = .ok (.bipush 20, 2) := by decide +kernel
theorem dX9_textTakes_57 : decode cX9_textTakes 57 = .ok (.iload_n 1, 1) := by decide +kernel
theorem dX9_textTakes_58 : decode cX9_textTakes 58 = .ok (.imul, 1) := by decide +kernel
theorem dX9_textTakes_59 : decode cX9_textTakes 59 = .ok (.iload_n 3, 1) := by decide +kernel
theorem dX9_textTakes_60 : decode cX9_textTakes 60 = .ok (.iadd, 1) := by decide +kernel
theorem dX9_textTakes_61 : decode cX9_textTakes 61 = .ok (.iaload, 1) := by decide +kernel
theorem dX9_textTakes_62 : decode cX9_textTakes 62 = .ok (.if_icmp .ne 7, 3) := by decide +kernel
theorem dX9_textTakes_65 : decode cX9_textTakes 65 = .ok (.iconst 1, 1) := by decide +kernel
theorem dX9_textTakes_66 : decode cX9_textTakes 66 = .ok (.goto 4, 3) := by decide +kernel
theorem dX9_textTakes_69 : decode cX9_textTakes 69 = .ok (.iconst 0, 1) := by decide +kernel
theorem dX9_textTakes_70 : decode cX9_textTakes 70 = .ok (.istore_n 2, 1) := by decide +kernel
theorem dX9_textTakes_71 : decode cX9_textTakes 71 = .ok (.iinc 3 1, 3) := by decide +kernel
theorem dX9_textTakes_74 : decode cX9_textTakes 74 = .ok (.goto (-48), 3) := by decide +kernel
theorem dX9_textTakes_77 : decode cX9_textTakes 77 = .ok (.iload_n 2, 1) := by decide +kernel
theorem dX9_textTakes_78 : decode cX9_textTakes 78 = .ok (.ifCond .eq 12, 3) := by decide +kernel
theorem dX9_textTakes_81 : decode cX9_textTakes 81 = .ok (.aload_n 0, 1) := by decide +kernel
theorem dX9_textTakes_82 : decode cX9_textTakes 82 = .ok (.getfield 16, 3) := by decide +kernel
theorem dX9_textTakes_85 : decode cX9_textTakes 85 = .ok (.iload_n 1, 1) := by decide +kernel
theorem dX9_textTakes_86 : decode cX9_textTakes 86 = .ok (.iaload, 1) := by decide +kernel
theorem dX9_textTakes_87 : decode cX9_textTakes 87 = .ok (.goto 4, 3) := by decide +kernel
theorem dX9_textTakes_90 : decode cX9_textTakes 90 = .ok (.iconst (-1), 1) := by decide +kernel
theorem dX9_textTakes_91 : decode cX9_textTakes 91 = .ok (.ireturn, 1) := by decide +kernel
theorem dX9_valueTakes_0 : decode cX9_valueTakes 0 = .ok (.aload_n 0, 1) := by decide +kernel
theorem dX9_valueTakes_1 : decode cX9_valueTakes 1 = .ok (.getfield 268, 3) := by decide +kernel
theorem dX9_valueTakes_4 : decode cX9_valueTakes 4 = .ok (.aload_n 0, 1) := by decide +kernel
theorem dX9_valueTakes_5 : decode cX9_valueTakes 5 = .ok (.getfield 22, 3) := by decide +kernel
theorem dX9_valueTakes_8 : decode cX9_valueTakes 8 = .ok (.iload_n 1, 1) := by decide +kernel
theorem dX9_valueTakes_9 : decode cX9_valueTakes 9 = .ok (.iaload, 1) := by decide +kernel
theorem dX9_valueTakes_10 : decode cX9_valueTakes 10 = .ok (.iadd, 1) := by decide +kernel
theorem dX9_valueTakes_11 : decode cX9_valueTakes 11 = .ok (.aload_n 0, 1) := by decide +kernel
theorem dX9_valueTakes_12 : decode cX9_valueTakes 12 = .ok (.getfield 271, 3) := by decide +kernel
theorem dX9_valueTakes_15 : decode cX9_valueTakes 15 = .ok (.if_icmp .gt 7, 3) := by decide +kernel
theorem dX9_valueTakes_18 : decode cX9_valueTakes 18 = .ok (.iconst 1, 1) := by decide +kernel
theorem dX9_valueTakes_19 : decode cX9_valueTakes 19 = .ok (.goto 4, 3) := by decide +kernel
theorem dX9_valueTakes_22 : decode cX9_valueTakes 22 = .ok (.iconst 0, 1) := by decide +kernel
theorem dX9_valueTakes_23 : decode cX9_valueTakes 23 = .ok (.istore_n 2, 1) := by decide +kernel
theorem dX9_valueTakes_24 : decode cX9_valueTakes 24 = .ok (.iconst 0, 1) := by decide +kernel
theorem dX9_valueTakes_25 : decode cX9_valueTakes 25 = .ok (.istore_n 3, 1) := by decide +kernel
theorem dX9_valueTakes_26 : decode cX9_valueTakes 26 = .ok (.iload_n 3, 1) := by decide +kernel
theorem dX9_valueTakes_27 : decode cX9_valueTakes 27 = .ok (.aload_n 0, 1) := by decide +kernel
theorem dX9_valueTakes_28 : decode cX9_valueTakes 28 = .ok (.getfield 22, 3) := by decide +kernel
theorem dX9_valueTakes_31 : decode cX9_valueTakes 31 = .ok (.iload_n 1, 1) := by decide +kernel
theorem dX9_valueTakes_32 : decode cX9_valueTakes 32 = .ok (.iaload, 1) := by decide +kernel
theorem dX9_valueTakes_33 : decode cX9_valueTakes 33 = .ok (.if_icmp .ge 44, 3) := by decide +kernel
theorem dX9_valueTakes_36 : decode cX9_valueTakes 36 = .ok (.iload_n 2, 1) := by decide +kernel
theorem dX9_valueTakes_37 : decode cX9_valueTakes 37 = .ok (.ifCond .eq 40, 3) := by decide +kernel
theorem dX9_valueTakes_40 : decode cX9_valueTakes 40 = .ok (.aload_n 0, 1) := by decide +kernel
theorem dX9_valueTakes_41 : decode cX9_valueTakes 41 = .ok (.getfield 54, 3) := by decide +kernel
theorem dX9_valueTakes_44 : decode cX9_valueTakes 44 = .ok (.aload_n 0, 1) := by decide +kernel
theorem dX9_valueTakes_45 : decode cX9_valueTakes 45 = .ok (.getfield 268, 3) := by decide +kernel
theorem dX9_valueTakes_48 : decode cX9_valueTakes 48 = .ok (.iload_n 3, 1) := by decide +kernel
theorem dX9_valueTakes_49 : decode cX9_valueTakes 49 = .ok (.iadd, 1) := by decide +kernel
theorem dX9_valueTakes_50 : decode cX9_valueTakes 50 = .ok (.iaload, 1) := by decide +kernel
theorem dX9_valueTakes_51 : decode cX9_valueTakes 51 = .ok (.aload_n 0, 1) := by decide +kernel
theorem dX9_valueTakes_52 : decode cX9_valueTakes 52 = .ok (.getfield 19, 3) := by decide +kernel
theorem dX9_valueTakes_55 : decode cX9_valueTakes 55 = .ok (.bipush 60, 2) := by decide +kernel
theorem dX9_valueTakes_57 : decode cX9_valueTakes 57 = .ok (.iload_n 1, 1) := by decide +kernel
theorem dX9_valueTakes_58 : decode cX9_valueTakes 58 = .ok (.imul, 1) := by decide +kernel
theorem dX9_valueTakes_59 : decode cX9_valueTakes 59 = .ok (.iload_n 3, 1) := by decide +kernel
theorem dX9_valueTakes_60 : decode cX9_valueTakes 60 = .ok (.iadd, 1) := by decide +kernel
theorem dX9_valueTakes_61 : decode cX9_valueTakes 61 = .ok (.iaload, 1) := by decide +kernel
theorem dX9_valueTakes_62 : decode cX9_valueTakes 62 = .ok (.if_icmp .ne 7, 3) := by decide +kernel
theorem dX9_valueTakes_65 : decode cX9_valueTakes 65 = .ok (.iconst 1, 1) := by decide +kernel
theorem dX9_valueTakes_66 : decode cX9_valueTakes 66 = .ok (.goto 4, 3) := by decide +kernel
theorem dX9_valueTakes_69 : decode cX9_valueTakes 69 = .ok (.iconst 0, 1) := by decide +kernel
theorem dX9_valueTakes_70 : decode cX9_valueTakes 70 = .ok (.istore_n 2, 1) := by decide +kernel
theorem dX9_valueTakes_71 : decode cX9_valueTakes 71 = .ok (.iinc 3 1, 3) := by decide +kernel
theorem dX9_valueTakes_74 : decode cX9_valueTakes 74 = .ok (.goto (-48), 3) := by decide +kernel
theorem dX9_valueTakes_77 : decode cX9_valueTakes 77 = .ok (.iload_n 2, 1) := by decide +kernel
theorem dX9_valueTakes_78 : decode cX9_valueTakes 78 = .ok (.ifCond .eq 12, 3) := by decide +kernel
theorem dX9_valueTakes_81 : decode cX9_valueTakes 81 = .ok (.aload_n 0, 1) := by decide +kernel
theorem dX9_valueTakes_82 : decode cX9_valueTakes 82 = .ok (.getfield 22, 3) := by decide +kernel
theorem dX9_valueTakes_85 : decode cX9_valueTakes 85 = .ok (.iload_n 1, 1) := by decide +kernel
theorem dX9_valueTakes_86 : decode cX9_valueTakes 86 = .ok (.iaload, 1) := by decide +kernel
theorem dX9_valueTakes_87 : decode cX9_valueTakes 87 = .ok (.goto 4, 3) := by decide +kernel
theorem dX9_valueTakes_90 : decode cX9_valueTakes 90 = .ok (.iconst (-1), 1) := by decide +kernel
theorem dX9_valueTakes_91 : decode cX9_valueTakes 91 = .ok (.ireturn, 1) := by decide +kernel
theorem dX9_balanced_0 : decode cX9_balanced 0 = .ok (.iconst 0, 1) := by decide +kernel
theorem dX9_balanced_1 : decode cX9_balanced 1 = .ok (.istore_n 3, 1) := by decide +kernel
theorem dX9_balanced_2 : decode cX9_balanced 2 = .ok (.iload_n 1, 1) := by decide +kernel
theorem dX9_balanced_3 : decode cX9_balanced 3 = .ok (.istore 4, 2) := by decide +kernel
theorem dX9_balanced_5 : decode cX9_balanced 5 = .ok (.iload 4, 2) := by decide +kernel
theorem dX9_balanced_7 : decode cX9_balanced 7 = .ok (.aload_n 0, 1) := by decide +kernel
theorem dX9_balanced_8 : decode cX9_balanced 8 = .ok (.getfield 271, 3) := by decide +kernel
theorem dX9_balanced_11 : decode cX9_balanced 11 = .ok (.if_icmp .ge 68, 3) := by decide +kernel
theorem dX9_balanced_14 : decode cX9_balanced 14 = .ok (.iload_n 3, 1) := by decide +kernel
theorem dX9_balanced_15 : decode cX9_balanced 15 = .ok (.ifCond .lt 64, 3) := by decide +kernel
theorem dX9_balanced_18 : decode cX9_balanced 18 = .ok (.iload_n 3, 1) := by decide +kernel
theorem dX9_balanced_19 : decode cX9_balanced 19 = .ok (.aload_n 0, 1) := by decide +kernel
theorem dX9_balanced_20 : decode cX9_balanced 20 = .ok (.getfield 54, 3) := by decide +kernel
theorem dX9_balanced_23 : decode cX9_balanced 23 = .ok (.iload 4, 2) := by decide +kernel
theorem dX9_balanced_25 : decode cX9_balanced 25 = .ok (.iaload, 1) := by decide +kernel
theorem dX9_balanced_26 : decode cX9_balanced 26 = .ok (.bipush 40, 2) := by decide +kernel
theorem dX9_balanced_28 : decode cX9_balanced 28 = .ok (.if_icmp .ne 7, 3) := by decide +kernel
theorem dX9_balanced_31 : decode cX9_balanced 31 = .ok (.iconst 1, 1) := by decide +kernel
theorem dX9_balanced_32 : decode cX9_balanced 32 = .ok (.goto 20, 3) := by decide +kernel
theorem dX9_balanced_35 : decode cX9_balanced 35 = .ok (.aload_n 0, 1) := by decide +kernel
theorem dX9_balanced_36 : decode cX9_balanced 36 = .ok (.getfield 54, 3) := by decide +kernel
theorem dX9_balanced_39 : decode cX9_balanced 39 = .ok (.iload 4, 2) := by decide +kernel
theorem dX9_balanced_41 : decode cX9_balanced 41 = .ok (.iaload, 1) := by decide +kernel
theorem dX9_balanced_42 : decode cX9_balanced 42 = .ok (.bipush 41, 2) := by decide +kernel
theorem dX9_balanced_44 : decode cX9_balanced 44 = .ok (.if_icmp .ne 7, 3) := by decide +kernel
theorem dX9_balanced_47 : decode cX9_balanced 47 = .ok (.iconst (-1), 1) := by decide +kernel
theorem dX9_balanced_48 : decode cX9_balanced 48 = .ok (.goto 4, 3) := by decide +kernel
theorem dX9_balanced_51 : decode cX9_balanced 51 = .ok (.iconst 0, 1) := by decide +kernel
theorem dX9_balanced_52 : decode cX9_balanced 52 = .ok (.iadd, 1) := by decide +kernel
theorem dX9_balanced_53 : decode cX9_balanced 53 = .ok (.istore_n 3, 1) := by decide +kernel
theorem dX9_balanced_54 : decode cX9_balanced 54 = .ok (.iload_n 3, 1) := by decide +kernel
theorem dX9_balanced_55 : decode cX9_balanced 55 = .ok (.ifCond .ne 18, 3) := by decide +kernel
theorem dX9_balanced_58 : decode cX9_balanced 58 = .ok (.iload 4, 2) := by decide +kernel
theorem dX9_balanced_60 : decode cX9_balanced 60 = .ok (.iconst 1, 1) := by decide +kernel
theorem dX9_balanced_61 : decode cX9_balanced 61 = .ok (.iadd, 1) := by decide +kernel
theorem dX9_balanced_62 : decode cX9_balanced 62 = .ok (.iload_n 1, 1) := by decide +kernel
theorem dX9_balanced_63 : decode cX9_balanced 63 = .ok (.isub, 1) := by decide +kernel
theorem dX9_balanced_64 : decode cX9_balanced 64 = .ok (.iload_n 2, 1) := by decide +kernel
theorem dX9_balanced_65 : decode cX9_balanced 65 = .ok (.if_icmp .le 8, 3) := by decide +kernel
theorem dX9_balanced_68 : decode cX9_balanced 68 = .ok (.iload 4, 2) := by decide +kernel
theorem dX9_balanced_70 : decode cX9_balanced 70 = .ok (.iconst 1, 1) := by decide +kernel
theorem dX9_balanced_71 : decode cX9_balanced 71 = .ok (.iadd, 1) := by decide +kernel
theorem dX9_balanced_72 : decode cX9_balanced 72 = .ok (.ireturn, 1) := by decide +kernel
theorem dX9_balanced_73 : decode cX9_balanced 73 = .ok (.iinc 4 1, 3) := by decide +kernel
theorem dX9_balanced_76 : decode cX9_balanced 76 = .ok (.goto (-71), 3) := by decide +kernel
theorem dX9_balanced_79 : decode cX9_balanced 79 = .ok (.iconst (-1), 1) := by decide +kernel
theorem dX9_balanced_80 : decode cX9_balanced 80 = .ok (.ireturn, 1) := by decide +kernel
theorem dX9_takes_0 : decode cX9_takes 0 = .ok (.iconst 0, 1) := by decide +kernel
theorem dX9_takes_1 : decode cX9_takes 1 = .ok (.istore_n 3, 1) := by decide +kernel
theorem dX9_takes_2 : decode cX9_takes 2 = .ok (.iload_n 1, 1) := by decide +kernel
theorem dX9_takes_3 : decode cX9_takes 3 = .ok (.lookupswitch 410 #[(35, 290), (107, 233), (108, 105), (109, 400), (110, 117), (111, 151), (112, 367), (113, 381), (114, 338), (115, 185), (116, 309), (118, 111)], 105) := by decide +kernel
theorem dX9_takes_108 : decode cX9_takes 108 = .ok (.aload_n 0, 1) := by decide +kernel
theorem dX9_takes_109 : decode cX9_takes 109 = .ok (.iload_n 2, 1) := by decide +kernel
theorem dX9_takes_110 : decode cX9_takes 110 = .ok (.invokevirtual 274, 3) := by decide +kernel
theorem dX9_takes_113 : decode cX9_takes 113 = .ok (.ireturn, 1) := by decide +kernel
theorem dX9_takes_114 : decode cX9_takes 114 = .ok (.aload_n 0, 1) := by decide +kernel
theorem dX9_takes_115 : decode cX9_takes 115 = .ok (.iload_n 2, 1) := by decide +kernel
theorem dX9_takes_116 : decode cX9_takes 116 = .ok (.invokevirtual 277, 3) := by decide +kernel
theorem dX9_takes_119 : decode cX9_takes 119 = .ok (.ireturn, 1) := by decide +kernel
theorem dX9_takes_120 : decode cX9_takes 120 = .ok (.aload_n 0, 1) := by decide +kernel
theorem dX9_takes_121 : decode cX9_takes 121 = .ok (.getfield 268, 3) := by decide +kernel
theorem dX9_takes_124 : decode cX9_takes 124 = .ok (.aload_n 0, 1) := by decide +kernel
theorem dX9_takes_125 : decode cX9_takes 125 = .ok (.getfield 271, 3) := by decide +kernel
theorem dX9_takes_128 : decode cX9_takes 128 = .ok (.if_icmp .ge 24, 3) := by decide +kernel
theorem dX9_takes_131 : decode cX9_takes 131 = .ok (.aload_n 0, 1) := by decide +kernel
theorem dX9_takes_132 : decode cX9_takes 132 = .ok (.aload_n 0, 1) := by decide +kernel
theorem dX9_takes_133 : decode cX9_takes 133 = .ok (.getfield 54, 3) := by decide +kernel
theorem dX9_takes_136 : decode cX9_takes 136 = .ok (.aload_n 0, 1) := by decide +kernel
theorem dX9_takes_137 : decode cX9_takes 137 = .ok (.getfield 268, 3) := by decide +kernel
theorem dX9_takes_140 : decode cX9_takes 140 = .ok (.iaload, 1) := by decide +kernel
theorem dX9_takes_141 : decode cX9_takes 141 = .ok (.iload_n 2, 1) := by decide +kernel
theorem dX9_takes_142 : decode cX9_takes 142 = .ok (.invokevirtual 280, 3) := by decide +kernel
theorem dX9_takes_145 : decode cX9_takes 145 = .ok (.ifCond .eq 7, 3) := by decide +kernel
theorem dX9_takes_148 : decode cX9_takes 148 = .ok (.iconst 1, 1) := by decide +kernel
theorem dX9_takes_149 : decode cX9_takes 149 = .ok (.goto 4, 3) := by decide +kernel
theorem dX9_takes_152 : decode cX9_takes 152 = .ok (.iconst (-1), 1) := by decide +kernel
theorem dX9_takes_153 : decode cX9_takes 153 = .ok (.ireturn, 1) := by decide +kernel
theorem dX9_takes_154 : decode cX9_takes 154 = .ok (.aload_n 0, 1) := by decide +kernel
theorem dX9_takes_155 : decode cX9_takes 155 = .ok (.getfield 268, 3) := by decide +kernel
theorem dX9_takes_158 : decode cX9_takes 158 = .ok (.aload_n 0, 1) := by decide +kernel
theorem dX9_takes_159 : decode cX9_takes 159 = .ok (.getfield 271, 3) := by decide +kernel
theorem dX9_takes_162 : decode cX9_takes 162 = .ok (.if_icmp .ge 24, 3) := by decide +kernel
theorem dX9_takes_165 : decode cX9_takes 165 = .ok (.aload_n 0, 1) := by decide +kernel
theorem dX9_takes_166 : decode cX9_takes 166 = .ok (.aload_n 0, 1) := by decide +kernel
theorem dX9_takes_167 : decode cX9_takes 167 = .ok (.getfield 54, 3) := by decide +kernel
theorem dX9_takes_170 : decode cX9_takes 170 = .ok (.aload_n 0, 1) := by decide +kernel
theorem dX9_takes_171 : decode cX9_takes 171 = .ok (.getfield 268, 3) := by decide +kernel
theorem dX9_takes_174 : decode cX9_takes 174 = .ok (.iaload, 1) := by decide +kernel
theorem dX9_takes_175 : decode cX9_takes 175 = .ok (.iload_n 2, 1) := by decide +kernel
theorem dX9_takes_176 : decode cX9_takes 176 = .ok (.invokevirtual 280, 3) := by decide +kernel
theorem dX9_takes_179 : decode cX9_takes 179 = .ok (.ifCond .ne 7, 3) := by decide +kernel
theorem dX9_takes_182 : decode cX9_takes 182 = .ok (.iconst 1, 1) := by decide +kernel
theorem dX9_takes_183 : decode cX9_takes 183 = .ok (.goto 4, 3) := by decide +kernel
theorem dX9_takes_186 : decode cX9_takes 186 = .ok (.iconst (-1), 1) := by decide +kernel
theorem dX9_takes_187 : decode cX9_takes 187 = .ok (.ireturn, 1) := by decide +kernel
theorem dX9_takes_188 : decode cX9_takes 188 = .ok (.aload_n 0, 1) := by decide +kernel
theorem dX9_takes_189 : decode cX9_takes 189 = .ok (.getfield 268, 3) := by decide +kernel
theorem dX9_takes_192 : decode cX9_takes 192 = .ok (.iload_n 3, 1) := by decide +kernel
theorem dX9_takes_193 : decode cX9_takes 193 = .ok (.iadd, 1) := by decide +kernel
theorem dX9_takes_194 : decode cX9_takes 194 = .ok (.aload_n 0, 1) := by decide +kernel
theorem dX9_takes_195 : decode cX9_takes 195 = .ok (.getfield 271, 3) := by decide +kernel
theorem dX9_takes_198 : decode cX9_takes 198 = .ok (.if_icmp .ge 28, 3) := by decide +kernel
theorem dX9_takes_201 : decode cX9_takes 201 = .ok (.aload_n 0, 1) := by decide +kernel
theorem dX9_takes_202 : decode cX9_takes 202 = .ok (.aload_n 0, 1) := by decide +kernel
theorem dX9_takes_203 : decode cX9_takes 203 = .ok (.getfield 54, 3) := by decide +kernel
theorem dX9_takes_206 : decode cX9_takes 206 = .ok (.aload_n 0, 1) := by decide +kernel
theorem dX9_takes_207 : decode cX9_takes 207 = .ok (.getfield 268, 3) := by decide +kernel
theorem dX9_takes_210 : decode cX9_takes 210 = .ok (.iload_n 3, 1) := by decide +kernel
theorem dX9_takes_211 : decode cX9_takes 211 = .ok (.iadd, 1) := by decide +kernel
theorem dX9_takes_212 : decode cX9_takes 212 = .ok (.iaload, 1) := by decide +kernel
theorem dX9_takes_213 : decode cX9_takes 213 = .ok (.iload_n 2, 1) := by decide +kernel
theorem dX9_takes_214 : decode cX9_takes 214 = .ok (.invokevirtual 280, 3) := by decide +kernel
theorem dX9_takes_217 : decode cX9_takes 217 = .ok (.ifCond .eq 9, 3) := by decide +kernel
theorem dX9_takes_220 : decode cX9_takes 220 = .ok (.iinc 3 1, 3) := by decide +kernel
theorem dX9_takes_223 : decode cX9_takes 223 = .ok (.goto (-35), 3) := by decide +kernel
theorem dX9_takes_226 : decode cX9_takes 226 = .ok (.iload_n 3, 1) := by decide +kernel
theorem dX9_takes_227 : decode cX9_takes 227 = .ok (.ifCond .ne 7, 3) := by decide +kernel
theorem dX9_takes_230 : decode cX9_takes 230 = .ok (.iconst (-1), 1) := by decide +kernel
theorem dX9_takes_231 : decode cX9_takes 231 = .ok (.goto 4, 3) := by decide +kernel
theorem dX9_takes_234 : decode cX9_takes 234 = .ok (.iload_n 3, 1) := by decide +kernel
theorem dX9_takes_235 : decode cX9_takes 235 = .ok (.ireturn, 1) := by decide +kernel
theorem dX9_takes_236 : decode cX9_takes 236 = .ok (.aload_n 0, 1) := by decide +kernel
theorem dX9_takes_237 : decode cX9_takes 237 = .ok (.getfield 268, 3) := by decide +kernel
theorem dX9_takes_240 : decode cX9_takes 240 = .ok (.iload_n 3, 1) := by decide +kernel
theorem dX9_takes_241 : decode cX9_takes 241 = .ok (.iadd, 1) := by decide +kernel
theorem dX9_takes_242 : decode cX9_takes 242 = .ok (.aload_n 0, 1) := by decide +kernel
theorem dX9_takes_243 : decode cX9_takes 243 = .ok (.getfield 271, 3) := by decide +kernel
theorem dX9_takes_246 : decode cX9_takes 246 = .ok (.if_icmp .ge 28, 3) := by decide +kernel
theorem dX9_takes_249 : decode cX9_takes 249 = .ok (.aload_n 0, 1) := by decide +kernel
theorem dX9_takes_250 : decode cX9_takes 250 = .ok (.aload_n 0, 1) := by decide +kernel
theorem dX9_takes_251 : decode cX9_takes 251 = .ok (.getfield 54, 3) := by decide +kernel
theorem dX9_takes_254 : decode cX9_takes 254 = .ok (.aload_n 0, 1) := by decide +kernel
theorem dX9_takes_255 : decode cX9_takes 255 = .ok (.getfield 268, 3) := by decide +kernel
theorem dX9_takes_258 : decode cX9_takes 258 = .ok (.iload_n 3, 1) := by decide +kernel
theorem dX9_takes_259 : decode cX9_takes 259 = .ok (.iadd, 1) := by decide +kernel
theorem dX9_takes_260 : decode cX9_takes 260 = .ok (.iaload, 1) := by decide +kernel
theorem dX9_takes_261 : decode cX9_takes 261 = .ok (.iload_n 2, 1) := by decide +kernel
theorem dX9_takes_262 : decode cX9_takes 262 = .ok (.invokevirtual 280, 3) := by decide +kernel
theorem dX9_takes_265 : decode cX9_takes 265 = .ok (.ifCond .ne 9, 3) := by decide +kernel
theorem dX9_takes_268 : decode cX9_takes 268 = .ok (.iinc 3 1, 3) := by decide +kernel
theorem dX9_takes_271 : decode cX9_takes 271 = .ok (.goto (-35), 3) := by decide +kernel
theorem dX9_takes_274 : decode cX9_takes 274 = .ok (.aload_n 0, 1) := by decide +kernel
theorem dX9_takes_275 : decode cX9_takes 275 = .ok (.getfield 268, 3) := by decide +kernel
theorem dX9_takes_278 : decode cX9_takes 278 = .ok (.iload_n 3, 1) := by decide +kernel
theorem dX9_takes_279 : decode cX9_takes 279 = .ok (.iadd, 1) := by decide +kernel
theorem dX9_takes_280 : decode cX9_takes 280 = .ok (.aload_n 0, 1) := by decide +kernel
theorem dX9_takes_281 : decode cX9_takes 281 = .ok (.getfield 271, 3) := by decide +kernel
theorem dX9_takes_284 : decode cX9_takes 284 = .ok (.if_icmp .ne 7, 3) := by decide +kernel
theorem dX9_takes_287 : decode cX9_takes 287 = .ok (.iconst (-1), 1) := by decide +kernel
theorem dX9_takes_288 : decode cX9_takes 288 = .ok (.goto 4, 3) := by decide +kernel
theorem dX9_takes_291 : decode cX9_takes 291 = .ok (.iload_n 3, 1) := by decide +kernel
theorem dX9_takes_292 : decode cX9_takes 292 = .ok (.ireturn, 1) := by decide +kernel
theorem dX9_takes_293 : decode cX9_takes 293 = .ok (.aload_n 0, 1) := by decide +kernel
theorem dX9_takes_294 : decode cX9_takes 294 = .ok (.getfield 268, 3) := by decide +kernel
theorem dX9_takes_297 : decode cX9_takes 297 = .ok (.iload_n 2, 1) := by decide +kernel
theorem dX9_takes_298 : decode cX9_takes 298 = .ok (.iadd, 1) := by decide +kernel
theorem dX9_takes_299 : decode cX9_takes 299 = .ok (.aload_n 0, 1) := by decide +kernel
theorem dX9_takes_300 : decode cX9_takes 300 = .ok (.getfield 271, 3) := by decide +kernel
theorem dX9_takes_303 : decode cX9_takes 303 = .ok (.if_icmp .gt 7, 3) := by decide +kernel
theorem dX9_takes_306 : decode cX9_takes 306 = .ok (.iload_n 2, 1) := by decide +kernel
theorem dX9_takes_307 : decode cX9_takes 307 = .ok (.goto 4, 3) := by decide +kernel
theorem dX9_takes_310 : decode cX9_takes 310 = .ok (.iconst (-1), 1) := by decide +kernel
theorem dX9_takes_311 : decode cX9_takes 311 = .ok (.ireturn, 1) := by decide +kernel
theorem dX9_takes_312 : decode cX9_takes 312 = .ok (.iload_n 2, 1) := by decide +kernel
theorem dX9_takes_313 : decode cX9_takes 313 = .ok (.i2l, 1) := by decide +kernel
theorem dX9_takes_314 : decode cX9_takes 314 = .ok (.aload_n 0, 1) := by decide +kernel
theorem dX9_takes_315 : decode cX9_takes 315 = .ok (.getfield 268, 3) := by decide +kernel
theorem dX9_takes_318 : decode cX9_takes 318 = .ok (.i2l, 1) := by decide +kernel
theorem dX9_takes_319 : decode cX9_takes 319 = .ok (.aload_n 0, 1) := by decide +kernel
theorem dX9_takes_320 : decode cX9_takes 320 = .ok (.getfield 271, 3) := by decide +kernel
theorem dX9_takes_323 : decode cX9_takes 323 = .ok (.i2l, 1) := by decide +kernel
theorem dX9_takes_324 : decode cX9_takes 324 = .ok (.invokestatic 167, 3) := by decide +kernel
theorem dX9_takes_327 : decode cX9_takes 327 = .ok (.ifCond .eq 12, 3) := by decide +kernel
theorem dX9_takes_330 : decode cX9_takes 330 = .ok (.iload_n 2, 1) := by decide +kernel
theorem dX9_takes_331 : decode cX9_takes 331 = .ok (.aload_n 0, 1) := by decide +kernel
theorem dX9_takes_332 : decode cX9_takes 332 = .ok (.getfield 268, 3) := by decide +kernel
theorem dX9_takes_335 : decode cX9_takes 335 = .ok (.isub, 1) := by decide +kernel
theorem dX9_takes_336 : decode cX9_takes 336 = .ok (.goto 4, 3) := by decide +kernel
theorem dX9_takes_339 : decode cX9_takes 339 = .ok (.iconst (-1), 1) := by decide +kernel
theorem dX9_takes_340 : decode cX9_takes 340 = .ok (.ireturn, 1) := by decide +kernel
theorem dX9_takes_341 : decode cX9_takes 341 = .ok (.aload_n 0, 1) := by decide +kernel
theorem dX9_takes_342 : decode cX9_takes 342 = .ok (.getfield 271, 3) := by decide +kernel
theorem dX9_takes_345 : decode cX9_takes 345 = .ok (.iload_n 2, 1) := by decide +kernel
theorem dX9_takes_346 : decode cX9_takes 346 = .ok (.isub, 1) := by decide +kernel
theorem dX9_takes_347 : decode cX9_takes 347 = .ok (.aload_n 0, 1) := by decide +kernel
theorem dX9_takes_348 : decode cX9_takes 348 = .ok (.getfield 268, 3) := by decide +kernel
theorem dX9_takes_351 : decode cX9_takes 351 = .ok (.if_icmp .lt 17, 3) := by decide +kernel
theorem dX9_takes_354 : decode cX9_takes 354 = .ok (.aload_n 0, 1) := by decide +kernel
theorem dX9_takes_355 : decode cX9_takes 355 = .ok (.getfield 271, 3) := by decide +kernel
theorem dX9_takes_358 : decode cX9_takes 358 = .ok (.iload_n 2, 1) := by decide +kernel
theorem dX9_takes_359 : decode cX9_takes 359 = .ok (.isub, 1) := by decide +kernel
theorem dX9_takes_360 : decode cX9_takes 360 = .ok (.aload_n 0, 1) := by decide +kernel
theorem dX9_takes_361 : decode cX9_takes 361 = .ok (.getfield 268, 3) := by decide +kernel
theorem dX9_takes_364 : decode cX9_takes 364 = .ok (.isub, 1) := by decide +kernel
theorem dX9_takes_365 : decode cX9_takes 365 = .ok (.goto 4, 3) := by decide +kernel
theorem dX9_takes_368 : decode cX9_takes 368 = .ok (.iconst (-1), 1) := by decide +kernel
theorem dX9_takes_369 : decode cX9_takes 369 = .ok (.ireturn, 1) := by decide +kernel
theorem dX9_takes_370 : decode cX9_takes 370 = .ok (.aload_n 0, 1) := by decide +kernel
theorem dX9_takes_371 : decode cX9_takes 371 = .ok (.getfield 268, 3) := by decide +kernel
theorem dX9_takes_374 : decode cX9_takes 374 = .ok (.iload_n 2, 1) := by decide +kernel
theorem dX9_takes_375 : decode cX9_takes 375 = .ok (.if_icmp .ne 7, 3) := by decide +kernel
theorem dX9_takes_378 : decode cX9_takes 378 = .ok (.iconst 0, 1) := by decide +kernel
theorem dX9_takes_379 : decode cX9_takes 379 = .ok (.goto 4, 3) := by decide +kernel
theorem dX9_takes_382 : decode cX9_takes 382 = .ok (.iconst (-1), 1) := by decide +kernel
theorem dX9_takes_383 : decode cX9_takes 383 = .ok (.ireturn, 1) := by decide +kernel
theorem dX9_takes_384 : decode cX9_takes 384 = .ok (.aload_n 0, 1) := by decide +kernel
theorem dX9_takes_385 : decode cX9_takes 385 = .ok (.getfield 268, 3) := by decide +kernel
theorem dX9_takes_388 : decode cX9_takes 388 = .ok (.aload_n 0, 1) := by decide +kernel
theorem dX9_takes_389 : decode cX9_takes 389 = .ok (.getfield 271, 3) := by decide +kernel
theorem dX9_takes_392 : decode cX9_takes 392 = .ok (.iload_n 2, 1) := by decide +kernel
theorem dX9_takes_393 : decode cX9_takes 393 = .ok (.isub, 1) := by decide +kernel
theorem dX9_takes_394 : decode cX9_takes 394 = .ok (.if_icmp .ne 7, 3) := by decide +kernel
theorem dX9_takes_397 : decode cX9_takes 397 = .ok (.iconst 0, 1) := by decide +kernel
theorem dX9_takes_398 : decode cX9_takes 398 = .ok (.goto 4, 3) := by decide +kernel
theorem dX9_takes_401 : decode cX9_takes 401 = .ok (.iconst (-1), 1) := by decide +kernel
theorem dX9_takes_402 : decode cX9_takes 402 = .ok (.ireturn, 1) := by decide +kernel
theorem dX9_takes_403 : decode cX9_takes 403 = .ok (.aload_n 0, 1) := by decide +kernel
theorem dX9_takes_404 : decode cX9_takes 404 = .ok (.getfield 271, 3) := by decide +kernel
theorem dX9_takes_407 : decode cX9_takes 407 = .ok (.aload_n 0, 1) := by decide +kernel
theorem dX9_takes_408 : decode cX9_takes 408 = .ok (.getfield 268, 3) := by decide +kernel
theorem dX9_takes_411 : decode cX9_takes 411 = .ok (.isub, 1) := by decide +kernel
theorem dX9_takes_412 : decode cX9_takes 412 = .ok (.ireturn, 1) := by decide +kernel
theorem dX9_takes_413 : decode cX9_takes 413 = .ok (.iconst (-1), 1) := by decide +kernel
theorem dX9_takes_414 : decode cX9_takes 414 = .ok (.ireturn, 1) := by decide +kernel
theorem dX9_goesBack_0 : decode cX9_goesBack 0 = .ok (.aload_n 0, 1) := by decide +kernel
theorem dX9_goesBack_1 : decode cX9_goesBack 1 = .ok (.getfield 262, 3) := by decide +kernel
theorem dX9_goesBack_4 : decode cX9_goesBack 4 = .ok (.ifCond .eq 10, 3) := by decide +kernel
theorem dX9_goesBack_7 : decode cX9_goesBack 7 = .ok (.aload_n 0, 1) := by decide +kernel
theorem dX9_goesBack_8 : decode cX9_goesBack 8 = .ok (.getfield 283, 3) := by decide +kernel
theorem dX9_goesBack_11 : decode cX9_goesBack 11 = .ok (.ifCond .eq 5, 3) := by decide +kernel
theorem dX9_goesBack_14 : decode cX9_goesBack 14 = .ok (.iconst 0, 1) := by decide +kernel
theorem dX9_goesBack_15 : decode cX9_goesBack 15 = .ok (.ireturn, 1) := by decide +kernel
theorem dX9_goesBack_16 : decode cX9_goesBack 16 = .ok (.aload_n 0, 1) := by decide +kernel
theorem dX9_goesBack_17 : decode cX9_goesBack 17 = .ok (.dup, 1) := by decide +kernel
theorem dX9_goesBack_18 : decode cX9_goesBack 18 = .ok (.getfield 262, 3) := by decide +kernel
theorem dX9_goesBack_21 : decode cX9_goesBack 21 = .ok (.iconst 1, 1) := by decide +kernel
theorem dX9_goesBack_22 : decode cX9_goesBack 22 = .ok (.isub, 1) := by decide +kernel
theorem dX9_goesBack_23 : decode cX9_goesBack 23 = .ok (.putfield 262, 3) := by decide +kernel
theorem dX9_goesBack_26 : decode cX9_goesBack 26 = .ok (.aload_n 0, 1) := by decide +kernel
theorem dX9_goesBack_27 : decode cX9_goesBack 27 = .ok (.getfield 262, 3) := by decide +kernel
theorem dX9_goesBack_30 : decode cX9_goesBack 30 = .ok (.istore_n 1, 1) := by decide +kernel
theorem dX9_goesBack_31 : decode cX9_goesBack 31 = .ok (.aload_n 0, 1) := by decide +kernel
theorem dX9_goesBack_32 : decode cX9_goesBack 32 = .ok (.getfield 69, 3) := by decide +kernel
theorem dX9_goesBack_35 : decode cX9_goesBack 35 = .ok (.iload_n 1, 1) := by decide +kernel
theorem dX9_goesBack_36 : decode cX9_goesBack 36 = .ok (.iaload, 1) := by decide +kernel
theorem dX9_goesBack_37 : decode cX9_goesBack 37 = .ok (.istore_n 2, 1) := by decide +kernel
theorem dX9_goesBack_38 : decode cX9_goesBack 38 = .ok (.aload_n 0, 1) := by decide +kernel
theorem dX9_goesBack_39 : decode cX9_goesBack 39 = .ok (.aload_n 0, 1) := by decide +kernel
theorem dX9_goesBack_40 : decode cX9_goesBack 40 = .ok (.getfield 72, 3) := by decide +kernel
theorem dX9_goesBack_43 : decode cX9_goesBack 43 = .ok (.iload_n 1, 1) := by decide +kernel
theorem dX9_goesBack_44 : decode cX9_goesBack 44 = .ok (.iaload, 1) := by decide +kernel
theorem dX9_goesBack_45 : decode cX9_goesBack 45 = .ok (.putfield 268, 3) := by decide +kernel
theorem dX9_goesBack_48 : decode cX9_goesBack 48 = .ok (.aload_n 0, 1) := by decide +kernel
theorem dX9_goesBack_49 : decode cX9_goesBack 49 = .ok (.aload_n 0, 1) := by decide +kernel
theorem dX9_goesBack_50 : decode cX9_goesBack 50 = .ok (.getfield 75, 3) := by decide +kernel
theorem dX9_goesBack_53 : decode cX9_goesBack 53 = .ok (.iload_n 1, 1) := by decide +kernel
theorem dX9_goesBack_54 : decode cX9_goesBack 54 = .ok (.iaload, 1) := by decide +kernel
theorem dX9_goesBack_55 : decode cX9_goesBack 55 = .ok (.putfield 287, 3) := by decide +kernel
theorem dX9_goesBack_58 : decode cX9_goesBack 58 = .ok (.aload_n 0, 1) := by decide +kernel
theorem dX9_goesBack_59 : decode cX9_goesBack 59 = .ok (.aload_n 0, 1) := by decide +kernel
theorem dX9_goesBack_60 : decode cX9_goesBack 60 = .ok (.getfield 81, 3) := by decide +kernel
theorem dX9_goesBack_63 : decode cX9_goesBack 63 = .ok (.iload_n 1, 1) := by decide +kernel
theorem dX9_goesBack_64 : decode cX9_goesBack 64 = .ok (.iaload, 1) := by decide +kernel
theorem dX9_goesBack_65 : decode cX9_goesBack 65 = .ok (.putfield 265, 3) := by decide +kernel
theorem dX9_goesBack_68 : decode cX9_goesBack 68 = .ok (.aload_n 0, 1) := by decide +kernel
theorem dX9_goesBack_69 : decode cX9_goesBack 69 = .ok (.aload_n 0, 1) := by decide +kernel
theorem dX9_goesBack_70 : decode cX9_goesBack 70 = .ok (.getfield 84, 3) := by decide +kernel
theorem dX9_goesBack_73 : decode cX9_goesBack 73 = .ok (.iload_n 1, 1) := by decide +kernel
theorem dX9_goesBack_74 : decode cX9_goesBack 74 = .ok (.iaload, 1) := by decide +kernel
theorem dX9_goesBack_75 : decode cX9_goesBack 75 = .ok (.putfield 259, 3) := by decide +kernel
theorem dX9_goesBack_78 : decode cX9_goesBack 78 = .ok (.aload_n 0, 1) := by decide +kernel
theorem dX9_goesBack_79 : decode cX9_goesBack 79 = .ok (.getfield 78, 3) := by decide +kernel
theorem dX9_goesBack_82 : decode cX9_goesBack 82 = .ok (.iload_n 1, 1) := by decide +kernel
theorem dX9_goesBack_83 : decode cX9_goesBack 83 = .ok (.iaload, 1) := by decide +kernel
theorem dX9_goesBack_84 : decode cX9_goesBack 84 = .ok (.istore_n 3, 1) := by decide +kernel
theorem dX9_goesBack_85 : decode cX9_goesBack 85 = .ok (.aload_n 0, 1) := by decide +kernel
theorem dX9_goesBack_86 : decode cX9_goesBack 86 = .ok (.getfield 25, 3) := by decide +kernel
theorem dX9_goesBack_89 : decode cX9_goesBack 89 = .ok (.iload_n 2, 1) := by decide +kernel
theorem dX9_goesBack_90 : decode cX9_goesBack 90 = .ok (.caload, 1) := by decide +kernel
theorem dX9_goesBack_91 : decode cX9_goesBack 91 = .ok (.istore 4, 2) := by decide +kernel
theorem dX9_goesBack_93 : decode cX9_goesBack 93 = .ok (.iload 4, 2) := by decide +kernel
theorem dX9_goesBack_95 : decode cX9_goesBack 95 = .ok (.bipush 124, 2) := by decide +kernel
theorem dX9_goesBack_97 : decode cX9_goesBack 97 = .ok (.if_icmp .ne 25, 3) := by decide +kernel
theorem dX9_goesBack_100 : decode cX9_goesBack 100 = .ok (.aload_n 0, 1) := by decide +kernel
theorem dX9_goesBack_101 : decode cX9_goesBack 101 = .ok (.aload_n 0, 1) := by decide +kernel
theorem dX9_goesBack_102 : decode cX9_goesBack 102 = .ok (.iconst 0, 1) := by decide +kernel
theorem dX9_goesBack_103 : decode cX9_goesBack 103 = .ok (.aload_n 0, 1) := by decide +kernel
theorem dX9_goesBack_104 : decode cX9_goesBack 104 = .ok (.getfield 32, 3) := by decide +kernel
theorem dX9_goesBack_107 : decode cX9_goesBack 107 = .ok (.iload_n 2, 1) := by decide +kernel
theorem dX9_goesBack_108 : decode cX9_goesBack 108 = .ok (.iaload, 1) := by decide +kernel
theorem dX9_goesBack_109 : decode cX9_goesBack 109 = .ok (.iconst 0, 1) := by decide +kernel
theorem dX9_goesBack_110 : decode cX9_goesBack 110 = .ok (.aload_n 0, 1) := by decide +kernel
theorem dX9_goesBack_111 : decode cX9_goesBack 111 = .ok (.getfield 287, 3) := by decide +kernel
theorem dX9_goesBack_114 : decode cX9_goesBack 114 = .ok (.invokevirtual 290, 3) := by decide +kernel
theorem dX9_goesBack_117 : decode cX9_goesBack 117 = .ok (.putfield 287, 3) := by decide +kernel
theorem dX9_goesBack_120 : decode cX9_goesBack 120 = .ok (.iconst 1, 1) := by decide +kernel
theorem dX9_goesBack_121 : decode cX9_goesBack 121 = .ok (.ireturn, 1) := by decide +kernel
theorem dX9_goesBack_122 : decode cX9_goesBack 122 = .ok (.iload 4, 2) := by decide +kernel
theorem dX9_goesBack_124 : decode cX9_goesBack 124 = .ok (.bipush 42, 2) := by decide +kernel
theorem dX9_goesBack_126 : decode cX9_goesBack 126 = .ok (.if_icmp .ne 53, 3) := by decide +kernel
theorem dX9_goesBack_129 : decode cX9_goesBack 129 = .ok (.aload_n 0, 1) := by decide +kernel
theorem dX9_goesBack_130 : decode cX9_goesBack 130 = .ok (.getfield 268, 3) := by decide +kernel
theorem dX9_goesBack_133 : decode cX9_goesBack 133 = .ok (.iload_n 3, 1) := by decide +kernel
theorem dX9_goesBack_134 : decode cX9_goesBack 134 = .ok (.iadd, 1) := by decide +kernel
theorem dX9_goesBack_135 : decode cX9_goesBack 135 = .ok (.iconst 1, 1) := by decide +kernel
theorem dX9_goesBack_136 : decode cX9_goesBack 136 = .ok (.iadd, 1) := by decide +kernel
theorem dX9_goesBack_137 : decode cX9_goesBack 137 = .ok (.aload_n 0, 1) := by decide +kernel
theorem dX9_goesBack_138 : decode cX9_goesBack 138 = .ok (.getfield 271, 3) := by decide +kernel
theorem dX9_goesBack_141 : decode cX9_goesBack 141 = .ok (.if_icmp .le 8, 3) := by decide +kernel
theorem dX9_goesBack_144 : decode cX9_goesBack 144 = .ok (.aload_n 0, 1) := by decide +kernel
theorem dX9_goesBack_145 : decode cX9_goesBack 145 = .ok (.invokevirtual 294, 3) := by decide +kernel
theorem dX9_goesBack_148 : decode cX9_goesBack 148 = .ok (.ireturn, 1) := by decide +kernel
theorem dX9_goesBack_149 : decode cX9_goesBack 149 = .ok (.aload_n 0, 1) := by decide +kernel
theorem dX9_goesBack_150 : decode cX9_goesBack 150 = .ok (.iload_n 2, 1) := by decide +kernel
theorem dX9_goesBack_151 : decode cX9_goesBack 151 = .ok (.aload_n 0, 1) := by decide +kernel
theorem dX9_goesBack_152 : decode cX9_goesBack 152 = .ok (.getfield 268, 3) := by decide +kernel
theorem dX9_goesBack_155 : decode cX9_goesBack 155 = .ok (.aload_n 0, 1) := by decide +kernel
theorem dX9_goesBack_156 : decode cX9_goesBack 156 = .ok (.getfield 287, 3) := by decide +kernel
theorem dX9_goesBack_159 : decode cX9_goesBack 159 = .ok (.iload_n 3, 1) := by decide +kernel
theorem dX9_goesBack_160 : decode cX9_goesBack 160 = .ok (.iconst 1, 1) := by decide +kernel
theorem dX9_goesBack_161 : decode cX9_goesBack 161 = .ok (.iadd, 1) := by decide +kernel
theorem dX9_goesBack_162 : decode cX9_goesBack 162 = .ok (.invokevirtual 298, 3) := by decide +kernel
theorem dX9_goesBack_165 : decode cX9_goesBack 165 = .ok (.aload_n 0, 1) := by decide +kernel
theorem dX9_goesBack_166 : decode cX9_goesBack 166 = .ok (.dup, 1) := by decide +kernel
theorem dX9_goesBack_167 : decode cX9_goesBack 167 = .ok (.getfield 268, 3) := by decide +kernel
theorem dX9_goesBack_170 : decode cX9_goesBack 170 = .ok (.iload_n 3, 1) := by decide +kernel
theorem dX9_goesBack_171 : decode cX9_goesBack 171 = .ok (.iconst 1, 1) := by decide +kernel
theorem dX9_goesBack_172 : decode cX9_goesBack 172 = .ok (.iadd, 1) := by decide +kernel
theorem dX9_goesBack_173 : decode cX9_goesBack 173 = .ok (.iadd, 1) := by decide +kernel
theorem dX9_goesBack_174 : decode cX9_goesBack 174 = .ok (.putfield 268, 3) := by decide +kernel
theorem dX9_goesBack_177 : decode cX9_goesBack 177 = .ok (.iconst 1, 1) := by decide +kernel
theorem dX9_goesBack_178 : decode cX9_goesBack 178 = .ok (.ireturn, 1) := by decide +kernel
theorem dX9_goesBack_179 : decode cX9_goesBack 179 = .ok (.iload 4, 2) := by decide +kernel
theorem dX9_goesBack_181 : decode cX9_goesBack 181 = .ok (.bipush 103, 2) := by decide +kernel
theorem dX9_goesBack_183 : decode cX9_goesBack 183 = .ok (.if_icmp .ne 39, 3) := by decide +kernel
theorem dX9_goesBack_186 : decode cX9_goesBack 186 = .ok (.aload_n 0, 1) := by decide +kernel
theorem dX9_goesBack_187 : decode cX9_goesBack 187 = .ok (.iconst 3, 1) := by decide +kernel
theorem dX9_goesBack_188 : decode cX9_goesBack 188 = .ok (.iload_n 2, 1) := by decide +kernel
theorem dX9_goesBack_189 : decode cX9_goesBack 189 = .ok (.aload_n 0, 1) := by decide +kernel
theorem dX9_goesBack_190 : decode cX9_goesBack 190 = .ok (.getfield 268, 3) := by decide +kernel
theorem dX9_goesBack_193 : decode cX9_goesBack 193 = .ok (.aload_n 0, 1) := by decide +kernel
theorem dX9_goesBack_194 : decode cX9_goesBack 194 = .ok (.getfield 287, 3) := by decide +kernel
theorem dX9_goesBack_197 : decode cX9_goesBack 197 = .ok (.invokevirtual 290, 3) := by decide +kernel
theorem dX9_goesBack_200 : decode cX9_goesBack 200 = .ok (.istore 5, 2) := by decide +kernel
theorem dX9_goesBack_202 : decode cX9_goesBack 202 = .ok (.aload_n 0, 1) := by decide +kernel
theorem dX9_goesBack_203 : decode cX9_goesBack 203 = .ok (.aload_n 0, 1) := by decide +kernel
theorem dX9_goesBack_204 : decode cX9_goesBack 204 = .ok (.iconst 0, 1) := by decide +kernel
theorem dX9_goesBack_205 : decode cX9_goesBack 205 = .ok (.aload_n 0, 1) := by decide +kernel
theorem dX9_goesBack_206 : decode cX9_goesBack 206 = .ok (.getfield 29, 3) := by decide +kernel
theorem dX9_goesBack_209 : decode cX9_goesBack 209 = .ok (.iload_n 2, 1) := by decide +kernel
theorem dX9_goesBack_210 : decode cX9_goesBack 210 = .ok (.iaload, 1) := by decide +kernel
theorem dX9_goesBack_211 : decode cX9_goesBack 211 = .ok (.iconst 0, 1) := by decide +kernel
theorem dX9_goesBack_212 : decode cX9_goesBack 212 = .ok (.iload 5, 2) := by decide +kernel
theorem dX9_goesBack_214 : decode cX9_goesBack 214 = .ok (.invokevirtual 290, 3) := by decide +kernel
theorem dX9_goesBack_217 : decode cX9_goesBack 217 = .ok (.putfield 287, 3) := by decide +kernel
theorem dX9_goesBack_220 : decode cX9_goesBack 220 = .ok (.iconst 1, 1) := by decide +kernel
theorem dX9_goesBack_221 : decode cX9_goesBack 221 = .ok (.ireturn, 1) := by decide +kernel
theorem dX9_goesBack_222 : decode cX9_goesBack 222 = .ok (.iload 4, 2) := by decide +kernel
theorem dX9_goesBack_224 : decode cX9_goesBack 224 = .ok (.bipush 120, 2) := by decide +kernel
theorem dX9_goesBack_226 : decode cX9_goesBack 226 = .ok (.if_icmp .ne 53, 3) := by decide +kernel
theorem dX9_goesBack_229 : decode cX9_goesBack 229 = .ok (.aload_n 0, 1) := by decide +kernel
theorem dX9_goesBack_230 : decode cX9_goesBack 230 = .ok (.aload_n 0, 1) := by decide +kernel
theorem dX9_goesBack_231 : decode cX9_goesBack 231 = .ok (.getfield 268, 3) := by decide +kernel
theorem dX9_goesBack_234 : decode cX9_goesBack 234 = .ok (.iload_n 3, 1) := by decide +kernel
theorem dX9_goesBack_235 : decode cX9_goesBack 235 = .ok (.invokevirtual 302, 3) := by decide +kernel
theorem dX9_goesBack_238 : decode cX9_goesBack 238 = .ok (.istore 5, 2) := by decide +kernel
theorem dX9_goesBack_240 : decode cX9_goesBack 240 = .ok (.iload 5, 2) := by decide +kernel
theorem dX9_goesBack_242 : decode cX9_goesBack 242 = .ok (.iconst (-1), 1) := by decide +kernel
theorem dX9_goesBack_243 : decode cX9_goesBack 243 = .ok (.if_icmp .ne 8, 3) := by decide +kernel
theorem dX9_goesBack_246 : decode cX9_goesBack 246 = .ok (.aload_n 0, 1) := by decide +kernel
theorem dX9_goesBack_247 : decode cX9_goesBack 247 = .ok (.invokevirtual 294, 3) := by decide +kernel
theorem dX9_goesBack_250 : decode cX9_goesBack 250 = .ok (.ireturn, 1) := by decide +kernel
theorem dX9_goesBack_251 : decode cX9_goesBack 251 = .ok (.aload_n 0, 1) := by decide +kernel
theorem dX9_goesBack_252 : decode cX9_goesBack 252 = .ok (.iload_n 2, 1) := by decide +kernel
theorem dX9_goesBack_253 : decode cX9_goesBack 253 = .ok (.aload_n 0, 1) := by decide +kernel
theorem dX9_goesBack_254 : decode cX9_goesBack 254 = .ok (.getfield 268, 3) := by decide +kernel
theorem dX9_goesBack_257 : decode cX9_goesBack 257 = .ok (.aload_n 0, 1) := by decide +kernel
theorem dX9_goesBack_258 : decode cX9_goesBack 258 = .ok (.getfield 287, 3) := by decide +kernel
theorem dX9_goesBack_261 : decode cX9_goesBack 261 = .ok (.iload 5, 2) := by decide +kernel
theorem dX9_goesBack_263 : decode cX9_goesBack 263 = .ok (.aload_n 0, 1) := by decide +kernel
theorem dX9_goesBack_264 : decode cX9_goesBack 264 = .ok (.getfield 268, 3) := by decide +kernel
theorem dX9_goesBack_267 : decode cX9_goesBack 267 = .ok (.isub, 1) := by decide +kernel
theorem dX9_goesBack_268 : decode cX9_goesBack 268 = .ok (.invokevirtual 298, 3) := by decide +kernel
theorem dX9_goesBack_271 : decode cX9_goesBack 271 = .ok (.aload_n 0, 1) := by decide +kernel
theorem dX9_goesBack_272 : decode cX9_goesBack 272 = .ok (.iload 5, 2) := by decide +kernel
theorem dX9_goesBack_274 : decode cX9_goesBack 274 = .ok (.putfield 268, 3) := by decide +kernel
theorem dX9_goesBack_277 : decode cX9_goesBack 277 = .ok (.iconst 1, 1) := by decide +kernel
theorem dX9_goesBack_278 : decode cX9_goesBack 278 = .ok (.ireturn, 1) := by decide +kernel
theorem dX9_goesBack_279 : decode cX9_goesBack 279 = .ok (.aload_n 0, 1) := by decide +kernel
theorem dX9_goesBack_280 : decode cX9_goesBack 280 = .ok (.iconst 1, 1) := by decide +kernel
theorem dX9_goesBack_281 : decode cX9_goesBack 281 = .ok (.putfield 283, 3) := by decide +kernel
theorem dX9_goesBack_284 : decode cX9_goesBack 284 = .ok (.iconst 0, 1) := by decide +kernel
theorem dX9_goesBack_285 : decode cX9_goesBack 285 = .ok (.ireturn, 1) := by decide +kernel
theorem dX9_backAgain_0 : decode cX9_backAgain 0 = .ok (.aload_n 0, 1) := by decide +kernel
theorem dX9_backAgain_1 : decode cX9_backAgain 1 = .ok (.iconst 1, 1) := by decide +kernel
theorem dX9_backAgain_2 : decode cX9_backAgain 2 = .ok (.putfield 306, 3) := by decide +kernel
theorem dX9_backAgain_5 : decode cX9_backAgain 5 = .ok (.iconst 0, 1) := by decide +kernel
theorem dX9_backAgain_6 : decode cX9_backAgain 6 = .ok (.ireturn, 1) := by decide +kernel
theorem dX9_back_0 : decode cX9_back 0 = .ok (.iconst 0, 1) := by decide +kernel
theorem dX9_back_1 : decode cX9_back 1 = .ok (.istore_n 1, 1) := by decide +kernel
theorem dX9_back_2 : decode cX9_back 2 = .ok (.aload_n 0, 1) := by decide +kernel
theorem dX9_back_3 : decode cX9_back 3 = .ok (.iconst 1, 1) := by decide +kernel
theorem dX9_back_4 : decode cX9_back 4 = .ok (.putfield 306, 3) := by decide +kernel
theorem dX9_back_7 : decode cX9_back 7 = .ok (.aload_n 0, 1) := by decide +kernel
theorem dX9_back_8 : decode cX9_back 8 = .ok (.getfield 306, 3) := by decide +kernel
theorem dX9_back_11 : decode cX9_back 11 = .ok (.ifCond .eq 20, 3) := by decide +kernel
theorem dX9_back_14 : decode cX9_back 14 = .ok (.iload_n 1, 1) := by decide +kernel
theorem dX9_back_15 : decode cX9_back 15 = .ok (.ifCond .ne 16, 3) := by decide +kernel
theorem dX9_back_18 : decode cX9_back 18 = .ok (.aload_n 0, 1) := by decide +kernel
theorem dX9_back_19 : decode cX9_back 19 = .ok (.iconst 0, 1) := by decide +kernel
theorem dX9_back_20 : decode cX9_back 20 = .ok (.putfield 306, 3) := by decide +kernel
theorem dX9_back_23 : decode cX9_back 23 = .ok (.aload_n 0, 1) := by decide +kernel
theorem dX9_back_24 : decode cX9_back 24 = .ok (.invokevirtual 309, 3) := by decide +kernel
theorem dX9_back_27 : decode cX9_back 27 = .ok (.istore_n 1, 1) := by decide +kernel
theorem dX9_back_28 : decode cX9_back 28 = .ok (.goto (-21), 3) := by decide +kernel
theorem dX9_back_31 : decode cX9_back 31 = .ok (.iload_n 1, 1) := by decide +kernel
theorem dX9_back_32 : decode cX9_back 32 = .ok (.ireturn, 1) := by decide +kernel
theorem dX9_begin_0 : decode cX9_begin 0 = .ok (.aload_n 0, 1) := by decide +kernel
theorem dX9_begin_1 : decode cX9_begin 1 = .ok (.dup, 1) := by decide +kernel
theorem dX9_begin_2 : decode cX9_begin 2 = .ok (.getfield 312, 3) := by decide +kernel
theorem dX9_begin_5 : decode cX9_begin 5 = .ok (.iconst 1, 1) := by decide +kernel
theorem dX9_begin_6 : decode cX9_begin 6 = .ok (.iadd, 1) := by decide +kernel
theorem dX9_begin_7 : decode cX9_begin 7 = .ok (.putfield 312, 3) := by decide +kernel
theorem dX9_begin_10 : decode cX9_begin 10 = .ok (.aload_n 0, 1) := by decide +kernel
theorem dX9_begin_11 : decode cX9_begin 11 = .ok (.getfield 312, 3) := by decide +kernel
theorem dX9_begin_14 : decode cX9_begin 14 = .ok (.sipush 3000, 3) := by decide +kernel
theorem dX9_begin_17 : decode cX9_begin 17 = .ok (.if_icmp .le 10, 3) := by decide +kernel
theorem dX9_begin_20 : decode cX9_begin 20 = .ok (.aload_n 0, 1) := by decide +kernel
theorem dX9_begin_21 : decode cX9_begin 21 = .ok (.iconst 1, 1) := by decide +kernel
theorem dX9_begin_22 : decode cX9_begin 22 = .ok (.putfield 315, 3) := by decide +kernel
theorem dX9_begin_25 : decode cX9_begin 25 = .ok (.iconst 0, 1) := by decide +kernel
theorem dX9_begin_26 : decode cX9_begin 26 = .ok (.ireturn, 1) := by decide +kernel
theorem dX9_begin_27 : decode cX9_begin 27 = .ok (.aload_n 0, 1) := by decide +kernel
theorem dX9_begin_28 : decode cX9_begin 28 = .ok (.getfield 25, 3) := by decide +kernel
theorem dX9_begin_31 : decode cX9_begin 31 = .ok (.iload_n 1, 1) := by decide +kernel
theorem dX9_begin_32 : decode cX9_begin 32 = .ok (.caload, 1) := by decide +kernel
theorem dX9_begin_33 : decode cX9_begin 33 = .ok (.istore_n 3, 1) := by decide +kernel
theorem dX9_begin_34 : decode cX9_begin 34 = .ok (.aload_n 0, 1) := by decide +kernel
theorem dX9_begin_35 : decode cX9_begin 35 = .ok (.getfield 29, 3) := by decide +kernel
theorem dX9_begin_38 : decode cX9_begin 38 = .ok (.iload_n 1, 1) := by decide +kernel
theorem dX9_begin_39 : decode cX9_begin 39 = .ok (.iaload, 1) := by decide +kernel
theorem dX9_begin_40 : decode cX9_begin 40 = .ok (.istore 4, 2) := by decide +kernel
theorem dX9_begin_42 : decode cX9_begin 42 = .ok (.aload_n 0, 1) := by decide +kernel
theorem dX9_begin_43 : decode cX9_begin 43 = .ok (.getfield 32, 3) := by decide +kernel
theorem dX9_begin_46 : decode cX9_begin 46 = .ok (.iload_n 1, 1) := by decide +kernel
theorem dX9_begin_47 : decode cX9_begin 47 = .ok (.iaload, 1) := by decide +kernel
theorem dX9_begin_48 : decode cX9_begin 48 = .ok (.istore 5, 2) := by decide +kernel
theorem dX9_begin_50 : decode cX9_begin 50 = .ok (.aload_n 0, 1) := by decide +kernel
theorem dX9_begin_51 : decode cX9_begin 51 = .ok (.iload_n 2, 1) := by decide +kernel
theorem dX9_begin_52 : decode cX9_begin 52 = .ok (.putfield 287, 3) := by decide +kernel
theorem dX9_begin_55 : decode cX9_begin 55 = .ok (.iload_n 3, 1) := by decide +kernel
theorem dX9_begin_56 : decode cX9_begin 56 = .ok (.lookupswitch 315 #[(36, 239), (38, 118), (42, 149), (46, 273), (64, 307), (102, 219), (103, 162), (120, 175), (122, 232), (124, 92)], 92) := by decide +kernel
theorem dX9_begin_148 : decode cX9_begin 148 = .ok (.aload_n 0, 1) := by decide +kernel
theorem dX9_begin_149 : decode cX9_begin 149 = .ok (.iload_n 1, 1) := by decide +kernel
theorem dX9_begin_150 : decode cX9_begin 150 = .ok (.aload_n 0, 1) := by decide +kernel
theorem dX9_begin_151 : decode cX9_begin 151 = .ok (.getfield 268, 3) := by decide +kernel
theorem dX9_begin_154 : decode cX9_begin 154 = .ok (.iload_n 2, 1) := by decide +kernel
theorem dX9_begin_155 : decode cX9_begin 155 = .ok (.iconst 0, 1) := by decide +kernel
theorem dX9_begin_156 : decode cX9_begin 156 = .ok (.invokevirtual 298, 3) := by decide +kernel
theorem dX9_begin_159 : decode cX9_begin 159 = .ok (.aload_n 0, 1) := by decide +kernel
theorem dX9_begin_160 : decode cX9_begin 160 = .ok (.aload_n 0, 1) := by decide +kernel
theorem dX9_begin_161 : decode cX9_begin 161 = .ok (.iconst 0, 1) := by decide +kernel
theorem dX9_begin_162 : decode cX9_begin 162 = .ok (.iload 4, 2) := by decide +kernel
theorem dX9_begin_164 : decode cX9_begin 164 = .ok (.iconst 0, 1) := by decide +kernel
theorem dX9_begin_165 : decode cX9_begin 165 = .ok (.iload_n 2, 1) := by decide +kernel
theorem dX9_begin_166 : decode cX9_begin 166 = .ok (.invokevirtual 290, 3) := by decide +kernel
theorem dX9_begin_169 : decode cX9_begin 169 = .ok (.putfield 287, 3) := by decide +kernel
theorem dX9_begin_172 : decode cX9_begin 172 = .ok (.iconst 1, 1) := by decide +kernel
theorem dX9_begin_173 : decode cX9_begin 173 = .ok (.ireturn, 1) := by decide +kernel
theorem dX9_begin_174 : decode cX9_begin 174 = .ok (.aload_n 0, 1) := by decide +kernel
theorem dX9_begin_175 : decode cX9_begin 175 = .ok (.aload_n 0, 1) := by decide +kernel
theorem dX9_begin_176 : decode cX9_begin 176 = .ok (.iconst 0, 1) := by decide +kernel
theorem dX9_begin_177 : decode cX9_begin 177 = .ok (.iload 5, 2) := by decide +kernel
theorem dX9_begin_179 : decode cX9_begin 179 = .ok (.iconst 0, 1) := by decide +kernel
theorem dX9_begin_180 : decode cX9_begin 180 = .ok (.iload_n 2, 1) := by decide +kernel
theorem dX9_begin_181 : decode cX9_begin 181 = .ok (.invokevirtual 290, 3) := by decide +kernel
theorem dX9_begin_184 : decode cX9_begin 184 = .ok (.putfield 287, 3) := by decide +kernel
theorem dX9_begin_187 : decode cX9_begin 187 = .ok (.aload_n 0, 1) := by decide +kernel
theorem dX9_begin_188 : decode cX9_begin 188 = .ok (.aload_n 0, 1) := by decide +kernel
theorem dX9_begin_189 : decode cX9_begin 189 = .ok (.iconst 0, 1) := by decide +kernel
theorem dX9_begin_190 : decode cX9_begin 190 = .ok (.iload 4, 2) := by decide +kernel
theorem dX9_begin_192 : decode cX9_begin 192 = .ok (.iconst 0, 1) := by decide +kernel
theorem dX9_begin_193 : decode cX9_begin 193 = .ok (.aload_n 0, 1) := by decide +kernel
theorem dX9_begin_194 : decode cX9_begin 194 = .ok (.getfield 287, 3) := by decide +kernel
theorem dX9_begin_197 : decode cX9_begin 197 = .ok (.invokevirtual 290, 3) := by decide +kernel
theorem dX9_begin_200 : decode cX9_begin 200 = .ok (.putfield 287, 3) := by decide +kernel
theorem dX9_begin_203 : decode cX9_begin 203 = .ok (.iconst 1, 1) := by decide +kernel
theorem dX9_begin_204 : decode cX9_begin 204 = .ok (.ireturn, 1) := by decide +kernel
theorem dX9_begin_205 : decode cX9_begin 205 = .ok (.aload_n 0, 1) := by decide +kernel
theorem dX9_begin_206 : decode cX9_begin 206 = .ok (.iload_n 1, 1) := by decide +kernel
theorem dX9_begin_207 : decode cX9_begin 207 = .ok (.aload_n 0, 1) := by decide +kernel
theorem dX9_begin_208 : decode cX9_begin 208 = .ok (.getfield 268, 3) := by decide +kernel
theorem dX9_begin_211 : decode cX9_begin 211 = .ok (.iload_n 2, 1) := by decide +kernel
theorem dX9_begin_212 : decode cX9_begin 212 = .ok (.iconst 0, 1) := by decide +kernel
theorem dX9_begin_213 : decode cX9_begin 213 = .ok (.invokevirtual 298, 3) := by decide +kernel
theorem dX9_begin_216 : decode cX9_begin 216 = .ok (.iconst 1, 1) := by decide +kernel
theorem dX9_begin_217 : decode cX9_begin 217 = .ok (.ireturn, 1) := by decide +kernel
theorem dX9_begin_218 : decode cX9_begin 218 = .ok (.aload_n 0, 1) := by decide +kernel
theorem dX9_begin_219 : decode cX9_begin 219 = .ok (.iload_n 1, 1) := by decide +kernel
theorem dX9_begin_220 : decode cX9_begin 220 = .ok (.aload_n 0, 1) := by decide +kernel
theorem dX9_begin_221 : decode cX9_begin 221 = .ok (.getfield 268, 3) := by decide +kernel
theorem dX9_begin_224 : decode cX9_begin 224 = .ok (.iload_n 2, 1) := by decide +kernel
theorem dX9_begin_225 : decode cX9_begin 225 = .ok (.iconst 0, 1) := by decide +kernel
theorem dX9_begin_226 : decode cX9_begin 226 = .ok (.invokevirtual 298, 3) := by decide +kernel
theorem dX9_begin_229 : decode cX9_begin 229 = .ok (.iconst 1, 1) := by decide +kernel
theorem dX9_begin_230 : decode cX9_begin 230 = .ok (.ireturn, 1) := by decide +kernel
theorem dX9_begin_231 : decode cX9_begin 231 = .ok (.aload_n 0, 1) := by decide +kernel
theorem dX9_begin_232 : decode cX9_begin 232 = .ok (.aload_n 0, 1) := by decide +kernel
theorem dX9_begin_233 : decode cX9_begin 233 = .ok (.getfield 268, 3) := by decide +kernel
theorem dX9_begin_236 : decode cX9_begin 236 = .ok (.iconst 0, 1) := by decide +kernel
theorem dX9_begin_237 : decode cX9_begin 237 = .ok (.invokevirtual 302, 3) := by decide +kernel
theorem dX9_begin_240 : decode cX9_begin 240 = .ok (.istore 6, 2) := by decide +kernel
theorem dX9_begin_242 : decode cX9_begin 242 = .ok (.iload 6, 2) := by decide +kernel
theorem dX9_begin_244 : decode cX9_begin 244 = .ok (.iconst (-1), 1) := by decide +kernel
theorem dX9_begin_245 : decode cX9_begin 245 = .ok (.if_icmp .ne 5, 3) := by decide +kernel
theorem dX9_begin_248 : decode cX9_begin 248 = .ok (.iconst 0, 1) := by decide +kernel
theorem dX9_begin_249 : decode cX9_begin 249 = .ok (.ireturn, 1) := by decide +kernel
theorem dX9_begin_250 : decode cX9_begin 250 = .ok (.aload_n 0, 1) := by decide +kernel
theorem dX9_begin_251 : decode cX9_begin 251 = .ok (.iload_n 1, 1) := by decide +kernel
theorem dX9_begin_252 : decode cX9_begin 252 = .ok (.aload_n 0, 1) := by decide +kernel
theorem dX9_begin_253 : decode cX9_begin 253 = .ok (.getfield 268, 3) := by decide +kernel
theorem dX9_begin_256 : decode cX9_begin 256 = .ok (.iload_n 2, 1) := by decide +kernel
theorem dX9_begin_257 : decode cX9_begin 257 = .ok (.iload 6, 2) := by decide +kernel
theorem dX9_begin_259 : decode cX9_begin 259 = .ok (.aload_n 0, 1) := by decide +kernel
theorem dX9_begin_260 : decode cX9_begin 260 = .ok (.getfield 268, 3) := by decide +kernel
theorem dX9_begin_263 : decode cX9_begin 263 = .ok (.isub, 1) := by decide +kernel
theorem dX9_begin_264 : decode cX9_begin 264 = .ok (.invokevirtual 298, 3) := by decide +kernel
theorem dX9_begin_267 : decode cX9_begin 267 = .ok (.aload_n 0, 1) := by decide +kernel
theorem dX9_begin_268 : decode cX9_begin 268 = .ok (.iload 6, 2) := by decide +kernel
theorem dX9_begin_270 : decode cX9_begin 270 = .ok (.putfield 268, 3) := by decide +kernel
theorem dX9_begin_273 : decode cX9_begin 273 = .ok (.iconst 1, 1) := by decide +kernel
theorem dX9_begin_274 : decode cX9_begin 274 = .ok (.ireturn, 1) := by decide +kernel
theorem dX9_begin_275 : decode cX9_begin 275 = .ok (.aload_n 0, 1) := by decide +kernel
theorem dX9_begin_276 : decode cX9_begin 276 = .ok (.iload_n 1, 1) := by decide +kernel
theorem dX9_begin_277 : decode cX9_begin 277 = .ok (.aload_n 0, 1) := by decide +kernel
theorem dX9_begin_278 : decode cX9_begin 278 = .ok (.getfield 268, 3) := by decide +kernel
theorem dX9_begin_281 : decode cX9_begin 281 = .ok (.iload_n 2, 1) := by decide +kernel
theorem dX9_begin_282 : decode cX9_begin 282 = .ok (.iconst 0, 1) := by decide +kernel
theorem dX9_begin_283 : decode cX9_begin 283 = .ok (.invokevirtual 298, 3) := by decide +kernel
theorem dX9_begin_286 : decode cX9_begin 286 = .ok (.iconst 1, 1) := by decide +kernel
theorem dX9_begin_287 : decode cX9_begin 287 = .ok (.ireturn, 1) := by decide +kernel
theorem dX9_begin_288 : decode cX9_begin 288 = .ok (.aload_n 0, 1) := by decide +kernel
theorem dX9_begin_289 : decode cX9_begin 289 = .ok (.iconst 1, 1) := by decide +kernel
theorem dX9_begin_290 : decode cX9_begin 290 = .ok (.putfield 283, 3) := by decide +kernel
theorem dX9_begin_293 : decode cX9_begin 293 = .ok (.iconst 0, 1) := by decide +kernel
theorem dX9_begin_294 : decode cX9_begin 294 = .ok (.ireturn, 1) := by decide +kernel
theorem dX9_begin_295 : decode cX9_begin 295 = .ok (.aload_n 0, 1) := by decide +kernel
theorem dX9_begin_296 : decode cX9_begin 296 = .ok (.aload_n 0, 1) := by decide +kernel
theorem dX9_begin_297 : decode cX9_begin 297 = .ok (.iconst 1, 1) := by decide +kernel
theorem dX9_begin_298 : decode cX9_begin 298 = .ok (.iload 5, 2) := by decide +kernel
theorem dX9_begin_300 : decode cX9_begin 300 = .ok (.aload_n 0, 1) := by decide +kernel
theorem dX9_begin_301 : decode cX9_begin 301 = .ok (.getfield 268, 3) := by decide +kernel
theorem dX9_begin_304 : decode cX9_begin 304 = .ok (.iload_n 2, 1) := by decide +kernel
theorem dX9_begin_305 : decode cX9_begin 305 = .ok (.invokevirtual 290, 3) := by decide +kernel
theorem dX9_begin_308 : decode cX9_begin 308 = .ok (.putfield 287, 3) := by decide +kernel
theorem dX9_begin_311 : decode cX9_begin 311 = .ok (.aload_n 0, 1) := by decide +kernel
theorem dX9_begin_312 : decode cX9_begin 312 = .ok (.aload_n 0, 1) := by decide +kernel
theorem dX9_begin_313 : decode cX9_begin 313 = .ok (.iconst 0, 1) := by decide +kernel
theorem dX9_begin_314 : decode cX9_begin 314 = .ok (.iload 4, 2) := by decide +kernel
theorem dX9_begin_316 : decode cX9_begin 316 = .ok (.iconst 0, 1) := by decide +kernel
theorem dX9_begin_317 : decode cX9_begin 317 = .ok (.aload_n 0, 1) := by decide +kernel
theorem dX9_begin_318 : decode cX9_begin 318 = .ok (.getfield 287, 3) := by decide +kernel
theorem dX9_begin_321 : decode cX9_begin 321 = .ok (.invokevirtual 290, 3) := by decide +kernel
theorem dX9_begin_324 : decode cX9_begin 324 = .ok (.putfield 287, 3) := by decide +kernel
theorem dX9_begin_327 : decode cX9_begin 327 = .ok (.iconst 1, 1) := by decide +kernel
theorem dX9_begin_328 : decode cX9_begin 328 = .ok (.ireturn, 1) := by decide +kernel
theorem dX9_begin_329 : decode cX9_begin 329 = .ok (.aload_n 0, 1) := by decide +kernel
theorem dX9_begin_330 : decode cX9_begin 330 = .ok (.aload_n 0, 1) := by decide +kernel
theorem dX9_begin_331 : decode cX9_begin 331 = .ok (.iconst 2, 1) := by decide +kernel
theorem dX9_begin_332 : decode cX9_begin 332 = .ok (.iload 5, 2) := by decide +kernel
theorem dX9_begin_334 : decode cX9_begin 334 = .ok (.aload_n 0, 1) := by decide +kernel
theorem dX9_begin_335 : decode cX9_begin 335 = .ok (.getfield 268, 3) := by decide +kernel
theorem dX9_begin_338 : decode cX9_begin 338 = .ok (.iload_n 2, 1) := by decide +kernel
theorem dX9_begin_339 : decode cX9_begin 339 = .ok (.invokevirtual 290, 3) := by decide +kernel
theorem dX9_begin_342 : decode cX9_begin 342 = .ok (.putfield 287, 3) := by decide +kernel
theorem dX9_begin_345 : decode cX9_begin 345 = .ok (.aload_n 0, 1) := by decide +kernel
theorem dX9_begin_346 : decode cX9_begin 346 = .ok (.aload_n 0, 1) := by decide +kernel
theorem dX9_begin_347 : decode cX9_begin 347 = .ok (.iconst 0, 1) := by decide +kernel
theorem dX9_begin_348 : decode cX9_begin 348 = .ok (.iload 4, 2) := by decide +kernel
theorem dX9_begin_350 : decode cX9_begin 350 = .ok (.iconst 0, 1) := by decide +kernel
theorem dX9_begin_351 : decode cX9_begin 351 = .ok (.aload_n 0, 1) := by decide +kernel
theorem dX9_begin_352 : decode cX9_begin 352 = .ok (.getfield 287, 3) := by decide +kernel
theorem dX9_begin_355 : decode cX9_begin 355 = .ok (.invokevirtual 290, 3) := by decide +kernel
theorem dX9_begin_358 : decode cX9_begin 358 = .ok (.putfield 287, 3) := by decide +kernel
theorem dX9_begin_361 : decode cX9_begin 361 = .ok (.iconst 1, 1) := by decide +kernel
theorem dX9_begin_362 : decode cX9_begin 362 = .ok (.ireturn, 1) := by decide +kernel
theorem dX9_begin_363 : decode cX9_begin 363 = .ok (.aload_n 0, 1) := by decide +kernel
theorem dX9_begin_364 : decode cX9_begin 364 = .ok (.iload 4, 2) := by decide +kernel
theorem dX9_begin_366 : decode cX9_begin 366 = .ok (.invokevirtual 318, 3) := by decide +kernel
theorem dX9_begin_369 : decode cX9_begin 369 = .ok (.iconst 1, 1) := by decide +kernel
theorem dX9_begin_370 : decode cX9_begin 370 = .ok (.ireturn, 1) := by decide +kernel
theorem dX9_begin_371 : decode cX9_begin 371 = .ok (.aload_n 0, 1) := by decide +kernel
theorem dX9_begin_372 : decode cX9_begin 372 = .ok (.iload_n 3, 1) := by decide +kernel
theorem dX9_begin_373 : decode cX9_begin 373 = .ok (.iload 4, 2) := by decide +kernel
theorem dX9_begin_375 : decode cX9_begin 375 = .ok (.invokevirtual 322, 3) := by decide +kernel
theorem dX9_begin_378 : decode cX9_begin 378 = .ok (.istore 7, 2) := by decide +kernel
theorem dX9_begin_380 : decode cX9_begin 380 = .ok (.aload_n 0, 1) := by decide +kernel
theorem dX9_begin_381 : decode cX9_begin 381 = .ok (.dup, 1) := by decide +kernel
theorem dX9_begin_382 : decode cX9_begin 382 = .ok (.getfield 268, 3) := by decide +kernel
theorem dX9_begin_385 : decode cX9_begin 385 = .ok (.iload 7, 2) := by decide +kernel
theorem dX9_begin_387 : decode cX9_begin 387 = .ok (.iconst (-1), 1) := by decide +kernel
theorem dX9_begin_388 : decode cX9_begin 388 = .ok (.if_icmp .ne 7, 3) := by decide +kernel
theorem dX9_begin_391 : decode cX9_begin 391 = .ok (.iconst 0, 1) := by decide +kernel
theorem dX9_begin_392 : decode cX9_begin 392 = .ok (.goto 5, 3) := by decide +kernel
theorem dX9_begin_395 : decode cX9_begin 395 = .ok (.iload 7, 2) := by decide +kernel
theorem dX9_begin_397 : decode cX9_begin 397 = .ok (.iadd, 1) := by decide +kernel
theorem dX9_begin_398 : decode cX9_begin 398 = .ok (.putfield 268, 3) := by decide +kernel
theorem dX9_begin_401 : decode cX9_begin 401 = .ok (.iload 7, 2) := by decide +kernel
theorem dX9_begin_403 : decode cX9_begin 403 = .ok (.iconst (-1), 1) := by decide +kernel
theorem dX9_begin_404 : decode cX9_begin 404 = .ok (.if_icmp .eq 7, 3) := by decide +kernel
theorem dX9_begin_407 : decode cX9_begin 407 = .ok (.iconst 1, 1) := by decide +kernel
theorem dX9_begin_408 : decode cX9_begin 408 = .ok (.goto 4, 3) := by decide +kernel
theorem dX9_begin_411 : decode cX9_begin 411 = .ok (.iconst 0, 1) := by decide +kernel
theorem dX9_begin_412 : decode cX9_begin 412 = .ok (.ireturn, 1) := by decide +kernel
theorem dX9_goesOn_0 : decode cX9_goesOn 0 = .ok (.aload_n 0, 1) := by decide +kernel
theorem dX9_goesOn_1 : decode cX9_goesOn 1 = .ok (.getfield 287, 3) := by decide +kernel
theorem dX9_goesOn_4 : decode cX9_goesOn 4 = .ok (.istore_n 1, 1) := by decide +kernel
theorem dX9_goesOn_5 : decode cX9_goesOn 5 = .ok (.aload_n 0, 1) := by decide +kernel
theorem dX9_goesOn_6 : decode cX9_goesOn 6 = .ok (.getfield 66, 3) := by decide +kernel
theorem dX9_goesOn_9 : decode cX9_goesOn 9 = .ok (.iload_n 1, 1) := by decide +kernel
theorem dX9_goesOn_10 : decode cX9_goesOn 10 = .ok (.iaload, 1) := by decide +kernel
theorem dX9_goesOn_11 : decode cX9_goesOn 11 = .ok (.istore_n 2, 1) := by decide +kernel
theorem dX9_goesOn_12 : decode cX9_goesOn 12 = .ok (.aload_n 0, 1) := by decide +kernel
theorem dX9_goesOn_13 : decode cX9_goesOn 13 = .ok (.getfield 60, 3) := by decide +kernel
theorem dX9_goesOn_16 : decode cX9_goesOn 16 = .ok (.iload_n 1, 1) := by decide +kernel
theorem dX9_goesOn_17 : decode cX9_goesOn 17 = .ok (.iaload, 1) := by decide +kernel
theorem dX9_goesOn_18 : decode cX9_goesOn 18 = .ok (.istore_n 3, 1) := by decide +kernel
theorem dX9_goesOn_19 : decode cX9_goesOn 19 = .ok (.aload_n 0, 1) := by decide +kernel
theorem dX9_goesOn_20 : decode cX9_goesOn 20 = .ok (.iload_n 2, 1) := by decide +kernel
theorem dX9_goesOn_21 : decode cX9_goesOn 21 = .ok (.putfield 287, 3) := by decide +kernel
theorem dX9_goesOn_24 : decode cX9_goesOn 24 = .ok (.aload_n 0, 1) := by decide +kernel
theorem dX9_goesOn_25 : decode cX9_goesOn 25 = .ok (.getfield 57, 3) := by decide +kernel
theorem dX9_goesOn_28 : decode cX9_goesOn 28 = .ok (.iload_n 1, 1) := by decide +kernel
theorem dX9_goesOn_29 : decode cX9_goesOn 29 = .ok (.iaload, 1) := by decide +kernel
theorem dX9_goesOn_30 : decode cX9_goesOn 30 = .ok (.tableswitch 100 0 2 #[26, 33, 50], 26) := by decide +kernel
theorem dX9_goesOn_56 : decode cX9_goesOn 56 = .ok (.aload_n 0, 1) := by decide +kernel
theorem dX9_goesOn_57 : decode cX9_goesOn 57 = .ok (.iload_n 3, 1) := by decide +kernel
theorem dX9_goesOn_58 : decode cX9_goesOn 58 = .ok (.iload_n 2, 1) := by decide +kernel
theorem dX9_goesOn_59 : decode cX9_goesOn 59 = .ok (.invokevirtual 326, 3) := by decide +kernel
theorem dX9_goesOn_62 : decode cX9_goesOn 62 = .ok (.ireturn, 1) := by decide +kernel
theorem dX9_goesOn_63 : decode cX9_goesOn 63 = .ok (.aload_n 0, 1) := by decide +kernel
theorem dX9_goesOn_64 : decode cX9_goesOn 64 = .ok (.iload_n 3, 1) := by decide +kernel
theorem dX9_goesOn_65 : decode cX9_goesOn 65 = .ok (.aload_n 0, 1) := by decide +kernel
theorem dX9_goesOn_66 : decode cX9_goesOn 66 = .ok (.getfield 63, 3) := by decide +kernel
theorem dX9_goesOn_69 : decode cX9_goesOn 69 = .ok (.iload_n 1, 1) := by decide +kernel
theorem dX9_goesOn_70 : decode cX9_goesOn 70 = .ok (.iaload, 1) := by decide +kernel
theorem dX9_goesOn_71 : decode cX9_goesOn 71 = .ok (.aload_n 0, 1) := by decide +kernel
theorem dX9_goesOn_72 : decode cX9_goesOn 72 = .ok (.getfield 268, 3) := by decide +kernel
theorem dX9_goesOn_75 : decode cX9_goesOn 75 = .ok (.invokevirtual 329, 3) := by decide +kernel
theorem dX9_goesOn_78 : decode cX9_goesOn 78 = .ok (.iconst 1, 1) := by decide +kernel
theorem dX9_goesOn_79 : decode cX9_goesOn 79 = .ok (.ireturn, 1) := by decide +kernel
theorem dX9_goesOn_80 : decode cX9_goesOn 80 = .ok (.aload_n 0, 1) := by decide +kernel
theorem dX9_goesOn_81 : decode cX9_goesOn 81 = .ok (.getfield 87, 3) := by decide +kernel
theorem dX9_goesOn_84 : decode cX9_goesOn 84 = .ok (.aload_n 0, 1) := by decide +kernel
theorem dX9_goesOn_85 : decode cX9_goesOn 85 = .ok (.getfield 265, 3) := by decide +kernel
theorem dX9_goesOn_88 : decode cX9_goesOn 88 = .ok (.iload_n 3, 1) := by decide +kernel
theorem dX9_goesOn_89 : decode cX9_goesOn 89 = .ok (.iastore, 1) := by decide +kernel
theorem dX9_goesOn_90 : decode cX9_goesOn 90 = .ok (.aload_n 0, 1) := by decide +kernel
theorem dX9_goesOn_91 : decode cX9_goesOn 91 = .ok (.getfield 90, 3) := by decide +kernel
theorem dX9_goesOn_94 : decode cX9_goesOn 94 = .ok (.aload_n 0, 1) := by decide +kernel
theorem dX9_goesOn_95 : decode cX9_goesOn 95 = .ok (.getfield 265, 3) := by decide +kernel
theorem dX9_goesOn_98 : decode cX9_goesOn 98 = .ok (.aload_n 0, 1) := by decide +kernel
theorem dX9_goesOn_99 : decode cX9_goesOn 99 = .ok (.getfield 63, 3) := by decide +kernel
theorem dX9_goesOn_102 : decode cX9_goesOn 102 = .ok (.iload_n 1, 1) := by decide +kernel
theorem dX9_goesOn_103 : decode cX9_goesOn 103 = .ok (.iaload, 1) := by decide +kernel
theorem dX9_goesOn_104 : decode cX9_goesOn 104 = .ok (.iastore, 1) := by decide +kernel
theorem dX9_goesOn_105 : decode cX9_goesOn 105 = .ok (.aload_n 0, 1) := by decide +kernel
theorem dX9_goesOn_106 : decode cX9_goesOn 106 = .ok (.getfield 93, 3) := by decide +kernel
theorem dX9_goesOn_109 : decode cX9_goesOn 109 = .ok (.aload_n 0, 1) := by decide +kernel
theorem dX9_goesOn_110 : decode cX9_goesOn 110 = .ok (.getfield 265, 3) := by decide +kernel
theorem dX9_goesOn_113 : decode cX9_goesOn 113 = .ok (.aload_n 0, 1) := by decide +kernel
theorem dX9_goesOn_114 : decode cX9_goesOn 114 = .ok (.getfield 268, 3) := by decide +kernel
theorem dX9_goesOn_117 : decode cX9_goesOn 117 = .ok (.iastore, 1) := by decide +kernel
theorem dX9_goesOn_118 : decode cX9_goesOn 118 = .ok (.aload_n 0, 1) := by decide +kernel
theorem dX9_goesOn_119 : decode cX9_goesOn 119 = .ok (.dup, 1) := by decide +kernel
theorem dX9_goesOn_120 : decode cX9_goesOn 120 = .ok (.getfield 265, 3) := by decide +kernel
theorem dX9_goesOn_123 : decode cX9_goesOn 123 = .ok (.iconst 1, 1) := by decide +kernel
theorem dX9_goesOn_124 : decode cX9_goesOn 124 = .ok (.iadd, 1) := by decide +kernel
theorem dX9_goesOn_125 : decode cX9_goesOn 125 = .ok (.putfield 265, 3) := by decide +kernel
theorem dX9_goesOn_128 : decode cX9_goesOn 128 = .ok (.iconst 1, 1) := by decide +kernel
theorem dX9_goesOn_129 : decode cX9_goesOn 129 = .ok (.ireturn, 1) := by decide +kernel
theorem dX9_goesOn_130 : decode cX9_goesOn 130 = .ok (.aload_n 0, 1) := by decide +kernel
theorem dX9_goesOn_131 : decode cX9_goesOn 131 = .ok (.getfield 268, 3) := by decide +kernel
theorem dX9_goesOn_134 : decode cX9_goesOn 134 = .ok (.aload_n 0, 1) := by decide +kernel
theorem dX9_goesOn_135 : decode cX9_goesOn 135 = .ok (.getfield 63, 3) := by decide +kernel
theorem dX9_goesOn_138 : decode cX9_goesOn 138 = .ok (.iload_n 1, 1) := by decide +kernel
theorem dX9_goesOn_139 : decode cX9_goesOn 139 = .ok (.iaload, 1) := by decide +kernel
theorem dX9_goesOn_140 : decode cX9_goesOn 140 = .ok (.if_icmp .ne 5, 3) := by decide +kernel
theorem dX9_goesOn_143 : decode cX9_goesOn 143 = .ok (.iconst 0, 1) := by decide +kernel
theorem dX9_goesOn_144 : decode cX9_goesOn 144 = .ok (.ireturn, 1) := by decide +kernel
theorem dX9_goesOn_145 : decode cX9_goesOn 145 = .ok (.aload_n 0, 1) := by decide +kernel
theorem dX9_goesOn_146 : decode cX9_goesOn 146 = .ok (.iload_n 3, 1) := by decide +kernel
theorem dX9_goesOn_147 : decode cX9_goesOn 147 = .ok (.aload_n 0, 1) := by decide +kernel
theorem dX9_goesOn_148 : decode cX9_goesOn 148 = .ok (.getfield 268, 3) := by decide +kernel
theorem dX9_goesOn_151 : decode cX9_goesOn 151 = .ok (.iload_n 2, 1) := by decide +kernel
theorem dX9_goesOn_152 : decode cX9_goesOn 152 = .ok (.iconst 0, 1) := by decide +kernel
theorem dX9_goesOn_153 : decode cX9_goesOn 153 = .ok (.invokevirtual 298, 3) := by decide +kernel
theorem dX9_goesOn_156 : decode cX9_goesOn 156 = .ok (.iconst 1, 1) := by decide +kernel
theorem dX9_goesOn_157 : decode cX9_goesOn 157 = .ok (.ireturn, 1) := by decide +kernel
theorem dX9_reaches_0 : decode cX9_reaches 0 = .ok (.iload_n 1, 1) := by decide +kernel
theorem dX9_reaches_1 : decode cX9_reaches 1 = .ok (.ifCond .ne 10, 3) := by decide +kernel
theorem dX9_reaches_4 : decode cX9_reaches 4 = .ok (.aload_n 0, 1) := by decide +kernel
theorem dX9_reaches_5 : decode cX9_reaches 5 = .ok (.invokevirtual 333, 3) := by decide +kernel
theorem dX9_reaches_8 : decode cX9_reaches 8 = .ok (.ifCond .eq 7, 3) := by decide +kernel
theorem dX9_reaches_11 : decode cX9_reaches 11 = .ok (.iconst 1, 1) := by decide +kernel
theorem dX9_reaches_12 : decode cX9_reaches 12 = .ok (.goto 4, 3) := by decide +kernel
theorem dX9_reaches_15 : decode cX9_reaches 15 = .ok (.iconst 0, 1) := by decide +kernel
theorem dX9_reaches_16 : decode cX9_reaches 16 = .ok (.istore_n 2, 1) := by decide +kernel
theorem dX9_reaches_17 : decode cX9_reaches 17 = .ok (.iload_n 2, 1) := by decide +kernel
theorem dX9_reaches_18 : decode cX9_reaches 18 = .ok (.ifCond .eq 43, 3) := by decide +kernel
theorem dX9_reaches_21 : decode cX9_reaches 21 = .ok (.aload_n 0, 1) := by decide +kernel
theorem dX9_reaches_22 : decode cX9_reaches 22 = .ok (.getfield 287, 3) := by decide +kernel
theorem dX9_reaches_25 : decode cX9_reaches 25 = .ok (.iconst (-1), 1) := by decide +kernel
theorem dX9_reaches_26 : decode cX9_reaches 26 = .ok (.if_icmp .eq 35, 3) := by decide +kernel
theorem dX9_reaches_29 : decode cX9_reaches 29 = .ok (.aload_n 0, 1) := by decide +kernel
theorem dX9_reaches_30 : decode cX9_reaches 30 = .ok (.invokevirtual 336, 3) := by decide +kernel
theorem dX9_reaches_33 : decode cX9_reaches 33 = .ok (.istore_n 3, 1) := by decide +kernel
theorem dX9_reaches_34 : decode cX9_reaches 34 = .ok (.iload_n 3, 1) := by decide +kernel
theorem dX9_reaches_35 : decode cX9_reaches 35 = .ok (.ifCond .ne 17, 3) := by decide +kernel
theorem dX9_reaches_38 : decode cX9_reaches 38 = .ok (.aload_n 0, 1) := by decide +kernel
theorem dX9_reaches_39 : decode cX9_reaches 39 = .ok (.getfield 315, 3) := by decide +kernel
theorem dX9_reaches_42 : decode cX9_reaches 42 = .ok (.ifCond .ne 14, 3) := by decide +kernel
theorem dX9_reaches_45 : decode cX9_reaches 45 = .ok (.aload_n 0, 1) := by decide +kernel
theorem dX9_reaches_46 : decode cX9_reaches 46 = .ok (.invokevirtual 333, 3) := by decide +kernel
theorem dX9_reaches_49 : decode cX9_reaches 49 = .ok (.ifCond .eq 7, 3) := by decide +kernel
theorem dX9_reaches_52 : decode cX9_reaches 52 = .ok (.iconst 1, 1) := by decide +kernel
theorem dX9_reaches_53 : decode cX9_reaches 53 = .ok (.goto 4, 3) := by decide +kernel
theorem dX9_reaches_56 : decode cX9_reaches 56 = .ok (.iconst 0, 1) := by decide +kernel
theorem dX9_reaches_57 : decode cX9_reaches 57 = .ok (.istore_n 2, 1) := by decide +kernel
theorem dX9_reaches_58 : decode cX9_reaches 58 = .ok (.goto (-41), 3) := by decide +kernel
theorem dX9_reaches_61 : decode cX9_reaches 61 = .ok (.iload_n 2, 1) := by decide +kernel
theorem dX9_reaches_62 : decode cX9_reaches 62 = .ok (.ireturn, 1) := by decide +kernel
theorem dX9_beginAt_0 : decode cX9_beginAt 0 = .ok (.aload_n 0, 1) := by decide +kernel
theorem dX9_beginAt_1 : decode cX9_beginAt 1 = .ok (.iload_n 1, 1) := by decide +kernel
theorem dX9_beginAt_2 : decode cX9_beginAt 2 = .ok (.putfield 339, 3) := by decide +kernel
theorem dX9_beginAt_5 : decode cX9_beginAt 5 = .ok (.aload_n 0, 1) := by decide +kernel
theorem dX9_beginAt_6 : decode cX9_beginAt 6 = .ok (.iload_n 1, 1) := by decide +kernel
theorem dX9_beginAt_7 : decode cX9_beginAt 7 = .ok (.putfield 268, 3) := by decide +kernel
theorem dX9_beginAt_10 : decode cX9_beginAt 10 = .ok (.aload_n 0, 1) := by decide +kernel
theorem dX9_beginAt_11 : decode cX9_beginAt 11 = .ok (.iconst 0, 1) := by decide +kernel
theorem dX9_beginAt_12 : decode cX9_beginAt 12 = .ok (.putfield 259, 3) := by decide +kernel
theorem dX9_beginAt_15 : decode cX9_beginAt 15 = .ok (.aload_n 0, 1) := by decide +kernel
theorem dX9_beginAt_16 : decode cX9_beginAt 16 = .ok (.iconst 0, 1) := by decide +kernel
theorem dX9_beginAt_17 : decode cX9_beginAt 17 = .ok (.putfield 262, 3) := by decide +kernel
theorem dX9_beginAt_20 : decode cX9_beginAt 20 = .ok (.aload_n 0, 1) := by decide +kernel
theorem dX9_beginAt_21 : decode cX9_beginAt 21 = .ok (.iconst 0, 1) := by decide +kernel
theorem dX9_beginAt_22 : decode cX9_beginAt 22 = .ok (.putfield 265, 3) := by decide +kernel
theorem dX9_beginAt_25 : decode cX9_beginAt 25 = .ok (.aload_n 0, 1) := by decide +kernel
theorem dX9_beginAt_26 : decode cX9_beginAt 26 = .ok (.aload_n 0, 1) := by decide +kernel
theorem dX9_beginAt_27 : decode cX9_beginAt 27 = .ok (.iconst 0, 1) := by decide +kernel
theorem dX9_beginAt_28 : decode cX9_beginAt 28 = .ok (.iload_n 2, 1) := by decide +kernel
theorem dX9_beginAt_29 : decode cX9_beginAt 29 = .ok (.iconst 0, 1) := by decide +kernel
theorem dX9_beginAt_30 : decode cX9_beginAt 30 = .ok (.iconst (-1), 1) := by decide +kernel
theorem dX9_beginAt_31 : decode cX9_beginAt 31 = .ok (.invokevirtual 290, 3) := by decide +kernel
theorem dX9_beginAt_34 : decode cX9_beginAt 34 = .ok (.putfield 287, 3) := by decide +kernel
theorem dX9_beginAt_37 : decode cX9_beginAt 37 = .ok (.return_, 1) := by decide +kernel
theorem dX9_matches_0 : decode cX9_matches 0 = .ok (.aload_n 0, 1) := by decide +kernel
theorem dX9_matches_1 : decode cX9_matches 1 = .ok (.iconst 0, 1) := by decide +kernel
theorem dX9_matches_2 : decode cX9_matches 2 = .ok (.putfield 312, 3) := by decide +kernel
theorem dX9_matches_5 : decode cX9_matches 5 = .ok (.aload_n 0, 1) := by decide +kernel
theorem dX9_matches_6 : decode cX9_matches 6 = .ok (.iconst 0, 1) := by decide +kernel
theorem dX9_matches_7 : decode cX9_matches 7 = .ok (.putfield 283, 3) := by decide +kernel
theorem dX9_matches_10 : decode cX9_matches 10 = .ok (.aload_n 0, 1) := by decide +kernel
theorem dX9_matches_11 : decode cX9_matches 11 = .ok (.iconst 0, 1) := by decide +kernel
theorem dX9_matches_12 : decode cX9_matches 12 = .ok (.putfield 315, 3) := by decide +kernel
theorem dX9_matches_15 : decode cX9_matches 15 = .ok (.iconst 0, 1) := by decide +kernel
theorem dX9_matches_16 : decode cX9_matches 16 = .ok (.istore_n 2, 1) := by decide +kernel
theorem dX9_matches_17 : decode cX9_matches 17 = .ok (.aload_n 0, 1) := by decide +kernel
theorem dX9_matches_18 : decode cX9_matches 18 = .ok (.getfield 342, 3) := by decide +kernel
theorem dX9_matches_21 : decode cX9_matches 21 = .ok (.ifCond .eq 7, 3) := by decide +kernel
theorem dX9_matches_24 : decode cX9_matches 24 = .ok (.iconst 0, 1) := by decide +kernel
theorem dX9_matches_25 : decode cX9_matches 25 = .ok (.goto 7, 3) := by decide +kernel
theorem dX9_matches_28 : decode cX9_matches 28 = .ok (.aload_n 0, 1) := by decide +kernel
theorem dX9_matches_29 : decode cX9_matches 29 = .ok (.getfield 271, 3) := by decide +kernel
theorem dX9_matches_32 : decode cX9_matches 32 = .ok (.istore_n 3, 1) := by decide +kernel
theorem dX9_matches_33 : decode cX9_matches 33 = .ok (.iconst 0, 1) := by decide +kernel
theorem dX9_matches_34 : decode cX9_matches 34 = .ok (.istore 4, 2) := by decide +kernel
theorem dX9_matches_36 : decode cX9_matches 36 = .ok (.iload 4, 2) := by decide +kernel
theorem dX9_matches_38 : decode cX9_matches 38 = .ok (.iload_n 3, 1) := by decide +kernel
theorem dX9_matches_39 : decode cX9_matches 39 = .ok (.if_icmp .gt 40, 3) := by decide +kernel
theorem dX9_matches_42 : decode cX9_matches 42 = .ok (.iload_n 2, 1) := by decide +kernel
theorem dX9_matches_43 : decode cX9_matches 43 = .ok (.ifCond .ne 36, 3) := by decide +kernel
theorem dX9_matches_46 : decode cX9_matches 46 = .ok (.aload_n 0, 1) := by decide +kernel
theorem dX9_matches_47 : decode cX9_matches 47 = .ok (.getfield 283, 3) := by decide +kernel
theorem dX9_matches_50 : decode cX9_matches 50 = .ok (.ifCond .ne 29, 3) := by decide +kernel
theorem dX9_matches_53 : decode cX9_matches 53 = .ok (.aload_n 0, 1) := by decide +kernel
theorem dX9_matches_54 : decode cX9_matches 54 = .ok (.getfield 315, 3) := by decide +kernel
theorem dX9_matches_57 : decode cX9_matches 57 = .ok (.ifCond .ne 22, 3) := by decide +kernel
theorem dX9_matches_60 : decode cX9_matches 60 = .ok (.aload_n 0, 1) := by decide +kernel
theorem dX9_matches_61 : decode cX9_matches 61 = .ok (.iload 4, 2) := by decide +kernel
theorem dX9_matches_63 : decode cX9_matches 63 = .ok (.iload_n 1, 1) := by decide +kernel
theorem dX9_matches_64 : decode cX9_matches 64 = .ok (.invokevirtual 345, 3) := by decide +kernel
theorem dX9_matches_67 : decode cX9_matches 67 = .ok (.aload_n 0, 1) := by decide +kernel
theorem dX9_matches_68 : decode cX9_matches 68 = .ok (.iconst 1, 1) := by decide +kernel
theorem dX9_matches_69 : decode cX9_matches 69 = .ok (.invokevirtual 348, 3) := by decide +kernel
theorem dX9_matches_72 : decode cX9_matches 72 = .ok (.istore_n 2, 1) := by decide +kernel
theorem dX9_matches_73 : decode cX9_matches 73 = .ok (.iinc 4 1, 3) := by decide +kernel
theorem dX9_matches_76 : decode cX9_matches 76 = .ok (.goto (-40), 3) := by decide +kernel
theorem dX9_matches_79 : decode cX9_matches 79 = .ok (.aload_n 0, 1) := by decide +kernel
theorem dX9_matches_80 : decode cX9_matches 80 = .ok (.getfield 315, 3) := by decide +kernel
theorem dX9_matches_83 : decode cX9_matches 83 = .ok (.ifCond .eq 7, 3) := by decide +kernel
theorem dX9_matches_86 : decode cX9_matches 86 = .ok (.iconst (-1), 1) := by decide +kernel
theorem dX9_matches_87 : decode cX9_matches 87 = .ok (.goto 12, 3) := by decide +kernel
theorem dX9_matches_90 : decode cX9_matches 90 = .ok (.iload_n 2, 1) := by decide +kernel
theorem dX9_matches_91 : decode cX9_matches 91 = .ok (.ifCond .eq 7, 3) := by decide +kernel
theorem dX9_matches_94 : decode cX9_matches 94 = .ok (.iconst 1, 1) := by decide +kernel
theorem dX9_matches_95 : decode cX9_matches 95 = .ok (.goto 4, 3) := by decide +kernel
theorem dX9_matches_98 : decode cX9_matches 98 = .ok (.iconst 0, 1) := by decide +kernel
theorem dX9_matches_99 : decode cX9_matches 99 = .ok (.ireturn, 1) := by decide +kernel
theorem dX9_assignKept_0 : decode cX9_assignKept 0 = .ok (.iconst 0, 1) := by decide +kernel
theorem dX9_assignKept_1 : decode cX9_assignKept 1 = .ok (.istore_n 1, 1) := by decide +kernel
theorem dX9_assignKept_2 : decode cX9_assignKept 2 = .ok (.iload_n 1, 1) := by decide +kernel
theorem dX9_assignKept_3 : decode cX9_assignKept 3 = .ok (.aload_n 0, 1) := by decide +kernel
theorem dX9_assignKept_4 : decode cX9_assignKept 4 = .ok (.getfield 265, 3) := by decide +kernel
theorem dX9_assignKept_7 : decode cX9_assignKept 7 = .ok (.if_icmp .ge 31, 3) := by decide +kernel
theorem dX9_assignKept_10 : decode cX9_assignKept 10 = .ok (.aload_n 0, 1) := by decide +kernel
theorem dX9_assignKept_11 : decode cX9_assignKept 11 = .ok (.aload_n 0, 1) := by decide +kernel
theorem dX9_assignKept_12 : decode cX9_assignKept 12 = .ok (.getfield 87, 3) := by decide +kernel
theorem dX9_assignKept_15 : decode cX9_assignKept 15 = .ok (.iload_n 1, 1) := by decide +kernel
theorem dX9_assignKept_16 : decode cX9_assignKept 16 = .ok (.iaload, 1) := by decide +kernel
theorem dX9_assignKept_17 : decode cX9_assignKept 17 = .ok (.aload_n 0, 1) := by decide +kernel
theorem dX9_assignKept_18 : decode cX9_assignKept 18 = .ok (.getfield 90, 3) := by decide +kernel
theorem dX9_assignKept_21 : decode cX9_assignKept 21 = .ok (.iload_n 1, 1) := by decide +kernel
theorem dX9_assignKept_22 : decode cX9_assignKept 22 = .ok (.iaload, 1) := by decide +kernel
theorem dX9_assignKept_23 : decode cX9_assignKept 23 = .ok (.aload_n 0, 1) := by decide +kernel
theorem dX9_assignKept_24 : decode cX9_assignKept 24 = .ok (.getfield 93, 3) := by decide +kernel
theorem dX9_assignKept_27 : decode cX9_assignKept 27 = .ok (.iload_n 1, 1) := by decide +kernel
theorem dX9_assignKept_28 : decode cX9_assignKept 28 = .ok (.iaload, 1) := by decide +kernel
theorem dX9_assignKept_29 : decode cX9_assignKept 29 = .ok (.invokevirtual 329, 3) := by decide +kernel
theorem dX9_assignKept_32 : decode cX9_assignKept 32 = .ok (.iinc 1 1, 3) := by decide +kernel
theorem dX9_assignKept_35 : decode cX9_assignKept 35 = .ok (.goto (-33), 3) := by decide +kernel
theorem dX9_assignKept_38 : decode cX9_assignKept 38 = .ok (.return_, 1) := by decide +kernel
theorem dX9_isWay_0 : decode cX9_isWay 0 = .ok (.iload_n 0, 1) := by decide +kernel
theorem dX9_isWay_1 : decode cX9_isWay 1 = .ok (.i2l, 1) := by decide +kernel
theorem dX9_isWay_2 : decode cX9_isWay 2 = .ok (.ldc2_w 352, 3) := by decide +kernel
theorem dX9_isWay_5 : decode cX9_isWay 5 = .ok (.ldc2_w 354, 3) := by decide +kernel
theorem dX9_isWay_8 : decode cX9_isWay 8 = .ok (.invokestatic 167, 3) := by decide +kernel
theorem dX9_isWay_11 : decode cX9_isWay 11 = .ok (.ireturn, 1) := by decide +kernel
theorem dX9_add_0 : decode cX9_add 0 = .ok (.aload_n 0, 1) := by decide +kernel
theorem dX9_add_1 : decode cX9_add 1 = .ok (.aload_n 0, 1) := by decide +kernel
theorem dX9_add_2 : decode cX9_add 2 = .ok (.getfield 356, 3) := by decide +kernel
theorem dX9_add_5 : decode cX9_add 5 = .ok (.bipush 40, 2) := by decide +kernel
theorem dX9_add_7 : decode cX9_add 7 = .ok (.if_icmp .ne 7, 3) := by decide +kernel
theorem dX9_add_10 : decode cX9_add 10 = .ok (.iconst 1, 1) := by decide +kernel
theorem dX9_add_11 : decode cX9_add 11 = .ok (.goto 4, 3) := by decide +kernel
theorem dX9_add_14 : decode cX9_add 14 = .ok (.iconst 0, 1) := by decide +kernel
theorem dX9_add_15 : decode cX9_add 15 = .ok (.iconst 3, 1) := by decide +kernel
theorem dX9_add_16 : decode cX9_add 16 = .ok (.invokevirtual 175, 3) := by decide +kernel
theorem dX9_add_19 : decode cX9_add 19 = .ok (.ifCond .eq 5, 3) := by decide +kernel
theorem dX9_add_22 : decode cX9_add 22 = .ok (.iconst (-1), 1) := by decide +kernel
theorem dX9_add_23 : decode cX9_add 23 = .ok (.ireturn, 1) := by decide +kernel
theorem dX9_add_24 : decode cX9_add 24 = .ok (.aload_n 0, 1) := by decide +kernel
theorem dX9_add_25 : decode cX9_add 25 = .ok (.getfield 96, 3) := by decide +kernel
theorem dX9_add_28 : decode cX9_add 28 = .ok (.aload_n 0, 1) := by decide +kernel
theorem dX9_add_29 : decode cX9_add 29 = .ok (.getfield 356, 3) := by decide +kernel
theorem dX9_add_32 : decode cX9_add 32 = .ok (.iload_n 1, 1) := by decide +kernel
theorem dX9_add_33 : decode cX9_add 33 = .ok (.castore, 1) := by decide +kernel
theorem dX9_add_34 : decode cX9_add 34 = .ok (.aload_n 0, 1) := by decide +kernel
theorem dX9_add_35 : decode cX9_add 35 = .ok (.getfield 99, 3) := by decide +kernel
theorem dX9_add_38 : decode cX9_add 38 = .ok (.aload_n 0, 1) := by decide +kernel
theorem dX9_add_39 : decode cX9_add 39 = .ok (.getfield 356, 3) := by decide +kernel
theorem dX9_add_42 : decode cX9_add 42 = .ok (.iload_n 2, 1) := by decide +kernel
theorem dX9_add_43 : decode cX9_add 43 = .ok (.iastore, 1) := by decide +kernel
theorem dX9_add_44 : decode cX9_add 44 = .ok (.aload_n 0, 1) := by decide +kernel
theorem dX9_add_45 : decode cX9_add 45 = .ok (.getfield 102, 3) := by decide +kernel
theorem dX9_add_48 : decode cX9_add 48 = .ok (.aload_n 0, 1) := by decide +kernel
theorem dX9_add_49 : decode cX9_add 49 = .ok (.getfield 356, 3) := by decide +kernel
theorem dX9_add_52 : decode cX9_add 52 = .ok (.iload_n 3, 1) := by decide +kernel
theorem dX9_add_53 : decode cX9_add 53 = .ok (.iastore, 1) := by decide +kernel
theorem dX9_add_54 : decode cX9_add 54 = .ok (.aload_n 0, 1) := by decide +kernel
theorem dX9_add_55 : decode cX9_add 55 = .ok (.getfield 105, 3) := by decide +kernel
theorem dX9_add_58 : decode cX9_add 58 = .ok (.aload_n 0, 1) := by decide +kernel
theorem dX9_add_59 : decode cX9_add 59 = .ok (.getfield 356, 3) := by decide +kernel
theorem dX9_add_62 : decode cX9_add 62 = .ok (.iload 4, 2) := by decide +kernel
theorem dX9_add_64 : decode cX9_add 64 = .ok (.iastore, 1) := by decide +kernel
theorem dX9_add_65 : decode cX9_add 65 = .ok (.aload_n 0, 1) := by decide +kernel
theorem dX9_add_66 : decode cX9_add 66 = .ok (.getfield 108, 3) := by decide +kernel
theorem dX9_add_69 : decode cX9_add 69 = .ok (.aload_n 0, 1) := by decide +kernel
theorem dX9_add_70 : decode cX9_add 70 = .ok (.getfield 356, 3) := by decide +kernel
theorem dX9_add_73 : decode cX9_add 73 = .ok (.iload 5, 2) := by decide +kernel
theorem dX9_add_75 : decode cX9_add 75 = .ok (.iastore, 1) := by decide +kernel
theorem dX9_add_76 : decode cX9_add 76 = .ok (.aload_n 0, 1) := by decide +kernel
theorem dX9_add_77 : decode cX9_add 77 = .ok (.getfield 111, 3) := by decide +kernel
theorem dX9_add_80 : decode cX9_add 80 = .ok (.aload_n 0, 1) := by decide +kernel
theorem dX9_add_81 : decode cX9_add 81 = .ok (.getfield 356, 3) := by decide +kernel
theorem dX9_add_84 : decode cX9_add 84 = .ok (.iload 6, 2) := by decide +kernel
theorem dX9_add_86 : decode cX9_add 86 = .ok (.iastore, 1) := by decide +kernel
theorem dX9_add_87 : decode cX9_add 87 = .ok (.aload_n 0, 1) := by decide +kernel
theorem dX9_add_88 : decode cX9_add 88 = .ok (.dup, 1) := by decide +kernel
theorem dX9_add_89 : decode cX9_add 89 = .ok (.getfield 356, 3) := by decide +kernel
theorem dX9_add_92 : decode cX9_add 92 = .ok (.iconst 1, 1) := by decide +kernel
theorem dX9_add_93 : decode cX9_add 93 = .ok (.iadd, 1) := by decide +kernel
theorem dX9_add_94 : decode cX9_add 94 = .ok (.putfield 356, 3) := by decide +kernel
theorem dX9_add_97 : decode cX9_add 97 = .ok (.aload_n 0, 1) := by decide +kernel
theorem dX9_add_98 : decode cX9_add 98 = .ok (.getfield 356, 3) := by decide +kernel
theorem dX9_add_101 : decode cX9_add 101 = .ok (.iconst 1, 1) := by decide +kernel
theorem dX9_add_102 : decode cX9_add 102 = .ok (.isub, 1) := by decide +kernel
theorem dX9_add_103 : decode cX9_add 103 = .ok (.ireturn, 1) := by decide +kernel
theorem dX9_assign__0 : decode cX9_assign_ 0 = .ok (.aload_n 0, 1) := by decide +kernel
theorem dX9_assign__1 : decode cX9_assign_ 1 = .ok (.iconst 0, 1) := by decide +kernel
theorem dX9_assign__2 : decode cX9_assign_ 2 = .ok (.putfield 159, 3) := by decide +kernel
theorem dX9_assign__5 : decode cX9_assign_ 5 = .ok (.aload_n 0, 1) := by decide +kernel
theorem dX9_assign__6 : decode cX9_assign_ 6 = .ok (.iload_n 1, 1) := by decide +kernel
theorem dX9_assign__7 : decode cX9_assign_ 7 = .ok (.invokestatic 187, 3) := by decide +kernel
theorem dX9_assign__10 : decode cX9_assign_ 10 = .ok (.ifCond .eq 11, 3) := by decide +kernel
theorem dX9_assign__13 : decode cX9_assign_ 13 = .ok (.aload_n 0, 1) := by decide +kernel
theorem dX9_assign__14 : decode cX9_assign_ 14 = .ok (.iload_n 2, 1) := by decide +kernel
theorem dX9_assign__15 : decode cX9_assign_ 15 = .ok (.invokevirtual 212, 3) := by decide +kernel
theorem dX9_assign__18 : decode cX9_assign_ 18 = .ok (.ifCond .ne 7, 3) := by decide +kernel
theorem dX9_assign__21 : decode cX9_assign_ 21 = .ok (.iconst 1, 1) := by decide +kernel
theorem dX9_assign__22 : decode cX9_assign_ 22 = .ok (.goto 4, 3) := by decide +kernel
theorem dX9_assign__25 : decode cX9_assign_ 25 = .ok (.iconst 0, 1) := by decide +kernel
theorem dX9_assign__26 : decode cX9_assign_ 26 = .ok (.iconst 1, 1) := by decide +kernel
theorem dX9_assign__27 : decode cX9_assign_ 27 = .ok (.invokevirtual 175, 3) := by decide +kernel
theorem dX9_assign__30 : decode cX9_assign_ 30 = .ok (.ifCond .ne 31, 3) := by decide +kernel
theorem dX9_assign__33 : decode cX9_assign_ 33 = .ok (.aload_n 0, 1) := by decide +kernel
theorem dX9_assign__34 : decode cX9_assign_ 34 = .ok (.iload_n 3, 1) := by decide +kernel
theorem dX9_assign__35 : decode cX9_assign_ 35 = .ok (.invokestatic 359, 3) := by decide +kernel
theorem dX9_assign__38 : decode cX9_assign_ 38 = .ok (.ifCond .eq 11, 3) := by decide +kernel
theorem dX9_assign__41 : decode cX9_assign_ 41 = .ok (.iload 4, 2) := by decide +kernel
theorem dX9_assign__43 : decode cX9_assign_ 43 = .ok (.invokestatic 359, 3) := by decide +kernel
theorem dX9_assign__46 : decode cX9_assign_ 46 = .ok (.ifCond .ne 7, 3) := by decide +kernel
theorem dX9_assign__49 : decode cX9_assign_ 49 = .ok (.iconst 1, 1) := by decide +kernel
theorem dX9_assign__50 : decode cX9_assign_ 50 = .ok (.goto 4, 3) := by decide +kernel
theorem dX9_assign__53 : decode cX9_assign_ 53 = .ok (.iconst 0, 1) := by decide +kernel
theorem dX9_assign__54 : decode cX9_assign_ 54 = .ok (.iconst 2, 1) := by decide +kernel
theorem dX9_assign__55 : decode cX9_assign_ 55 = .ok (.invokevirtual 175, 3) := by decide +kernel
theorem dX9_assign__58 : decode cX9_assign_ 58 = .ok (.ifCond .eq 5, 3) := by decide +kernel
theorem dX9_assign__61 : decode cX9_assign_ 61 = .ok (.iconst (-1), 1) := by decide +kernel
theorem dX9_assign__62 : decode cX9_assign_ 62 = .ok (.ireturn, 1) := by decide +kernel
theorem dX9_assign__63 : decode cX9_assign_ 63 = .ok (.aload_n 0, 1) := by decide +kernel
theorem dX9_assign__64 : decode cX9_assign_ 64 = .ok (.bipush 97, 2) := by decide +kernel
theorem dX9_assign__66 : decode cX9_assign_ 66 = .ok (.iload_n 1, 1) := by decide +kernel
theorem dX9_assign__67 : decode cX9_assign_ 67 = .ok (.iconst (-1), 1) := by decide +kernel
theorem dX9_assign__68 : decode cX9_assign_ 68 = .ok (.iload_n 2, 1) := by decide +kernel
theorem dX9_assign__69 : decode cX9_assign_ 69 = .ok (.iload_n 3, 1) := by decide +kernel
theorem dX9_assign__70 : decode cX9_assign_ 70 = .ok (.iload 4, 2) := by decide +kernel
theorem dX9_assign__72 : decode cX9_assign_ 72 = .ok (.invokevirtual 362, 3) := by decide +kernel
theorem dX9_assign__75 : decode cX9_assign_ 75 = .ok (.ireturn, 1) := by decide +kernel
theorem dX9_scan_0 : decode cX9_scan 0 = .ok (.aload_n 0, 1) := by decide +kernel
theorem dX9_scan_1 : decode cX9_scan 1 = .ok (.iconst 0, 1) := by decide +kernel
theorem dX9_scan_2 : decode cX9_scan 2 = .ok (.putfield 159, 3) := by decide +kernel
theorem dX9_scan_5 : decode cX9_scan 5 = .ok (.aload_n 0, 1) := by decide +kernel
theorem dX9_scan_6 : decode cX9_scan 6 = .ok (.iload_n 1, 1) := by decide +kernel
theorem dX9_scan_7 : decode cX9_scan 7 = .ok (.invokestatic 187, 3) := by decide +kernel
theorem dX9_scan_10 : decode cX9_scan 10 = .ok (.ifCond .eq 24, 3) := by decide +kernel
theorem dX9_scan_13 : decode cX9_scan 13 = .ok (.aload_n 0, 1) := by decide +kernel
theorem dX9_scan_14 : decode cX9_scan 14 = .ok (.iload_n 2, 1) := by decide +kernel
theorem dX9_scan_15 : decode cX9_scan 15 = .ok (.invokevirtual 201, 3) := by decide +kernel
theorem dX9_scan_18 : decode cX9_scan 18 = .ok (.ifCond .eq 16, 3) := by decide +kernel
theorem dX9_scan_21 : decode cX9_scan 21 = .ok (.iload_n 3, 1) := by decide +kernel
theorem dX9_scan_22 : decode cX9_scan 22 = .ok (.iconst (-1), 1) := by decide +kernel
theorem dX9_scan_23 : decode cX9_scan 23 = .ok (.if_icmp .eq 15, 3) := by decide +kernel
theorem dX9_scan_26 : decode cX9_scan 26 = .ok (.aload_n 0, 1) := by decide +kernel
theorem dX9_scan_27 : decode cX9_scan 27 = .ok (.iload_n 3, 1) := by decide +kernel
theorem dX9_scan_28 : decode cX9_scan 28 = .ok (.invokevirtual 212, 3) := by decide +kernel
theorem dX9_scan_31 : decode cX9_scan 31 = .ok (.ifCond .ne 7, 3) := by decide +kernel
theorem dX9_scan_34 : decode cX9_scan 34 = .ok (.iconst 1, 1) := by decide +kernel
theorem dX9_scan_35 : decode cX9_scan 35 = .ok (.goto 4, 3) := by decide +kernel
theorem dX9_scan_38 : decode cX9_scan 38 = .ok (.iconst 0, 1) := by decide +kernel
theorem dX9_scan_39 : decode cX9_scan 39 = .ok (.iconst 1, 1) := by decide +kernel
theorem dX9_scan_40 : decode cX9_scan 40 = .ok (.invokevirtual 175, 3) := by decide +kernel
theorem dX9_scan_43 : decode cX9_scan 43 = .ok (.ifCond .ne 32, 3) := by decide +kernel
theorem dX9_scan_46 : decode cX9_scan 46 = .ok (.aload_n 0, 1) := by decide +kernel
theorem dX9_scan_47 : decode cX9_scan 47 = .ok (.iload 4, 2) := by decide +kernel
theorem dX9_scan_49 : decode cX9_scan 49 = .ok (.invokestatic 359, 3) := by decide +kernel
theorem dX9_scan_52 : decode cX9_scan 52 = .ok (.ifCond .eq 11, 3) := by decide +kernel
theorem dX9_scan_55 : decode cX9_scan 55 = .ok (.iload 5, 2) := by decide +kernel
theorem dX9_scan_57 : decode cX9_scan 57 = .ok (.invokestatic 359, 3) := by decide +kernel
theorem dX9_scan_60 : decode cX9_scan 60 = .ok (.ifCond .ne 7, 3) := by decide +kernel
theorem dX9_scan_63 : decode cX9_scan 63 = .ok (.iconst 1, 1) := by decide +kernel
theorem dX9_scan_64 : decode cX9_scan 64 = .ok (.goto 4, 3) := by decide +kernel
theorem dX9_scan_67 : decode cX9_scan 67 = .ok (.iconst 0, 1) := by decide +kernel
theorem dX9_scan_68 : decode cX9_scan 68 = .ok (.iconst 2, 1) := by decide +kernel
theorem dX9_scan_69 : decode cX9_scan 69 = .ok (.invokevirtual 175, 3) := by decide +kernel
theorem dX9_scan_72 : decode cX9_scan 72 = .ok (.ifCond .eq 5, 3) := by decide +kernel
theorem dX9_scan_75 : decode cX9_scan 75 = .ok (.iconst (-1), 1) := by decide +kernel
theorem dX9_scan_76 : decode cX9_scan 76 = .ok (.ireturn, 1) := by decide +kernel
theorem dX9_scan_77 : decode cX9_scan 77 = .ok (.aload_n 0, 1) := by decide +kernel
theorem dX9_scan_78 : decode cX9_scan 78 = .ok (.bipush 115, 2) := by decide +kernel
theorem dX9_scan_80 : decode cX9_scan 80 = .ok (.iload_n 1, 1) := by decide +kernel
theorem dX9_scan_81 : decode cX9_scan 81 = .ok (.iload_n 2, 1) := by decide +kernel
theorem dX9_scan_82 : decode cX9_scan 82 = .ok (.iload_n 3, 1) := by decide +kernel
theorem dX9_scan_83 : decode cX9_scan 83 = .ok (.iload 4, 2) := by decide +kernel
theorem dX9_scan_85 : decode cX9_scan 85 = .ok (.iload 5, 2) := by decide +kernel
theorem dX9_scan_87 : decode cX9_scan 87 = .ok (.invokevirtual 362, 3) := by decide +kernel
theorem dX9_scan_90 : decode cX9_scan 90 = .ok (.ireturn, 1) := by decide +kernel
theorem dX9_call_0 : decode cX9_call 0 = .ok (.aload_n 0, 1) := by decide +kernel
theorem dX9_call_1 : decode cX9_call 1 = .ok (.iconst 0, 1) := by decide +kernel
theorem dX9_call_2 : decode cX9_call 2 = .ok (.putfield 159, 3) := by decide +kernel
theorem dX9_call_5 : decode cX9_call 5 = .ok (.aload_n 0, 1) := by decide +kernel
theorem dX9_call_6 : decode cX9_call 6 = .ok (.iload_n 1, 1) := by decide +kernel
theorem dX9_call_7 : decode cX9_call 7 = .ok (.invokestatic 187, 3) := by decide +kernel
theorem dX9_call_10 : decode cX9_call 10 = .ok (.ifCond .eq 11, 3) := by decide +kernel
theorem dX9_call_13 : decode cX9_call 13 = .ok (.aload_n 0, 1) := by decide +kernel
theorem dX9_call_14 : decode cX9_call 14 = .ok (.iload_n 3, 1) := by decide +kernel
theorem dX9_call_15 : decode cX9_call 15 = .ok (.invokevirtual 212, 3) := by decide +kernel
theorem dX9_call_18 : decode cX9_call 18 = .ok (.ifCond .ne 7, 3) := by decide +kernel
theorem dX9_call_21 : decode cX9_call 21 = .ok (.iconst 1, 1) := by decide +kernel
theorem dX9_call_22 : decode cX9_call 22 = .ok (.goto 4, 3) := by decide +kernel
theorem dX9_call_25 : decode cX9_call 25 = .ok (.iconst 0, 1) := by decide +kernel
theorem dX9_call_26 : decode cX9_call 26 = .ok (.iconst 1, 1) := by decide +kernel
theorem dX9_call_27 : decode cX9_call 27 = .ok (.invokevirtual 175, 3) := by decide +kernel
theorem dX9_call_30 : decode cX9_call 30 = .ok (.ifCond .ne 44, 3) := by decide +kernel
theorem dX9_call_33 : decode cX9_call 33 = .ok (.aload_n 0, 1) := by decide +kernel
theorem dX9_call_34 : decode cX9_call 34 = .ok (.iload_n 2, 1) := by decide +kernel
theorem dX9_call_35 : decode cX9_call 35 = .ok (.i2l, 1) := by decide +kernel
theorem dX9_call_36 : decode cX9_call 36 = .ok (.lconst 0, 1) := by decide +kernel
theorem dX9_call_37 : decode cX9_call 37 = .ok (.ldc2_w 366, 3) := by decide +kernel
theorem dX9_call_40 : decode cX9_call 40 = .ok (.invokestatic 167, 3) := by decide +kernel
theorem dX9_call_43 : decode cX9_call 43 = .ok (.ifCond .eq 19, 3) := by decide +kernel
theorem dX9_call_46 : decode cX9_call 46 = .ok (.iload 4, 2) := by decide +kernel
theorem dX9_call_48 : decode cX9_call 48 = .ok (.invokestatic 359, 3) := by decide +kernel
theorem dX9_call_51 : decode cX9_call 51 = .ok (.ifCond .eq 11, 3) := by decide +kernel
theorem dX9_call_54 : decode cX9_call 54 = .ok (.iload 5, 2) := by decide +kernel
theorem dX9_call_56 : decode cX9_call 56 = .ok (.invokestatic 359, 3) := by decide +kernel
theorem dX9_call_59 : decode cX9_call 59 = .ok (.ifCond .ne 7, 3) := by decide +kernel
theorem dX9_call_62 : decode cX9_call 62 = .ok (.iconst 1, 1) := by decide +kernel
theorem dX9_call_63 : decode cX9_call 63 = .ok (.goto 4, 3) := by decide +kernel
theorem dX9_call_66 : decode cX9_call 66 = .ok (.iconst 0, 1) := by decide +kernel
theorem dX9_call_67 : decode cX9_call 67 = .ok (.iconst 2, 1) := by decide +kernel
theorem dX9_call_68 : decode cX9_call 68 = .ok (.invokevirtual 175, 3) := by decide +kernel
theorem dX9_call_71 : decode cX9_call 71 = .ok (.ifCond .eq 5, 3) := by decide +kernel
theorem dX9_call_74 : decode cX9_call 74 = .ok (.iconst (-1), 1) := by decide +kernel
theorem dX9_call_75 : decode cX9_call 75 = .ok (.ireturn, 1) := by decide +kernel
theorem dX9_call_76 : decode cX9_call 76 = .ok (.aload_n 0, 1) := by decide +kernel
theorem dX9_call_77 : decode cX9_call 77 = .ok (.bipush 99, 2) := by decide +kernel
theorem dX9_call_79 : decode cX9_call 79 = .ok (.iload_n 1, 1) := by decide +kernel
theorem dX9_call_80 : decode cX9_call 80 = .ok (.iload_n 2, 1) := by decide +kernel
theorem dX9_call_81 : decode cX9_call 81 = .ok (.iload_n 3, 1) := by decide +kernel
theorem dX9_call_82 : decode cX9_call 82 = .ok (.iload 4, 2) := by decide +kernel
theorem dX9_call_84 : decode cX9_call 84 = .ok (.iload 5, 2) := by decide +kernel
theorem dX9_call_86 : decode cX9_call 86 = .ok (.invokevirtual 362, 3) := by decide +kernel
theorem dX9_call_89 : decode cX9_call 89 = .ok (.ireturn, 1) := by decide +kernel
theorem dX9_define_0 : decode cX9_define 0 = .ok (.aload_n 0, 1) := by decide +kernel
theorem dX9_define_1 : decode cX9_define 1 = .ok (.iconst 0, 1) := by decide +kernel
theorem dX9_define_2 : decode cX9_define 2 = .ok (.putfield 159, 3) := by decide +kernel
theorem dX9_define_5 : decode cX9_define 5 = .ok (.iload_n 3, 1) := by decide +kernel
theorem dX9_define_6 : decode cX9_define 6 = .ok (.iload 4, 2) := by decide +kernel
theorem dX9_define_8 : decode cX9_define 8 = .ok (.if_icmp .eq 16, 3) := by decide +kernel
theorem dX9_define_11 : decode cX9_define 11 = .ok (.iload_n 3, 1) := by decide +kernel
theorem dX9_define_12 : decode cX9_define 12 = .ok (.iload 5, 2) := by decide +kernel
theorem dX9_define_14 : decode cX9_define 14 = .ok (.if_icmp .eq 10, 3) := by decide +kernel
theorem dX9_define_17 : decode cX9_define 17 = .ok (.iload 4, 2) := by decide +kernel
theorem dX9_define_19 : decode cX9_define 19 = .ok (.iload 5, 2) := by decide +kernel
theorem dX9_define_21 : decode cX9_define 21 = .ok (.if_icmp .ne 7, 3) := by decide +kernel
theorem dX9_define_24 : decode cX9_define 24 = .ok (.iconst 1, 1) := by decide +kernel
theorem dX9_define_25 : decode cX9_define 25 = .ok (.goto 4, 3) := by decide +kernel
theorem dX9_define_28 : decode cX9_define 28 = .ok (.iconst 0, 1) := by decide +kernel
theorem dX9_define_29 : decode cX9_define 29 = .ok (.istore 6, 2) := by decide +kernel
theorem dX9_define_31 : decode cX9_define 31 = .ok (.aload_n 0, 1) := by decide +kernel
theorem dX9_define_32 : decode cX9_define 32 = .ok (.iload_n 1, 1) := by decide +kernel
theorem dX9_define_33 : decode cX9_define 33 = .ok (.i2l, 1) := by decide +kernel
theorem dX9_define_34 : decode cX9_define 34 = .ok (.lconst 0, 1) := by decide +kernel
theorem dX9_define_35 : decode cX9_define 35 = .ok (.ldc2_w 366, 3) := by decide +kernel
theorem dX9_define_38 : decode cX9_define 38 = .ok (.invokestatic 167, 3) := by decide +kernel
theorem dX9_define_41 : decode cX9_define 41 = .ok (.ifCond .eq 20, 3) := by decide +kernel
theorem dX9_define_44 : decode cX9_define 44 = .ok (.iload_n 2, 1) := by decide +kernel
theorem dX9_define_45 : decode cX9_define 45 = .ok (.i2l, 1) := by decide +kernel
theorem dX9_define_46 : decode cX9_define 46 = .ok (.lconst 0, 1) := by decide +kernel
theorem dX9_define_47 : decode cX9_define 47 = .ok (.ldc2_w 354, 3) := by decide +kernel
theorem dX9_define_50 : decode cX9_define 50 = .ok (.invokestatic 167, 3) := by decide +kernel
theorem dX9_define_53 : decode cX9_define 53 = .ok (.ifCond .eq 8, 3) := by decide +kernel
theorem dX9_define_56 : decode cX9_define 56 = .ok (.iload 6, 2) := by decide +kernel
theorem dX9_define_58 : decode cX9_define 58 = .ok (.ifCond .eq 7, 3) := by decide +kernel
theorem dX9_define_61 : decode cX9_define 61 = .ok (.iconst 1, 1) := by decide +kernel
theorem dX9_define_62 : decode cX9_define 62 = .ok (.goto 4, 3) := by decide +kernel
theorem dX9_define_65 : decode cX9_define 65 = .ok (.iconst 0, 1) := by decide +kernel
theorem dX9_define_66 : decode cX9_define 66 = .ok (.iconst 1, 1) := by decide +kernel
theorem dX9_define_67 : decode cX9_define 67 = .ok (.invokevirtual 175, 3) := by decide +kernel
theorem dX9_define_70 : decode cX9_define 70 = .ok (.ifCond .ne 39, 3) := by decide +kernel
theorem dX9_define_73 : decode cX9_define 73 = .ok (.aload_n 0, 1) := by decide +kernel
theorem dX9_define_74 : decode cX9_define 74 = .ok (.iload_n 3, 1) := by decide +kernel
theorem dX9_define_75 : decode cX9_define 75 = .ok (.invokestatic 187, 3) := by decide +kernel
theorem dX9_define_78 : decode cX9_define 78 = .ok (.ifCond .eq 19, 3) := by decide +kernel
theorem dX9_define_81 : decode cX9_define 81 = .ok (.iload 4, 2) := by decide +kernel
theorem dX9_define_83 : decode cX9_define 83 = .ok (.invokestatic 187, 3) := by decide +kernel
theorem dX9_define_86 : decode cX9_define 86 = .ok (.ifCond .eq 11, 3) := by decide +kernel
theorem dX9_define_89 : decode cX9_define 89 = .ok (.iload 5, 2) := by decide +kernel
theorem dX9_define_91 : decode cX9_define 91 = .ok (.invokestatic 187, 3) := by decide +kernel
theorem dX9_define_94 : decode cX9_define 94 = .ok (.ifCond .ne 7, 3) := by decide +kernel
theorem dX9_define_97 : decode cX9_define 97 = .ok (.iconst 1, 1) := by decide +kernel
theorem dX9_define_98 : decode cX9_define 98 = .ok (.goto 4, 3) := by decide +kernel
theorem dX9_define_101 : decode cX9_define 101 = .ok (.iconst 0, 1) := by decide +kernel
theorem dX9_define_102 : decode cX9_define 102 = .ok (.iconst 2, 1) := by decide +kernel
theorem dX9_define_103 : decode cX9_define 103 = .ok (.invokevirtual 175, 3) := by decide +kernel
theorem dX9_define_106 : decode cX9_define 106 = .ok (.ifCond .eq 5, 3) := by decide +kernel
theorem dX9_define_109 : decode cX9_define 109 = .ok (.iconst 0, 1) := by decide +kernel
theorem dX9_define_110 : decode cX9_define 110 = .ok (.ireturn, 1) := by decide +kernel
theorem dX9_define_111 : decode cX9_define 111 = .ok (.aload_n 0, 1) := by decide +kernel
theorem dX9_define_112 : decode cX9_define 112 = .ok (.getfield 114, 3) := by decide +kernel
theorem dX9_define_115 : decode cX9_define 115 = .ok (.iload_n 1, 1) := by decide +kernel
theorem dX9_define_116 : decode cX9_define 116 = .ok (.baload, 1) := by decide +kernel
theorem dX9_define_117 : decode cX9_define 117 = .ok (.istore 7, 2) := by decide +kernel
theorem dX9_define_119 : decode cX9_define 119 = .ok (.aload_n 0, 1) := by decide +kernel
theorem dX9_define_120 : decode cX9_define 120 = .ok (.getfield 114, 3) := by decide +kernel
theorem dX9_define_123 : decode cX9_define 123 = .ok (.iload_n 1, 1) := by decide +kernel
theorem dX9_define_124 : decode cX9_define 124 = .ok (.iconst 1, 1) := by decide +kernel
theorem dX9_define_125 : decode cX9_define 125 = .ok (.bastore, 1) := by decide +kernel
theorem dX9_define_126 : decode cX9_define 126 = .ok (.aload_n 0, 1) := by decide +kernel
theorem dX9_define_127 : decode cX9_define 127 = .ok (.getfield 117, 3) := by decide +kernel
theorem dX9_define_130 : decode cX9_define 130 = .ok (.iload_n 1, 1) := by decide +kernel
theorem dX9_define_131 : decode cX9_define 131 = .ok (.iload_n 2, 1) := by decide +kernel
theorem dX9_define_132 : decode cX9_define 132 = .ok (.iastore, 1) := by decide +kernel
theorem dX9_define_133 : decode cX9_define 133 = .ok (.aload_n 0, 1) := by decide +kernel
theorem dX9_define_134 : decode cX9_define 134 = .ok (.getfield 120, 3) := by decide +kernel
theorem dX9_define_137 : decode cX9_define 137 = .ok (.iload_n 1, 1) := by decide +kernel
theorem dX9_define_138 : decode cX9_define 138 = .ok (.iload_n 3, 1) := by decide +kernel
theorem dX9_define_139 : decode cX9_define 139 = .ok (.iastore, 1) := by decide +kernel
theorem dX9_define_140 : decode cX9_define 140 = .ok (.aload_n 0, 1) := by decide +kernel
theorem dX9_define_141 : decode cX9_define 141 = .ok (.getfield 123, 3) := by decide +kernel
theorem dX9_define_144 : decode cX9_define 144 = .ok (.iload_n 1, 1) := by decide +kernel
theorem dX9_define_145 : decode cX9_define 145 = .ok (.iload 4, 2) := by decide +kernel
theorem dX9_define_147 : decode cX9_define 147 = .ok (.iastore, 1) := by decide +kernel
theorem dX9_define_148 : decode cX9_define 148 = .ok (.aload_n 0, 1) := by decide +kernel
theorem dX9_define_149 : decode cX9_define 149 = .ok (.getfield 126, 3) := by decide +kernel
theorem dX9_define_152 : decode cX9_define 152 = .ok (.iload_n 1, 1) := by decide +kernel
theorem dX9_define_153 : decode cX9_define 153 = .ok (.iload 5, 2) := by decide +kernel
theorem dX9_define_155 : decode cX9_define 155 = .ok (.iastore, 1) := by decide +kernel
theorem dX9_define_156 : decode cX9_define 156 = .ok (.iload 7, 2) := by decide +kernel
theorem dX9_define_158 : decode cX9_define 158 = .ok (.ireturn, 1) := by decide +kernel
theorem dX9_anchor_0 : decode cX9_anchor 0 = .ok (.aload_n 0, 1) := by decide +kernel
theorem dX9_anchor_1 : decode cX9_anchor 1 = .ok (.iconst 0, 1) := by decide +kernel
theorem dX9_anchor_2 : decode cX9_anchor 2 = .ok (.putfield 159, 3) := by decide +kernel
theorem dX9_anchor_5 : decode cX9_anchor 5 = .ok (.aload_n 0, 1) := by decide +kernel
theorem dX9_anchor_6 : decode cX9_anchor 6 = .ok (.getfield 342, 3) := by decide +kernel
theorem dX9_anchor_9 : decode cX9_anchor 9 = .ok (.istore_n 2, 1) := by decide +kernel
theorem dX9_anchor_10 : decode cX9_anchor 10 = .ok (.aload_n 0, 1) := by decide +kernel
theorem dX9_anchor_11 : decode cX9_anchor 11 = .ok (.iload_n 1, 1) := by decide +kernel
theorem dX9_anchor_12 : decode cX9_anchor 12 = .ok (.putfield 342, 3) := by decide +kernel
theorem dX9_anchor_15 : decode cX9_anchor 15 = .ok (.iload_n 2, 1) := by decide +kernel
theorem dX9_anchor_16 : decode cX9_anchor 16 = .ok (.ireturn, 1) := by decide +kernel
theorem dX9_save_0 : decode cX9_save 0 = .ok (.aload_n 0, 1) := by decide +kernel
theorem dX9_save_1 : decode cX9_save 1 = .ok (.getfield 144, 3) := by decide +kernel
theorem dX9_save_4 : decode cX9_save 4 = .ok (.iload_n 1, 1) := by decide +kernel
theorem dX9_save_5 : decode cX9_save 5 = .ok (.aload_n 0, 1) := by decide +kernel
theorem dX9_save_6 : decode cX9_save 6 = .ok (.getfield 22, 3) := by decide +kernel
theorem dX9_save_9 : decode cX9_save 9 = .ok (.iload_n 2, 1) := by decide +kernel
theorem dX9_save_10 : decode cX9_save 10 = .ok (.iaload, 1) := by decide +kernel
theorem dX9_save_11 : decode cX9_save 11 = .ok (.iastore, 1) := by decide +kernel
theorem dX9_save_12 : decode cX9_save 12 = .ok (.iconst 0, 1) := by decide +kernel
theorem dX9_save_13 : decode cX9_save 13 = .ok (.istore_n 3, 1) := by decide +kernel
theorem dX9_save_14 : decode cX9_save 14 = .ok (.iload_n 3, 1) := by decide +kernel
theorem dX9_save_15 : decode cX9_save 15 = .ok (.aload_n 0, 1) := by decide +kernel
theorem dX9_save_16 : decode cX9_save 16 = .ok (.getfield 22, 3) := by decide +kernel
theorem dX9_save_19 : decode cX9_save 19 = .ok (.iload_n 2, 1) := by decide +kernel
theorem dX9_save_20 : decode cX9_save 20 = .ok (.iaload, 1) := by decide +kernel
theorem dX9_save_21 : decode cX9_save 21 = .ok (.if_icmp .ge 31, 3) := by decide +kernel
theorem dX9_save_24 : decode cX9_save 24 = .ok (.aload_n 0, 1) := by decide +kernel
theorem dX9_save_25 : decode cX9_save 25 = .ok (.getfield 141, 3) := by decide +kernel
theorem dX9_save_28 : decode cX9_save 28 = .ok (.bipush 60, 2) := by decide +kernel
theorem dX9_save_30 : decode cX9_save 30 = .ok (.iload_n 1, 1) := by decide +kernel
theorem dX9_save_31 : decode cX9_save 31 = .ok (.imul, 1) := by decide +kernel
theorem dX9_save_32 : decode cX9_save 32 = .ok (.iload_n 3, 1) := by decide +kernel
theorem dX9_save_33 : decode cX9_save 33 = .ok (.iadd, 1) := by decide +kernel
theorem dX9_save_34 : decode cX9_save 34 = .ok (.aload_n 0, 1) := by decide +kernel
theorem dX9_save_35 : decode cX9_save 35 = .ok (.getfield 19, 3) := by decide +kernel
theorem dX9_save_38 : decode cX9_save 38 = .ok (.bipush 60, 2) := by decide +kernel
theorem dX9_save_40 : decode cX9_save 40 = .ok (.iload_n 2, 1) := by decide +kernel
theorem dX9_save_41 : decode cX9_save 41 = .ok (.imul, 1) := by decide +kernel
theorem dX9_save_42 : decode cX9_save 42 = .ok (.iload_n 3, 1) := by decide +kernel
theorem dX9_save_43 : decode cX9_save 43 = .ok (.iadd, 1) := by decide +kernel
theorem dX9_save_44 : decode cX9_save 44 = .ok (.iaload, 1) := by decide +kernel
theorem dX9_save_45 : decode cX9_save 45 = .ok (.iastore, 1) := by decide +kernel
theorem dX9_save_46 : decode cX9_save 46 = .ok (.iinc 3 1, 3) := by decide +kernel
theorem dX9_save_49 : decode cX9_save 49 = .ok (.goto (-35), 3) := by decide +kernel
theorem dX9_save_52 : decode cX9_save 52 = .ok (.return_, 1) := by decide +kernel
theorem dX9_putBack_0 : decode cX9_putBack 0 = .ok (.aload_n 0, 1) := by decide +kernel
theorem dX9_putBack_1 : decode cX9_putBack 1 = .ok (.getfield 22, 3) := by decide +kernel
theorem dX9_putBack_4 : decode cX9_putBack 4 = .ok (.iload_n 2, 1) := by decide +kernel
theorem dX9_putBack_5 : decode cX9_putBack 5 = .ok (.aload_n 0, 1) := by decide +kernel
theorem dX9_putBack_6 : decode cX9_putBack 6 = .ok (.getfield 144, 3) := by decide +kernel
theorem dX9_putBack_9 : decode cX9_putBack 9 = .ok (.iload_n 1, 1) := by decide +kernel
theorem dX9_putBack_10 : decode cX9_putBack 10 = .ok (.iaload, 1) := by decide +kernel
theorem dX9_putBack_11 : decode cX9_putBack 11 = .ok (.iastore, 1) := by decide +kernel
theorem dX9_putBack_12 : decode cX9_putBack 12 = .ok (.iconst 0, 1) := by decide +kernel
theorem dX9_putBack_13 : decode cX9_putBack 13 = .ok (.istore_n 3, 1) := by decide +kernel
theorem dX9_putBack_14 : decode cX9_putBack 14 = .ok (.iload_n 3, 1) := by decide +kernel
theorem dX9_putBack_15 : decode cX9_putBack 15 = .ok (.aload_n 0, 1) := by decide +kernel
theorem dX9_putBack_16 : decode cX9_putBack 16 = .ok (.getfield 144, 3) := by decide +kernel
theorem dX9_putBack_19 : decode cX9_putBack 19 = .ok (.iload_n 1, 1) := by decide +kernel
theorem dX9_putBack_20 : decode cX9_putBack 20 = .ok (.iaload, 1) := by decide +kernel
theorem dX9_putBack_21 : decode cX9_putBack 21 = .ok (.if_icmp .ge 31, 3) := by decide +kernel
theorem dX9_putBack_24 : decode cX9_putBack 24 = .ok (.aload_n 0, 1) := by decide +kernel
theorem dX9_putBack_25 : decode cX9_putBack 25 = .ok (.getfield 19, 3) := by decide +kernel
theorem dX9_putBack_28 : decode cX9_putBack 28 = .ok (.bipush 60, 2) := by decide +kernel
theorem dX9_putBack_30 : decode cX9_putBack 30 = .ok (.iload_n 2, 1) := by decide +kernel
theorem dX9_putBack_31 : decode cX9_putBack 31 = .ok (.imul, 1) := by decide +kernel
theorem dX9_putBack_32 : decode cX9_putBack 32 = .ok (.iload_n 3, 1) := by decide +kernel
theorem dX9_putBack_33 : decode cX9_putBack 33 = .ok (.iadd, 1) := by decide +kernel
theorem dX9_putBack_34 : decode cX9_putBack 34 = .ok (.aload_n 0, 1) := by decide +kernel
theorem dX9_putBack_35 : decode cX9_putBack 35 = .ok (.getfield 141, 3) := by decide +kernel
theorem dX9_putBack_38 : decode cX9_putBack 38 = .ok (.bipush 60, 2) := by decide +kernel
theorem dX9_putBack_40 : decode cX9_putBack 40 = .ok (.iload_n 1, 1) := by decide +kernel
theorem dX9_putBack_41 : decode cX9_putBack 41 = .ok (.imul, 1) := by decide +kernel
theorem dX9_putBack_42 : decode cX9_putBack 42 = .ok (.iload_n 3, 1) := by decide +kernel
theorem dX9_putBack_43 : decode cX9_putBack 43 = .ok (.iadd, 1) := by decide +kernel
theorem dX9_putBack_44 : decode cX9_putBack 44 = .ok (.iaload, 1) := by decide +kernel
theorem dX9_putBack_45 : decode cX9_putBack 45 = .ok (.iastore, 1) := by decide +kernel
theorem dX9_putBack_46 : decode cX9_putBack 46 = .ok (.iinc 3 1, 3) := by decide +kernel
theorem dX9_putBack_49 : decode cX9_putBack 49 = .ok (.goto (-35), 3) := by decide +kernel
theorem dX9_putBack_52 : decode cX9_putBack 52 = .ok (.return_, 1) := by decide +kernel
theorem dX9_setTo_0 : decode cX9_setTo 0 = .ok (.aload_n 0, 1) := by decide +kernel
theorem dX9_setTo_1 : decode cX9_setTo 1 = .ok (.getfield 22, 3) := by decide +kernel
theorem dX9_setTo_4 : decode cX9_setTo 4 = .ok (.iload_n 1, 1) := by decide +kernel
theorem dX9_setTo_5 : decode cX9_setTo 5 = .ok (.aload_n 0, 1) := by decide +kernel
theorem dX9_setTo_6 : decode cX9_setTo 6 = .ok (.getfield 51, 3) := by decide +kernel
theorem dX9_setTo_9 : decode cX9_setTo 9 = .ok (.iload_n 2, 1) := by decide +kernel
theorem dX9_setTo_10 : decode cX9_setTo 10 = .ok (.iaload, 1) := by decide +kernel
theorem dX9_setTo_11 : decode cX9_setTo 11 = .ok (.iastore, 1) := by decide +kernel
theorem dX9_setTo_12 : decode cX9_setTo 12 = .ok (.iconst 0, 1) := by decide +kernel
theorem dX9_setTo_13 : decode cX9_setTo 13 = .ok (.istore_n 3, 1) := by decide +kernel
theorem dX9_setTo_14 : decode cX9_setTo 14 = .ok (.iload_n 3, 1) := by decide +kernel
theorem dX9_setTo_15 : decode cX9_setTo 15 = .ok (.aload_n 0, 1) := by decide +kernel
theorem dX9_setTo_16 : decode cX9_setTo 16 = .ok (.getfield 51, 3) := by decide +kernel
theorem dX9_setTo_19 : decode cX9_setTo 19 = .ok (.iload_n 2, 1) := by decide +kernel
theorem dX9_setTo_20 : decode cX9_setTo 20 = .ok (.iaload, 1) := by decide +kernel
theorem dX9_setTo_21 : decode cX9_setTo 21 = .ok (.if_icmp .ge 31, 3) := by decide +kernel
theorem dX9_setTo_24 : decode cX9_setTo 24 = .ok (.aload_n 0, 1) := by decide +kernel
theorem dX9_setTo_25 : decode cX9_setTo 25 = .ok (.getfield 19, 3) := by decide +kernel
theorem dX9_setTo_28 : decode cX9_setTo 28 = .ok (.bipush 60, 2) := by decide +kernel
theorem dX9_setTo_30 : decode cX9_setTo 30 = .ok (.iload_n 1, 1) := by decide +kernel
theorem dX9_setTo_31 : decode cX9_setTo 31 = .ok (.imul, 1) := by decide +kernel
theorem dX9_setTo_32 : decode cX9_setTo 32 = .ok (.iload_n 3, 1) := by decide +kernel
theorem dX9_setTo_33 : decode cX9_setTo 33 = .ok (.iadd, 1) := by decide +kernel
theorem dX9_setTo_34 : decode cX9_setTo 34 = .ok (.aload_n 0, 1) := by decide +kernel
theorem dX9_setTo_35 : decode cX9_setTo 35 = .ok (.getfield 48, 3) := by decide +kernel
theorem dX9_setTo_38 : decode cX9_setTo 38 = .ok (.bipush 60, 2) := by decide +kernel
theorem dX9_setTo_40 : decode cX9_setTo 40 = .ok (.iload_n 2, 1) := by decide +kernel
theorem dX9_setTo_41 : decode cX9_setTo 41 = .ok (.imul, 1) := by decide +kernel
theorem dX9_setTo_42 : decode cX9_setTo 42 = .ok (.iload_n 3, 1) := by decide +kernel
theorem dX9_setTo_43 : decode cX9_setTo 43 = .ok (.iadd, 1) := by decide +kernel
theorem dX9_setTo_44 : decode cX9_setTo 44 = .ok (.iaload, 1) := by decide +kernel
theorem dX9_setTo_45 : decode cX9_setTo 45 = .ok (.iastore, 1) := by decide +kernel
theorem dX9_setTo_46 : decode cX9_setTo 46 = .ok (.iinc 3 1, 3) := by decide +kernel
theorem dX9_setTo_49 : decode cX9_setTo 49 = .ok (.goto (-35), 3) := by decide +kernel
theorem dX9_setTo_52 : decode cX9_setTo 52 = .ok (.return_, 1) := by decide +kernel
theorem dX9_takeSubject_0 : decode cX9_takeSubject 0 = .ok (.aload_n 0, 1) := by decide +kernel
theorem dX9_takeSubject_1 : decode cX9_takeSubject 1 = .ok (.aload_n 0, 1) := by decide +kernel
theorem dX9_takeSubject_2 : decode cX9_takeSubject 2 = .ok (.getfield 22, 3) := by decide +kernel
theorem dX9_takeSubject_5 : decode cX9_takeSubject 5 = .ok (.iload_n 1, 1) := by decide +kernel
theorem dX9_takeSubject_6 : decode cX9_takeSubject 6 = .ok (.iaload, 1) := by decide +kernel
theorem dX9_takeSubject_7 : decode cX9_takeSubject 7 = .ok (.putfield 271, 3) := by decide +kernel
theorem dX9_takeSubject_10 : decode cX9_takeSubject 10 = .ok (.iconst 0, 1) := by decide +kernel
theorem dX9_takeSubject_11 : decode cX9_takeSubject 11 = .ok (.istore_n 2, 1) := by decide +kernel
theorem dX9_takeSubject_12 : decode cX9_takeSubject 12 = .ok (.iload_n 2, 1) := by decide +kernel
theorem dX9_takeSubject_13 : decode cX9_takeSubject 13 = .ok (.aload_n 0, 1) := by decide +kernel
theorem dX9_takeSubject_14 : decode cX9_takeSubject 14 = .ok (.getfield 271, 3) := by decide +kernel
theorem dX9_takeSubject_17 : decode cX9_takeSubject 17 = .ok (.if_icmp .ge 26, 3) := by decide +kernel
theorem dX9_takeSubject_20 : decode cX9_takeSubject 20 = .ok (.aload_n 0, 1) := by decide +kernel
theorem dX9_takeSubject_21 : decode cX9_takeSubject 21 = .ok (.getfield 54, 3) := by decide +kernel
theorem dX9_takeSubject_24 : decode cX9_takeSubject 24 = .ok (.iload_n 2, 1) := by decide +kernel
theorem dX9_takeSubject_25 : decode cX9_takeSubject 25 = .ok (.aload_n 0, 1) := by decide +kernel
theorem dX9_takeSubject_26 : decode cX9_takeSubject 26 = .ok (.getfield 19, 3) := by decide +kernel
theorem dX9_takeSubject_29 : decode cX9_takeSubject 29 = .ok (.bipush 60, 2) := by decide +kernel
theorem dX9_takeSubject_31 : decode cX9_takeSubject 31 = .ok (.iload_n 1, 1) := by decide +kernel
theorem dX9_takeSubject_32 : decode cX9_takeSubject 32 = .ok (.imul, 1) := by decide +kernel
theorem dX9_takeSubject_33 : decode cX9_takeSubject 33 = .ok (.iload_n 2, 1) := by decide +kernel
theorem dX9_takeSubject_34 : decode cX9_takeSubject 34 = .ok (.iadd, 1) := by decide +kernel
theorem dX9_takeSubject_35 : decode cX9_takeSubject 35 = .ok (.iaload, 1) := by decide +kernel
theorem dX9_takeSubject_36 : decode cX9_takeSubject 36 = .ok (.iastore, 1) := by decide +kernel
theorem dX9_takeSubject_37 : decode cX9_takeSubject 37 = .ok (.iinc 2 1, 3) := by decide +kernel
theorem dX9_takeSubject_40 : decode cX9_takeSubject 40 = .ok (.goto (-28), 3) := by decide +kernel
theorem dX9_takeSubject_43 : decode cX9_takeSubject 43 = .ok (.return_, 1) := by decide +kernel
theorem dX9_replace_0 : decode cX9_replace 0 = .ok (.aload_n 0, 1) := by decide +kernel
theorem dX9_replace_1 : decode cX9_replace 1 = .ok (.getfield 271, 3) := by decide +kernel
theorem dX9_replace_4 : decode cX9_replace 4 = .ok (.iload 4, 2) := by decide +kernel
theorem dX9_replace_6 : decode cX9_replace 6 = .ok (.iload_n 3, 1) := by decide +kernel
theorem dX9_replace_7 : decode cX9_replace 7 = .ok (.isub, 1) := by decide +kernel
theorem dX9_replace_8 : decode cX9_replace 8 = .ok (.isub, 1) := by decide +kernel
theorem dX9_replace_9 : decode cX9_replace 9 = .ok (.aload_n 0, 1) := by decide +kernel
theorem dX9_replace_10 : decode cX9_replace 10 = .ok (.getfield 51, 3) := by decide +kernel
theorem dX9_replace_13 : decode cX9_replace 13 = .ok (.iload_n 2, 1) := by decide +kernel
theorem dX9_replace_14 : decode cX9_replace 14 = .ok (.iaload, 1) := by decide +kernel
theorem dX9_replace_15 : decode cX9_replace 15 = .ok (.iadd, 1) := by decide +kernel
theorem dX9_replace_16 : decode cX9_replace 16 = .ok (.istore 5, 2) := by decide +kernel
theorem dX9_replace_18 : decode cX9_replace 18 = .ok (.iload 5, 2) := by decide +kernel
theorem dX9_replace_20 : decode cX9_replace 20 = .ok (.bipush 60, 2) := by decide +kernel
theorem dX9_replace_22 : decode cX9_replace 22 = .ok (.if_icmp .le 5, 3) := by decide +kernel
theorem dX9_replace_25 : decode cX9_replace 25 = .ok (.iconst 0, 1) := by decide +kernel
theorem dX9_replace_26 : decode cX9_replace 26 = .ok (.ireturn, 1) := by decide +kernel
theorem dX9_replace_27 : decode cX9_replace 27 = .ok (.iconst 0, 1) := by decide +kernel
theorem dX9_replace_28 : decode cX9_replace 28 = .ok (.istore 6, 2) := by decide +kernel
theorem dX9_replace_30 : decode cX9_replace 30 = .ok (.iload 6, 2) := by decide +kernel
theorem dX9_replace_32 : decode cX9_replace 32 = .ok (.iload_n 3, 1) := by decide +kernel
theorem dX9_replace_33 : decode cX9_replace 33 = .ok (.if_icmp .ge 28, 3) := by decide +kernel
theorem dX9_replace_36 : decode cX9_replace 36 = .ok (.aload_n 0, 1) := by decide +kernel
theorem dX9_replace_37 : decode cX9_replace 37 = .ok (.getfield 19, 3) := by decide +kernel
theorem dX9_replace_40 : decode cX9_replace 40 = .ok (.bipush 60, 2) := by decide +kernel
theorem dX9_replace_42 : decode cX9_replace 42 = .ok (.iload_n 1, 1) := by decide +kernel
theorem dX9_replace_43 : decode cX9_replace 43 = .ok (.imul, 1) := by decide +kernel
theorem dX9_replace_44 : decode cX9_replace 44 = .ok (.iload 6, 2) := by decide +kernel
theorem dX9_replace_46 : decode cX9_replace 46 = .ok (.iadd, 1) := by decide +kernel
theorem dX9_replace_47 : decode cX9_replace 47 = .ok (.aload_n 0, 1) := by decide +kernel
theorem dX9_replace_48 : decode cX9_replace 48 = .ok (.getfield 54, 3) := by decide +kernel
theorem dX9_replace_51 : decode cX9_replace 51 = .ok (.iload 6, 2) := by decide +kernel
theorem dX9_replace_53 : decode cX9_replace 53 = .ok (.iaload, 1) := by decide +kernel
theorem dX9_replace_54 : decode cX9_replace 54 = .ok (.iastore, 1) := by decide +kernel
theorem dX9_replace_55 : decode cX9_replace 55 = .ok (.iinc 6 1, 3) := by decide +kernel
theorem dX9_replace_58 : decode cX9_replace 58 = .ok (.goto (-28), 3) := by decide +kernel
theorem dX9_replace_61 : decode cX9_replace 61 = .ok (.iconst 0, 1) := by decide +kernel
theorem dX9_replace_62 : decode cX9_replace 62 = .ok (.istore 6, 2) := by decide +kernel
theorem dX9_replace_64 : decode cX9_replace 64 = .ok (.iload 6, 2) := by decide +kernel
theorem dX9_replace_66 : decode cX9_replace 66 = .ok (.aload_n 0, 1) := by decide +kernel
theorem dX9_replace_67 : decode cX9_replace 67 = .ok (.getfield 51, 3) := by decide +kernel
theorem dX9_replace_70 : decode cX9_replace 70 = .ok (.iload_n 2, 1) := by decide +kernel
theorem dX9_replace_71 : decode cX9_replace 71 = .ok (.iaload, 1) := by decide +kernel
theorem dX9_replace_72 : decode cX9_replace 72 = .ok (.if_icmp .ge 35, 3) := by decide +kernel
theorem dX9_replace_75 : decode cX9_replace 75 = .ok (.aload_n 0, 1) := by decide +kernel
theorem dX9_replace_76 : decode cX9_replace 76 = .ok (.getfield 19, 3) := by decide +kernel
theorem dX9_replace_79 : decode cX9_replace 79 = .ok (.bipush 60, 2) := by decide +kernel
theorem dX9_replace_81 : decode cX9_replace 81 = .ok (.iload_n 1, 1) := by decide +kernel
theorem dX9_replace_82 : decode cX9_replace 82 = .ok (.imul, 1) := by decide +kernel
theorem dX9_replace_83 : decode cX9_replace 83 = .ok (.iload_n 3, 1) := by decide +kernel
theorem dX9_replace_84 : decode cX9_replace 84 = .ok (.iadd, 1) := by decide +kernel
theorem dX9_replace_85 : decode cX9_replace 85 = .ok (.iload 6, 2) := by decide +kernel
theorem dX9_replace_87 : decode cX9_replace 87 = .ok (.iadd, 1) := by decide +kernel
theorem dX9_replace_88 : decode cX9_replace 88 = .ok (.aload_n 0, 1) := by decide +kernel
theorem dX9_replace_89 : decode cX9_replace 89 = .ok (.getfield 48, 3) := by decide +kernel
theorem dX9_replace_92 : decode cX9_replace 92 = .ok (.bipush 60, 2) := by decide +kernel
theorem dX9_replace_94 : decode cX9_replace 94 = .ok (.iload_n 2, 1) := by decide +kernel
theorem dX9_replace_95 : decode cX9_replace 95 = .ok (.imul, 1) := by decide +kernel
theorem dX9_replace_96 : decode cX9_replace 96 = .ok (.iload 6, 2) := by decide +kernel
theorem dX9_replace_98 : decode cX9_replace 98 = .ok (.iadd, 1) := by decide +kernel
theorem dX9_replace_99 : decode cX9_replace 99 = .ok (.iaload, 1) := by decide +kernel
theorem dX9_replace_100 : decode cX9_replace 100 = .ok (.iastore, 1) := by decide +kernel
theorem dX9_replace_101 : decode cX9_replace 101 = .ok (.iinc 6 1, 3) := by decide +kernel
theorem dX9_replace_104 : decode cX9_replace 104 = .ok (.goto (-40), 3) := by decide +kernel
theorem dX9_replace_107 : decode cX9_replace 107 = .ok (.iload 4, 2) := by decide +kernel
theorem dX9_replace_109 : decode cX9_replace 109 = .ok (.istore 6, 2) := by decide +kernel
theorem dX9_replace_111 : decode cX9_replace 111 = .ok (.iload 6, 2) := by decide +kernel
theorem dX9_replace_113 : decode cX9_replace 113 = .ok (.aload_n 0, 1) := by decide +kernel
theorem dX9_replace_114 : decode cX9_replace 114 = .ok (.getfield 271, 3) := by decide +kernel
theorem dX9_replace_117 : decode cX9_replace 117 = .ok (.if_icmp .ge 40, 3) := by decide +kernel
theorem dX9_replace_120 : decode cX9_replace 120 = .ok (.aload_n 0, 1) := by decide +kernel
theorem dX9_replace_121 : decode cX9_replace 121 = .ok (.getfield 19, 3) := by decide +kernel
theorem dX9_replace_124 : decode cX9_replace 124 = .ok (.bipush 60, 2) := by decide +kernel
theorem dX9_replace_126 : decode cX9_replace 126 = .ok (.iload_n 1, 1) := by decide +kernel
theorem dX9_replace_127 : decode cX9_replace 127 = .ok (.imul, 1) := by decide +kernel
theorem dX9_replace_128 : decode cX9_replace 128 = .ok (.iload_n 3, 1) := by decide +kernel
theorem dX9_replace_129 : decode cX9_replace 129 = .ok (.iadd, 1) := by decide +kernel
theorem dX9_replace_130 : decode cX9_replace 130 = .ok (.aload_n 0, 1) := by decide +kernel
theorem dX9_replace_131 : decode cX9_replace 131 = .ok (.getfield 51, 3) := by decide +kernel
theorem dX9_replace_134 : decode cX9_replace 134 = .ok (.iload_n 2, 1) := by decide +kernel
theorem dX9_replace_135 : decode cX9_replace 135 = .ok (.iaload, 1) := by decide +kernel
theorem dX9_replace_136 : decode cX9_replace 136 = .ok (.iadd, 1) := by decide +kernel
theorem dX9_replace_137 : decode cX9_replace 137 = .ok (.iload 6, 2) := by decide +kernel
theorem dX9_replace_139 : decode cX9_replace 139 = .ok (.iadd, 1) := by decide +kernel
theorem dX9_replace_140 : decode cX9_replace 140 = .ok (.iload 4, 2) := by decide +kernel
theorem dX9_replace_142 : decode cX9_replace 142 = .ok (.isub, 1) := by decide +kernel
theorem dX9_replace_143 : decode cX9_replace 143 = .ok (.aload_n 0, 1) := by decide +kernel
theorem dX9_replace_144 : decode cX9_replace 144 = .ok (.getfield 54, 3) := by decide +kernel
theorem dX9_replace_147 : decode cX9_replace 147 = .ok (.iload 6, 2) := by decide +kernel
theorem dX9_replace_149 : decode cX9_replace 149 = .ok (.iaload, 1) := by decide +kernel
theorem dX9_replace_150 : decode cX9_replace 150 = .ok (.iastore, 1) := by decide +kernel
theorem dX9_replace_151 : decode cX9_replace 151 = .ok (.iinc 6 1, 3) := by decide +kernel
theorem dX9_replace_154 : decode cX9_replace 154 = .ok (.goto (-43), 3) := by decide +kernel
theorem dX9_replace_157 : decode cX9_replace 157 = .ok (.aload_n 0, 1) := by decide +kernel
theorem dX9_replace_158 : decode cX9_replace 158 = .ok (.getfield 22, 3) := by decide +kernel
theorem dX9_replace_161 : decode cX9_replace 161 = .ok (.iload_n 1, 1) := by decide +kernel
theorem dX9_replace_162 : decode cX9_replace 162 = .ok (.iload 5, 2) := by decide +kernel
theorem dX9_replace_164 : decode cX9_replace 164 = .ok (.iastore, 1) := by decide +kernel
theorem dX9_replace_165 : decode cX9_replace 165 = .ok (.iconst 1, 1) := by decide +kernel
theorem dX9_replace_166 : decode cX9_replace 166 = .ok (.ireturn, 1) := by decide +kernel
theorem dX9_doScan_0 : decode cX9_doScan 0 = .ok (.aload_n 0, 1) := by decide +kernel
theorem dX9_doScan_1 : decode cX9_doScan 1 = .ok (.aload_n 0, 1) := by decide +kernel
theorem dX9_doScan_2 : decode cX9_doScan 2 = .ok (.getfield 99, 3) := by decide +kernel
theorem dX9_doScan_5 : decode cX9_doScan 5 = .ok (.iload_n 1, 1) := by decide +kernel
theorem dX9_doScan_6 : decode cX9_doScan 6 = .ok (.iaload, 1) := by decide +kernel
theorem dX9_doScan_7 : decode cX9_doScan 7 = .ok (.invokevirtual 368, 3) := by decide +kernel
theorem dX9_doScan_10 : decode cX9_doScan 10 = .ok (.aload_n 0, 1) := by decide +kernel
theorem dX9_doScan_11 : decode cX9_doScan 11 = .ok (.aload_n 0, 1) := by decide +kernel
theorem dX9_doScan_12 : decode cX9_doScan 12 = .ok (.getfield 102, 3) := by decide +kernel
theorem dX9_doScan_15 : decode cX9_doScan 15 = .ok (.iload_n 1, 1) := by decide +kernel
theorem dX9_doScan_16 : decode cX9_doScan 16 = .ok (.iaload, 1) := by decide +kernel
theorem dX9_doScan_17 : decode cX9_doScan 17 = .ok (.invokevirtual 371, 3) := by decide +kernel
theorem dX9_doScan_20 : decode cX9_doScan 20 = .ok (.istore_n 2, 1) := by decide +kernel
theorem dX9_doScan_21 : decode cX9_doScan 21 = .ok (.iload_n 2, 1) := by decide +kernel
theorem dX9_doScan_22 : decode cX9_doScan 22 = .ok (.iconst 1, 1) := by decide +kernel
theorem dX9_doScan_23 : decode cX9_doScan 23 = .ok (.if_icmp .eq 14, 3) := by decide +kernel
theorem dX9_doScan_26 : decode cX9_doScan 26 = .ok (.iload_n 2, 1) := by decide +kernel
theorem dX9_doScan_27 : decode cX9_doScan 27 = .ok (.iconst (-1), 1) := by decide +kernel
theorem dX9_doScan_28 : decode cX9_doScan 28 = .ok (.if_icmp .ne 7, 3) := by decide +kernel
theorem dX9_doScan_31 : decode cX9_doScan 31 = .ok (.iconst 3, 1) := by decide +kernel
theorem dX9_doScan_32 : decode cX9_doScan 32 = .ok (.goto 4, 3) := by decide +kernel
theorem dX9_doScan_35 : decode cX9_doScan 35 = .ok (.iconst (-1), 1) := by decide +kernel
theorem dX9_doScan_36 : decode cX9_doScan 36 = .ok (.ireturn, 1) := by decide +kernel
theorem dX9_doScan_37 : decode cX9_doScan 37 = .ok (.aload_n 0, 1) := by decide +kernel
theorem dX9_doScan_38 : decode cX9_doScan 38 = .ok (.getfield 339, 3) := by decide +kernel
theorem dX9_doScan_41 : decode cX9_doScan 41 = .ok (.istore_n 3, 1) := by decide +kernel
theorem dX9_doScan_42 : decode cX9_doScan 42 = .ok (.aload_n 0, 1) := by decide +kernel
theorem dX9_doScan_43 : decode cX9_doScan 43 = .ok (.getfield 268, 3) := by decide +kernel
theorem dX9_doScan_46 : decode cX9_doScan 46 = .ok (.istore 4, 2) := by decide +kernel
theorem dX9_doScan_48 : decode cX9_doScan 48 = .ok (.aload_n 0, 1) := by decide +kernel
theorem dX9_doScan_49 : decode cX9_doScan 49 = .ok (.invokevirtual 374, 3) := by decide +kernel
theorem dX9_doScan_52 : decode cX9_doScan 52 = .ok (.aload_n 0, 1) := by decide +kernel
theorem dX9_doScan_53 : decode cX9_doScan 53 = .ok (.getfield 105, 3) := by decide +kernel
theorem dX9_doScan_56 : decode cX9_doScan 56 = .ok (.iload_n 1, 1) := by decide +kernel
theorem dX9_doScan_57 : decode cX9_doScan 57 = .ok (.iaload, 1) := by decide +kernel
theorem dX9_doScan_58 : decode cX9_doScan 58 = .ok (.istore 5, 2) := by decide +kernel
theorem dX9_doScan_60 : decode cX9_doScan 60 = .ok (.iload 5, 2) := by decide +kernel
theorem dX9_doScan_62 : decode cX9_doScan 62 = .ok (.iconst (-1), 1) := by decide +kernel
theorem dX9_doScan_63 : decode cX9_doScan 63 = .ok (.if_icmp .ne 7, 3) := by decide +kernel
theorem dX9_doScan_66 : decode cX9_doScan 66 = .ok (.iconst 0, 1) := by decide +kernel
theorem dX9_doScan_67 : decode cX9_doScan 67 = .ok (.goto 9, 3) := by decide +kernel
theorem dX9_doScan_70 : decode cX9_doScan 70 = .ok (.aload_n 0, 1) := by decide +kernel
theorem dX9_doScan_71 : decode cX9_doScan 71 = .ok (.iload 5, 2) := by decide +kernel
theorem dX9_doScan_73 : decode cX9_doScan 73 = .ok (.invokevirtual 377, 3) := by decide +kernel
theorem dX9_doScan_76 : decode cX9_doScan 76 = .ok (.istore 6, 2) := by decide +kernel
theorem dX9_doScan_78 : decode cX9_doScan 78 = .ok (.iload 5, 2) := by decide +kernel
theorem dX9_doScan_80 : decode cX9_doScan 80 = .ok (.iconst (-1), 1) := by decide +kernel
theorem dX9_doScan_81 : decode cX9_doScan 81 = .ok (.if_icmp .eq 8, 3) := by decide +kernel
theorem dX9_doScan_84 : decode cX9_doScan 84 = .ok (.iload 6, 2) := by decide +kernel
theorem dX9_doScan_86 : decode cX9_doScan 86 = .ok (.ifCond .eq 6, 3) := by decide +kernel
theorem dX9_doScan_89 : decode cX9_doScan 89 = .ok (.iload 6, 2) := by decide +kernel
theorem dX9_doScan_91 : decode cX9_doScan 91 = .ok (.ireturn, 1) := by decide +kernel
theorem dX9_doScan_92 : decode cX9_doScan 92 = .ok (.aload_n 0, 1) := by decide +kernel
theorem dX9_doScan_93 : decode cX9_doScan 93 = .ok (.aload_n 0, 1) := by decide +kernel
theorem dX9_doScan_94 : decode cX9_doScan 94 = .ok (.getfield 99, 3) := by decide +kernel
theorem dX9_doScan_97 : decode cX9_doScan 97 = .ok (.iload_n 1, 1) := by decide +kernel
theorem dX9_doScan_98 : decode cX9_doScan 98 = .ok (.iaload, 1) := by decide +kernel
theorem dX9_doScan_99 : decode cX9_doScan 99 = .ok (.iload 5, 2) := by decide +kernel
theorem dX9_doScan_101 : decode cX9_doScan 101 = .ok (.iload_n 3, 1) := by decide +kernel
theorem dX9_doScan_102 : decode cX9_doScan 102 = .ok (.iload 4, 2) := by decide +kernel
theorem dX9_doScan_104 : decode cX9_doScan 104 = .ok (.invokevirtual 380, 3) := by decide +kernel
theorem dX9_doScan_107 : decode cX9_doScan 107 = .ok (.ifCond .eq 7, 3) := by decide +kernel
theorem dX9_doScan_110 : decode cX9_doScan 110 = .ok (.iconst 0, 1) := by decide +kernel
theorem dX9_doScan_111 : decode cX9_doScan 111 = .ok (.goto 4, 3) := by decide +kernel
theorem dX9_doScan_114 : decode cX9_doScan 114 = .ok (.iconst 4, 1) := by decide +kernel
theorem dX9_doScan_115 : decode cX9_doScan 115 = .ok (.ireturn, 1) := by decide +kernel
theorem dX9_doCall_0 : decode cX9_doCall 0 = .ok (.aload_n 0, 1) := by decide +kernel
theorem dX9_doCall_1 : decode cX9_doCall 1 = .ok (.aload_n 0, 1) := by decide +kernel
theorem dX9_doCall_2 : decode cX9_doCall 2 = .ok (.getfield 105, 3) := by decide +kernel
theorem dX9_doCall_5 : decode cX9_doCall 5 = .ok (.iload_n 1, 1) := by decide +kernel
theorem dX9_doCall_6 : decode cX9_doCall 6 = .ok (.iaload, 1) := by decide +kernel
theorem dX9_doCall_7 : decode cX9_doCall 7 = .ok (.invokevirtual 377, 3) := by decide +kernel
theorem dX9_doCall_10 : decode cX9_doCall 10 = .ok (.istore_n 2, 1) := by decide +kernel
theorem dX9_doCall_11 : decode cX9_doCall 11 = .ok (.iload_n 2, 1) := by decide +kernel
theorem dX9_doCall_12 : decode cX9_doCall 12 = .ok (.ifCond .eq 5, 3) := by decide +kernel
theorem dX9_doCall_15 : decode cX9_doCall 15 = .ok (.iload_n 2, 1) := by decide +kernel
theorem dX9_doCall_16 : decode cX9_doCall 16 = .ok (.ireturn, 1) := by decide +kernel
theorem dX9_doCall_17 : decode cX9_doCall 17 = .ok (.aload_n 0, 1) := by decide +kernel
theorem dX9_doCall_18 : decode cX9_doCall 18 = .ok (.getfield 102, 3) := by decide +kernel
theorem dX9_doCall_21 : decode cX9_doCall 21 = .ok (.iload_n 1, 1) := by decide +kernel
theorem dX9_doCall_22 : decode cX9_doCall 22 = .ok (.iaload, 1) := by decide +kernel
theorem dX9_doCall_23 : decode cX9_doCall 23 = .ok (.istore_n 3, 1) := by decide +kernel
theorem dX9_doCall_24 : decode cX9_doCall 24 = .ok (.aload_n 0, 1) := by decide +kernel
theorem dX9_doCall_25 : decode cX9_doCall 25 = .ok (.getfield 114, 3) := by decide +kernel
theorem dX9_doCall_28 : decode cX9_doCall 28 = .ok (.iload_n 3, 1) := by decide +kernel
theorem dX9_doCall_29 : decode cX9_doCall 29 = .ok (.baload, 1) := by decide +kernel
theorem dX9_doCall_30 : decode cX9_doCall 30 = .ok (.ifCond .eq 12, 3) := by decide +kernel
theorem dX9_doCall_33 : decode cX9_doCall 33 = .ok (.aload_n 0, 1) := by decide +kernel
theorem dX9_doCall_34 : decode cX9_doCall 34 = .ok (.getfield 384, 3) := by decide +kernel
theorem dX9_doCall_37 : decode cX9_doCall 37 = .ok (.bipush 10, 2) := by decide +kernel
theorem dX9_doCall_39 : decode cX9_doCall 39 = .ok (.if_icmp .ne 5, 3) := by decide +kernel
theorem dX9_doCall_42 : decode cX9_doCall 42 = .ok (.iconst 5, 1) := by decide +kernel
theorem dX9_doCall_43 : decode cX9_doCall 43 = .ok (.ireturn, 1) := by decide +kernel
theorem dX9_doCall_44 : decode cX9_doCall 44 = .ok (.aload_n 0, 1) := by decide +kernel
theorem dX9_doCall_45 : decode cX9_doCall 45 = .ok (.iconst 3, 1) := by decide +kernel
theorem dX9_doCall_46 : decode cX9_doCall 46 = .ok (.aload_n 0, 1) := by decide +kernel
theorem dX9_doCall_47 : decode cX9_doCall 47 = .ok (.getfield 384, 3) := by decide +kernel
theorem dX9_doCall_50 : decode cX9_doCall 50 = .ok (.imul, 1) := by decide +kernel
theorem dX9_doCall_51 : decode cX9_doCall 51 = .ok (.aload_n 0, 1) := by decide +kernel
theorem dX9_doCall_52 : decode cX9_doCall 52 = .ok (.getfield 120, 3) := by decide +kernel
theorem dX9_doCall_55 : decode cX9_doCall 55 = .ok (.iload_n 3, 1) := by decide +kernel
theorem dX9_doCall_56 : decode cX9_doCall 56 = .ok (.iaload, 1) := by decide +kernel
theorem dX9_doCall_57 : decode cX9_doCall 57 = .ok (.invokevirtual 387, 3) := by decide +kernel
theorem dX9_doCall_60 : decode cX9_doCall 60 = .ok (.aload_n 0, 1) := by decide +kernel
theorem dX9_doCall_61 : decode cX9_doCall 61 = .ok (.iconst 3, 1) := by decide +kernel
theorem dX9_doCall_62 : decode cX9_doCall 62 = .ok (.aload_n 0, 1) := by decide +kernel
theorem dX9_doCall_63 : decode cX9_doCall 63 = .ok (.getfield 384, 3) := by decide +kernel
theorem dX9_doCall_66 : decode cX9_doCall 66 = .ok (.imul, 1) := by decide +kernel
theorem dX9_doCall_67 : decode cX9_doCall 67 = .ok (.iconst 1, 1) := by decide +kernel
theorem dX9_doCall_68 : decode cX9_doCall 68 = .ok (.iadd, 1) := by decide +kernel
theorem dX9_doCall_69 : decode cX9_doCall 69 = .ok (.aload_n 0, 1) := by decide +kernel
theorem dX9_doCall_70 : decode cX9_doCall 70 = .ok (.getfield 123, 3) := by decide +kernel
theorem dX9_doCall_73 : decode cX9_doCall 73 = .ok (.iload_n 3, 1) := by decide +kernel
theorem dX9_doCall_74 : decode cX9_doCall 74 = .ok (.iaload, 1) := by decide +kernel
theorem dX9_doCall_75 : decode cX9_doCall 75 = .ok (.invokevirtual 387, 3) := by decide +kernel
theorem dX9_doCall_78 : decode cX9_doCall 78 = .ok (.aload_n 0, 1) := by decide +kernel
theorem dX9_doCall_79 : decode cX9_doCall 79 = .ok (.iconst 3, 1) := by decide +kernel
theorem dX9_doCall_80 : decode cX9_doCall 80 = .ok (.aload_n 0, 1) := by decide +kernel
theorem dX9_doCall_81 : decode cX9_doCall 81 = .ok (.getfield 384, 3) := by decide +kernel
theorem dX9_doCall_84 : decode cX9_doCall 84 = .ok (.imul, 1) := by decide +kernel
theorem dX9_doCall_85 : decode cX9_doCall 85 = .ok (.iconst 2, 1) := by decide +kernel
theorem dX9_doCall_86 : decode cX9_doCall 86 = .ok (.iadd, 1) := by decide +kernel
theorem dX9_doCall_87 : decode cX9_doCall 87 = .ok (.aload_n 0, 1) := by decide +kernel
theorem dX9_doCall_88 : decode cX9_doCall 88 = .ok (.getfield 126, 3) := by decide +kernel
theorem dX9_doCall_91 : decode cX9_doCall 91 = .ok (.iload_n 3, 1) := by decide +kernel
theorem dX9_doCall_92 : decode cX9_doCall 92 = .ok (.iaload, 1) := by decide +kernel
theorem dX9_doCall_93 : decode cX9_doCall 93 = .ok (.invokevirtual 387, 3) := by decide +kernel
theorem dX9_doCall_96 : decode cX9_doCall 96 = .ok (.aload_n 0, 1) := by decide +kernel
theorem dX9_doCall_97 : decode cX9_doCall 97 = .ok (.getfield 135, 3) := by decide +kernel
theorem dX9_doCall_100 : decode cX9_doCall 100 = .ok (.aload_n 0, 1) := by decide +kernel
theorem dX9_doCall_101 : decode cX9_doCall 101 = .ok (.getfield 384, 3) := by decide +kernel
theorem dX9_doCall_104 : decode cX9_doCall 104 = .ok (.iload_n 1, 1) := by decide +kernel
theorem dX9_doCall_105 : decode cX9_doCall 105 = .ok (.iastore, 1) := by decide +kernel
theorem dX9_doCall_106 : decode cX9_doCall 106 = .ok (.aload_n 0, 1) := by decide +kernel
theorem dX9_doCall_107 : decode cX9_doCall 107 = .ok (.getfield 138, 3) := by decide +kernel
theorem dX9_doCall_110 : decode cX9_doCall 110 = .ok (.aload_n 0, 1) := by decide +kernel
theorem dX9_doCall_111 : decode cX9_doCall 111 = .ok (.getfield 384, 3) := by decide +kernel
theorem dX9_doCall_114 : decode cX9_doCall 114 = .ok (.iload_n 3, 1) := by decide +kernel
theorem dX9_doCall_115 : decode cX9_doCall 115 = .ok (.iastore, 1) := by decide +kernel
theorem dX9_doCall_116 : decode cX9_doCall 116 = .ok (.aload_n 0, 1) := by decide +kernel
theorem dX9_doCall_117 : decode cX9_doCall 117 = .ok (.dup, 1) := by decide +kernel
theorem dX9_doCall_118 : decode cX9_doCall 118 = .ok (.getfield 384, 3) := by decide +kernel
theorem dX9_doCall_121 : decode cX9_doCall 121 = .ok (.iconst 1, 1) := by decide +kernel
theorem dX9_doCall_122 : decode cX9_doCall 122 = .ok (.iadd, 1) := by decide +kernel
theorem dX9_doCall_123 : decode cX9_doCall 123 = .ok (.putfield 384, 3) := by decide +kernel
theorem dX9_doCall_126 : decode cX9_doCall 126 = .ok (.aload_n 0, 1) := by decide +kernel
theorem dX9_doCall_127 : decode cX9_doCall 127 = .ok (.aload_n 0, 1) := by decide +kernel
theorem dX9_doCall_128 : decode cX9_doCall 128 = .ok (.getfield 120, 3) := by decide +kernel
theorem dX9_doCall_131 : decode cX9_doCall 131 = .ok (.iload_n 3, 1) := by decide +kernel
theorem dX9_doCall_132 : decode cX9_doCall 132 = .ok (.iaload, 1) := by decide +kernel
theorem dX9_doCall_133 : decode cX9_doCall 133 = .ok (.aload_n 0, 1) := by decide +kernel
theorem dX9_doCall_134 : decode cX9_doCall 134 = .ok (.getfield 105, 3) := by decide +kernel
theorem dX9_doCall_137 : decode cX9_doCall 137 = .ok (.iload_n 1, 1) := by decide +kernel
theorem dX9_doCall_138 : decode cX9_doCall 138 = .ok (.iaload, 1) := by decide +kernel
theorem dX9_doCall_139 : decode cX9_doCall 139 = .ok (.invokevirtual 390, 3) := by decide +kernel
theorem dX9_doCall_142 : decode cX9_doCall 142 = .ok (.aload_n 0, 1) := by decide +kernel
theorem dX9_doCall_143 : decode cX9_doCall 143 = .ok (.getfield 22, 3) := by decide +kernel
theorem dX9_doCall_146 : decode cX9_doCall 146 = .ok (.aload_n 0, 1) := by decide +kernel
theorem dX9_doCall_147 : decode cX9_doCall 147 = .ok (.getfield 123, 3) := by decide +kernel
theorem dX9_doCall_150 : decode cX9_doCall 150 = .ok (.iload_n 3, 1) := by decide +kernel
theorem dX9_doCall_151 : decode cX9_doCall 151 = .ok (.iaload, 1) := by decide +kernel
theorem dX9_doCall_152 : decode cX9_doCall 152 = .ok (.iconst 0, 1) := by decide +kernel
theorem dX9_doCall_153 : decode cX9_doCall 153 = .ok (.iastore, 1) := by decide +kernel
theorem dX9_doCall_154 : decode cX9_doCall 154 = .ok (.aload_n 0, 1) := by decide +kernel
theorem dX9_doCall_155 : decode cX9_doCall 155 = .ok (.getfield 22, 3) := by decide +kernel
theorem dX9_doCall_158 : decode cX9_doCall 158 = .ok (.aload_n 0, 1) := by decide +kernel
theorem dX9_doCall_159 : decode cX9_doCall 159 = .ok (.getfield 126, 3) := by decide +kernel
theorem dX9_doCall_162 : decode cX9_doCall 162 = .ok (.iload_n 3, 1) := by decide +kernel
theorem dX9_doCall_163 : decode cX9_doCall 163 = .ok (.iaload, 1) := by decide +kernel
theorem dX9_doCall_164 : decode cX9_doCall 164 = .ok (.iconst 0, 1) := by decide +kernel
theorem dX9_doCall_165 : decode cX9_doCall 165 = .ok (.iastore, 1) := by decide +kernel
theorem dX9_doCall_166 : decode cX9_doCall 166 = .ok (.iconst 0, 1) := by decide +kernel
theorem dX9_doCall_167 : decode cX9_doCall 167 = .ok (.ireturn, 1) := by decide +kernel
theorem dX9_comeBack_0 : decode cX9_comeBack 0 = .ok (.aload_n 0, 1) := by decide +kernel
theorem dX9_comeBack_1 : decode cX9_comeBack 1 = .ok (.dup, 1) := by decide +kernel
theorem dX9_comeBack_2 : decode cX9_comeBack 2 = .ok (.getfield 384, 3) := by decide +kernel
theorem dX9_comeBack_5 : decode cX9_comeBack 5 = .ok (.iconst 1, 1) := by decide +kernel
theorem dX9_comeBack_6 : decode cX9_comeBack 6 = .ok (.isub, 1) := by decide +kernel
theorem dX9_comeBack_7 : decode cX9_comeBack 7 = .ok (.putfield 384, 3) := by decide +kernel
theorem dX9_comeBack_10 : decode cX9_comeBack 10 = .ok (.aload_n 0, 1) := by decide +kernel
theorem dX9_comeBack_11 : decode cX9_comeBack 11 = .ok (.getfield 135, 3) := by decide +kernel
theorem dX9_comeBack_14 : decode cX9_comeBack 14 = .ok (.aload_n 0, 1) := by decide +kernel
theorem dX9_comeBack_15 : decode cX9_comeBack 15 = .ok (.getfield 384, 3) := by decide +kernel
theorem dX9_comeBack_18 : decode cX9_comeBack 18 = .ok (.iaload, 1) := by decide +kernel
theorem dX9_comeBack_19 : decode cX9_comeBack 19 = .ok (.istore_n 2, 1) := by decide +kernel
theorem dX9_comeBack_20 : decode cX9_comeBack 20 = .ok (.aload_n 0, 1) := by decide +kernel
theorem dX9_comeBack_21 : decode cX9_comeBack 21 = .ok (.getfield 138, 3) := by decide +kernel
theorem dX9_comeBack_24 : decode cX9_comeBack 24 = .ok (.aload_n 0, 1) := by decide +kernel
theorem dX9_comeBack_25 : decode cX9_comeBack 25 = .ok (.getfield 384, 3) := by decide +kernel
theorem dX9_comeBack_28 : decode cX9_comeBack 28 = .ok (.iaload, 1) := by decide +kernel
theorem dX9_comeBack_29 : decode cX9_comeBack 29 = .ok (.istore_n 3, 1) := by decide +kernel
theorem dX9_comeBack_30 : decode cX9_comeBack 30 = .ok (.aload_n 0, 1) := by decide +kernel
theorem dX9_comeBack_31 : decode cX9_comeBack 31 = .ok (.getfield 126, 3) := by decide +kernel
theorem dX9_comeBack_34 : decode cX9_comeBack 34 = .ok (.iload_n 3, 1) := by decide +kernel
theorem dX9_comeBack_35 : decode cX9_comeBack 35 = .ok (.iaload, 1) := by decide +kernel
theorem dX9_comeBack_36 : decode cX9_comeBack 36 = .ok (.istore 4, 2) := by decide +kernel
theorem dX9_comeBack_38 : decode cX9_comeBack 38 = .ok (.aload_n 0, 1) := by decide +kernel
theorem dX9_comeBack_39 : decode cX9_comeBack 39 = .ok (.aload_n 0, 1) := by decide +kernel
theorem dX9_comeBack_40 : decode cX9_comeBack 40 = .ok (.getfield 22, 3) := by decide +kernel
theorem dX9_comeBack_43 : decode cX9_comeBack 43 = .ok (.iload 4, 2) := by decide +kernel
theorem dX9_comeBack_45 : decode cX9_comeBack 45 = .ok (.iaload, 1) := by decide +kernel
theorem dX9_comeBack_46 : decode cX9_comeBack 46 = .ok (.putfield 393, 3) := by decide +kernel
theorem dX9_comeBack_49 : decode cX9_comeBack 49 = .ok (.iconst 0, 1) := by decide +kernel
theorem dX9_comeBack_50 : decode cX9_comeBack 50 = .ok (.istore 5, 2) := by decide +kernel
theorem dX9_comeBack_52 : decode cX9_comeBack 52 = .ok (.iload 5, 2) := by decide +kernel
theorem dX9_comeBack_54 : decode cX9_comeBack 54 = .ok (.aload_n 0, 1) := by decide +kernel
theorem dX9_comeBack_55 : decode cX9_comeBack 55 = .ok (.getfield 393, 3) := by decide +kernel
theorem dX9_comeBack_58 : decode cX9_comeBack 58 = .ok (.if_icmp .ge 29, 3) := by decide +kernel
theorem dX9_comeBack_61 : decode cX9_comeBack 61 = .ok (.aload_n 0, 1) := by decide +kernel
theorem dX9_comeBack_62 : decode cX9_comeBack 62 = .ok (.getfield 147, 3) := by decide +kernel
theorem dX9_comeBack_65 : decode cX9_comeBack 65 = .ok (.iload 5, 2) := by decide +kernel
theorem dX9_comeBack_67 : decode cX9_comeBack 67 = .ok (.aload_n 0, 1) := by decide +kernel
theorem dX9_comeBack_68 : decode cX9_comeBack 68 = .ok (.getfield 19, 3) := by decide +kernel
theorem dX9_comeBack_71 : decode cX9_comeBack 71 = .ok (.bipush 60, 2) := by decide +kernel
theorem dX9_comeBack_73 : decode cX9_comeBack 73 = .ok (.iload 4, 2) := by decide +kernel
theorem dX9_comeBack_75 : decode cX9_comeBack 75 = .ok (.imul, 1) := by decide +kernel
theorem dX9_comeBack_76 : decode cX9_comeBack 76 = .ok (.iload 5, 2) := by decide +kernel
theorem dX9_comeBack_78 : decode cX9_comeBack 78 = .ok (.iadd, 1) := by decide +kernel
theorem dX9_comeBack_79 : decode cX9_comeBack 79 = .ok (.iaload, 1) := by decide +kernel
theorem dX9_comeBack_80 : decode cX9_comeBack 80 = .ok (.iastore, 1) := by decide +kernel
theorem dX9_comeBack_81 : decode cX9_comeBack 81 = .ok (.iinc 5 1, 3) := by decide +kernel
theorem dX9_comeBack_84 : decode cX9_comeBack 84 = .ok (.goto (-32), 3) := by decide +kernel
theorem dX9_comeBack_87 : decode cX9_comeBack 87 = .ok (.aload_n 0, 1) := by decide +kernel
theorem dX9_comeBack_88 : decode cX9_comeBack 88 = .ok (.iconst 3, 1) := by decide +kernel
theorem dX9_comeBack_89 : decode cX9_comeBack 89 = .ok (.aload_n 0, 1) := by decide +kernel
theorem dX9_comeBack_90 : decode cX9_comeBack 90 = .ok (.getfield 384, 3) := by decide +kernel
theorem dX9_comeBack_93 : decode cX9_comeBack 93 = .ok (.imul, 1) := by decide +kernel
theorem dX9_comeBack_94 : decode cX9_comeBack 94 = .ok (.aload_n 0, 1) := by decide +kernel
theorem dX9_comeBack_95 : decode cX9_comeBack 95 = .ok (.getfield 120, 3) := by decide +kernel
theorem dX9_comeBack_98 : decode cX9_comeBack 98 = .ok (.iload_n 3, 1) := by decide +kernel
theorem dX9_comeBack_99 : decode cX9_comeBack 99 = .ok (.iaload, 1) := by decide +kernel
theorem dX9_comeBack_100 : decode cX9_comeBack 100 = .ok (.invokevirtual 396, 3) := by decide +kernel
theorem dX9_comeBack_103 : decode cX9_comeBack 103 = .ok (.aload_n 0, 1) := by decide +kernel
theorem dX9_comeBack_104 : decode cX9_comeBack 104 = .ok (.iconst 3, 1) := by decide +kernel
theorem dX9_comeBack_105 : decode cX9_comeBack 105 = .ok (.aload_n 0, 1) := by decide +kernel
theorem dX9_comeBack_106 : decode cX9_comeBack 106 = .ok (.getfield 384, 3) := by decide +kernel
theorem dX9_comeBack_109 : decode cX9_comeBack 109 = .ok (.imul, 1) := by decide +kernel
theorem dX9_comeBack_110 : decode cX9_comeBack 110 = .ok (.iconst 1, 1) := by decide +kernel
theorem dX9_comeBack_111 : decode cX9_comeBack 111 = .ok (.iadd, 1) := by decide +kernel
theorem dX9_comeBack_112 : decode cX9_comeBack 112 = .ok (.aload_n 0, 1) := by decide +kernel
theorem dX9_comeBack_113 : decode cX9_comeBack 113 = .ok (.getfield 123, 3) := by decide +kernel
theorem dX9_comeBack_116 : decode cX9_comeBack 116 = .ok (.iload_n 3, 1) := by decide +kernel
theorem dX9_comeBack_117 : decode cX9_comeBack 117 = .ok (.iaload, 1) := by decide +kernel
theorem dX9_comeBack_118 : decode cX9_comeBack 118 = .ok (.invokevirtual 396, 3) := by decide +kernel
theorem dX9_comeBack_121 : decode cX9_comeBack 121 = .ok (.aload_n 0, 1) := by decide +kernel
theorem dX9_comeBack_122 : decode cX9_comeBack 122 = .ok (.iconst 3, 1) := by decide +kernel
theorem dX9_comeBack_123 : decode cX9_comeBack 123 = .ok (.aload_n 0, 1) := by decide +kernel
theorem dX9_comeBack_124 : decode cX9_comeBack 124 = .ok (.getfield 384, 3) := by decide +kernel
theorem dX9_comeBack_127 : decode cX9_comeBack 127 = .ok (.imul, 1) := by decide +kernel
theorem dX9_comeBack_128 : decode cX9_comeBack 128 = .ok (.iconst 2, 1) := by decide +kernel
theorem dX9_comeBack_129 : decode cX9_comeBack 129 = .ok (.iadd, 1) := by decide +kernel
theorem dX9_comeBack_130 : decode cX9_comeBack 130 = .ok (.iload 4, 2) := by decide +kernel
theorem dX9_comeBack_132 : decode cX9_comeBack 132 = .ok (.invokevirtual 396, 3) := by decide +kernel
theorem dX9_comeBack_135 : decode cX9_comeBack 135 = .ok (.aload_n 0, 1) := by decide +kernel
theorem dX9_comeBack_136 : decode cX9_comeBack 136 = .ok (.getfield 99, 3) := by decide +kernel
theorem dX9_comeBack_139 : decode cX9_comeBack 139 = .ok (.iload_n 2, 1) := by decide +kernel
theorem dX9_comeBack_140 : decode cX9_comeBack 140 = .ok (.iaload, 1) := by decide +kernel
theorem dX9_comeBack_141 : decode cX9_comeBack 141 = .ok (.istore 5, 2) := by decide +kernel
theorem dX9_comeBack_143 : decode cX9_comeBack 143 = .ok (.iload_n 1, 1) := by decide +kernel
theorem dX9_comeBack_144 : decode cX9_comeBack 144 = .ok (.ifCond .eq 55, 3) := by decide +kernel
theorem dX9_comeBack_147 : decode cX9_comeBack 147 = .ok (.aload_n 0, 1) := by decide +kernel
theorem dX9_comeBack_148 : decode cX9_comeBack 148 = .ok (.getfield 22, 3) := by decide +kernel
theorem dX9_comeBack_151 : decode cX9_comeBack 151 = .ok (.iload 5, 2) := by decide +kernel
theorem dX9_comeBack_153 : decode cX9_comeBack 153 = .ok (.aload_n 0, 1) := by decide +kernel
theorem dX9_comeBack_154 : decode cX9_comeBack 154 = .ok (.getfield 393, 3) := by decide +kernel
theorem dX9_comeBack_157 : decode cX9_comeBack 157 = .ok (.iastore, 1) := by decide +kernel
theorem dX9_comeBack_158 : decode cX9_comeBack 158 = .ok (.iconst 0, 1) := by decide +kernel
theorem dX9_comeBack_159 : decode cX9_comeBack 159 = .ok (.istore 6, 2) := by decide +kernel
theorem dX9_comeBack_161 : decode cX9_comeBack 161 = .ok (.iload 6, 2) := by decide +kernel
theorem dX9_comeBack_163 : decode cX9_comeBack 163 = .ok (.aload_n 0, 1) := by decide +kernel
theorem dX9_comeBack_164 : decode cX9_comeBack 164 = .ok (.getfield 393, 3) := by decide +kernel
theorem dX9_comeBack_167 : decode cX9_comeBack 167 = .ok (.if_icmp .ge 29, 3) := by decide +kernel
theorem dX9_comeBack_170 : decode cX9_comeBack 170 = .ok (.aload_n 0, 1) := by decide +kernel
theorem dX9_comeBack_171 : decode cX9_comeBack 171 = .ok (.getfield 19, 3) := by decide +kernel
theorem dX9_comeBack_174 : decode cX9_comeBack 174 = .ok (.bipush 60, 2) := by decide +kernel
theorem dX9_comeBack_176 : decode cX9_comeBack 176 = .ok (.iload 5, 2) := by decide +kernel
theorem dX9_comeBack_178 : decode cX9_comeBack 178 = .ok (.imul, 1) := by decide +kernel
theorem dX9_comeBack_179 : decode cX9_comeBack 179 = .ok (.iload 6, 2) := by decide +kernel
theorem dX9_comeBack_181 : decode cX9_comeBack 181 = .ok (.iadd, 1) := by decide +kernel
theorem dX9_comeBack_182 : decode cX9_comeBack 182 = .ok (.aload_n 0, 1) := by decide +kernel
theorem dX9_comeBack_183 : decode cX9_comeBack 183 = .ok (.getfield 147, 3) := by decide +kernel
theorem dX9_comeBack_186 : decode cX9_comeBack 186 = .ok (.iload 6, 2) := by decide +kernel
theorem dX9_comeBack_188 : decode cX9_comeBack 188 = .ok (.iaload, 1) := by decide +kernel
theorem dX9_comeBack_189 : decode cX9_comeBack 189 = .ok (.iastore, 1) := by decide +kernel
theorem dX9_comeBack_190 : decode cX9_comeBack 190 = .ok (.iinc 6 1, 3) := by decide +kernel
theorem dX9_comeBack_193 : decode cX9_comeBack 193 = .ok (.goto (-32), 3) := by decide +kernel
theorem dX9_comeBack_196 : decode cX9_comeBack 196 = .ok (.goto 13, 3) := by decide +kernel
theorem dX9_comeBack_199 : decode cX9_comeBack 199 = .ok (.aload_n 0, 1) := by decide +kernel
theorem dX9_comeBack_200 : decode cX9_comeBack 200 = .ok (.getfield 132, 3) := by decide +kernel
theorem dX9_comeBack_203 : decode cX9_comeBack 203 = .ok (.iload_n 2, 1) := by decide +kernel
theorem dX9_comeBack_204 : decode cX9_comeBack 204 = .ok (.dup2, 1) := by decide +kernel
theorem dX9_comeBack_205 : decode cX9_comeBack 205 = .ok (.iaload, 1) := by decide +kernel
theorem dX9_comeBack_206 : decode cX9_comeBack 206 = .ok (.iconst 1, 1) := by decide +kernel
theorem dX9_comeBack_207 : decode cX9_comeBack 207 = .ok (.iadd, 1) := by decide +kernel
theorem dX9_comeBack_208 : decode cX9_comeBack 208 = .ok (.iastore, 1) := by decide +kernel
theorem dX9_comeBack_209 : decode cX9_comeBack 209 = .ok (.iload_n 2, 1) := by decide +kernel
theorem dX9_comeBack_210 : decode cX9_comeBack 210 = .ok (.ireturn, 1) := by decide +kernel
theorem dX9_goOn_0 : decode cX9_goOn 0 = .ok (.iload_n 1, 1) := by decide +kernel
theorem dX9_goOn_1 : decode cX9_goOn 1 = .ok (.istore_n 3, 1) := by decide +kernel
theorem dX9_goOn_2 : decode cX9_goOn 2 = .ok (.iload_n 2, 1) := by decide +kernel
theorem dX9_goOn_3 : decode cX9_goOn 3 = .ok (.istore 4, 2) := by decide +kernel
theorem dX9_goOn_5 : decode cX9_goOn 5 = .ok (.iload 4, 2) := by decide +kernel
theorem dX9_goOn_7 : decode cX9_goOn 7 = .ok (.bipush (-2), 2) := by decide +kernel
theorem dX9_goOn_9 : decode cX9_goOn 9 = .ok (.if_icmp .eq 10, 3) := by decide +kernel
theorem dX9_goOn_12 : decode cX9_goOn 12 = .ok (.iload 4, 2) := by decide +kernel
theorem dX9_goOn_14 : decode cX9_goOn 14 = .ok (.bipush (-3), 2) := by decide +kernel
theorem dX9_goOn_16 : decode cX9_goOn 16 = .ok (.if_icmp .ne 63, 3) := by decide +kernel
theorem dX9_goOn_19 : decode cX9_goOn 19 = .ok (.aload_n 0, 1) := by decide +kernel
theorem dX9_goOn_20 : decode cX9_goOn 20 = .ok (.getfield 384, 3) := by decide +kernel
theorem dX9_goOn_23 : decode cX9_goOn 23 = .ok (.ifCond .ne 10, 3) := by decide +kernel
theorem dX9_goOn_26 : decode cX9_goOn 26 = .ok (.aload_n 0, 1) := by decide +kernel
theorem dX9_goOn_27 : decode cX9_goOn 27 = .ok (.bipush 6, 2) := by decide +kernel
theorem dX9_goOn_29 : decode cX9_goOn 29 = .ok (.putfield 399, 3) := by decide +kernel
theorem dX9_goOn_32 : decode cX9_goOn 32 = .ok (.return_, 1) := by decide +kernel
theorem dX9_goOn_33 : decode cX9_goOn 33 = .ok (.iload 4, 2) := by decide +kernel
theorem dX9_goOn_35 : decode cX9_goOn 35 = .ok (.bipush (-2), 2) := by decide +kernel
theorem dX9_goOn_37 : decode cX9_goOn 37 = .ok (.if_icmp .ne 7, 3) := by decide +kernel
theorem dX9_goOn_40 : decode cX9_goOn 40 = .ok (.iconst 1, 1) := by decide +kernel
theorem dX9_goOn_41 : decode cX9_goOn 41 = .ok (.goto 4, 3) := by decide +kernel
theorem dX9_goOn_44 : decode cX9_goOn 44 = .ok (.iconst 0, 1) := by decide +kernel
theorem dX9_goOn_45 : decode cX9_goOn 45 = .ok (.istore 5, 2) := by decide +kernel
theorem dX9_goOn_47 : decode cX9_goOn 47 = .ok (.aload_n 0, 1) := by decide +kernel
theorem dX9_goOn_48 : decode cX9_goOn 48 = .ok (.iload 5, 2) := by decide +kernel
theorem dX9_goOn_50 : decode cX9_goOn 50 = .ok (.invokevirtual 402, 3) := by decide +kernel
theorem dX9_goOn_53 : decode cX9_goOn 53 = .ok (.istore_n 3, 1) := by decide +kernel
theorem dX9_goOn_54 : decode cX9_goOn 54 = .ok (.iload 5, 2) := by decide +kernel
theorem dX9_goOn_56 : decode cX9_goOn 56 = .ok (.ifCond .eq 12, 3) := by decide +kernel
theorem dX9_goOn_59 : decode cX9_goOn 59 = .ok (.aload_n 0, 1) := by decide +kernel
theorem dX9_goOn_60 : decode cX9_goOn 60 = .ok (.getfield 108, 3) := by decide +kernel
theorem dX9_goOn_63 : decode cX9_goOn 63 = .ok (.iload_n 3, 1) := by decide +kernel
theorem dX9_goOn_64 : decode cX9_goOn 64 = .ok (.iaload, 1) := by decide +kernel
theorem dX9_goOn_65 : decode cX9_goOn 65 = .ok (.goto 9, 3) := by decide +kernel
theorem dX9_goOn_68 : decode cX9_goOn 68 = .ok (.aload_n 0, 1) := by decide +kernel
theorem dX9_goOn_69 : decode cX9_goOn 69 = .ok (.getfield 111, 3) := by decide +kernel
theorem dX9_goOn_72 : decode cX9_goOn 72 = .ok (.iload_n 3, 1) := by decide +kernel
theorem dX9_goOn_73 : decode cX9_goOn 73 = .ok (.iaload, 1) := by decide +kernel
theorem dX9_goOn_74 : decode cX9_goOn 74 = .ok (.istore 4, 2) := by decide +kernel
theorem dX9_goOn_76 : decode cX9_goOn 76 = .ok (.goto (-71), 3) := by decide +kernel
theorem dX9_goOn_79 : decode cX9_goOn 79 = .ok (.iload 4, 2) := by decide +kernel
theorem dX9_goOn_81 : decode cX9_goOn 81 = .ok (.iconst (-1), 1) := by decide +kernel
theorem dX9_goOn_82 : decode cX9_goOn 82 = .ok (.if_icmp .ne 9, 3) := by decide +kernel
theorem dX9_goOn_85 : decode cX9_goOn 85 = .ok (.iload_n 3, 1) := by decide +kernel
theorem dX9_goOn_86 : decode cX9_goOn 86 = .ok (.iconst 1, 1) := by decide +kernel
theorem dX9_goOn_87 : decode cX9_goOn 87 = .ok (.iadd, 1) := by decide +kernel
theorem dX9_goOn_88 : decode cX9_goOn 88 = .ok (.goto 5, 3) := by decide +kernel
theorem dX9_goOn_91 : decode cX9_goOn 91 = .ok (.iload 4, 2) := by decide +kernel
theorem dX9_goOn_93 : decode cX9_goOn 93 = .ok (.istore 5, 2) := by decide +kernel
theorem dX9_goOn_95 : decode cX9_goOn 95 = .ok (.aload_n 0, 1) := by decide +kernel
theorem dX9_goOn_96 : decode cX9_goOn 96 = .ok (.iload 4, 2) := by decide +kernel
theorem dX9_goOn_98 : decode cX9_goOn 98 = .ok (.bipush (-4), 2) := by decide +kernel
theorem dX9_goOn_100 : decode cX9_goOn 100 = .ok (.if_icmp .eq 18, 3) := by decide +kernel
theorem dX9_goOn_103 : decode cX9_goOn 103 = .ok (.iload 4, 2) := by decide +kernel
theorem dX9_goOn_105 : decode cX9_goOn 105 = .ok (.iconst (-1), 1) := by decide +kernel
theorem dX9_goOn_106 : decode cX9_goOn 106 = .ok (.if_icmp .ne 16, 3) := by decide +kernel
theorem dX9_goOn_109 : decode cX9_goOn 109 = .ok (.iload 5, 2) := by decide +kernel
theorem dX9_goOn_111 : decode cX9_goOn 111 = .ok (.aload_n 0, 1) := by decide +kernel
theorem dX9_goOn_112 : decode cX9_goOn 112 = .ok (.getfield 356, 3) := by decide +kernel
theorem dX9_goOn_115 : decode cX9_goOn 115 = .ok (.if_icmp .lt 7, 3) := by decide +kernel
theorem dX9_goOn_118 : decode cX9_goOn 118 = .ok (.iconst 1, 1) := by decide +kernel
theorem dX9_goOn_119 : decode cX9_goOn 119 = .ok (.goto 4, 3) := by decide +kernel
theorem dX9_goOn_122 : decode cX9_goOn 122 = .ok (.iconst 0, 1) := by decide +kernel
theorem dX9_goOn_123 : decode cX9_goOn 123 = .ok (.putfield 406, 3) := by decide +kernel
theorem dX9_goOn_126 : decode cX9_goOn 126 = .ok (.aload_n 0, 1) := by decide +kernel
theorem dX9_goOn_127 : decode cX9_goOn 127 = .ok (.aload_n 0, 1) := by decide +kernel
theorem dX9_goOn_128 : decode cX9_goOn 128 = .ok (.getfield 406, 3) := by decide +kernel
theorem dX9_goOn_131 : decode cX9_goOn 131 = .ok (.ifCond .ne 17, 3) := by decide +kernel
theorem dX9_goOn_134 : decode cX9_goOn 134 = .ok (.iload 5, 2) := by decide +kernel
theorem dX9_goOn_136 : decode cX9_goOn 136 = .ok (.aload_n 0, 1) := by decide +kernel
theorem dX9_goOn_137 : decode cX9_goOn 137 = .ok (.getfield 356, 3) := by decide +kernel
theorem dX9_goOn_140 : decode cX9_goOn 140 = .ok (.if_icmp .lt 8, 3) := by decide +kernel
theorem dX9_goOn_143 : decode cX9_goOn 143 = .ok (.bipush 7, 2) := by decide +kernel
theorem dX9_goOn_145 : decode cX9_goOn 145 = .ok (.goto 4, 3) := by decide +kernel
theorem dX9_goOn_148 : decode cX9_goOn 148 = .ok (.iconst 0, 1) := by decide +kernel
theorem dX9_goOn_149 : decode cX9_goOn 149 = .ok (.putfield 399, 3) := by decide +kernel
theorem dX9_goOn_152 : decode cX9_goOn 152 = .ok (.aload_n 0, 1) := by decide +kernel
theorem dX9_goOn_153 : decode cX9_goOn 153 = .ok (.iload 5, 2) := by decide +kernel
theorem dX9_goOn_155 : decode cX9_goOn 155 = .ok (.putfield 409, 3) := by decide +kernel
theorem dX9_goOn_158 : decode cX9_goOn 158 = .ok (.return_, 1) := by decide +kernel
theorem dX9_doStatement_0 : decode cX9_doStatement 0 = .ok (.aload_n 0, 1) := by decide +kernel
theorem dX9_doStatement_1 : decode cX9_doStatement 1 = .ok (.dup, 1) := by decide +kernel
theorem dX9_doStatement_2 : decode cX9_doStatement 2 = .ok (.getfield 412, 3) := by decide +kernel
theorem dX9_doStatement_5 : decode cX9_doStatement 5 = .ok (.iconst 1, 1) := by decide +kernel
theorem dX9_doStatement_6 : decode cX9_doStatement 6 = .ok (.iadd, 1) := by decide +kernel
theorem dX9_doStatement_7 : decode cX9_doStatement 7 = .ok (.putfield 412, 3) := by decide +kernel
theorem dX9_doStatement_10 : decode cX9_doStatement 10 = .ok (.aload_n 0, 1) := by decide +kernel
theorem dX9_doStatement_11 : decode cX9_doStatement 11 = .ok (.getfield 129, 3) := by decide +kernel
theorem dX9_doStatement_14 : decode cX9_doStatement 14 = .ok (.iload_n 1, 1) := by decide +kernel
theorem dX9_doStatement_15 : decode cX9_doStatement 15 = .ok (.dup2, 1) := by decide +kernel
theorem dX9_doStatement_16 : decode cX9_doStatement 16 = .ok (.iaload, 1) := by decide +kernel
theorem dX9_doStatement_17 : decode cX9_doStatement 17 = .ok (.iconst 1, 1) := by decide +kernel
theorem dX9_doStatement_18 : decode cX9_doStatement 18 = .ok (.iadd, 1) := by decide +kernel
theorem dX9_doStatement_19 : decode cX9_doStatement 19 = .ok (.iastore, 1) := by decide +kernel
theorem dX9_doStatement_20 : decode cX9_doStatement 20 = .ok (.aload_n 0, 1) := by decide +kernel
theorem dX9_doStatement_21 : decode cX9_doStatement 21 = .ok (.iload_n 1, 1) := by decide +kernel
theorem dX9_doStatement_22 : decode cX9_doStatement 22 = .ok (.putfield 415, 3) := by decide +kernel
theorem dX9_doStatement_25 : decode cX9_doStatement 25 = .ok (.aload_n 0, 1) := by decide +kernel
theorem dX9_doStatement_26 : decode cX9_doStatement 26 = .ok (.getfield 96, 3) := by decide +kernel
theorem dX9_doStatement_29 : decode cX9_doStatement 29 = .ok (.iload_n 1, 1) := by decide +kernel
theorem dX9_doStatement_30 : decode cX9_doStatement 30 = .ok (.caload, 1) := by decide +kernel
theorem dX9_doStatement_31 : decode cX9_doStatement 31 = .ok (.istore_n 2, 1) := by decide +kernel
theorem dX9_doStatement_32 : decode cX9_doStatement 32 = .ok (.iload_n 2, 1) := by decide +kernel
theorem dX9_doStatement_33 : decode cX9_doStatement 33 = .ok (.bipush 97, 2) := by decide +kernel
theorem dX9_doStatement_35 : decode cX9_doStatement 35 = .ok (.if_icmp .ne 16, 3) := by decide +kernel
theorem dX9_doStatement_38 : decode cX9_doStatement 38 = .ok (.aload_n 0, 1) := by decide +kernel
theorem dX9_doStatement_39 : decode cX9_doStatement 39 = .ok (.aload_n 0, 1) := by decide +kernel
theorem dX9_doStatement_40 : decode cX9_doStatement 40 = .ok (.getfield 105, 3) := by decide +kernel
theorem dX9_doStatement_43 : decode cX9_doStatement 43 = .ok (.iload_n 1, 1) := by decide +kernel
theorem dX9_doStatement_44 : decode cX9_doStatement 44 = .ok (.iaload, 1) := by decide +kernel
theorem dX9_doStatement_45 : decode cX9_doStatement 45 = .ok (.invokevirtual 377, 3) := by decide +kernel
theorem dX9_doStatement_48 : decode cX9_doStatement 48 = .ok (.goto 22, 3) := by decide +kernel
theorem dX9_doStatement_51 : decode cX9_doStatement 51 = .ok (.iload_n 2, 1) := by decide +kernel
theorem dX9_doStatement_52 : decode cX9_doStatement 52 = .ok (.bipush 115, 2) := by decide +kernel
theorem dX9_doStatement_54 : decode cX9_doStatement 54 = .ok (.if_icmp .ne 11, 3) := by decide +kernel
theorem dX9_doStatement_57 : decode cX9_doStatement 57 = .ok (.aload_n 0, 1) := by decide +kernel
theorem dX9_doStatement_58 : decode cX9_doStatement 58 = .ok (.iload_n 1, 1) := by decide +kernel
theorem dX9_doStatement_59 : decode cX9_doStatement 59 = .ok (.invokevirtual 418, 3) := by decide +kernel
theorem dX9_doStatement_62 : decode cX9_doStatement 62 = .ok (.goto 8, 3) := by decide +kernel
theorem dX9_doStatement_65 : decode cX9_doStatement 65 = .ok (.aload_n 0, 1) := by decide +kernel
theorem dX9_doStatement_66 : decode cX9_doStatement 66 = .ok (.iload_n 1, 1) := by decide +kernel
theorem dX9_doStatement_67 : decode cX9_doStatement 67 = .ok (.invokevirtual 421, 3) := by decide +kernel
theorem dX9_doStatement_70 : decode cX9_doStatement 70 = .ok (.istore_n 3, 1) := by decide +kernel
theorem dX9_doStatement_71 : decode cX9_doStatement 71 = .ok (.iload_n 3, 1) := by decide +kernel
theorem dX9_doStatement_72 : decode cX9_doStatement 72 = .ok (.ifCond .le 9, 3) := by decide +kernel
theorem dX9_doStatement_75 : decode cX9_doStatement 75 = .ok (.aload_n 0, 1) := by decide +kernel
theorem dX9_doStatement_76 : decode cX9_doStatement 76 = .ok (.iload_n 3, 1) := by decide +kernel
theorem dX9_doStatement_77 : decode cX9_doStatement 77 = .ok (.putfield 399, 3) := by decide +kernel
theorem dX9_doStatement_80 : decode cX9_doStatement 80 = .ok (.return_, 1) := by decide +kernel
theorem dX9_doStatement_81 : decode cX9_doStatement 81 = .ok (.iload_n 3, 1) := by decide +kernel
theorem dX9_doStatement_82 : decode cX9_doStatement 82 = .ok (.iconst (-1), 1) := by decide +kernel
theorem dX9_doStatement_83 : decode cX9_doStatement 83 = .ok (.if_icmp .ne 25, 3) := by decide +kernel
theorem dX9_doStatement_86 : decode cX9_doStatement 86 = .ok (.aload_n 0, 1) := by decide +kernel
theorem dX9_doStatement_87 : decode cX9_doStatement 87 = .ok (.getfield 132, 3) := by decide +kernel
theorem dX9_doStatement_90 : decode cX9_doStatement 90 = .ok (.iload_n 1, 1) := by decide +kernel
theorem dX9_doStatement_91 : decode cX9_doStatement 91 = .ok (.dup2, 1) := by decide +kernel
theorem dX9_doStatement_92 : decode cX9_doStatement 92 = .ok (.iaload, 1) := by decide +kernel
theorem dX9_doStatement_93 : decode cX9_doStatement 93 = .ok (.iconst 1, 1) := by decide +kernel
theorem dX9_doStatement_94 : decode cX9_doStatement 94 = .ok (.iadd, 1) := by decide +kernel
theorem dX9_doStatement_95 : decode cX9_doStatement 95 = .ok (.iastore, 1) := by decide +kernel
theorem dX9_doStatement_96 : decode cX9_doStatement 96 = .ok (.aload_n 0, 1) := by decide +kernel
theorem dX9_doStatement_97 : decode cX9_doStatement 97 = .ok (.iload_n 1, 1) := by decide +kernel
theorem dX9_doStatement_98 : decode cX9_doStatement 98 = .ok (.aload_n 0, 1) := by decide +kernel
theorem dX9_doStatement_99 : decode cX9_doStatement 99 = .ok (.getfield 111, 3) := by decide +kernel
theorem dX9_doStatement_102 : decode cX9_doStatement 102 = .ok (.iload_n 1, 1) := by decide +kernel
theorem dX9_doStatement_103 : decode cX9_doStatement 103 = .ok (.iaload, 1) := by decide +kernel
theorem dX9_doStatement_104 : decode cX9_doStatement 104 = .ok (.invokevirtual 424, 3) := by decide +kernel
theorem dX9_doStatement_107 : decode cX9_doStatement 107 = .ok (.return_, 1) := by decide +kernel
theorem dX9_doStatement_108 : decode cX9_doStatement 108 = .ok (.iload_n 2, 1) := by decide +kernel
theorem dX9_doStatement_109 : decode cX9_doStatement 109 = .ok (.bipush 99, 2) := by decide +kernel
theorem dX9_doStatement_111 : decode cX9_doStatement 111 = .ok (.if_icmp .ne 40, 3) := by decide +kernel
theorem dX9_doStatement_114 : decode cX9_doStatement 114 = .ok (.aload_n 0, 1) := by decide +kernel
theorem dX9_doStatement_115 : decode cX9_doStatement 115 = .ok (.aload_n 0, 1) := by decide +kernel
theorem dX9_doStatement_116 : decode cX9_doStatement 116 = .ok (.getfield 117, 3) := by decide +kernel
theorem dX9_doStatement_119 : decode cX9_doStatement 119 = .ok (.aload_n 0, 1) := by decide +kernel
theorem dX9_doStatement_120 : decode cX9_doStatement 120 = .ok (.getfield 102, 3) := by decide +kernel
theorem dX9_doStatement_123 : decode cX9_doStatement 123 = .ok (.iload_n 1, 1) := by decide +kernel
theorem dX9_doStatement_124 : decode cX9_doStatement 124 = .ok (.iaload, 1) := by decide +kernel
theorem dX9_doStatement_125 : decode cX9_doStatement 125 = .ok (.iaload, 1) := by decide +kernel
theorem dX9_doStatement_126 : decode cX9_doStatement 126 = .ok (.putfield 409, 3) := by decide +kernel
theorem dX9_doStatement_129 : decode cX9_doStatement 129 = .ok (.aload_n 0, 1) := by decide +kernel
theorem dX9_doStatement_130 : decode cX9_doStatement 130 = .ok (.aload_n 0, 1) := by decide +kernel
theorem dX9_doStatement_131 : decode cX9_doStatement 131 = .ok (.getfield 409, 3) := by decide +kernel
theorem dX9_doStatement_134 : decode cX9_doStatement 134 = .ok (.aload_n 0, 1) := by decide +kernel
theorem dX9_doStatement_135 : decode cX9_doStatement 135 = .ok (.getfield 356, 3) := by decide +kernel
theorem dX9_doStatement_138 : decode cX9_doStatement 138 = .ok (.if_icmp .lt 8, 3) := by decide +kernel
theorem dX9_doStatement_141 : decode cX9_doStatement 141 = .ok (.bipush 7, 2) := by decide +kernel
theorem dX9_doStatement_143 : decode cX9_doStatement 143 = .ok (.goto 4, 3) := by decide +kernel
theorem dX9_doStatement_146 : decode cX9_doStatement 146 = .ok (.iconst 0, 1) := by decide +kernel
theorem dX9_doStatement_147 : decode cX9_doStatement 147 = .ok (.putfield 399, 3) := by decide +kernel
theorem dX9_doStatement_150 : decode cX9_doStatement 150 = .ok (.return_, 1) := by decide +kernel
theorem dX9_doStatement_151 : decode cX9_doStatement 151 = .ok (.iload_n 2, 1) := by decide +kernel
theorem dX9_doStatement_152 : decode cX9_doStatement 152 = .ok (.bipush 97, 2) := by decide +kernel
theorem dX9_doStatement_154 : decode cX9_doStatement 154 = .ok (.if_icmp .ne 19, 3) := by decide +kernel
theorem dX9_doStatement_157 : decode cX9_doStatement 157 = .ok (.aload_n 0, 1) := by decide +kernel
theorem dX9_doStatement_158 : decode cX9_doStatement 158 = .ok (.aload_n 0, 1) := by decide +kernel
theorem dX9_doStatement_159 : decode cX9_doStatement 159 = .ok (.getfield 99, 3) := by decide +kernel
theorem dX9_doStatement_162 : decode cX9_doStatement 162 = .ok (.iload_n 1, 1) := by decide +kernel
theorem dX9_doStatement_163 : decode cX9_doStatement 163 = .ok (.iaload, 1) := by decide +kernel
theorem dX9_doStatement_164 : decode cX9_doStatement 164 = .ok (.aload_n 0, 1) := by decide +kernel
theorem dX9_doStatement_165 : decode cX9_doStatement 165 = .ok (.getfield 105, 3) := by decide +kernel
theorem dX9_doStatement_168 : decode cX9_doStatement 168 = .ok (.iload_n 1, 1) := by decide +kernel
theorem dX9_doStatement_169 : decode cX9_doStatement 169 = .ok (.iaload, 1) := by decide +kernel
theorem dX9_doStatement_170 : decode cX9_doStatement 170 = .ok (.invokevirtual 390, 3) := by decide +kernel
theorem dX9_doStatement_173 : decode cX9_doStatement 173 = .ok (.aload_n 0, 1) := by decide +kernel
theorem dX9_doStatement_174 : decode cX9_doStatement 174 = .ok (.iload_n 1, 1) := by decide +kernel
theorem dX9_doStatement_175 : decode cX9_doStatement 175 = .ok (.aload_n 0, 1) := by decide +kernel
theorem dX9_doStatement_176 : decode cX9_doStatement 176 = .ok (.getfield 108, 3) := by decide +kernel
theorem dX9_doStatement_179 : decode cX9_doStatement 179 = .ok (.iload_n 1, 1) := by decide +kernel
theorem dX9_doStatement_180 : decode cX9_doStatement 180 = .ok (.iaload, 1) := by decide +kernel
theorem dX9_doStatement_181 : decode cX9_doStatement 181 = .ok (.invokevirtual 424, 3) := by decide +kernel
theorem dX9_doStatement_184 : decode cX9_doStatement 184 = .ok (.return_, 1) := by decide +kernel
theorem dX9_run_0 : decode cX9_run 0 = .ok (.aload_n 0, 1) := by decide +kernel
theorem dX9_run_1 : decode cX9_run 1 = .ok (.iconst 0, 1) := by decide +kernel
theorem dX9_run_2 : decode cX9_run 2 = .ok (.putfield 159, 3) := by decide +kernel
theorem dX9_run_5 : decode cX9_run 5 = .ok (.aload_n 0, 1) := by decide +kernel
theorem dX9_run_6 : decode cX9_run 6 = .ok (.iload_n 2, 1) := by decide +kernel
theorem dX9_run_7 : decode cX9_run 7 = .ok (.i2l, 1) := by decide +kernel
theorem dX9_run_8 : decode cX9_run 8 = .ok (.lconst 1, 1) := by decide +kernel
theorem dX9_run_9 : decode cX9_run 9 = .ok (.ldc2_w 427, 3) := by decide +kernel
theorem dX9_run_12 : decode cX9_run 12 = .ok (.invokestatic 167, 3) := by decide +kernel
theorem dX9_run_15 : decode cX9_run 15 = .ok (.ifCond .ne 7, 3) := by decide +kernel
theorem dX9_run_18 : decode cX9_run 18 = .ok (.iconst 1, 1) := by decide +kernel
theorem dX9_run_19 : decode cX9_run 19 = .ok (.goto 4, 3) := by decide +kernel
theorem dX9_run_22 : decode cX9_run 22 = .ok (.iconst 0, 1) := by decide +kernel
theorem dX9_run_23 : decode cX9_run 23 = .ok (.iconst 1, 1) := by decide +kernel
theorem dX9_run_24 : decode cX9_run 24 = .ok (.invokevirtual 175, 3) := by decide +kernel
theorem dX9_run_27 : decode cX9_run 27 = .ok (.ifCond .ne 32, 3) := by decide +kernel
theorem dX9_run_30 : decode cX9_run 30 = .ok (.aload_n 0, 1) := by decide +kernel
theorem dX9_run_31 : decode cX9_run 31 = .ok (.iload_n 1, 1) := by decide +kernel
theorem dX9_run_32 : decode cX9_run 32 = .ok (.i2l, 1) := by decide +kernel
theorem dX9_run_33 : decode cX9_run 33 = .ok (.lconst 0, 1) := by decide +kernel
theorem dX9_run_34 : decode cX9_run 34 = .ok (.aload_n 0, 1) := by decide +kernel
theorem dX9_run_35 : decode cX9_run 35 = .ok (.getfield 356, 3) := by decide +kernel
theorem dX9_run_38 : decode cX9_run 38 = .ok (.iconst 1, 1) := by decide +kernel
theorem dX9_run_39 : decode cX9_run 39 = .ok (.isub, 1) := by decide +kernel
theorem dX9_run_40 : decode cX9_run 40 = .ok (.i2l, 1) := by decide +kernel
theorem dX9_run_41 : decode cX9_run 41 = .ok (.invokestatic 167, 3) := by decide +kernel
theorem dX9_run_44 : decode cX9_run 44 = .ok (.ifCond .ne 7, 3) := by decide +kernel
theorem dX9_run_47 : decode cX9_run 47 = .ok (.iconst 1, 1) := by decide +kernel
theorem dX9_run_48 : decode cX9_run 48 = .ok (.goto 4, 3) := by decide +kernel
theorem dX9_run_51 : decode cX9_run 51 = .ok (.iconst 0, 1) := by decide +kernel
theorem dX9_run_52 : decode cX9_run 52 = .ok (.iconst 2, 1) := by decide +kernel
theorem dX9_run_53 : decode cX9_run 53 = .ok (.invokevirtual 175, 3) := by decide +kernel
theorem dX9_run_56 : decode cX9_run 56 = .ok (.ifCond .eq 6, 3) := by decide +kernel
theorem dX9_run_59 : decode cX9_run 59 = .ok (.bipush 32, 2) := by decide +kernel
theorem dX9_run_61 : decode cX9_run 61 = .ok (.ireturn, 1) := by decide +kernel
theorem dX9_run_62 : decode cX9_run 62 = .ok (.iconst 0, 1) := by decide +kernel
theorem dX9_run_63 : decode cX9_run 63 = .ok (.istore_n 3, 1) := by decide +kernel
theorem dX9_run_64 : decode cX9_run 64 = .ok (.iload_n 3, 1) := by decide +kernel
theorem dX9_run_65 : decode cX9_run 65 = .ok (.bipush 40, 2) := by decide +kernel
theorem dX9_run_67 : decode cX9_run 67 = .ok (.if_icmp .ge 23, 3) := by decide +kernel
theorem dX9_run_70 : decode cX9_run 70 = .ok (.aload_n 0, 1) := by decide +kernel
theorem dX9_run_71 : decode cX9_run 71 = .ok (.getfield 129, 3) := by decide +kernel
theorem dX9_run_74 : decode cX9_run 74 = .ok (.iload_n 3, 1) := by decide +kernel
theorem dX9_run_75 : decode cX9_run 75 = .ok (.iconst 0, 1) := by decide +kernel
theorem dX9_run_76 : decode cX9_run 76 = .ok (.iastore, 1) := by decide +kernel
theorem dX9_run_77 : decode cX9_run 77 = .ok (.aload_n 0, 1) := by decide +kernel
theorem dX9_run_78 : decode cX9_run 78 = .ok (.getfield 132, 3) := by decide +kernel
theorem dX9_run_81 : decode cX9_run 81 = .ok (.iload_n 3, 1) := by decide +kernel
theorem dX9_run_82 : decode cX9_run 82 = .ok (.iconst 0, 1) := by decide +kernel
theorem dX9_run_83 : decode cX9_run 83 = .ok (.iastore, 1) := by decide +kernel
theorem dX9_run_84 : decode cX9_run 84 = .ok (.iinc 3 1, 3) := by decide +kernel
theorem dX9_run_87 : decode cX9_run 87 = .ok (.goto (-23), 3) := by decide +kernel
theorem dX9_run_90 : decode cX9_run 90 = .ok (.aload_n 0, 1) := by decide +kernel
theorem dX9_run_91 : decode cX9_run 91 = .ok (.iconst 1, 1) := by decide +kernel
theorem dX9_run_92 : decode cX9_run 92 = .ok (.putfield 429, 3) := by decide +kernel
theorem dX9_run_95 : decode cX9_run 95 = .ok (.aload_n 0, 1) := by decide +kernel
theorem dX9_run_96 : decode cX9_run 96 = .ok (.iconst 0, 1) := by decide +kernel
theorem dX9_run_97 : decode cX9_run 97 = .ok (.putfield 412, 3) := by decide +kernel
theorem dX9_run_100 : decode cX9_run 100 = .ok (.aload_n 0, 1) := by decide +kernel
theorem dX9_run_101 : decode cX9_run 101 = .ok (.iconst 0, 1) := by decide +kernel
theorem dX9_run_102 : decode cX9_run 102 = .ok (.putfield 399, 3) := by decide +kernel
theorem dX9_run_105 : decode cX9_run 105 = .ok (.aload_n 0, 1) := by decide +kernel
theorem dX9_run_106 : decode cX9_run 106 = .ok (.iconst 0, 1) := by decide +kernel
theorem dX9_run_107 : decode cX9_run 107 = .ok (.putfield 384, 3) := by decide +kernel
theorem dX9_run_110 : decode cX9_run 110 = .ok (.aload_n 0, 1) := by decide +kernel
theorem dX9_run_111 : decode cX9_run 111 = .ok (.iload_n 1, 1) := by decide +kernel
theorem dX9_run_112 : decode cX9_run 112 = .ok (.putfield 409, 3) := by decide +kernel
theorem dX9_run_115 : decode cX9_run 115 = .ok (.aload_n 0, 1) := by decide +kernel
theorem dX9_run_116 : decode cX9_run 116 = .ok (.iconst 0, 1) := by decide +kernel
theorem dX9_run_117 : decode cX9_run 117 = .ok (.putfield 406, 3) := by decide +kernel
theorem dX9_run_120 : decode cX9_run 120 = .ok (.aload_n 0, 1) := by decide +kernel
theorem dX9_run_121 : decode cX9_run 121 = .ok (.getfield 412, 3) := by decide +kernel
theorem dX9_run_124 : decode cX9_run 124 = .ok (.iload_n 2, 1) := by decide +kernel
theorem dX9_run_125 : decode cX9_run 125 = .ok (.if_icmp .ge 28, 3) := by decide +kernel
theorem dX9_run_128 : decode cX9_run 128 = .ok (.aload_n 0, 1) := by decide +kernel
theorem dX9_run_129 : decode cX9_run 129 = .ok (.getfield 406, 3) := by decide +kernel
theorem dX9_run_132 : decode cX9_run 132 = .ok (.ifCond .ne 21, 3) := by decide +kernel
theorem dX9_run_135 : decode cX9_run 135 = .ok (.aload_n 0, 1) := by decide +kernel
theorem dX9_run_136 : decode cX9_run 136 = .ok (.getfield 399, 3) := by decide +kernel
theorem dX9_run_139 : decode cX9_run 139 = .ok (.ifCond .ne 14, 3) := by decide +kernel
theorem dX9_run_142 : decode cX9_run 142 = .ok (.aload_n 0, 1) := by decide +kernel
theorem dX9_run_143 : decode cX9_run 143 = .ok (.aload_n 0, 1) := by decide +kernel
theorem dX9_run_144 : decode cX9_run 144 = .ok (.getfield 409, 3) := by decide +kernel
theorem dX9_run_147 : decode cX9_run 147 = .ok (.invokevirtual 432, 3) := by decide +kernel
theorem dX9_run_150 : decode cX9_run 150 = .ok (.goto (-30), 3) := by decide +kernel
theorem dX9_run_153 : decode cX9_run 153 = .ok (.aload_n 0, 1) := by decide +kernel
theorem dX9_run_154 : decode cX9_run 154 = .ok (.getfield 399, 3) := by decide +kernel
theorem dX9_run_157 : decode cX9_run 157 = .ok (.ifCond .le 8, 3) := by decide +kernel
theorem dX9_run_160 : decode cX9_run 160 = .ok (.bipush 120, 2) := by decide +kernel
theorem dX9_run_162 : decode cX9_run 162 = .ok (.goto 17, 3) := by decide +kernel
theorem dX9_run_165 : decode cX9_run 165 = .ok (.aload_n 0, 1) := by decide +kernel
theorem dX9_run_166 : decode cX9_run 166 = .ok (.getfield 406, 3) := by decide +kernel
theorem dX9_run_169 : decode cX9_run 169 = .ok (.ifCond .eq 8, 3) := by decide +kernel
theorem dX9_run_172 : decode cX9_run 172 = .ok (.bipush 100, 2) := by decide +kernel
theorem dX9_run_174 : decode cX9_run 174 = .ok (.goto 5, 3) := by decide +kernel
theorem dX9_run_177 : decode cX9_run 177 = .ok (.bipush 108, 2) := by decide +kernel
theorem dX9_run_179 : decode cX9_run 179 = .ok (.ireturn, 1) := by decide +kernel
theorem dX9_noRun_0 : decode cX9_noRun 0 = .ok (.aload_n 0, 1) := by decide +kernel
theorem dX9_noRun_1 : decode cX9_noRun 1 = .ok (.aload_n 0, 1) := by decide +kernel
theorem dX9_noRun_2 : decode cX9_noRun 2 = .ok (.getfield 429, 3) := by decide +kernel
theorem dX9_noRun_5 : decode cX9_noRun 5 = .ok (.ifCond .ne 7, 3) := by decide +kernel
theorem dX9_noRun_8 : decode cX9_noRun 8 = .ok (.iconst 1, 1) := by decide +kernel
theorem dX9_noRun_9 : decode cX9_noRun 9 = .ok (.goto 4, 3) := by decide +kernel
theorem dX9_noRun_12 : decode cX9_noRun 12 = .ok (.iconst 0, 1) := by decide +kernel
theorem dX9_noRun_13 : decode cX9_noRun 13 = .ok (.iconst 1, 1) := by decide +kernel
theorem dX9_noRun_14 : decode cX9_noRun 14 = .ok (.invokevirtual 175, 3) := by decide +kernel
theorem dX9_noRun_17 : decode cX9_noRun 17 = .ok (.ireturn, 1) := by decide +kernel
theorem dX9_error_0 : decode cX9_error 0 = .ok (.aload_n 0, 1) := by decide +kernel
theorem dX9_error_1 : decode cX9_error 1 = .ok (.iconst 0, 1) := by decide +kernel
theorem dX9_error_2 : decode cX9_error 2 = .ok (.putfield 159, 3) := by decide +kernel
theorem dX9_error_5 : decode cX9_error 5 = .ok (.aload_n 0, 1) := by decide +kernel
theorem dX9_error_6 : decode cX9_error 6 = .ok (.invokevirtual 435, 3) := by decide +kernel
theorem dX9_error_9 : decode cX9_error 9 = .ok (.ifCond .ne 23, 3) := by decide +kernel
theorem dX9_error_12 : decode cX9_error 12 = .ok (.aload_n 0, 1) := by decide +kernel
theorem dX9_error_13 : decode cX9_error 13 = .ok (.aload_n 0, 1) := by decide +kernel
theorem dX9_error_14 : decode cX9_error 14 = .ok (.getfield 399, 3) := by decide +kernel
theorem dX9_error_17 : decode cX9_error 17 = .ok (.ifCond .ne 7, 3) := by decide +kernel
theorem dX9_error_20 : decode cX9_error 20 = .ok (.iconst 1, 1) := by decide +kernel
theorem dX9_error_21 : decode cX9_error 21 = .ok (.goto 4, 3) := by decide +kernel
theorem dX9_error_24 : decode cX9_error 24 = .ok (.iconst 0, 1) := by decide +kernel
theorem dX9_error_25 : decode cX9_error 25 = .ok (.iconst 2, 1) := by decide +kernel
theorem dX9_error_26 : decode cX9_error 26 = .ok (.invokevirtual 175, 3) := by decide +kernel
theorem dX9_error_29 : decode cX9_error 29 = .ok (.ifCond .eq 7, 3) := by decide +kernel
theorem dX9_error_32 : decode cX9_error 32 = .ok (.iconst (-1), 1) := by decide +kernel
theorem dX9_error_33 : decode cX9_error 33 = .ok (.goto 7, 3) := by decide +kernel
theorem dX9_error_36 : decode cX9_error 36 = .ok (.aload_n 0, 1) := by decide +kernel
theorem dX9_error_37 : decode cX9_error 37 = .ok (.getfield 399, 3) := by decide +kernel
theorem dX9_error_40 : decode cX9_error 40 = .ok (.ireturn, 1) := by decide +kernel
theorem dX9_last_0 : decode cX9_last 0 = .ok (.aload_n 0, 1) := by decide +kernel
theorem dX9_last_1 : decode cX9_last 1 = .ok (.iconst 0, 1) := by decide +kernel
theorem dX9_last_2 : decode cX9_last 2 = .ok (.putfield 159, 3) := by decide +kernel
theorem dX9_last_5 : decode cX9_last 5 = .ok (.aload_n 0, 1) := by decide +kernel
theorem dX9_last_6 : decode cX9_last 6 = .ok (.invokevirtual 435, 3) := by decide +kernel
theorem dX9_last_9 : decode cX9_last 9 = .ok (.ifCond .eq 7, 3) := by decide +kernel
theorem dX9_last_12 : decode cX9_last 12 = .ok (.iconst (-1), 1) := by decide +kernel
theorem dX9_last_13 : decode cX9_last 13 = .ok (.goto 7, 3) := by decide +kernel
theorem dX9_last_16 : decode cX9_last 16 = .ok (.aload_n 0, 1) := by decide +kernel
theorem dX9_last_17 : decode cX9_last 17 = .ok (.getfield 415, 3) := by decide +kernel
theorem dX9_last_20 : decode cX9_last 20 = .ok (.ireturn, 1) := by decide +kernel
theorem dX9_steps_0 : decode cX9_steps 0 = .ok (.aload_n 0, 1) := by decide +kernel
theorem dX9_steps_1 : decode cX9_steps 1 = .ok (.iconst 0, 1) := by decide +kernel
theorem dX9_steps_2 : decode cX9_steps 2 = .ok (.putfield 159, 3) := by decide +kernel
theorem dX9_steps_5 : decode cX9_steps 5 = .ok (.aload_n 0, 1) := by decide +kernel
theorem dX9_steps_6 : decode cX9_steps 6 = .ok (.invokevirtual 435, 3) := by decide +kernel
theorem dX9_steps_9 : decode cX9_steps 9 = .ok (.ifCond .eq 7, 3) := by decide +kernel
theorem dX9_steps_12 : decode cX9_steps 12 = .ok (.iconst (-1), 1) := by decide +kernel
theorem dX9_steps_13 : decode cX9_steps 13 = .ok (.goto 7, 3) := by decide +kernel
theorem dX9_steps_16 : decode cX9_steps 16 = .ok (.aload_n 0, 1) := by decide +kernel
theorem dX9_steps_17 : decode cX9_steps 17 = .ok (.getfield 412, 3) := by decide +kernel
theorem dX9_steps_20 : decode cX9_steps 20 = .ok (.ireturn, 1) := by decide +kernel
theorem dX9_done_0 : decode cX9_done 0 = .ok (.aload_n 0, 1) := by decide +kernel
theorem dX9_done_1 : decode cX9_done 1 = .ok (.iconst 0, 1) := by decide +kernel
theorem dX9_done_2 : decode cX9_done 2 = .ok (.putfield 159, 3) := by decide +kernel
theorem dX9_done_5 : decode cX9_done 5 = .ok (.aload_n 0, 1) := by decide +kernel
theorem dX9_done_6 : decode cX9_done 6 = .ok (.invokevirtual 435, 3) := by decide +kernel
theorem dX9_done_9 : decode cX9_done 9 = .ok (.ifCond .ne 32, 3) := by decide +kernel
theorem dX9_done_12 : decode cX9_done 12 = .ok (.aload_n 0, 1) := by decide +kernel
theorem dX9_done_13 : decode cX9_done 13 = .ok (.iload_n 1, 1) := by decide +kernel
theorem dX9_done_14 : decode cX9_done 14 = .ok (.i2l, 1) := by decide +kernel
theorem dX9_done_15 : decode cX9_done 15 = .ok (.lconst 0, 1) := by decide +kernel
theorem dX9_done_16 : decode cX9_done 16 = .ok (.aload_n 0, 1) := by decide +kernel
theorem dX9_done_17 : decode cX9_done 17 = .ok (.getfield 356, 3) := by decide +kernel
theorem dX9_done_20 : decode cX9_done 20 = .ok (.iconst 1, 1) := by decide +kernel
theorem dX9_done_21 : decode cX9_done 21 = .ok (.isub, 1) := by decide +kernel
theorem dX9_done_22 : decode cX9_done 22 = .ok (.i2l, 1) := by decide +kernel
theorem dX9_done_23 : decode cX9_done 23 = .ok (.invokestatic 167, 3) := by decide +kernel
theorem dX9_done_26 : decode cX9_done 26 = .ok (.ifCond .ne 7, 3) := by decide +kernel
theorem dX9_done_29 : decode cX9_done 29 = .ok (.iconst 1, 1) := by decide +kernel
theorem dX9_done_30 : decode cX9_done 30 = .ok (.goto 4, 3) := by decide +kernel
theorem dX9_done_33 : decode cX9_done 33 = .ok (.iconst 0, 1) := by decide +kernel
theorem dX9_done_34 : decode cX9_done 34 = .ok (.iconst 2, 1) := by decide +kernel
theorem dX9_done_35 : decode cX9_done 35 = .ok (.invokevirtual 175, 3) := by decide +kernel
theorem dX9_done_38 : decode cX9_done 38 = .ok (.ifCond .eq 7, 3) := by decide +kernel
theorem dX9_done_41 : decode cX9_done 41 = .ok (.iconst (-1), 1) := by decide +kernel
theorem dX9_done_42 : decode cX9_done 42 = .ok (.goto 9, 3) := by decide +kernel
theorem dX9_done_45 : decode cX9_done 45 = .ok (.aload_n 0, 1) := by decide +kernel
theorem dX9_done_46 : decode cX9_done 46 = .ok (.getfield 129, 3) := by decide +kernel
theorem dX9_done_49 : decode cX9_done 49 = .ok (.iload_n 1, 1) := by decide +kernel
theorem dX9_done_50 : decode cX9_done 50 = .ok (.iaload, 1) := by decide +kernel
theorem dX9_done_51 : decode cX9_done 51 = .ok (.ireturn, 1) := by decide +kernel
theorem dX9_failed_0 : decode cX9_failed 0 = .ok (.aload_n 0, 1) := by decide +kernel
theorem dX9_failed_1 : decode cX9_failed 1 = .ok (.iconst 0, 1) := by decide +kernel
theorem dX9_failed_2 : decode cX9_failed 2 = .ok (.putfield 159, 3) := by decide +kernel
theorem dX9_failed_5 : decode cX9_failed 5 = .ok (.aload_n 0, 1) := by decide +kernel
theorem dX9_failed_6 : decode cX9_failed 6 = .ok (.invokevirtual 435, 3) := by decide +kernel
theorem dX9_failed_9 : decode cX9_failed 9 = .ok (.ifCond .ne 32, 3) := by decide +kernel
theorem dX9_failed_12 : decode cX9_failed 12 = .ok (.aload_n 0, 1) := by decide +kernel
theorem dX9_failed_13 : decode cX9_failed 13 = .ok (.iload_n 1, 1) := by decide +kernel
theorem dX9_failed_14 : decode cX9_failed 14 = .ok (.i2l, 1) := by decide +kernel
theorem dX9_failed_15 : decode cX9_failed 15 = .ok (.lconst 0, 1) := by decide +kernel
theorem dX9_failed_16 : decode cX9_failed 16 = .ok (.aload_n 0, 1) := by decide +kernel
theorem dX9_failed_17 : decode cX9_failed 17 = .ok (.getfield 356, 3) := by decide +kernel
theorem dX9_failed_20 : decode cX9_failed 20 = .ok (.iconst 1, 1) := by decide +kernel
theorem dX9_failed_21 : decode cX9_failed 21 = .ok (.isub, 1) := by decide +kernel
theorem dX9_failed_22 : decode cX9_failed 22 = .ok (.i2l, 1) := by decide +kernel
theorem dX9_failed_23 : decode cX9_failed 23 = .ok (.invokestatic 167, 3) := by decide +kernel
theorem dX9_failed_26 : decode cX9_failed 26 = .ok (.ifCond .ne 7, 3) := by decide +kernel
theorem dX9_failed_29 : decode cX9_failed 29 = .ok (.iconst 1, 1) := by decide +kernel
theorem dX9_failed_30 : decode cX9_failed 30 = .ok (.goto 4, 3) := by decide +kernel
theorem dX9_failed_33 : decode cX9_failed 33 = .ok (.iconst 0, 1) := by decide +kernel
theorem dX9_failed_34 : decode cX9_failed 34 = .ok (.iconst 2, 1) := by decide +kernel
theorem dX9_failed_35 : decode cX9_failed 35 = .ok (.invokevirtual 175, 3) := by decide +kernel
theorem dX9_failed_38 : decode cX9_failed 38 = .ok (.ifCond .eq 7, 3) := by decide +kernel
theorem dX9_failed_41 : decode cX9_failed 41 = .ok (.iconst (-1), 1) := by decide +kernel
theorem dX9_failed_42 : decode cX9_failed 42 = .ok (.goto 9, 3) := by decide +kernel
theorem dX9_failed_45 : decode cX9_failed 45 = .ok (.aload_n 0, 1) := by decide +kernel
theorem dX9_failed_46 : decode cX9_failed 46 = .ok (.getfield 132, 3) := by decide +kernel
theorem dX9_failed_49 : decode cX9_failed 49 = .ok (.iload_n 1, 1) := by decide +kernel
theorem dX9_failed_50 : decode cX9_failed 50 = .ok (.iaload, 1) := by decide +kernel
theorem dX9_failed_51 : decode cX9_failed 51 = .ok (.ireturn, 1) := by decide +kernel
theorem dX9_depth_0 : decode cX9_depth 0 = .ok (.aload_n 0, 1) := by decide +kernel
theorem dX9_depth_1 : decode cX9_depth 1 = .ok (.iconst 0, 1) := by decide +kernel
theorem dX9_depth_2 : decode cX9_depth 2 = .ok (.putfield 159, 3) := by decide +kernel
theorem dX9_depth_5 : decode cX9_depth 5 = .ok (.aload_n 0, 1) := by decide +kernel
theorem dX9_depth_6 : decode cX9_depth 6 = .ok (.invokevirtual 435, 3) := by decide +kernel
theorem dX9_depth_9 : decode cX9_depth 9 = .ok (.ifCond .eq 7, 3) := by decide +kernel
theorem dX9_depth_12 : decode cX9_depth 12 = .ok (.iconst (-1), 1) := by decide +kernel
theorem dX9_depth_13 : decode cX9_depth 13 = .ok (.goto 7, 3) := by decide +kernel
theorem dX9_depth_16 : decode cX9_depth 16 = .ok (.aload_n 0, 1) := by decide +kernel
theorem dX9_depth_17 : decode cX9_depth 17 = .ok (.getfield 384, 3) := by decide +kernel
theorem dX9_depth_20 : decode cX9_depth 20 = .ok (.ireturn, 1) := by decide +kernel
theorem dX9_spare_0 : decode cX9_spare 0 = .ok (.iconst 0, 1) := by decide +kernel
theorem dX9_spare_1 : decode cX9_spare 1 = .ok (.istore_n 1, 1) := by decide +kernel
theorem dX9_spare_2 : decode cX9_spare 2 = .ok (.iload_n 1, 1) := by decide +kernel
theorem dX9_spare_3 : decode cX9_spare 3 = .ok (.sipush 1560, 3) := by decide +kernel
theorem dX9_spare_6 : decode cX9_spare 6 = .ok (.if_icmp .ge 21, 3) := by decide +kernel
theorem dX9_spare_9 : decode cX9_spare 9 = .ok (.aload_n 0, 1) := by decide +kernel
theorem dX9_spare_10 : decode cX9_spare 10 = .ok (.getfield 150, 3) := by decide +kernel
theorem dX9_spare_13 : decode cX9_spare 13 = .ok (.iload_n 1, 1) := by decide +kernel
theorem dX9_spare_14 : decode cX9_spare 14 = .ok (.aload_n 0, 1) := by decide +kernel
theorem dX9_spare_15 : decode cX9_spare 15 = .ok (.getfield 19, 3) := by decide +kernel
theorem dX9_spare_18 : decode cX9_spare 18 = .ok (.iload_n 1, 1) := by decide +kernel
theorem dX9_spare_19 : decode cX9_spare 19 = .ok (.iaload, 1) := by decide +kernel
theorem dX9_spare_20 : decode cX9_spare 20 = .ok (.iastore, 1) := by decide +kernel
theorem dX9_spare_21 : decode cX9_spare 21 = .ok (.iinc 1 1, 3) := by decide +kernel
theorem dX9_spare_24 : decode cX9_spare 24 = .ok (.goto (-22), 3) := by decide +kernel
theorem dX9_spare_27 : decode cX9_spare 27 = .ok (.iconst 0, 1) := by decide +kernel
theorem dX9_spare_28 : decode cX9_spare 28 = .ok (.istore_n 1, 1) := by decide +kernel
theorem dX9_spare_29 : decode cX9_spare 29 = .ok (.iload_n 1, 1) := by decide +kernel
theorem dX9_spare_30 : decode cX9_spare 30 = .ok (.bipush 26, 2) := by decide +kernel
theorem dX9_spare_32 : decode cX9_spare 32 = .ok (.if_icmp .ge 21, 3) := by decide +kernel
theorem dX9_spare_35 : decode cX9_spare 35 = .ok (.aload_n 0, 1) := by decide +kernel
theorem dX9_spare_36 : decode cX9_spare 36 = .ok (.getfield 153, 3) := by decide +kernel
theorem dX9_spare_39 : decode cX9_spare 39 = .ok (.iload_n 1, 1) := by decide +kernel
theorem dX9_spare_40 : decode cX9_spare 40 = .ok (.aload_n 0, 1) := by decide +kernel
theorem dX9_spare_41 : decode cX9_spare 41 = .ok (.getfield 22, 3) := by decide +kernel
theorem dX9_spare_44 : decode cX9_spare 44 = .ok (.iload_n 1, 1) := by decide +kernel
theorem dX9_spare_45 : decode cX9_spare 45 = .ok (.iaload, 1) := by decide +kernel
theorem dX9_spare_46 : decode cX9_spare 46 = .ok (.iastore, 1) := by decide +kernel
theorem dX9_spare_47 : decode cX9_spare 47 = .ok (.iinc 1 1, 3) := by decide +kernel
theorem dX9_spare_50 : decode cX9_spare 50 = .ok (.goto (-21), 3) := by decide +kernel
theorem dX9_spare_53 : decode cX9_spare 53 = .ok (.return_, 1) := by decide +kernel
theorem dX9_unspare_0 : decode cX9_unspare 0 = .ok (.iconst 0, 1) := by decide +kernel
theorem dX9_unspare_1 : decode cX9_unspare 1 = .ok (.istore_n 1, 1) := by decide +kernel
theorem dX9_unspare_2 : decode cX9_unspare 2 = .ok (.iload_n 1, 1) := by decide +kernel
theorem dX9_unspare_3 : decode cX9_unspare 3 = .ok (.sipush 1560, 3) := by decide +kernel
theorem dX9_unspare_6 : decode cX9_unspare 6 = .ok (.if_icmp .ge 21, 3) := by decide +kernel
theorem dX9_unspare_9 : decode cX9_unspare 9 = .ok (.aload_n 0, 1) := by decide +kernel
theorem dX9_unspare_10 : decode cX9_unspare 10 = .ok (.getfield 19, 3) := by decide +kernel
theorem dX9_unspare_13 : decode cX9_unspare 13 = .ok (.iload_n 1, 1) := by decide +kernel
theorem dX9_unspare_14 : decode cX9_unspare 14 = .ok (.aload_n 0, 1) := by decide +kernel
theorem dX9_unspare_15 : decode cX9_unspare 15 = .ok (.getfield 150, 3) := by decide +kernel
theorem dX9_unspare_18 : decode cX9_unspare 18 = .ok (.iload_n 1, 1) := by decide +kernel
theorem dX9_unspare_19 : decode cX9_unspare 19 = .ok (.iaload, 1) := by decide +kernel
theorem dX9_unspare_20 : decode cX9_unspare 20 = .ok (.iastore, 1) := by decide +kernel
theorem dX9_unspare_21 : decode cX9_unspare 21 = .ok (.iinc 1 1, 3) := by decide +kernel
theorem dX9_unspare_24 : decode cX9_unspare 24 = .ok (.goto (-22), 3) := by decide +kernel
theorem dX9_unspare_27 : decode cX9_unspare 27 = .ok (.iconst 0, 1) := by decide +kernel
theorem dX9_unspare_28 : decode cX9_unspare 28 = .ok (.istore_n 1, 1) := by decide +kernel
theorem dX9_unspare_29 : decode cX9_unspare 29 = .ok (.iload_n 1, 1) := by decide +kernel
theorem dX9_unspare_30 : decode cX9_unspare 30 = .ok (.bipush 26, 2) := by decide +kernel
theorem dX9_unspare_32 : decode cX9_unspare 32 = .ok (.if_icmp .ge 21, 3) := by decide +kernel
theorem dX9_unspare_35 : decode cX9_unspare 35 = .ok (.aload_n 0, 1) := by decide +kernel
theorem dX9_unspare_36 : decode cX9_unspare 36 = .ok (.getfield 22, 3) := by decide +kernel
theorem dX9_unspare_39 : decode cX9_unspare 39 = .ok (.iload_n 1, 1) := by decide +kernel
theorem dX9_unspare_40 : decode cX9_unspare 40 = .ok (.aload_n 0, 1) := by decide +kernel
theorem dX9_unspare_41 : decode cX9_unspare 41 = .ok (.getfield 153, 3) := by decide +kernel
theorem dX9_unspare_44 : decode cX9_unspare 44 = .ok (.iload_n 1, 1) := by decide +kernel
theorem dX9_unspare_45 : decode cX9_unspare 45 = .ok (.iaload, 1) := by decide +kernel
theorem dX9_unspare_46 : decode cX9_unspare 46 = .ok (.iastore, 1) := by decide +kernel
theorem dX9_unspare_47 : decode cX9_unspare 47 = .ok (.iinc 1 1, 3) := by decide +kernel
theorem dX9_unspare_50 : decode cX9_unspare 50 = .ok (.goto (-21), 3) := by decide +kernel
theorem dX9_unspare_53 : decode cX9_unspare 53 = .ok (.return_, 1) := by decide +kernel
theorem dX9_takeTyped_0 : decode cX9_takeTyped 0 = .ok (.aload_n 0, 1) := by decide +kernel
theorem dX9_takeTyped_1 : decode cX9_takeTyped 1 = .ok (.aload_n 0, 1) := by decide +kernel
theorem dX9_takeTyped_2 : decode cX9_takeTyped 2 = .ok (.getfield 179, 3) := by decide +kernel
theorem dX9_takeTyped_5 : decode cX9_takeTyped 5 = .ok (.putfield 271, 3) := by decide +kernel
theorem dX9_takeTyped_8 : decode cX9_takeTyped 8 = .ok (.iconst 0, 1) := by decide +kernel
theorem dX9_takeTyped_9 : decode cX9_takeTyped 9 = .ok (.istore_n 1, 1) := by decide +kernel
theorem dX9_takeTyped_10 : decode cX9_takeTyped 10 = .ok (.iload_n 1, 1) := by decide +kernel
theorem dX9_takeTyped_11 : decode cX9_takeTyped 11 = .ok (.aload_n 0, 1) := by decide +kernel
theorem dX9_takeTyped_12 : decode cX9_takeTyped 12 = .ok (.getfield 179, 3) := by decide +kernel
theorem dX9_takeTyped_15 : decode cX9_takeTyped 15 = .ok (.if_icmp .ge 21, 3) := by decide +kernel
theorem dX9_takeTyped_18 : decode cX9_takeTyped 18 = .ok (.aload_n 0, 1) := by decide +kernel
theorem dX9_takeTyped_19 : decode cX9_takeTyped 19 = .ok (.getfield 54, 3) := by decide +kernel
theorem dX9_takeTyped_22 : decode cX9_takeTyped 22 = .ok (.iload_n 1, 1) := by decide +kernel
theorem dX9_takeTyped_23 : decode cX9_takeTyped 23 = .ok (.aload_n 0, 1) := by decide +kernel
theorem dX9_takeTyped_24 : decode cX9_takeTyped 24 = .ok (.getfield 7, 3) := by decide +kernel
theorem dX9_takeTyped_27 : decode cX9_takeTyped 27 = .ok (.iload_n 1, 1) := by decide +kernel
theorem dX9_takeTyped_28 : decode cX9_takeTyped 28 = .ok (.iaload, 1) := by decide +kernel
theorem dX9_takeTyped_29 : decode cX9_takeTyped 29 = .ok (.iastore, 1) := by decide +kernel
theorem dX9_takeTyped_30 : decode cX9_takeTyped 30 = .ok (.iinc 1 1, 3) := by decide +kernel
theorem dX9_takeTyped_33 : decode cX9_takeTyped 33 = .ok (.goto (-23), 3) := by decide +kernel
theorem dX9_takeTyped_36 : decode cX9_takeTyped 36 = .ok (.return_, 1) := by decide +kernel
theorem dX9_match_0 : decode cX9_match 0 = .ok (.aload_n 0, 1) := by decide +kernel
theorem dX9_match_1 : decode cX9_match 1 = .ok (.iconst 0, 1) := by decide +kernel
theorem dX9_match_2 : decode cX9_match 2 = .ok (.putfield 159, 3) := by decide +kernel
theorem dX9_match_5 : decode cX9_match 5 = .ok (.aload_n 0, 1) := by decide +kernel
theorem dX9_match_6 : decode cX9_match 6 = .ok (.aload_n 0, 1) := by decide +kernel
theorem dX9_match_7 : decode cX9_match 7 = .ok (.iload_n 1, 1) := by decide +kernel
theorem dX9_match_8 : decode cX9_match 8 = .ok (.invokevirtual 201, 3) := by decide +kernel
theorem dX9_match_11 : decode cX9_match 11 = .ok (.ifCond .ne 7, 3) := by decide +kernel
theorem dX9_match_14 : decode cX9_match 14 = .ok (.iconst 1, 1) := by decide +kernel
theorem dX9_match_15 : decode cX9_match 15 = .ok (.goto 4, 3) := by decide +kernel
theorem dX9_match_18 : decode cX9_match 18 = .ok (.iconst 0, 1) := by decide +kernel
theorem dX9_match_19 : decode cX9_match 19 = .ok (.iconst 1, 1) := by decide +kernel
theorem dX9_match_20 : decode cX9_match 20 = .ok (.invokevirtual 175, 3) := by decide +kernel
theorem dX9_match_23 : decode cX9_match 23 = .ok (.ifCond .eq 5, 3) := by decide +kernel
theorem dX9_match_26 : decode cX9_match 26 = .ok (.iconst 0, 1) := by decide +kernel
theorem dX9_match_27 : decode cX9_match 27 = .ok (.ireturn, 1) := by decide +kernel
theorem dX9_match_28 : decode cX9_match 28 = .ok (.aload_n 0, 1) := by decide +kernel
theorem dX9_match_29 : decode cX9_match 29 = .ok (.invokevirtual 438, 3) := by decide +kernel
theorem dX9_match_32 : decode cX9_match 32 = .ok (.aload_n 0, 1) := by decide +kernel
theorem dX9_match_33 : decode cX9_match 33 = .ok (.invokevirtual 441, 3) := by decide +kernel
theorem dX9_match_36 : decode cX9_match 36 = .ok (.aload_n 0, 1) := by decide +kernel
theorem dX9_match_37 : decode cX9_match 37 = .ok (.iload_n 1, 1) := by decide +kernel
theorem dX9_match_38 : decode cX9_match 38 = .ok (.invokevirtual 371, 3) := by decide +kernel
theorem dX9_match_41 : decode cX9_match 41 = .ok (.istore_n 2, 1) := by decide +kernel
theorem dX9_match_42 : decode cX9_match 42 = .ok (.iload_n 2, 1) := by decide +kernel
theorem dX9_match_43 : decode cX9_match 43 = .ok (.iconst (-1), 1) := by decide +kernel
theorem dX9_match_44 : decode cX9_match 44 = .ok (.if_icmp .ne 7, 3) := by decide +kernel
theorem dX9_match_47 : decode cX9_match 47 = .ok (.aload_n 0, 1) := by decide +kernel
theorem dX9_match_48 : decode cX9_match 48 = .ok (.invokevirtual 444, 3) := by decide +kernel
theorem dX9_match_51 : decode cX9_match 51 = .ok (.aload_n 0, 1) := by decide +kernel
theorem dX9_match_52 : decode cX9_match 52 = .ok (.iload_n 2, 1) := by decide +kernel
theorem dX9_match_53 : decode cX9_match 53 = .ok (.iconst (-1), 1) := by decide +kernel
theorem dX9_match_54 : decode cX9_match 54 = .ok (.if_icmp .ne 7, 3) := by decide +kernel
theorem dX9_match_57 : decode cX9_match 57 = .ok (.iconst 1, 1) := by decide +kernel
theorem dX9_match_58 : decode cX9_match 58 = .ok (.goto 4, 3) := by decide +kernel
theorem dX9_match_61 : decode cX9_match 61 = .ok (.iconst 0, 1) := by decide +kernel
theorem dX9_match_62 : decode cX9_match 62 = .ok (.iconst 2, 1) := by decide +kernel
theorem dX9_match_63 : decode cX9_match 63 = .ok (.invokevirtual 175, 3) := by decide +kernel
theorem dX9_match_66 : decode cX9_match 66 = .ok (.ifCond .eq 5, 3) := by decide +kernel
theorem dX9_match_69 : decode cX9_match 69 = .ok (.iconst 0, 1) := by decide +kernel
theorem dX9_match_70 : decode cX9_match 70 = .ok (.ireturn, 1) := by decide +kernel
theorem dX9_match_71 : decode cX9_match 71 = .ok (.aload_n 0, 1) := by decide +kernel
theorem dX9_match_72 : decode cX9_match 72 = .ok (.iconst 1, 1) := by decide +kernel
theorem dX9_match_73 : decode cX9_match 73 = .ok (.putfield 447, 3) := by decide +kernel
theorem dX9_match_76 : decode cX9_match 76 = .ok (.aload_n 0, 1) := by decide +kernel
theorem dX9_match_77 : decode cX9_match 77 = .ok (.iload_n 2, 1) := by decide +kernel
theorem dX9_match_78 : decode cX9_match 78 = .ok (.iconst 1, 1) := by decide +kernel
theorem dX9_match_79 : decode cX9_match 79 = .ok (.if_icmp .ne 7, 3) := by decide +kernel
theorem dX9_match_82 : decode cX9_match 82 = .ok (.iconst 1, 1) := by decide +kernel
theorem dX9_match_83 : decode cX9_match 83 = .ok (.goto 4, 3) := by decide +kernel
theorem dX9_match_86 : decode cX9_match 86 = .ok (.iconst 0, 1) := by decide +kernel
theorem dX9_match_87 : decode cX9_match 87 = .ok (.putfield 450, 3) := by decide +kernel
theorem dX9_match_90 : decode cX9_match 90 = .ok (.aload_n 0, 1) := by decide +kernel
theorem dX9_match_91 : decode cX9_match 91 = .ok (.aload_n 0, 1) := by decide +kernel
theorem dX9_match_92 : decode cX9_match 92 = .ok (.getfield 312, 3) := by decide +kernel
theorem dX9_match_95 : decode cX9_match 95 = .ok (.putfield 453, 3) := by decide +kernel
theorem dX9_match_98 : decode cX9_match 98 = .ok (.aload_n 0, 1) := by decide +kernel
theorem dX9_match_99 : decode cX9_match 99 = .ok (.aload_n 0, 1) := by decide +kernel
theorem dX9_match_100 : decode cX9_match 100 = .ok (.getfield 339, 3) := by decide +kernel
theorem dX9_match_103 : decode cX9_match 103 = .ok (.putfield 456, 3) := by decide +kernel
theorem dX9_match_106 : decode cX9_match 106 = .ok (.aload_n 0, 1) := by decide +kernel
theorem dX9_match_107 : decode cX9_match 107 = .ok (.aload_n 0, 1) := by decide +kernel
theorem dX9_match_108 : decode cX9_match 108 = .ok (.getfield 268, 3) := by decide +kernel
theorem dX9_match_111 : decode cX9_match 111 = .ok (.putfield 459, 3) := by decide +kernel
theorem dX9_match_114 : decode cX9_match 114 = .ok (.aload_n 0, 1) := by decide +kernel
theorem dX9_match_115 : decode cX9_match 115 = .ok (.getfield 450, 3) := by decide +kernel
theorem dX9_match_118 : decode cX9_match 118 = .ok (.ifCond .eq 7, 3) := by decide +kernel
theorem dX9_match_121 : decode cX9_match 121 = .ok (.aload_n 0, 1) := by decide +kernel
theorem dX9_match_122 : decode cX9_match 122 = .ok (.invokevirtual 374, 3) := by decide +kernel
theorem dX9_match_125 : decode cX9_match 125 = .ok (.aload_n 0, 1) := by decide +kernel
theorem dX9_match_126 : decode cX9_match 126 = .ok (.getfield 450, 3) := by decide +kernel
theorem dX9_match_129 : decode cX9_match 129 = .ok (.ireturn, 1) := by decide +kernel
theorem dX9_from_0 : decode cX9_from 0 = .ok (.aload_n 0, 1) := by decide +kernel
theorem dX9_from_1 : decode cX9_from 1 = .ok (.iconst 0, 1) := by decide +kernel
theorem dX9_from_2 : decode cX9_from 2 = .ok (.putfield 159, 3) := by decide +kernel
theorem dX9_from_5 : decode cX9_from 5 = .ok (.aload_n 0, 1) := by decide +kernel
theorem dX9_from_6 : decode cX9_from 6 = .ok (.aload_n 0, 1) := by decide +kernel
theorem dX9_from_7 : decode cX9_from 7 = .ok (.getfield 447, 3) := by decide +kernel
theorem dX9_from_10 : decode cX9_from 10 = .ok (.ifCond .ne 7, 3) := by decide +kernel
theorem dX9_from_13 : decode cX9_from 13 = .ok (.iconst 1, 1) := by decide +kernel
theorem dX9_from_14 : decode cX9_from 14 = .ok (.goto 4, 3) := by decide +kernel
theorem dX9_from_17 : decode cX9_from 17 = .ok (.iconst 0, 1) := by decide +kernel
theorem dX9_from_18 : decode cX9_from 18 = .ok (.iconst 1, 1) := by decide +kernel
theorem dX9_from_19 : decode cX9_from 19 = .ok (.invokevirtual 175, 3) := by decide +kernel
theorem dX9_from_22 : decode cX9_from 22 = .ok (.ifCond .ne 23, 3) := by decide +kernel
theorem dX9_from_25 : decode cX9_from 25 = .ok (.aload_n 0, 1) := by decide +kernel
theorem dX9_from_26 : decode cX9_from 26 = .ok (.aload_n 0, 1) := by decide +kernel
theorem dX9_from_27 : decode cX9_from 27 = .ok (.getfield 450, 3) := by decide +kernel
theorem dX9_from_30 : decode cX9_from 30 = .ok (.ifCond .ne 7, 3) := by decide +kernel
theorem dX9_from_33 : decode cX9_from 33 = .ok (.iconst 1, 1) := by decide +kernel
theorem dX9_from_34 : decode cX9_from 34 = .ok (.goto 4, 3) := by decide +kernel
theorem dX9_from_37 : decode cX9_from 37 = .ok (.iconst 0, 1) := by decide +kernel
theorem dX9_from_38 : decode cX9_from 38 = .ok (.iconst 2, 1) := by decide +kernel
theorem dX9_from_39 : decode cX9_from 39 = .ok (.invokevirtual 175, 3) := by decide +kernel
theorem dX9_from_42 : decode cX9_from 42 = .ok (.ifCond .eq 7, 3) := by decide +kernel
theorem dX9_from_45 : decode cX9_from 45 = .ok (.iconst (-1), 1) := by decide +kernel
theorem dX9_from_46 : decode cX9_from 46 = .ok (.goto 7, 3) := by decide +kernel
theorem dX9_from_49 : decode cX9_from 49 = .ok (.aload_n 0, 1) := by decide +kernel
theorem dX9_from_50 : decode cX9_from 50 = .ok (.getfield 456, 3) := by decide +kernel
theorem dX9_from_53 : decode cX9_from 53 = .ok (.ireturn, 1) := by decide +kernel
theorem dX9_to_0 : decode cX9_to 0 = .ok (.aload_n 0, 1) := by decide +kernel
theorem dX9_to_1 : decode cX9_to 1 = .ok (.iconst 0, 1) := by decide +kernel
theorem dX9_to_2 : decode cX9_to 2 = .ok (.putfield 159, 3) := by decide +kernel
theorem dX9_to_5 : decode cX9_to 5 = .ok (.aload_n 0, 1) := by decide +kernel
theorem dX9_to_6 : decode cX9_to 6 = .ok (.aload_n 0, 1) := by decide +kernel
theorem dX9_to_7 : decode cX9_to 7 = .ok (.getfield 447, 3) := by decide +kernel
theorem dX9_to_10 : decode cX9_to 10 = .ok (.ifCond .ne 7, 3) := by decide +kernel
theorem dX9_to_13 : decode cX9_to 13 = .ok (.iconst 1, 1) := by decide +kernel
theorem dX9_to_14 : decode cX9_to 14 = .ok (.goto 4, 3) := by decide +kernel
theorem dX9_to_17 : decode cX9_to 17 = .ok (.iconst 0, 1) := by decide +kernel
theorem dX9_to_18 : decode cX9_to 18 = .ok (.iconst 1, 1) := by decide +kernel
theorem dX9_to_19 : decode cX9_to 19 = .ok (.invokevirtual 175, 3) := by decide +kernel
theorem dX9_to_22 : decode cX9_to 22 = .ok (.ifCond .ne 23, 3) := by decide +kernel
theorem dX9_to_25 : decode cX9_to 25 = .ok (.aload_n 0, 1) := by decide +kernel
theorem dX9_to_26 : decode cX9_to 26 = .ok (.aload_n 0, 1) := by decide +kernel
theorem dX9_to_27 : decode cX9_to 27 = .ok (.getfield 450, 3) := by decide +kernel
theorem dX9_to_30 : decode cX9_to 30 = .ok (.ifCond .ne 7, 3) := by decide +kernel
theorem dX9_to_33 : decode cX9_to 33 = .ok (.iconst 1, 1) := by decide +kernel
theorem dX9_to_34 : decode cX9_to 34 = .ok (.goto 4, 3) := by decide +kernel
theorem dX9_to_37 : decode cX9_to 37 = .ok (.iconst 0, 1) := by decide +kernel
theorem dX9_to_38 : decode cX9_to 38 = .ok (.iconst 2, 1) := by decide +kernel
theorem dX9_to_39 : decode cX9_to 39 = .ok (.invokevirtual 175, 3) := by decide +kernel
theorem dX9_to_42 : decode cX9_to 42 = .ok (.ifCond .eq 7, 3) := by decide +kernel
theorem dX9_to_45 : decode cX9_to 45 = .ok (.iconst (-1), 1) := by decide +kernel
theorem dX9_to_46 : decode cX9_to 46 = .ok (.goto 7, 3) := by decide +kernel
theorem dX9_to_49 : decode cX9_to 49 = .ok (.aload_n 0, 1) := by decide +kernel
theorem dX9_to_50 : decode cX9_to 50 = .ok (.getfield 459, 3) := by decide +kernel
theorem dX9_to_53 : decode cX9_to 53 = .ok (.ireturn, 1) := by decide +kernel
theorem dX9_begun_0 : decode cX9_begun 0 = .ok (.aload_n 0, 1) := by decide +kernel
theorem dX9_begun_1 : decode cX9_begun 1 = .ok (.iconst 0, 1) := by decide +kernel
theorem dX9_begun_2 : decode cX9_begun 2 = .ok (.putfield 159, 3) := by decide +kernel
theorem dX9_begun_5 : decode cX9_begun 5 = .ok (.aload_n 0, 1) := by decide +kernel
theorem dX9_begun_6 : decode cX9_begun 6 = .ok (.aload_n 0, 1) := by decide +kernel
theorem dX9_begun_7 : decode cX9_begun 7 = .ok (.getfield 447, 3) := by decide +kernel
theorem dX9_begun_10 : decode cX9_begun 10 = .ok (.ifCond .ne 7, 3) := by decide +kernel
theorem dX9_begun_13 : decode cX9_begun 13 = .ok (.iconst 1, 1) := by decide +kernel
theorem dX9_begun_14 : decode cX9_begun 14 = .ok (.goto 4, 3) := by decide +kernel
theorem dX9_begun_17 : decode cX9_begun 17 = .ok (.iconst 0, 1) := by decide +kernel
theorem dX9_begun_18 : decode cX9_begun 18 = .ok (.iconst 1, 1) := by decide +kernel
theorem dX9_begun_19 : decode cX9_begun 19 = .ok (.invokevirtual 175, 3) := by decide +kernel
theorem dX9_begun_22 : decode cX9_begun 22 = .ok (.ifCond .eq 7, 3) := by decide +kernel
theorem dX9_begun_25 : decode cX9_begun 25 = .ok (.iconst (-1), 1) := by decide +kernel
theorem dX9_begun_26 : decode cX9_begun 26 = .ok (.goto 7, 3) := by decide +kernel
theorem dX9_begun_29 : decode cX9_begun 29 = .ok (.aload_n 0, 1) := by decide +kernel
theorem dX9_begun_30 : decode cX9_begun 30 = .ok (.getfield 453, 3) := by decide +kernel
theorem dX9_begun_33 : decode cX9_begun 33 = .ok (.ireturn, 1) := by decide +kernel
theorem dX9_findWays_0 : decode cX9_findWays 0 = .ok (.aload_n 0, 1) := by decide +kernel
theorem dX9_findWays_1 : decode cX9_findWays 1 = .ok (.invokevirtual 438, 3) := by decide +kernel
theorem dX9_findWays_4 : decode cX9_findWays 4 = .ok (.aload_n 0, 1) := by decide +kernel
theorem dX9_findWays_5 : decode cX9_findWays 5 = .ok (.invokevirtual 441, 3) := by decide +kernel
theorem dX9_findWays_8 : decode cX9_findWays 8 = .ok (.aload_n 0, 1) := by decide +kernel
theorem dX9_findWays_9 : decode cX9_findWays 9 = .ok (.iconst 0, 1) := by decide +kernel
theorem dX9_findWays_10 : decode cX9_findWays 10 = .ok (.putfield 312, 3) := by decide +kernel
theorem dX9_findWays_13 : decode cX9_findWays 13 = .ok (.aload_n 0, 1) := by decide +kernel
theorem dX9_findWays_14 : decode cX9_findWays 14 = .ok (.iconst 0, 1) := by decide +kernel
theorem dX9_findWays_15 : decode cX9_findWays 15 = .ok (.putfield 283, 3) := by decide +kernel
theorem dX9_findWays_18 : decode cX9_findWays 18 = .ok (.aload_n 0, 1) := by decide +kernel
theorem dX9_findWays_19 : decode cX9_findWays 19 = .ok (.iconst 0, 1) := by decide +kernel
theorem dX9_findWays_20 : decode cX9_findWays 20 = .ok (.putfield 315, 3) := by decide +kernel
theorem dX9_findWays_23 : decode cX9_findWays 23 = .ok (.aload_n 0, 1) := by decide +kernel
theorem dX9_findWays_24 : decode cX9_findWays 24 = .ok (.iconst 0, 1) := by decide +kernel
theorem dX9_findWays_25 : decode cX9_findWays 25 = .ok (.putfield 462, 3) := by decide +kernel
theorem dX9_findWays_28 : decode cX9_findWays 28 = .ok (.aload_n 0, 1) := by decide +kernel
theorem dX9_findWays_29 : decode cX9_findWays 29 = .ok (.getfield 342, 3) := by decide +kernel
theorem dX9_findWays_32 : decode cX9_findWays 32 = .ok (.ifCond .eq 7, 3) := by decide +kernel
theorem dX9_findWays_35 : decode cX9_findWays 35 = .ok (.iconst 0, 1) := by decide +kernel
theorem dX9_findWays_36 : decode cX9_findWays 36 = .ok (.goto 7, 3) := by decide +kernel
theorem dX9_findWays_39 : decode cX9_findWays 39 = .ok (.aload_n 0, 1) := by decide +kernel
theorem dX9_findWays_40 : decode cX9_findWays 40 = .ok (.getfield 271, 3) := by decide +kernel
theorem dX9_findWays_43 : decode cX9_findWays 43 = .ok (.istore_n 2, 1) := by decide +kernel
theorem dX9_findWays_44 : decode cX9_findWays 44 = .ok (.iconst 0, 1) := by decide +kernel
theorem dX9_findWays_45 : decode cX9_findWays 45 = .ok (.istore_n 3, 1) := by decide +kernel
theorem dX9_findWays_46 : decode cX9_findWays 46 = .ok (.iload_n 3, 1) := by decide +kernel
theorem dX9_findWays_47 : decode cX9_findWays 47 = .ok (.iload_n 2, 1) := by decide +kernel
theorem dX9_findWays_48 : decode cX9_findWays 48 = .ok (.if_icmp .gt 107, 3) := by decide +kernel
theorem dX9_findWays_51 : decode cX9_findWays 51 = .ok (.aload_n 0, 1) := by decide +kernel
theorem dX9_findWays_52 : decode cX9_findWays 52 = .ok (.getfield 283, 3) := by decide +kernel
theorem dX9_findWays_55 : decode cX9_findWays 55 = .ok (.ifCond .ne 100, 3) := by decide +kernel
theorem dX9_findWays_58 : decode cX9_findWays 58 = .ok (.aload_n 0, 1) := by decide +kernel
theorem dX9_findWays_59 : decode cX9_findWays 59 = .ok (.getfield 315, 3) := by decide +kernel
theorem dX9_findWays_62 : decode cX9_findWays 62 = .ok (.ifCond .ne 93, 3) := by decide +kernel
theorem dX9_findWays_65 : decode cX9_findWays 65 = .ok (.aload_n 0, 1) := by decide +kernel
theorem dX9_findWays_66 : decode cX9_findWays 66 = .ok (.getfield 462, 3) := by decide +kernel
theorem dX9_findWays_69 : decode cX9_findWays 69 = .ok (.sipush 200, 3) := by decide +kernel
theorem dX9_findWays_72 : decode cX9_findWays 72 = .ok (.if_icmp .ge 83, 3) := by decide +kernel
theorem dX9_findWays_75 : decode cX9_findWays 75 = .ok (.aload_n 0, 1) := by decide +kernel
theorem dX9_findWays_76 : decode cX9_findWays 76 = .ok (.iload_n 3, 1) := by decide +kernel
theorem dX9_findWays_77 : decode cX9_findWays 77 = .ok (.iload_n 1, 1) := by decide +kernel
theorem dX9_findWays_78 : decode cX9_findWays 78 = .ok (.invokevirtual 345, 3) := by decide +kernel
theorem dX9_findWays_81 : decode cX9_findWays 81 = .ok (.aload_n 0, 1) := by decide +kernel
theorem dX9_findWays_82 : decode cX9_findWays 82 = .ok (.iconst 1, 1) := by decide +kernel
theorem dX9_findWays_83 : decode cX9_findWays 83 = .ok (.invokevirtual 348, 3) := by decide +kernel
theorem dX9_findWays_86 : decode cX9_findWays 86 = .ok (.istore 4, 2) := by decide +kernel
theorem dX9_findWays_88 : decode cX9_findWays 88 = .ok (.iload 4, 2) := by decide +kernel
theorem dX9_findWays_90 : decode cX9_findWays 90 = .ok (.ifCond .eq 59, 3) := by decide +kernel
theorem dX9_findWays_93 : decode cX9_findWays 93 = .ok (.aload_n 0, 1) := by decide +kernel
theorem dX9_findWays_94 : decode cX9_findWays 94 = .ok (.getfield 156, 3) := by decide +kernel
theorem dX9_findWays_97 : decode cX9_findWays 97 = .ok (.aload_n 0, 1) := by decide +kernel
theorem dX9_findWays_98 : decode cX9_findWays 98 = .ok (.getfield 462, 3) := by decide +kernel
theorem dX9_findWays_101 : decode cX9_findWays 101 = .ok (.bipush 100, 2) := by decide +kernel
theorem dX9_findWays_103 : decode cX9_findWays 103 = .ok (.iload_n 3, 1) := by decide +kernel
theorem dX9_findWays_104 : decode cX9_findWays 104 = .ok (.imul, 1) := by decide +kernel
theorem dX9_findWays_105 : decode cX9_findWays 105 = .ok (.aload_n 0, 1) := by decide +kernel
theorem dX9_findWays_106 : decode cX9_findWays 106 = .ok (.getfield 268, 3) := by decide +kernel
theorem dX9_findWays_109 : decode cX9_findWays 109 = .ok (.iadd, 1) := by decide +kernel
theorem dX9_findWays_110 : decode cX9_findWays 110 = .ok (.iastore, 1) := by decide +kernel
theorem dX9_findWays_111 : decode cX9_findWays 111 = .ok (.aload_n 0, 1) := by decide +kernel
theorem dX9_findWays_112 : decode cX9_findWays 112 = .ok (.dup, 1) := by decide +kernel
theorem dX9_findWays_113 : decode cX9_findWays 113 = .ok (.getfield 462, 3) := by decide +kernel
theorem dX9_findWays_116 : decode cX9_findWays 116 = .ok (.iconst 1, 1) := by decide +kernel
theorem dX9_findWays_117 : decode cX9_findWays 117 = .ok (.iadd, 1) := by decide +kernel
theorem dX9_findWays_118 : decode cX9_findWays 118 = .ok (.putfield 462, 3) := by decide +kernel
theorem dX9_findWays_121 : decode cX9_findWays 121 = .ok (.aload_n 0, 1) := by decide +kernel
theorem dX9_findWays_122 : decode cX9_findWays 122 = .ok (.getfield 462, 3) := by decide +kernel
theorem dX9_findWays_125 : decode cX9_findWays 125 = .ok (.sipush 200, 3) := by decide +kernel
theorem dX9_findWays_128 : decode cX9_findWays 128 = .ok (.if_icmp .ge 15, 3) := by decide +kernel
theorem dX9_findWays_131 : decode cX9_findWays 131 = .ok (.aload_n 0, 1) := by decide +kernel
theorem dX9_findWays_132 : decode cX9_findWays 132 = .ok (.iconst 0, 1) := by decide +kernel
theorem dX9_findWays_133 : decode cX9_findWays 133 = .ok (.invokevirtual 348, 3) := by decide +kernel
theorem dX9_findWays_136 : decode cX9_findWays 136 = .ok (.ifCond .eq 7, 3) := by decide +kernel
theorem dX9_findWays_139 : decode cX9_findWays 139 = .ok (.iconst 1, 1) := by decide +kernel
theorem dX9_findWays_140 : decode cX9_findWays 140 = .ok (.goto 4, 3) := by decide +kernel
theorem dX9_findWays_143 : decode cX9_findWays 143 = .ok (.iconst 0, 1) := by decide +kernel
theorem dX9_findWays_144 : decode cX9_findWays 144 = .ok (.istore 4, 2) := by decide +kernel
theorem dX9_findWays_146 : decode cX9_findWays 146 = .ok (.goto (-58), 3) := by decide +kernel
theorem dX9_findWays_149 : decode cX9_findWays 149 = .ok (.iinc 3 1, 3) := by decide +kernel
theorem dX9_findWays_152 : decode cX9_findWays 152 = .ok (.goto (-106), 3) := by decide +kernel
theorem dX9_findWays_155 : decode cX9_findWays 155 = .ok (.aload_n 0, 1) := by decide +kernel
theorem dX9_findWays_156 : decode cX9_findWays 156 = .ok (.getfield 315, 3) := by decide +kernel
theorem dX9_findWays_159 : decode cX9_findWays 159 = .ok (.ifCond .eq 7, 3) := by decide +kernel
theorem dX9_findWays_162 : decode cX9_findWays 162 = .ok (.aload_n 0, 1) := by decide +kernel
theorem dX9_findWays_163 : decode cX9_findWays 163 = .ok (.invokevirtual 444, 3) := by decide +kernel
theorem dX9_findWays_166 : decode cX9_findWays 166 = .ok (.aload_n 0, 1) := by decide +kernel
theorem dX9_findWays_167 : decode cX9_findWays 167 = .ok (.getfield 315, 3) := by decide +kernel
theorem dX9_findWays_170 : decode cX9_findWays 170 = .ok (.ifCond .ne 7, 3) := by decide +kernel
theorem dX9_findWays_173 : decode cX9_findWays 173 = .ok (.iconst 1, 1) := by decide +kernel
theorem dX9_findWays_174 : decode cX9_findWays 174 = .ok (.goto 4, 3) := by decide +kernel
theorem dX9_findWays_177 : decode cX9_findWays 177 = .ok (.iconst 0, 1) := by decide +kernel
theorem dX9_findWays_178 : decode cX9_findWays 178 = .ok (.ireturn, 1) := by decide +kernel
theorem dX9_ways_0 : decode cX9_ways 0 = .ok (.aload_n 0, 1) := by decide +kernel
theorem dX9_ways_1 : decode cX9_ways 1 = .ok (.iconst 0, 1) := by decide +kernel
theorem dX9_ways_2 : decode cX9_ways 2 = .ok (.putfield 159, 3) := by decide +kernel
theorem dX9_ways_5 : decode cX9_ways 5 = .ok (.aload_n 0, 1) := by decide +kernel
theorem dX9_ways_6 : decode cX9_ways 6 = .ok (.aload_n 0, 1) := by decide +kernel
theorem dX9_ways_7 : decode cX9_ways 7 = .ok (.iload_n 1, 1) := by decide +kernel
theorem dX9_ways_8 : decode cX9_ways 8 = .ok (.invokevirtual 201, 3) := by decide +kernel
theorem dX9_ways_11 : decode cX9_ways 11 = .ok (.ifCond .ne 7, 3) := by decide +kernel
theorem dX9_ways_14 : decode cX9_ways 14 = .ok (.iconst 1, 1) := by decide +kernel
theorem dX9_ways_15 : decode cX9_ways 15 = .ok (.goto 4, 3) := by decide +kernel
theorem dX9_ways_18 : decode cX9_ways 18 = .ok (.iconst 0, 1) := by decide +kernel
theorem dX9_ways_19 : decode cX9_ways 19 = .ok (.iconst 1, 1) := by decide +kernel
theorem dX9_ways_20 : decode cX9_ways 20 = .ok (.invokevirtual 175, 3) := by decide +kernel
theorem dX9_ways_23 : decode cX9_ways 23 = .ok (.ifCond .ne 24, 3) := by decide +kernel
theorem dX9_ways_26 : decode cX9_ways 26 = .ok (.aload_n 0, 1) := by decide +kernel
theorem dX9_ways_27 : decode cX9_ways 27 = .ok (.aload_n 0, 1) := by decide +kernel
theorem dX9_ways_28 : decode cX9_ways 28 = .ok (.iload_n 1, 1) := by decide +kernel
theorem dX9_ways_29 : decode cX9_ways 29 = .ok (.invokevirtual 465, 3) := by decide +kernel
theorem dX9_ways_32 : decode cX9_ways 32 = .ok (.ifCond .ne 7, 3) := by decide +kernel
theorem dX9_ways_35 : decode cX9_ways 35 = .ok (.iconst 1, 1) := by decide +kernel
theorem dX9_ways_36 : decode cX9_ways 36 = .ok (.goto 4, 3) := by decide +kernel
theorem dX9_ways_39 : decode cX9_ways 39 = .ok (.iconst 0, 1) := by decide +kernel
theorem dX9_ways_40 : decode cX9_ways 40 = .ok (.iconst 2, 1) := by decide +kernel
theorem dX9_ways_41 : decode cX9_ways 41 = .ok (.invokevirtual 175, 3) := by decide +kernel
theorem dX9_ways_44 : decode cX9_ways 44 = .ok (.ifCond .eq 7, 3) := by decide +kernel
theorem dX9_ways_47 : decode cX9_ways 47 = .ok (.iconst (-1), 1) := by decide +kernel
theorem dX9_ways_48 : decode cX9_ways 48 = .ok (.goto 7, 3) := by decide +kernel
theorem dX9_ways_51 : decode cX9_ways 51 = .ok (.aload_n 0, 1) := by decide +kernel
theorem dX9_ways_52 : decode cX9_ways 52 = .ok (.getfield 462, 3) := by decide +kernel
theorem dX9_ways_55 : decode cX9_ways 55 = .ok (.ireturn, 1) := by decide +kernel
theorem dX9_way_0 : decode cX9_way 0 = .ok (.aload_n 0, 1) := by decide +kernel
theorem dX9_way_1 : decode cX9_way 1 = .ok (.iconst 0, 1) := by decide +kernel
theorem dX9_way_2 : decode cX9_way 2 = .ok (.putfield 159, 3) := by decide +kernel
theorem dX9_way_5 : decode cX9_way 5 = .ok (.aload_n 0, 1) := by decide +kernel
theorem dX9_way_6 : decode cX9_way 6 = .ok (.aload_n 0, 1) := by decide +kernel
theorem dX9_way_7 : decode cX9_way 7 = .ok (.iload_n 1, 1) := by decide +kernel
theorem dX9_way_8 : decode cX9_way 8 = .ok (.invokevirtual 201, 3) := by decide +kernel
theorem dX9_way_11 : decode cX9_way 11 = .ok (.ifCond .ne 7, 3) := by decide +kernel
theorem dX9_way_14 : decode cX9_way 14 = .ok (.iconst 1, 1) := by decide +kernel
theorem dX9_way_15 : decode cX9_way 15 = .ok (.goto 4, 3) := by decide +kernel
theorem dX9_way_18 : decode cX9_way 18 = .ok (.iconst 0, 1) := by decide +kernel
theorem dX9_way_19 : decode cX9_way 19 = .ok (.iconst 1, 1) := by decide +kernel
theorem dX9_way_20 : decode cX9_way 20 = .ok (.invokevirtual 175, 3) := by decide +kernel
theorem dX9_way_23 : decode cX9_way 23 = .ok (.ifCond .ne 24, 3) := by decide +kernel
theorem dX9_way_26 : decode cX9_way 26 = .ok (.aload_n 0, 1) := by decide +kernel
theorem dX9_way_27 : decode cX9_way 27 = .ok (.aload_n 0, 1) := by decide +kernel
theorem dX9_way_28 : decode cX9_way 28 = .ok (.iload_n 1, 1) := by decide +kernel
theorem dX9_way_29 : decode cX9_way 29 = .ok (.invokevirtual 465, 3) := by decide +kernel
theorem dX9_way_32 : decode cX9_way 32 = .ok (.ifCond .ne 7, 3) := by decide +kernel
theorem dX9_way_35 : decode cX9_way 35 = .ok (.iconst 1, 1) := by decide +kernel
theorem dX9_way_36 : decode cX9_way 36 = .ok (.goto 4, 3) := by decide +kernel
theorem dX9_way_39 : decode cX9_way 39 = .ok (.iconst 0, 1) := by decide +kernel
theorem dX9_way_40 : decode cX9_way 40 = .ok (.iconst 2, 1) := by decide +kernel
theorem dX9_way_41 : decode cX9_way 41 = .ok (.invokevirtual 175, 3) := by decide +kernel
theorem dX9_way_44 : decode cX9_way 44 = .ok (.ifCond .eq 5, 3) := by decide +kernel
theorem dX9_way_47 : decode cX9_way 47 = .ok (.iconst (-1), 1) := by decide +kernel
theorem dX9_way_48 : decode cX9_way 48 = .ok (.ireturn, 1) := by decide +kernel
theorem dX9_way_49 : decode cX9_way 49 = .ok (.iload_n 2, 1) := by decide +kernel
theorem dX9_way_50 : decode cX9_way 50 = .ok (.i2l, 1) := by decide +kernel
theorem dX9_way_51 : decode cX9_way 51 = .ok (.lconst 0, 1) := by decide +kernel
theorem dX9_way_52 : decode cX9_way 52 = .ok (.aload_n 0, 1) := by decide +kernel
theorem dX9_way_53 : decode cX9_way 53 = .ok (.getfield 462, 3) := by decide +kernel
theorem dX9_way_56 : decode cX9_way 56 = .ok (.iconst 1, 1) := by decide +kernel
theorem dX9_way_57 : decode cX9_way 57 = .ok (.isub, 1) := by decide +kernel
theorem dX9_way_58 : decode cX9_way 58 = .ok (.i2l, 1) := by decide +kernel
theorem dX9_way_59 : decode cX9_way 59 = .ok (.invokestatic 167, 3) := by decide +kernel
theorem dX9_way_62 : decode cX9_way 62 = .ok (.ifCond .ne 7, 3) := by decide +kernel
theorem dX9_way_65 : decode cX9_way 65 = .ok (.aload_n 0, 1) := by decide +kernel
theorem dX9_way_66 : decode cX9_way 66 = .ok (.invokevirtual 444, 3) := by decide +kernel
theorem dX9_way_69 : decode cX9_way 69 = .ok (.aload_n 0, 1) := by decide +kernel
theorem dX9_way_70 : decode cX9_way 70 = .ok (.iload_n 2, 1) := by decide +kernel
theorem dX9_way_71 : decode cX9_way 71 = .ok (.i2l, 1) := by decide +kernel
theorem dX9_way_72 : decode cX9_way 72 = .ok (.lconst 0, 1) := by decide +kernel
theorem dX9_way_73 : decode cX9_way 73 = .ok (.aload_n 0, 1) := by decide +kernel
theorem dX9_way_74 : decode cX9_way 74 = .ok (.getfield 462, 3) := by decide +kernel
theorem dX9_way_77 : decode cX9_way 77 = .ok (.iconst 1, 1) := by decide +kernel
theorem dX9_way_78 : decode cX9_way 78 = .ok (.isub, 1) := by decide +kernel
theorem dX9_way_79 : decode cX9_way 79 = .ok (.i2l, 1) := by decide +kernel
theorem dX9_way_80 : decode cX9_way 80 = .ok (.invokestatic 167, 3) := by decide +kernel
theorem dX9_way_83 : decode cX9_way 83 = .ok (.ifCond .ne 7, 3) := by decide +kernel
theorem dX9_way_86 : decode cX9_way 86 = .ok (.iconst 1, 1) := by decide +kernel
theorem dX9_way_87 : decode cX9_way 87 = .ok (.goto 4, 3) := by decide +kernel
theorem dX9_way_90 : decode cX9_way 90 = .ok (.iconst 0, 1) := by decide +kernel
theorem dX9_way_91 : decode cX9_way 91 = .ok (.iconst 3, 1) := by decide +kernel
theorem dX9_way_92 : decode cX9_way 92 = .ok (.invokevirtual 175, 3) := by decide +kernel
theorem dX9_way_95 : decode cX9_way 95 = .ok (.ifCond .eq 7, 3) := by decide +kernel
theorem dX9_way_98 : decode cX9_way 98 = .ok (.iconst (-1), 1) := by decide +kernel
theorem dX9_way_99 : decode cX9_way 99 = .ok (.goto 9, 3) := by decide +kernel
theorem dX9_way_102 : decode cX9_way 102 = .ok (.aload_n 0, 1) := by decide +kernel
theorem dX9_way_103 : decode cX9_way 103 = .ok (.getfield 156, 3) := by decide +kernel
theorem dX9_way_106 : decode cX9_way 106 = .ok (.iload_n 2, 1) := by decide +kernel
theorem dX9_way_107 : decode cX9_way 107 = .ok (.iaload, 1) := by decide +kernel
theorem dX9_way_108 : decode cX9_way 108 = .ok (.ireturn, 1) := by decide +kernel
theorem dX9_work_0 : decode cX9_work 0 = .ok (.aload_n 0, 1) := by decide +kernel
theorem dX9_work_1 : decode cX9_work 1 = .ok (.iconst 0, 1) := by decide +kernel
theorem dX9_work_2 : decode cX9_work 2 = .ok (.putfield 159, 3) := by decide +kernel
theorem dX9_work_5 : decode cX9_work 5 = .ok (.aload_n 0, 1) := by decide +kernel
theorem dX9_work_6 : decode cX9_work 6 = .ok (.aload_n 0, 1) := by decide +kernel
theorem dX9_work_7 : decode cX9_work 7 = .ok (.iload_n 1, 1) := by decide +kernel
theorem dX9_work_8 : decode cX9_work 8 = .ok (.invokevirtual 212, 3) := by decide +kernel
theorem dX9_work_11 : decode cX9_work 11 = .ok (.ifCond .ne 7, 3) := by decide +kernel
theorem dX9_work_14 : decode cX9_work 14 = .ok (.iconst 1, 1) := by decide +kernel
theorem dX9_work_15 : decode cX9_work 15 = .ok (.goto 4, 3) := by decide +kernel
theorem dX9_work_18 : decode cX9_work 18 = .ok (.iconst 0, 1) := by decide +kernel
theorem dX9_work_19 : decode cX9_work 19 = .ok (.iconst 1, 1) := by decide +kernel
theorem dX9_work_20 : decode cX9_work 20 = .ok (.invokevirtual 175, 3) := by decide +kernel
theorem dX9_work_23 : decode cX9_work 23 = .ok (.ifCond .eq 5, 3) := by decide +kernel
theorem dX9_work_26 : decode cX9_work 26 = .ok (.iconst 0, 1) := by decide +kernel
theorem dX9_work_27 : decode cX9_work 27 = .ok (.ireturn, 1) := by decide +kernel
theorem dX9_work_28 : decode cX9_work 28 = .ok (.aload_n 0, 1) := by decide +kernel
theorem dX9_work_29 : decode cX9_work 29 = .ok (.iload_n 1, 1) := by decide +kernel
theorem dX9_work_30 : decode cX9_work 30 = .ok (.invokevirtual 377, 3) := by decide +kernel
theorem dX9_work_33 : decode cX9_work 33 = .ok (.istore_n 2, 1) := by decide +kernel
theorem dX9_work_34 : decode cX9_work 34 = .ok (.aload_n 0, 1) := by decide +kernel
theorem dX9_work_35 : decode cX9_work 35 = .ok (.iload_n 2, 1) := by decide +kernel
theorem dX9_work_36 : decode cX9_work 36 = .ok (.ifCond .le 7, 3) := by decide +kernel
theorem dX9_work_39 : decode cX9_work 39 = .ok (.iconst 1, 1) := by decide +kernel
theorem dX9_work_40 : decode cX9_work 40 = .ok (.goto 4, 3) := by decide +kernel
theorem dX9_work_43 : decode cX9_work 43 = .ok (.iconst 0, 1) := by decide +kernel
theorem dX9_work_44 : decode cX9_work 44 = .ok (.iconst 2, 1) := by decide +kernel
theorem dX9_work_45 : decode cX9_work 45 = .ok (.invokevirtual 175, 3) := by decide +kernel
theorem dX9_work_48 : decode cX9_work 48 = .ok (.ifCond .ne 8, 3) := by decide +kernel
theorem dX9_work_51 : decode cX9_work 51 = .ok (.iload_n 2, 1) := by decide +kernel
theorem dX9_work_52 : decode cX9_work 52 = .ok (.iconst (-1), 1) := by decide +kernel
theorem dX9_work_53 : decode cX9_work 53 = .ok (.if_icmp .ne 5, 3) := by decide +kernel
theorem dX9_work_56 : decode cX9_work 56 = .ok (.iconst 0, 1) := by decide +kernel
theorem dX9_work_57 : decode cX9_work 57 = .ok (.ireturn, 1) := by decide +kernel
theorem dX9_work_58 : decode cX9_work 58 = .ok (.aload_n 0, 1) := by decide +kernel
theorem dX9_work_59 : decode cX9_work 59 = .ok (.aload_n 0, 1) := by decide +kernel
theorem dX9_work_60 : decode cX9_work 60 = .ok (.getfield 51, 3) := by decide +kernel
theorem dX9_work_63 : decode cX9_work 63 = .ok (.iload_n 1, 1) := by decide +kernel
theorem dX9_work_64 : decode cX9_work 64 = .ok (.iaload, 1) := by decide +kernel
theorem dX9_work_65 : decode cX9_work 65 = .ok (.putfield 179, 3) := by decide +kernel
theorem dX9_work_68 : decode cX9_work 68 = .ok (.iconst 0, 1) := by decide +kernel
theorem dX9_work_69 : decode cX9_work 69 = .ok (.istore_n 3, 1) := by decide +kernel
theorem dX9_work_70 : decode cX9_work 70 = .ok (.iload_n 3, 1) := by decide +kernel
theorem dX9_work_71 : decode cX9_work 71 = .ok (.aload_n 0, 1) := by decide +kernel
theorem dX9_work_72 : decode cX9_work 72 = .ok (.getfield 179, 3) := by decide +kernel
theorem dX9_work_75 : decode cX9_work 75 = .ok (.if_icmp .ge 26, 3) := by decide +kernel
theorem dX9_work_78 : decode cX9_work 78 = .ok (.aload_n 0, 1) := by decide +kernel
theorem dX9_work_79 : decode cX9_work 79 = .ok (.getfield 7, 3) := by decide +kernel
theorem dX9_work_82 : decode cX9_work 82 = .ok (.iload_n 3, 1) := by decide +kernel
theorem dX9_work_83 : decode cX9_work 83 = .ok (.aload_n 0, 1) := by decide +kernel
theorem dX9_work_84 : decode cX9_work 84 = .ok (.getfield 48, 3) := by decide +kernel
theorem dX9_work_87 : decode cX9_work 87 = .ok (.bipush 60, 2) := by decide +kernel
theorem dX9_work_89 : decode cX9_work 89 = .ok (.iload_n 1, 1) := by decide +kernel
theorem dX9_work_90 : decode cX9_work 90 = .ok (.imul, 1) := by decide +kernel
theorem dX9_work_91 : decode cX9_work 91 = .ok (.iload_n 3, 1) := by decide +kernel
theorem dX9_work_92 : decode cX9_work 92 = .ok (.iadd, 1) := by decide +kernel
theorem dX9_work_93 : decode cX9_work 93 = .ok (.iaload, 1) := by decide +kernel
theorem dX9_work_94 : decode cX9_work 94 = .ok (.iastore, 1) := by decide +kernel
theorem dX9_work_95 : decode cX9_work 95 = .ok (.iinc 3 1, 3) := by decide +kernel
theorem dX9_work_98 : decode cX9_work 98 = .ok (.goto (-28), 3) := by decide +kernel
theorem dX9_work_101 : decode cX9_work 101 = .ok (.iconst 1, 1) := by decide +kernel
theorem dX9_work_102 : decode cX9_work 102 = .ok (.ireturn, 1) := by decide +kernel
theorem dX9_typed_0 : decode cX9_typed 0 = .ok (.aload_n 0, 1) := by decide +kernel
theorem dX9_typed_1 : decode cX9_typed 1 = .ok (.iconst 0, 1) := by decide +kernel
theorem dX9_typed_2 : decode cX9_typed 2 = .ok (.putfield 159, 3) := by decide +kernel
theorem dX9_typed_5 : decode cX9_typed 5 = .ok (.aload_n 0, 1) := by decide +kernel
theorem dX9_typed_6 : decode cX9_typed 6 = .ok (.iload_n 1, 1) := by decide +kernel
theorem dX9_typed_7 : decode cX9_typed 7 = .ok (.i2l, 1) := by decide +kernel
theorem dX9_typed_8 : decode cX9_typed 8 = .ok (.lconst 0, 1) := by decide +kernel
theorem dX9_typed_9 : decode cX9_typed 9 = .ok (.aload_n 0, 1) := by decide +kernel
theorem dX9_typed_10 : decode cX9_typed 10 = .ok (.getfield 179, 3) := by decide +kernel
theorem dX9_typed_13 : decode cX9_typed 13 = .ok (.iconst 1, 1) := by decide +kernel
theorem dX9_typed_14 : decode cX9_typed 14 = .ok (.isub, 1) := by decide +kernel
theorem dX9_typed_15 : decode cX9_typed 15 = .ok (.i2l, 1) := by decide +kernel
theorem dX9_typed_16 : decode cX9_typed 16 = .ok (.invokestatic 167, 3) := by decide +kernel
theorem dX9_typed_19 : decode cX9_typed 19 = .ok (.ifCond .ne 7, 3) := by decide +kernel
theorem dX9_typed_22 : decode cX9_typed 22 = .ok (.iconst 1, 1) := by decide +kernel
theorem dX9_typed_23 : decode cX9_typed 23 = .ok (.goto 4, 3) := by decide +kernel
theorem dX9_typed_26 : decode cX9_typed 26 = .ok (.iconst 0, 1) := by decide +kernel
theorem dX9_typed_27 : decode cX9_typed 27 = .ok (.iconst 1, 1) := by decide +kernel
theorem dX9_typed_28 : decode cX9_typed 28 = .ok (.invokevirtual 175, 3) := by decide +kernel
theorem dX9_typed_31 : decode cX9_typed 31 = .ok (.ifCond .eq 7, 3) := by decide +kernel
theorem dX9_typed_34 : decode cX9_typed 34 = .ok (.iconst (-1), 1) := by decide +kernel
theorem dX9_typed_35 : decode cX9_typed 35 = .ok (.goto 9, 3) := by decide +kernel
theorem dX9_typed_38 : decode cX9_typed 38 = .ok (.aload_n 0, 1) := by decide +kernel
theorem dX9_typed_39 : decode cX9_typed 39 = .ok (.getfield 7, 3) := by decide +kernel
theorem dX9_typed_42 : decode cX9_typed 42 = .ok (.iload_n 1, 1) := by decide +kernel
theorem dX9_typed_43 : decode cX9_typed 43 = .ok (.iaload, 1) := by decide +kernel
theorem dX9_typed_44 : decode cX9_typed 44 = .ok (.ireturn, 1) := by decide +kernel
theorem dX9_statements_0 : decode cX9_statements 0 = .ok (.aload_n 0, 1) := by decide +kernel
theorem dX9_statements_1 : decode cX9_statements 1 = .ok (.iconst 0, 1) := by decide +kernel
theorem dX9_statements_2 : decode cX9_statements 2 = .ok (.putfield 159, 3) := by decide +kernel
theorem dX9_statements_5 : decode cX9_statements 5 = .ok (.aload_n 0, 1) := by decide +kernel
theorem dX9_statements_6 : decode cX9_statements 6 = .ok (.getfield 356, 3) := by decide +kernel
theorem dX9_statements_9 : decode cX9_statements 9 = .ok (.ireturn, 1) := by decide +kernel
theorem dX9_failShare_0 : decode cX9_failShare 0 = .ok (.aload_n 0, 1) := by decide +kernel
theorem dX9_failShare_1 : decode cX9_failShare 1 = .ok (.iconst 0, 1) := by decide +kernel
theorem dX9_failShare_2 : decode cX9_failShare 2 = .ok (.putfield 159, 3) := by decide +kernel
theorem dX9_failShare_5 : decode cX9_failShare 5 = .ok (.aload_n 0, 1) := by decide +kernel
theorem dX9_failShare_6 : decode cX9_failShare 6 = .ok (.invokevirtual 435, 3) := by decide +kernel
theorem dX9_failShare_9 : decode cX9_failShare 9 = .ok (.ifCond .eq 5, 3) := by decide +kernel
theorem dX9_failShare_12 : decode cX9_failShare 12 = .ok (.fconst 0, 1) := by decide +kernel
theorem dX9_failShare_13 : decode cX9_failShare 13 = .ok (.freturn, 1) := by decide +kernel
theorem dX9_failShare_14 : decode cX9_failShare 14 = .ok (.iconst 0, 1) := by decide +kernel
theorem dX9_failShare_15 : decode cX9_failShare 15 = .ok (.istore_n 1, 1) := by decide +kernel
theorem dX9_failShare_16 : decode cX9_failShare 16 = .ok (.iconst 0, 1) := by decide +kernel
theorem dX9_failShare_17 : decode cX9_failShare 17 = .ok (.istore_n 2, 1) := by decide +kernel
theorem dX9_failShare_18 : decode cX9_failShare 18 = .ok (.iload_n 2, 1) := by decide +kernel
theorem dX9_failShare_19 : decode cX9_failShare 19 = .ok (.bipush 40, 2) := by decide +kernel
theorem dX9_failShare_21 : decode cX9_failShare 21 = .ok (.if_icmp .ge 18, 3) := by decide +kernel
theorem dX9_failShare_24 : decode cX9_failShare 24 = .ok (.iload_n 1, 1) := by decide +kernel
theorem dX9_failShare_25 : decode cX9_failShare 25 = .ok (.aload_n 0, 1) := by decide +kernel
theorem dX9_failShare_26 : decode cX9_failShare 26 = .ok (.getfield 132, 3) := by decide +kernel
theorem dX9_failShare_29 : decode cX9_failShare 29 = .ok (.iload_n 2, 1) := by decide +kernel
theorem dX9_failShare_30 : decode cX9_failShare 30 = .ok (.iaload, 1) := by decide +kernel
theorem dX9_failShare_31 : decode cX9_failShare 31 = .ok (.iadd, 1) := by decide +kernel
theorem dX9_failShare_32 : decode cX9_failShare 32 = .ok (.istore_n 1, 1) := by decide +kernel
theorem dX9_failShare_33 : decode cX9_failShare 33 = .ok (.iinc 2 1, 3) := by decide +kernel
theorem dX9_failShare_36 : decode cX9_failShare 36 = .ok (.goto (-18), 3) := by decide +kernel
theorem dX9_failShare_39 : decode cX9_failShare 39 = .ok (.iload_n 1, 1) := by decide +kernel
theorem dX9_failShare_40 : decode cX9_failShare 40 = .ok (.i2f, 1) := by decide +kernel
theorem dX9_failShare_41 : decode cX9_failShare 41 = .ok (.aload_n 0, 1) := by decide +kernel
theorem dX9_failShare_42 : decode cX9_failShare 42 = .ok (.getfield 412, 3) := by decide +kernel
theorem dX9_failShare_45 : decode cX9_failShare 45 = .ok (.i2f, 1) := by decide +kernel
theorem dX9_failShare_46 : decode cX9_failShare 46 = .ok (.fdiv, 1) := by decide +kernel
theorem dX9_failShare_47 : decode cX9_failShare 47 = .ok (.freturn, 1) := by decide +kernel
theorem dX9_meanSize_0 : decode cX9_meanSize 0 = .ok (.aload_n 0, 1) := by decide +kernel
theorem dX9_meanSize_1 : decode cX9_meanSize 1 = .ok (.iconst 0, 1) := by decide +kernel
theorem dX9_meanSize_2 : decode cX9_meanSize 2 = .ok (.putfield 159, 3) := by decide +kernel
theorem dX9_meanSize_5 : decode cX9_meanSize 5 = .ok (.iconst 0, 1) := by decide +kernel
theorem dX9_meanSize_6 : decode cX9_meanSize 6 = .ok (.istore_n 1, 1) := by decide +kernel
theorem dX9_meanSize_7 : decode cX9_meanSize 7 = .ok (.iconst 0, 1) := by decide +kernel
theorem dX9_meanSize_8 : decode cX9_meanSize 8 = .ok (.istore_n 2, 1) := by decide +kernel
theorem dX9_meanSize_9 : decode cX9_meanSize 9 = .ok (.iconst 0, 1) := by decide +kernel
theorem dX9_meanSize_10 : decode cX9_meanSize 10 = .ok (.istore_n 3, 1) := by decide +kernel
theorem dX9_meanSize_11 : decode cX9_meanSize 11 = .ok (.iload_n 3, 1) := by decide +kernel
theorem dX9_meanSize_12 : decode cX9_meanSize 12 = .ok (.bipush 26, 2) := by decide +kernel
theorem dX9_meanSize_14 : decode cX9_meanSize 14 = .ok (.if_icmp .ge 35, 3) := by decide +kernel
theorem dX9_meanSize_17 : decode cX9_meanSize 17 = .ok (.iload_n 1, 1) := by decide +kernel
theorem dX9_meanSize_18 : decode cX9_meanSize 18 = .ok (.aload_n 0, 1) := by decide +kernel
theorem dX9_meanSize_19 : decode cX9_meanSize 19 = .ok (.getfield 22, 3) := by decide +kernel
theorem dX9_meanSize_22 : decode cX9_meanSize 22 = .ok (.iload_n 3, 1) := by decide +kernel
theorem dX9_meanSize_23 : decode cX9_meanSize 23 = .ok (.iaload, 1) := by decide +kernel
theorem dX9_meanSize_24 : decode cX9_meanSize 24 = .ok (.iadd, 1) := by decide +kernel
theorem dX9_meanSize_25 : decode cX9_meanSize 25 = .ok (.istore_n 1, 1) := by decide +kernel
theorem dX9_meanSize_26 : decode cX9_meanSize 26 = .ok (.iload_n 2, 1) := by decide +kernel
theorem dX9_meanSize_27 : decode cX9_meanSize 27 = .ok (.aload_n 0, 1) := by decide +kernel
theorem dX9_meanSize_28 : decode cX9_meanSize 28 = .ok (.getfield 22, 3) := by decide +kernel
theorem dX9_meanSize_31 : decode cX9_meanSize 31 = .ok (.iload_n 3, 1) := by decide +kernel
theorem dX9_meanSize_32 : decode cX9_meanSize 32 = .ok (.iaload, 1) := by decide +kernel
theorem dX9_meanSize_33 : decode cX9_meanSize 33 = .ok (.ifCond .le 7, 3) := by decide +kernel
theorem dX9_meanSize_36 : decode cX9_meanSize 36 = .ok (.iconst 1, 1) := by decide +kernel
theorem dX9_meanSize_37 : decode cX9_meanSize 37 = .ok (.goto 4, 3) := by decide +kernel
theorem dX9_meanSize_40 : decode cX9_meanSize 40 = .ok (.iconst 0, 1) := by decide +kernel
theorem dX9_meanSize_41 : decode cX9_meanSize 41 = .ok (.iadd, 1) := by decide +kernel
theorem dX9_meanSize_42 : decode cX9_meanSize 42 = .ok (.istore_n 2, 1) := by decide +kernel
theorem dX9_meanSize_43 : decode cX9_meanSize 43 = .ok (.iinc 3 1, 3) := by decide +kernel
theorem dX9_meanSize_46 : decode cX9_meanSize 46 = .ok (.goto (-35), 3) := by decide +kernel
theorem dX9_meanSize_49 : decode cX9_meanSize 49 = .ok (.aload_n 0, 1) := by decide +kernel
theorem dX9_meanSize_50 : decode cX9_meanSize 50 = .ok (.iload_n 2, 1) := by decide +kernel
theorem dX9_meanSize_51 : decode cX9_meanSize 51 = .ok (.ifCond .ne 7, 3) := by decide +kernel
theorem dX9_meanSize_54 : decode cX9_meanSize 54 = .ok (.iconst 1, 1) := by decide +kernel
theorem dX9_meanSize_55 : decode cX9_meanSize 55 = .ok (.goto 4, 3) := by decide +kernel
theorem dX9_meanSize_58 : decode cX9_meanSize 58 = .ok (.iconst 0, 1) := by decide +kernel
theorem dX9_meanSize_59 : decode cX9_meanSize 59 = .ok (.iconst 1, 1) := by decide +kernel
theorem dX9_meanSize_60 : decode cX9_meanSize 60 = .ok (.invokevirtual 175, 3) := by decide +kernel
theorem dX9_meanSize_63 : decode cX9_meanSize 63 = .ok (.ifCond .eq 7, 3) := by decide +kernel
theorem dX9_meanSize_66 : decode cX9_meanSize 66 = .ok (.dconst 0, 1) := by decide +kernel
theorem dX9_meanSize_67 : decode cX9_meanSize 67 = .ok (.goto 8, 3) := by decide +kernel
theorem dX9_meanSize_70 : decode cX9_meanSize 70 = .ok (.iload_n 1, 1) := by decide +kernel
theorem dX9_meanSize_71 : decode cX9_meanSize 71 = .ok (.i2d, 1) := by decide +kernel
theorem dX9_meanSize_72 : decode cX9_meanSize 72 = .ok (.iload_n 2, 1) := by decide +kernel
theorem dX9_meanSize_73 : decode cX9_meanSize 73 = .ok (.i2d, 1) := by decide +kernel
theorem dX9_meanSize_74 : decode cX9_meanSize 74 = .ok (.ddiv, 1) := by decide +kernel
theorem dX9_meanSize_75 : decode cX9_meanSize 75 = .ok (.dreturn, 1) := by decide +kernel
theorem dX9_checksum_0 : decode cX9_checksum 0 = .ok (.aload_n 0, 1) := by decide +kernel
theorem dX9_checksum_1 : decode cX9_checksum 1 = .ok (.iconst 0, 1) := by decide +kernel
theorem dX9_checksum_2 : decode cX9_checksum 2 = .ok (.putfield 159, 3) := by decide +kernel
theorem dX9_checksum_5 : decode cX9_checksum 5 = .ok (.ldc2_w 468, 3) := by decide +kernel
theorem dX9_checksum_8 : decode cX9_checksum 8 = .ok (.lstore_n 1, 1) := by decide +kernel
theorem dX9_checksum_9 : decode cX9_checksum 9 = .ok (.iconst 0, 1) := by decide +kernel
theorem dX9_checksum_10 : decode cX9_checksum 10 = .ok (.istore_n 3, 1) := by decide +kernel
theorem dX9_checksum_11 : decode cX9_checksum 11 = .ok (.iload_n 3, 1) := by decide +kernel
theorem dX9_checksum_12 : decode cX9_checksum 12 = .ok (.bipush 26, 2) := by decide +kernel
theorem dX9_checksum_14 : decode cX9_checksum 14 = .ok (.if_icmp .ge 63, 3) := by decide +kernel
theorem dX9_checksum_17 : decode cX9_checksum 17 = .ok (.iconst 0, 1) := by decide +kernel
theorem dX9_checksum_18 : decode cX9_checksum 18 = .ok (.istore 4, 2) := by decide +kernel
theorem dX9_checksum_20 : decode cX9_checksum 20 = .ok (.iload 4, 2) := by decide +kernel
theorem dX9_checksum_22 : decode cX9_checksum 22 = .ok (.aload_n 0, 1) := by decide +kernel
theorem dX9_checksum_23 : decode cX9_checksum 23 = .ok (.getfield 22, 3) := by decide +kernel
theorem dX9_checksum_26 : decode cX9_checksum 26 = .ok (.iload_n 3, 1) := by decide +kernel
theorem dX9_checksum_27 : decode cX9_checksum 27 = .ok (.iaload, 1) := by decide +kernel
theorem dX9_checksum_28 : decode cX9_checksum 28 = .ok (.if_icmp .ge 29, 3) := by decide +kernel
theorem dX9_checksum_31 : decode cX9_checksum 31 = .ok (.ldc2_w 470, 3) := by decide +kernel
theorem dX9_checksum_34 : decode cX9_checksum 34 = .ok (.lload_n 1, 1) := by decide +kernel
theorem dX9_checksum_35 : decode cX9_checksum 35 = .ok (.lmul, 1) := by decide +kernel
theorem dX9_checksum_36 : decode cX9_checksum 36 = .ok (.aload_n 0, 1) := by decide +kernel
theorem dX9_checksum_37 : decode cX9_checksum 37 = .ok (.getfield 19, 3) := by decide +kernel
theorem dX9_checksum_40 : decode cX9_checksum 40 = .ok (.bipush 60, 2) := by decide +kernel
theorem dX9_checksum_42 : decode cX9_checksum 42 = .ok (.iload_n 3, 1) := by decide +kernel
theorem dX9_checksum_43 : decode cX9_checksum 43 = .ok (.imul, 1) := by decide +kernel
theorem dX9_checksum_44 : decode cX9_checksum 44 = .ok (.iload 4, 2) := by decide +kernel
theorem dX9_checksum_46 : decode cX9_checksum 46 = .ok (.iadd, 1) := by decide +kernel
theorem dX9_checksum_47 : decode cX9_checksum 47 = .ok (.iaload, 1) := by decide +kernel
theorem dX9_checksum_48 : decode cX9_checksum 48 = .ok (.i2l, 1) := by decide +kernel
theorem dX9_checksum_49 : decode cX9_checksum 49 = .ok (.ladd, 1) := by decide +kernel
theorem dX9_checksum_50 : decode cX9_checksum 50 = .ok (.lstore_n 1, 1) := by decide +kernel
theorem dX9_checksum_51 : decode cX9_checksum 51 = .ok (.iinc 4 1, 3) := by decide +kernel
theorem dX9_checksum_54 : decode cX9_checksum 54 = .ok (.goto (-34), 3) := by decide +kernel
theorem dX9_checksum_57 : decode cX9_checksum 57 = .ok (.ldc2_w 470, 3) := by decide +kernel
theorem dX9_checksum_60 : decode cX9_checksum 60 = .ok (.lload_n 1, 1) := by decide +kernel
theorem dX9_checksum_61 : decode cX9_checksum 61 = .ok (.lmul, 1) := by decide +kernel
theorem dX9_checksum_62 : decode cX9_checksum 62 = .ok (.aload_n 0, 1) := by decide +kernel
theorem dX9_checksum_63 : decode cX9_checksum 63 = .ok (.getfield 22, 3) := by decide +kernel
theorem dX9_checksum_66 : decode cX9_checksum 66 = .ok (.iload_n 3, 1) := by decide +kernel
theorem dX9_checksum_67 : decode cX9_checksum 67 = .ok (.iaload, 1) := by decide +kernel
theorem dX9_checksum_68 : decode cX9_checksum 68 = .ok (.i2l, 1) := by decide +kernel
theorem dX9_checksum_69 : decode cX9_checksum 69 = .ok (.ladd, 1) := by decide +kernel
theorem dX9_checksum_70 : decode cX9_checksum 70 = .ok (.lstore_n 1, 1) := by decide +kernel
theorem dX9_checksum_71 : decode cX9_checksum 71 = .ok (.iinc 3 1, 3) := by decide +kernel
theorem dX9_checksum_74 : decode cX9_checksum 74 = .ok (.goto (-63), 3) := by decide +kernel
theorem dX9_checksum_77 : decode cX9_checksum 77 = .ok (.lload_n 1, 1) := by decide +kernel
theorem dX9_checksum_78 : decode cX9_checksum 78 = .ok (.lreturn, 1) := by decide +kernel
theorem dX9_isSound_0 : decode cX9_isSound 0 = .ok (.aload_n 0, 1) := by decide +kernel
theorem dX9_isSound_1 : decode cX9_isSound 1 = .ok (.iconst 0, 1) := by decide +kernel
theorem dX9_isSound_2 : decode cX9_isSound 2 = .ok (.putfield 159, 3) := by decide +kernel
theorem dX9_isSound_5 : decode cX9_isSound 5 = .ok (.iconst 1, 1) := by decide +kernel
theorem dX9_isSound_6 : decode cX9_isSound 6 = .ok (.ireturn, 1) := by decide +kernel
