theorem dL_pairs_15 : decode cL_pairs 15 = .ok (.bipush 46, 2) := by decide +kernel
theorem dL_pairs_17 : decode cL_pairs 17 = .ok (.iload_n 3, 1) := by decide +kernel
theorem dL_pairs_18 : decode cL_pairs 18 = .ok (.iadd, 1) := by decide +kernel
theorem dL_pairs_19 : decode cL_pairs 19 = .ok (.invokestatic 124, 3) := by decide +kernel
theorem dL_pairs_22 : decode cL_pairs 22 = .ok (.iconst 1, 1) := by decide +kernel
theorem dL_pairs_23 : decode cL_pairs 23 = .ok (.iushr, 1) := by decide +kernel
theorem dL_pairs_24 : decode cL_pairs 24 = .ok (.istore 4, 2) := by decide +kernel
theorem dL_pairs_26 : decode cL_pairs 26 = .ok (.iload 4, 2) := by decide +kernel
theorem dL_pairs_28 : decode cL_pairs 28 = .ok (.iload_n 2, 1) := by decide +kernel
theorem dL_pairs_29 : decode cL_pairs 29 = .ok (.irem, 1) := by decide +kernel
theorem dL_pairs_30 : decode cL_pairs 30 = .ok (.istore 5, 2) := by decide +kernel
theorem dL_pairs_32 : decode cL_pairs 32 = .ok (.iload 4, 2) := by decide +kernel
theorem dL_pairs_34 : decode cL_pairs 34 = .ok (.bipush 6, 2) := by decide +kernel
theorem dL_pairs_36 : decode cL_pairs 36 = .ok (.iushr, 1) := by decide +kernel
theorem dL_pairs_37 : decode cL_pairs 37 = .ok (.iload_n 2, 1) := by decide +kernel
theorem dL_pairs_38 : decode cL_pairs 38 = .ok (.irem, 1) := by decide +kernel
theorem dL_pairs_39 : decode cL_pairs 39 = .ok (.istore 6, 2) := by decide +kernel
theorem dL_pairs_41 : decode cL_pairs 41 = .ok (.aload_n 1, 1) := by decide +kernel
theorem dL_pairs_42 : decode cL_pairs 42 = .ok (.iload 5, 2) := by decide +kernel
theorem dL_pairs_44 : decode cL_pairs 44 = .ok (.bipush 7, 2) := by decide +kernel
theorem dL_pairs_46 : decode cL_pairs 46 = .ok (.invokestatic 151, 3) := by decide +kernel
theorem dL_pairs_49 : decode cL_pairs 49 = .ok (.aload_n 1, 1) := by decide +kernel
theorem dL_pairs_50 : decode cL_pairs 50 = .ok (.iload 6, 2) := by decide +kernel
theorem dL_pairs_52 : decode cL_pairs 52 = .ok (.bipush 7, 2) := by decide +kernel
theorem dL_pairs_54 : decode cL_pairs 54 = .ok (.invokestatic 151, 3) := by decide +kernel
theorem dL_pairs_57 : decode cL_pairs 57 = .ok (.if_icmp .eq 46, 3) := by decide +kernel
theorem dL_pairs_60 : decode cL_pairs 60 = .ok (.aload_n 1, 1) := by decide +kernel
theorem dL_pairs_61 : decode cL_pairs 61 = .ok (.iload 5, 2) := by decide +kernel
theorem dL_pairs_63 : decode cL_pairs 63 = .ok (.iload 6, 2) := by decide +kernel
theorem dL_pairs_65 : decode cL_pairs 65 = .ok (.iconst 0, 1) := by decide +kernel
theorem dL_pairs_66 : decode cL_pairs 66 = .ok (.invokestatic 198, 3) := by decide +kernel
theorem dL_pairs_69 : decode cL_pairs 69 = .ok (.bipush (-13), 2) := by decide +kernel
theorem dL_pairs_71 : decode cL_pairs 71 = .ok (.if_icmp .ne 30, 3) := by decide +kernel
theorem dL_pairs_74 : decode cL_pairs 74 = .ok (.aload_n 1, 1) := by decide +kernel
theorem dL_pairs_75 : decode cL_pairs 75 = .ok (.iload 5, 2) := by decide +kernel
theorem dL_pairs_77 : decode cL_pairs 77 = .ok (.iload 6, 2) := by decide +kernel
theorem dL_pairs_79 : decode cL_pairs 79 = .ok (.iconst 1, 1) := by decide +kernel
theorem dL_pairs_80 : decode cL_pairs 80 = .ok (.invokestatic 198, 3) := by decide +kernel
theorem dL_pairs_83 : decode cL_pairs 83 = .ok (.bipush (-13), 2) := by decide +kernel
theorem dL_pairs_85 : decode cL_pairs 85 = .ok (.if_icmp .ne 16, 3) := by decide +kernel
theorem dL_pairs_88 : decode cL_pairs 88 = .ok (.aload_n 1, 1) := by decide +kernel
theorem dL_pairs_89 : decode cL_pairs 89 = .ok (.iload 5, 2) := by decide +kernel
theorem dL_pairs_91 : decode cL_pairs 91 = .ok (.iload 6, 2) := by decide +kernel
theorem dL_pairs_93 : decode cL_pairs 93 = .ok (.invokestatic 200, 3) := by decide +kernel
theorem dL_pairs_96 : decode cL_pairs 96 = .ok (.bipush (-13), 2) := by decide +kernel
theorem dL_pairs_98 : decode cL_pairs 98 = .ok (.if_icmp .eq 290, 3) := by decide +kernel
theorem dL_pairs_101 : decode cL_pairs 101 = .ok (.iconst 0, 1) := by decide +kernel
theorem dL_pairs_102 : decode cL_pairs 102 = .ok (.ireturn, 1) := by decide +kernel
theorem dL_pairs_103 : decode cL_pairs 103 = .ok (.iload 5, 2) := by decide +kernel
theorem dL_pairs_105 : decode cL_pairs 105 = .ok (.istore 7, 2) := by decide +kernel
theorem dL_pairs_107 : decode cL_pairs 107 = .ok (.iload 6, 2) := by decide +kernel
theorem dL_pairs_109 : decode cL_pairs 109 = .ok (.istore 8, 2) := by decide +kernel
theorem dL_pairs_111 : decode cL_pairs 111 = .ok (.iconst 0, 1) := by decide +kernel
theorem dL_pairs_112 : decode cL_pairs 112 = .ok (.istore 9, 2) := by decide +kernel
theorem dL_pairs_114 : decode cL_pairs 114 = .ok (.iload 7, 2) := by decide +kernel
theorem dL_pairs_116 : decode cL_pairs 116 = .ok (.iload 8, 2) := by decide +kernel
theorem dL_pairs_118 : decode cL_pairs 118 = .ok (.if_icmp .eq 112, 3) := by decide +kernel
theorem dL_pairs_121 : decode cL_pairs 121 = .ok (.aload_n 1, 1) := by decide +kernel
theorem dL_pairs_122 : decode cL_pairs 122 = .ok (.iload 7, 2) := by decide +kernel
theorem dL_pairs_124 : decode cL_pairs 124 = .ok (.iconst 1, 1) := by decide +kernel
theorem dL_pairs_125 : decode cL_pairs 125 = .ok (.invokestatic 151, 3) := by decide +kernel
theorem dL_pairs_128 : decode cL_pairs 128 = .ok (.aload_n 1, 1) := by decide +kernel
theorem dL_pairs_129 : decode cL_pairs 129 = .ok (.iload 8, 2) := by decide +kernel
theorem dL_pairs_131 : decode cL_pairs 131 = .ok (.iconst 1, 1) := by decide +kernel
theorem dL_pairs_132 : decode cL_pairs 132 = .ok (.invokestatic 151, 3) := by decide +kernel
theorem dL_pairs_135 : decode cL_pairs 135 = .ok (.if_icmp .le 7, 3) := by decide +kernel
theorem dL_pairs_138 : decode cL_pairs 138 = .ok (.iconst 1, 1) := by decide +kernel
theorem dL_pairs_139 : decode cL_pairs 139 = .ok (.goto 4, 3) := by decide +kernel
theorem dL_pairs_142 : decode cL_pairs 142 = .ok (.iconst 0, 1) := by decide +kernel
theorem dL_pairs_143 : decode cL_pairs 143 = .ok (.istore 10, 2) := by decide +kernel
theorem dL_pairs_145 : decode cL_pairs 145 = .ok (.iload 10, 2) := by decide +kernel
theorem dL_pairs_147 : decode cL_pairs 147 = .ok (.ifCond .ne 27, 3) := by decide +kernel
theorem dL_pairs_150 : decode cL_pairs 150 = .ok (.aload_n 1, 1) := by decide +kernel
theorem dL_pairs_151 : decode cL_pairs 151 = .ok (.iload 7, 2) := by decide +kernel
theorem dL_pairs_153 : decode cL_pairs 153 = .ok (.iconst 1, 1) := by decide +kernel
theorem dL_pairs_154 : decode cL_pairs 154 = .ok (.invokestatic 151, 3) := by decide +kernel
theorem dL_pairs_157 : decode cL_pairs 157 = .ok (.aload_n 1, 1) := by decide +kernel
theorem dL_pairs_158 : decode cL_pairs 158 = .ok (.iload 8, 2) := by decide +kernel
theorem dL_pairs_160 : decode cL_pairs 160 = .ok (.iconst 1, 1) := by decide +kernel
theorem dL_pairs_161 : decode cL_pairs 161 = .ok (.invokestatic 151, 3) := by decide +kernel
theorem dL_pairs_164 : decode cL_pairs 164 = .ok (.if_icmp .ne 20, 3) := by decide +kernel
theorem dL_pairs_167 : decode cL_pairs 167 = .ok (.iload 9, 2) := by decide +kernel
theorem dL_pairs_169 : decode cL_pairs 169 = .ok (.iconst 2, 1) := by decide +kernel
theorem dL_pairs_170 : decode cL_pairs 170 = .ok (.irem, 1) := by decide +kernel
theorem dL_pairs_171 : decode cL_pairs 171 = .ok (.ifCond .ne 13, 3) := by decide +kernel
theorem dL_pairs_174 : decode cL_pairs 174 = .ok (.aload_n 1, 1) := by decide +kernel
theorem dL_pairs_175 : decode cL_pairs 175 = .ok (.iload 7, 2) := by decide +kernel
theorem dL_pairs_177 : decode cL_pairs 177 = .ok (.iconst 0, 1) := by decide +kernel
theorem dL_pairs_178 : decode cL_pairs 178 = .ok (.invokestatic 151, 3) := by decide +kernel
theorem dL_pairs_181 : decode cL_pairs 181 = .ok (.goto 5, 3) := by decide +kernel
theorem dL_pairs_184 : decode cL_pairs 184 = .ok (.iload 7, 2) := by decide +kernel
theorem dL_pairs_186 : decode cL_pairs 186 = .ok (.istore 7, 2) := by decide +kernel
theorem dL_pairs_188 : decode cL_pairs 188 = .ok (.iload 10, 2) := by decide +kernel
theorem dL_pairs_190 : decode cL_pairs 190 = .ok (.ifCond .ne 30, 3) := by decide +kernel
theorem dL_pairs_193 : decode cL_pairs 193 = .ok (.aload_n 1, 1) := by decide +kernel
theorem dL_pairs_194 : decode cL_pairs 194 = .ok (.iload 8, 2) := by decide +kernel
theorem dL_pairs_196 : decode cL_pairs 196 = .ok (.iconst 1, 1) := by decide +kernel
theorem dL_pairs_197 : decode cL_pairs 197 = .ok (.invokestatic 151, 3) := by decide +kernel
theorem dL_pairs_200 : decode cL_pairs 200 = .ok (.aload_n 1, 1) := by decide +kernel
theorem dL_pairs_201 : decode cL_pairs 201 = .ok (.iload 7, 2) := by decide +kernel
theorem dL_pairs_203 : decode cL_pairs 203 = .ok (.iconst 1, 1) := by decide +kernel
theorem dL_pairs_204 : decode cL_pairs 204 = .ok (.invokestatic 151, 3) := by decide +kernel
theorem dL_pairs_207 : decode cL_pairs 207 = .ok (.if_icmp .le 13, 3) := by decide +kernel
theorem dL_pairs_210 : decode cL_pairs 210 = .ok (.aload_n 1, 1) := by decide +kernel
theorem dL_pairs_211 : decode cL_pairs 211 = .ok (.iload 8, 2) := by decide +kernel
theorem dL_pairs_213 : decode cL_pairs 213 = .ok (.iconst 0, 1) := by decide +kernel
theorem dL_pairs_214 : decode cL_pairs 214 = .ok (.invokestatic 151, 3) := by decide +kernel
theorem dL_pairs_217 : decode cL_pairs 217 = .ok (.goto 5, 3) := by decide +kernel
theorem dL_pairs_220 : decode cL_pairs 220 = .ok (.iload 8, 2) := by decide +kernel
theorem dL_pairs_222 : decode cL_pairs 222 = .ok (.istore 8, 2) := by decide +kernel
theorem dL_pairs_224 : decode cL_pairs 224 = .ok (.iinc 9 1, 3) := by decide +kernel
theorem dL_pairs_227 : decode cL_pairs 227 = .ok (.goto (-113), 3) := by decide +kernel
theorem dL_pairs_230 : decode cL_pairs 230 = .ok (.iconst 0, 1) := by decide +kernel
theorem dL_pairs_231 : decode cL_pairs 231 = .ok (.istore 10, 2) := by decide +kernel
theorem dL_pairs_233 : decode cL_pairs 233 = .ok (.iload 5, 2) := by decide +kernel
theorem dL_pairs_235 : decode cL_pairs 235 = .ok (.istore 11, 2) := by decide +kernel
theorem dL_pairs_237 : decode cL_pairs 237 = .ok (.iload_n 2, 1) := by decide +kernel
theorem dL_pairs_238 : decode cL_pairs 238 = .ok (.iconst 1, 1) := by decide +kernel
theorem dL_pairs_239 : decode cL_pairs 239 = .ok (.isub, 1) := by decide +kernel
theorem dL_pairs_240 : decode cL_pairs 240 = .ok (.istore 12, 2) := by decide +kernel
theorem dL_pairs_242 : decode cL_pairs 242 = .ok (.iload 12, 2) := by decide +kernel
theorem dL_pairs_244 : decode cL_pairs 244 = .ok (.ifCond .lt 49, 3) := by decide +kernel
theorem dL_pairs_247 : decode cL_pairs 247 = .ok (.aload_n 1, 1) := by decide +kernel
theorem dL_pairs_248 : decode cL_pairs 248 = .ok (.iload 5, 2) := by decide +kernel
theorem dL_pairs_250 : decode cL_pairs 250 = .ok (.iload 12, 2) := by decide +kernel
theorem dL_pairs_252 : decode cL_pairs 252 = .ok (.invokestatic 200, 3) := by decide +kernel
theorem dL_pairs_255 : decode cL_pairs 255 = .ok (.istore 13, 2) := by decide +kernel
theorem dL_pairs_257 : decode cL_pairs 257 = .ok (.iload 13, 2) := by decide +kernel
theorem dL_pairs_259 : decode cL_pairs 259 = .ok (.ifCond .le 15, 3) := by decide +kernel
theorem dL_pairs_262 : decode cL_pairs 262 = .ok (.iload 13, 2) := by decide +kernel
theorem dL_pairs_264 : decode cL_pairs 264 = .ok (.iload 10, 2) := by decide +kernel
theorem dL_pairs_266 : decode cL_pairs 266 = .ok (.if_icmp .lt 8, 3) := by decide +kernel
theorem dL_pairs_269 : decode cL_pairs 269 = .ok (.iload 12, 2) := by decide +kernel
theorem dL_pairs_271 : decode cL_pairs 271 = .ok (.goto 5, 3) := by decide +kernel
theorem dL_pairs_274 : decode cL_pairs 274 = .ok (.iload 11, 2) := by decide +kernel
theorem dL_pairs_276 : decode cL_pairs 276 = .ok (.istore 11, 2) := by decide +kernel
theorem dL_pairs_278 : decode cL_pairs 278 = .ok (.iload 10, 2) := by decide +kernel
theorem dL_pairs_280 : decode cL_pairs 280 = .ok (.iload 13, 2) := by decide +kernel
theorem dL_pairs_282 : decode cL_pairs 282 = .ok (.invokestatic 202, 3) := by decide +kernel
theorem dL_pairs_285 : decode cL_pairs 285 = .ok (.istore 10, 2) := by decide +kernel
theorem dL_pairs_287 : decode cL_pairs 287 = .ok (.iinc 12 (-1), 3) := by decide +kernel
theorem dL_pairs_290 : decode cL_pairs 290 = .ok (.goto (-48), 3) := by decide +kernel
theorem dL_pairs_293 : decode cL_pairs 293 = .ok (.aload_n 1, 1) := by decide +kernel
theorem dL_pairs_294 : decode cL_pairs 294 = .ok (.iload 5, 2) := by decide +kernel
theorem dL_pairs_296 : decode cL_pairs 296 = .ok (.iconst 1, 1) := by decide +kernel
theorem dL_pairs_297 : decode cL_pairs 297 = .ok (.invokestatic 151, 3) := by decide +kernel
theorem dL_pairs_300 : decode cL_pairs 300 = .ok (.aload_n 1, 1) := by decide +kernel
theorem dL_pairs_301 : decode cL_pairs 301 = .ok (.iload 6, 2) := by decide +kernel
theorem dL_pairs_303 : decode cL_pairs 303 = .ok (.iconst 1, 1) := by decide +kernel
theorem dL_pairs_304 : decode cL_pairs 304 = .ok (.invokestatic 151, 3) := by decide +kernel
theorem dL_pairs_307 : decode cL_pairs 307 = .ok (.iadd, 1) := by decide +kernel
theorem dL_pairs_308 : decode cL_pairs 308 = .ok (.iconst 2, 1) := by decide +kernel
theorem dL_pairs_309 : decode cL_pairs 309 = .ok (.aload_n 1, 1) := by decide +kernel
theorem dL_pairs_310 : decode cL_pairs 310 = .ok (.iload 7, 2) := by decide +kernel
theorem dL_pairs_312 : decode cL_pairs 312 = .ok (.iconst 1, 1) := by decide +kernel
theorem dL_pairs_313 : decode cL_pairs 313 = .ok (.invokestatic 151, 3) := by decide +kernel
theorem dL_pairs_316 : decode cL_pairs 316 = .ok (.imul, 1) := by decide +kernel
theorem dL_pairs_317 : decode cL_pairs 317 = .ok (.isub, 1) := by decide +kernel
theorem dL_pairs_318 : decode cL_pairs 318 = .ok (.istore 12, 2) := by decide +kernel
theorem dL_pairs_320 : decode cL_pairs 320 = .ok (.aload_n 1, 1) := by decide +kernel
theorem dL_pairs_321 : decode cL_pairs 321 = .ok (.iload 5, 2) := by decide +kernel
theorem dL_pairs_323 : decode cL_pairs 323 = .ok (.iload 6, 2) := by decide +kernel
theorem dL_pairs_325 : decode cL_pairs 325 = .ok (.iconst 0, 1) := by decide +kernel
theorem dL_pairs_326 : decode cL_pairs 326 = .ok (.invokestatic 198, 3) := by decide +kernel
theorem dL_pairs_329 : decode cL_pairs 329 = .ok (.iload 7, 2) := by decide +kernel
theorem dL_pairs_331 : decode cL_pairs 331 = .ok (.if_icmp .ne 55, 3) := by decide +kernel
theorem dL_pairs_334 : decode cL_pairs 334 = .ok (.aload_n 1, 1) := by decide +kernel
theorem dL_pairs_335 : decode cL_pairs 335 = .ok (.iload 5, 2) := by decide +kernel
theorem dL_pairs_337 : decode cL_pairs 337 = .ok (.iload 6, 2) := by decide +kernel
theorem dL_pairs_339 : decode cL_pairs 339 = .ok (.iconst 1, 1) := by decide +kernel
theorem dL_pairs_340 : decode cL_pairs 340 = .ok (.invokestatic 198, 3) := by decide +kernel
theorem dL_pairs_343 : decode cL_pairs 343 = .ok (.iload 7, 2) := by decide +kernel
theorem dL_pairs_345 : decode cL_pairs 345 = .ok (.if_icmp .ne 41, 3) := by decide +kernel
theorem dL_pairs_348 : decode cL_pairs 348 = .ok (.aload_n 1, 1) := by decide +kernel
theorem dL_pairs_349 : decode cL_pairs 349 = .ok (.iload 6, 2) := by decide +kernel
theorem dL_pairs_351 : decode cL_pairs 351 = .ok (.iload 5, 2) := by decide +kernel
theorem dL_pairs_353 : decode cL_pairs 353 = .ok (.iconst 0, 1) := by decide +kernel
theorem dL_pairs_354 : decode cL_pairs 354 = .ok (.invokestatic 198, 3) := by decide +kernel
theorem dL_pairs_357 : decode cL_pairs 357 = .ok (.iload 7, 2) := by decide +kernel
theorem dL_pairs_359 : decode cL_pairs 359 = .ok (.if_icmp .ne 27, 3) := by decide +kernel
theorem dL_pairs_362 : decode cL_pairs 362 = .ok (.aload_n 1, 1) := by decide +kernel
theorem dL_pairs_363 : decode cL_pairs 363 = .ok (.iload 5, 2) := by decide +kernel
theorem dL_pairs_365 : decode cL_pairs 365 = .ok (.iload 6, 2) := by decide +kernel
theorem dL_pairs_367 : decode cL_pairs 367 = .ok (.invokestatic 200, 3) := by decide +kernel
theorem dL_pairs_370 : decode cL_pairs 370 = .ok (.iload 12, 2) := by decide +kernel
theorem dL_pairs_372 : decode cL_pairs 372 = .ok (.if_icmp .ne 14, 3) := by decide +kernel
theorem dL_pairs_375 : decode cL_pairs 375 = .ok (.aload_n 1, 1) := by decide +kernel
theorem dL_pairs_376 : decode cL_pairs 376 = .ok (.iload 5, 2) := by decide +kernel
theorem dL_pairs_378 : decode cL_pairs 378 = .ok (.invokestatic 194, 3) := by decide +kernel
theorem dL_pairs_381 : decode cL_pairs 381 = .ok (.iload 11, 2) := by decide +kernel
theorem dL_pairs_383 : decode cL_pairs 383 = .ok (.if_icmp .eq 5, 3) := by decide +kernel
theorem dL_pairs_386 : decode cL_pairs 386 = .ok (.iconst 0, 1) := by decide +kernel
theorem dL_pairs_387 : decode cL_pairs 387 = .ok (.ireturn, 1) := by decide +kernel
theorem dL_pairs_388 : decode cL_pairs 388 = .ok (.iinc 3 1, 3) := by decide +kernel
theorem dL_pairs_391 : decode cL_pairs 391 = .ok (.goto (-383), 3) := by decide +kernel
theorem dL_pairs_394 : decode cL_pairs 394 = .ok (.aload_n 1, 1) := by decide +kernel
theorem dL_pairs_395 : decode cL_pairs 395 = .ok (.iconst 0, 1) := by decide +kernel
theorem dL_pairs_396 : decode cL_pairs 396 = .ok (.iload_n 2, 1) := by decide +kernel
theorem dL_pairs_397 : decode cL_pairs 397 = .ok (.iconst 0, 1) := by decide +kernel
theorem dL_pairs_398 : decode cL_pairs 398 = .ok (.invokestatic 198, 3) := by decide +kernel
theorem dL_pairs_401 : decode cL_pairs 401 = .ok (.bipush (-11), 2) := by decide +kernel
theorem dL_pairs_403 : decode cL_pairs 403 = .ok (.if_icmp .ne 18, 3) := by decide +kernel
theorem dL_pairs_406 : decode cL_pairs 406 = .ok (.aload_n 1, 1) := by decide +kernel
theorem dL_pairs_407 : decode cL_pairs 407 = .ok (.iload_n 2, 1) := by decide +kernel
theorem dL_pairs_408 : decode cL_pairs 408 = .ok (.iconst 0, 1) := by decide +kernel
theorem dL_pairs_409 : decode cL_pairs 409 = .ok (.invokestatic 200, 3) := by decide +kernel
theorem dL_pairs_412 : decode cL_pairs 412 = .ok (.bipush (-11), 2) := by decide +kernel
theorem dL_pairs_414 : decode cL_pairs 414 = .ok (.if_icmp .ne 7, 3) := by decide +kernel
theorem dL_pairs_417 : decode cL_pairs 417 = .ok (.iconst 1, 1) := by decide +kernel
theorem dL_pairs_418 : decode cL_pairs 418 = .ok (.goto 4, 3) := by decide +kernel
theorem dL_pairs_421 : decode cL_pairs 421 = .ok (.iconst 0, 1) := by decide +kernel
theorem dL_pairs_422 : decode cL_pairs 422 = .ok (.ireturn, 1) := by decide +kernel
theorem dL_heirs_0 : decode cL_heirs 0 = .ok (.iconst 0, 1) := by decide +kernel
theorem dL_heirs_1 : decode cL_heirs 1 = .ok (.istore_n 1, 1) := by decide +kernel
theorem dL_heirs_2 : decode cL_heirs 2 = .ok (.iload_n 1, 1) := by decide +kernel
theorem dL_heirs_3 : decode cL_heirs 3 = .ok (.aload_n 0, 1) := by decide +kernel
theorem dL_heirs_4 : decode cL_heirs 4 = .ok (.iconst 0, 1) := by decide +kernel
theorem dL_heirs_5 : decode cL_heirs 5 = .ok (.invokevirtual 128, 3) := by decide +kernel
theorem dL_heirs_8 : decode cL_heirs 8 = .ok (.if_icmp .ge 141, 3) := by decide +kernel
theorem dL_heirs_11 : decode cL_heirs 11 = .ok (.iconst (-1), 1) := by decide +kernel
theorem dL_heirs_12 : decode cL_heirs 12 = .ok (.istore_n 2, 1) := by decide +kernel
theorem dL_heirs_13 : decode cL_heirs 13 = .ok (.aload_n 0, 1) := by decide +kernel
theorem dL_heirs_14 : decode cL_heirs 14 = .ok (.iload_n 1, 1) := by decide +kernel
theorem dL_heirs_15 : decode cL_heirs 15 = .ok (.iconst 3, 1) := by decide +kernel
theorem dL_heirs_16 : decode cL_heirs 16 = .ok (.invokestatic 151, 3) := by decide +kernel
theorem dL_heirs_19 : decode cL_heirs 19 = .ok (.iconst 1, 1) := by decide +kernel
theorem dL_heirs_20 : decode cL_heirs 20 = .ok (.isub, 1) := by decide +kernel
theorem dL_heirs_21 : decode cL_heirs 21 = .ok (.istore_n 3, 1) := by decide +kernel
theorem dL_heirs_22 : decode cL_heirs 22 = .ok (.iload_n 3, 1) := by decide +kernel
theorem dL_heirs_23 : decode cL_heirs 23 = .ok (.ifCond .lt 36, 3) := by decide +kernel
theorem dL_heirs_26 : decode cL_heirs 26 = .ok (.aload_n 0, 1) := by decide +kernel
theorem dL_heirs_27 : decode cL_heirs 27 = .ok (.iload_n 1, 1) := by decide +kernel
theorem dL_heirs_28 : decode cL_heirs 28 = .ok (.iload_n 3, 1) := by decide +kernel
theorem dL_heirs_29 : decode cL_heirs 29 = .ok (.invokestatic 196, 3) := by decide +kernel
theorem dL_heirs_32 : decode cL_heirs 32 = .ok (.istore 4, 2) := by decide +kernel
theorem dL_heirs_34 : decode cL_heirs 34 = .ok (.aload_n 0, 1) := by decide +kernel
theorem dL_heirs_35 : decode cL_heirs 35 = .ok (.iload 4, 2) := by decide +kernel
theorem dL_heirs_37 : decode cL_heirs 37 = .ok (.bipush 6, 2) := by decide +kernel
theorem dL_heirs_39 : decode cL_heirs 39 = .ok (.invokestatic 151, 3) := by decide +kernel
theorem dL_heirs_42 : decode cL_heirs 42 = .ok (.iconst 1, 1) := by decide +kernel
theorem dL_heirs_43 : decode cL_heirs 43 = .ok (.if_icmp .ne 8, 3) := by decide +kernel
theorem dL_heirs_46 : decode cL_heirs 46 = .ok (.iload 4, 2) := by decide +kernel
theorem dL_heirs_48 : decode cL_heirs 48 = .ok (.goto 4, 3) := by decide +kernel
theorem dL_heirs_51 : decode cL_heirs 51 = .ok (.iload_n 2, 1) := by decide +kernel
theorem dL_heirs_52 : decode cL_heirs 52 = .ok (.istore_n 2, 1) := by decide +kernel
theorem dL_heirs_53 : decode cL_heirs 53 = .ok (.iinc 3 (-1), 3) := by decide +kernel
theorem dL_heirs_56 : decode cL_heirs 56 = .ok (.goto (-34), 3) := by decide +kernel
theorem dL_heirs_59 : decode cL_heirs 59 = .ok (.iload_n 2, 1) := by decide +kernel
theorem dL_heirs_60 : decode cL_heirs 60 = .ok (.ifCond .ge 12, 3) := by decide +kernel
theorem dL_heirs_63 : decode cL_heirs 63 = .ok (.aload_n 0, 1) := by decide +kernel
theorem dL_heirs_64 : decode cL_heirs 64 = .ok (.iload_n 1, 1) := by decide +kernel
theorem dL_heirs_65 : decode cL_heirs 65 = .ok (.iconst 4, 1) := by decide +kernel
theorem dL_heirs_66 : decode cL_heirs 66 = .ok (.invokestatic 151, 3) := by decide +kernel
theorem dL_heirs_69 : decode cL_heirs 69 = .ok (.goto 4, 3) := by decide +kernel
theorem dL_heirs_72 : decode cL_heirs 72 = .ok (.iload_n 2, 1) := by decide +kernel
theorem dL_heirs_73 : decode cL_heirs 73 = .ok (.istore_n 2, 1) := by decide +kernel
theorem dL_heirs_74 : decode cL_heirs 74 = .ok (.aload_n 0, 1) := by decide +kernel
theorem dL_heirs_75 : decode cL_heirs 75 = .ok (.iload_n 1, 1) := by decide +kernel
theorem dL_heirs_76 : decode cL_heirs 76 = .ok (.iconst 0, 1) := by decide +kernel
theorem dL_heirs_77 : decode cL_heirs 77 = .ok (.invokestatic 151, 3) := by decide +kernel
theorem dL_heirs_80 : decode cL_heirs 80 = .ok (.istore_n 3, 1) := by decide +kernel
theorem dL_heirs_81 : decode cL_heirs 81 = .ok (.iload_n 3, 1) := by decide +kernel
theorem dL_heirs_82 : decode cL_heirs 82 = .ok (.ifCond .lt 34, 3) := by decide +kernel
theorem dL_heirs_85 : decode cL_heirs 85 = .ok (.iload_n 2, 1) := by decide +kernel
theorem dL_heirs_86 : decode cL_heirs 86 = .ok (.ifCond .ge 30, 3) := by decide +kernel
theorem dL_heirs_89 : decode cL_heirs 89 = .ok (.aload_n 0, 1) := by decide +kernel
theorem dL_heirs_90 : decode cL_heirs 90 = .ok (.iload_n 3, 1) := by decide +kernel
theorem dL_heirs_91 : decode cL_heirs 91 = .ok (.bipush 6, 2) := by decide +kernel
theorem dL_heirs_93 : decode cL_heirs 93 = .ok (.invokestatic 151, 3) := by decide +kernel
theorem dL_heirs_96 : decode cL_heirs 96 = .ok (.iconst 1, 1) := by decide +kernel
theorem dL_heirs_97 : decode cL_heirs 97 = .ok (.if_icmp .ne 7, 3) := by decide +kernel
theorem dL_heirs_100 : decode cL_heirs 100 = .ok (.iload_n 3, 1) := by decide +kernel
theorem dL_heirs_101 : decode cL_heirs 101 = .ok (.goto 4, 3) := by decide +kernel
theorem dL_heirs_104 : decode cL_heirs 104 = .ok (.iconst (-1), 1) := by decide +kernel
theorem dL_heirs_105 : decode cL_heirs 105 = .ok (.istore_n 2, 1) := by decide +kernel
theorem dL_heirs_106 : decode cL_heirs 106 = .ok (.aload_n 0, 1) := by decide +kernel
theorem dL_heirs_107 : decode cL_heirs 107 = .ok (.iload_n 3, 1) := by decide +kernel
theorem dL_heirs_108 : decode cL_heirs 108 = .ok (.iconst 0, 1) := by decide +kernel
theorem dL_heirs_109 : decode cL_heirs 109 = .ok (.invokestatic 151, 3) := by decide +kernel
theorem dL_heirs_112 : decode cL_heirs 112 = .ok (.istore_n 3, 1) := by decide +kernel
theorem dL_heirs_113 : decode cL_heirs 113 = .ok (.goto (-32), 3) := by decide +kernel
theorem dL_heirs_116 : decode cL_heirs 116 = .ok (.aload_n 0, 1) := by decide +kernel
theorem dL_heirs_117 : decode cL_heirs 117 = .ok (.iload_n 1, 1) := by decide +kernel
theorem dL_heirs_118 : decode cL_heirs 118 = .ok (.invokestatic 207, 3) := by decide +kernel
theorem dL_heirs_121 : decode cL_heirs 121 = .ok (.aload_n 0, 1) := by decide +kernel
theorem dL_heirs_122 : decode cL_heirs 122 = .ok (.iload_n 1, 1) := by decide +kernel
theorem dL_heirs_123 : decode cL_heirs 123 = .ok (.bipush 6, 2) := by decide +kernel
theorem dL_heirs_125 : decode cL_heirs 125 = .ok (.invokestatic 151, 3) := by decide +kernel
theorem dL_heirs_128 : decode cL_heirs 128 = .ok (.iconst 1, 1) := by decide +kernel
theorem dL_heirs_129 : decode cL_heirs 129 = .ok (.if_icmp .ne 7, 3) := by decide +kernel
theorem dL_heirs_132 : decode cL_heirs 132 = .ok (.iload_n 2, 1) := by decide +kernel
theorem dL_heirs_133 : decode cL_heirs 133 = .ok (.goto 5, 3) := by decide +kernel
theorem dL_heirs_136 : decode cL_heirs 136 = .ok (.bipush (-14), 2) := by decide +kernel
theorem dL_heirs_138 : decode cL_heirs 138 = .ok (.if_icmp .eq 5, 3) := by decide +kernel
theorem dL_heirs_141 : decode cL_heirs 141 = .ok (.iconst 0, 1) := by decide +kernel
theorem dL_heirs_142 : decode cL_heirs 142 = .ok (.ireturn, 1) := by decide +kernel
theorem dL_heirs_143 : decode cL_heirs 143 = .ok (.iinc 1 1, 3) := by decide +kernel
theorem dL_heirs_146 : decode cL_heirs 146 = .ok (.goto (-144), 3) := by decide +kernel
theorem dL_heirs_149 : decode cL_heirs 149 = .ok (.iconst (-1), 1) := by decide +kernel
theorem dL_heirs_150 : decode cL_heirs 150 = .ok (.istore_n 1, 1) := by decide +kernel
theorem dL_heirs_151 : decode cL_heirs 151 = .ok (.iconst 0, 1) := by decide +kernel
theorem dL_heirs_152 : decode cL_heirs 152 = .ok (.istore_n 2, 1) := by decide +kernel
theorem dL_heirs_153 : decode cL_heirs 153 = .ok (.iload_n 2, 1) := by decide +kernel
theorem dL_heirs_154 : decode cL_heirs 154 = .ok (.aload_n 0, 1) := by decide +kernel
theorem dL_heirs_155 : decode cL_heirs 155 = .ok (.iconst 0, 1) := by decide +kernel
theorem dL_heirs_156 : decode cL_heirs 156 = .ok (.invokevirtual 128, 3) := by decide +kernel
theorem dL_heirs_159 : decode cL_heirs 159 = .ok (.if_icmp .ge 65, 3) := by decide +kernel
theorem dL_heirs_162 : decode cL_heirs 162 = .ok (.aload_n 0, 1) := by decide +kernel
theorem dL_heirs_163 : decode cL_heirs 163 = .ok (.iload_n 2, 1) := by decide +kernel
theorem dL_heirs_164 : decode cL_heirs 164 = .ok (.invokestatic 209, 3) := by decide +kernel
theorem dL_heirs_167 : decode cL_heirs 167 = .ok (.istore_n 3, 1) := by decide +kernel
theorem dL_heirs_168 : decode cL_heirs 168 = .ok (.iload_n 3, 1) := by decide +kernel
theorem dL_heirs_169 : decode cL_heirs 169 = .ok (.ifCond .ge 7, 3) := by decide +kernel
theorem dL_heirs_172 : decode cL_heirs 172 = .ok (.iconst (-1), 1) := by decide +kernel
theorem dL_heirs_173 : decode cL_heirs 173 = .ok (.goto 24, 3) := by decide +kernel
theorem dL_heirs_176 : decode cL_heirs 176 = .ok (.iload_n 1, 1) := by decide +kernel
theorem dL_heirs_177 : decode cL_heirs 177 = .ok (.ifCond .ge 7, 3) := by decide +kernel
theorem dL_heirs_180 : decode cL_heirs 180 = .ok (.iconst 1, 1) := by decide +kernel
theorem dL_heirs_181 : decode cL_heirs 181 = .ok (.goto 16, 3) := by decide +kernel
theorem dL_heirs_184 : decode cL_heirs 184 = .ok (.aload_n 0, 1) := by decide +kernel
theorem dL_heirs_185 : decode cL_heirs 185 = .ok (.iload_n 1, 1) := by decide +kernel
theorem dL_heirs_186 : decode cL_heirs 186 = .ok (.iconst 5, 1) := by decide +kernel
theorem dL_heirs_187 : decode cL_heirs 187 = .ok (.invokestatic 151, 3) := by decide +kernel
theorem dL_heirs_190 : decode cL_heirs 190 = .ok (.aload_n 0, 1) := by decide +kernel
theorem dL_heirs_191 : decode cL_heirs 191 = .ok (.iload_n 3, 1) := by decide +kernel
theorem dL_heirs_192 : decode cL_heirs 192 = .ok (.iconst 5, 1) := by decide +kernel
theorem dL_heirs_193 : decode cL_heirs 193 = .ok (.invokestatic 151, 3) := by decide +kernel
theorem dL_heirs_196 : decode cL_heirs 196 = .ok (.isub, 1) := by decide +kernel
theorem dL_heirs_197 : decode cL_heirs 197 = .ok (.istore 4, 2) := by decide +kernel
theorem dL_heirs_199 : decode cL_heirs 199 = .ok (.iload 4, 2) := by decide +kernel
theorem dL_heirs_201 : decode cL_heirs 201 = .ok (.ifCond .lt 13, 3) := by decide +kernel
theorem dL_heirs_204 : decode cL_heirs 204 = .ok (.iload 4, 2) := by decide +kernel
theorem dL_heirs_206 : decode cL_heirs 206 = .ok (.ifCond .ne 10, 3) := by decide +kernel
theorem dL_heirs_209 : decode cL_heirs 209 = .ok (.iload_n 3, 1) := by decide +kernel
theorem dL_heirs_210 : decode cL_heirs 210 = .ok (.iload_n 1, 1) := by decide +kernel
theorem dL_heirs_211 : decode cL_heirs 211 = .ok (.if_icmp .ge 5, 3) := by decide +kernel
theorem dL_heirs_214 : decode cL_heirs 214 = .ok (.iconst 0, 1) := by decide +kernel
theorem dL_heirs_215 : decode cL_heirs 215 = .ok (.ireturn, 1) := by decide +kernel
theorem dL_heirs_216 : decode cL_heirs 216 = .ok (.iload_n 3, 1) := by decide +kernel
theorem dL_heirs_217 : decode cL_heirs 217 = .ok (.istore_n 1, 1) := by decide +kernel
theorem dL_heirs_218 : decode cL_heirs 218 = .ok (.iinc 2 1, 3) := by decide +kernel
theorem dL_heirs_221 : decode cL_heirs 221 = .ok (.goto (-68), 3) := by decide +kernel
theorem dL_heirs_224 : decode cL_heirs 224 = .ok (.aload_n 0, 1) := by decide +kernel
theorem dL_heirs_225 : decode cL_heirs 225 = .ok (.aload_n 0, 1) := by decide +kernel
theorem dL_heirs_226 : decode cL_heirs 226 = .ok (.iconst 0, 1) := by decide +kernel
theorem dL_heirs_227 : decode cL_heirs 227 = .ok (.invokevirtual 128, 3) := by decide +kernel
theorem dL_heirs_230 : decode cL_heirs 230 = .ok (.invokestatic 209, 3) := by decide +kernel
theorem dL_heirs_233 : decode cL_heirs 233 = .ok (.bipush (-13), 2) := by decide +kernel
theorem dL_heirs_235 : decode cL_heirs 235 = .ok (.if_icmp .ne 21, 3) := by decide +kernel
theorem dL_heirs_238 : decode cL_heirs 238 = .ok (.aload_n 0, 1) := by decide +kernel
theorem dL_heirs_239 : decode cL_heirs 239 = .ok (.aload_n 0, 1) := by decide +kernel
theorem dL_heirs_240 : decode cL_heirs 240 = .ok (.iconst 0, 1) := by decide +kernel
theorem dL_heirs_241 : decode cL_heirs 241 = .ok (.invokevirtual 128, 3) := by decide +kernel
theorem dL_heirs_244 : decode cL_heirs 244 = .ok (.invokestatic 207, 3) := by decide +kernel
theorem dL_heirs_247 : decode cL_heirs 247 = .ok (.bipush (-11), 2) := by decide +kernel
theorem dL_heirs_249 : decode cL_heirs 249 = .ok (.if_icmp .ne 7, 3) := by decide +kernel
theorem dL_heirs_252 : decode cL_heirs 252 = .ok (.iconst 1, 1) := by decide +kernel
theorem dL_heirs_253 : decode cL_heirs 253 = .ok (.goto 4, 3) := by decide +kernel
theorem dL_heirs_256 : decode cL_heirs 256 = .ok (.iconst 0, 1) := by decide +kernel
theorem dL_heirs_257 : decode cL_heirs 257 = .ok (.ireturn, 1) := by decide +kernel
theorem dL_told_0 : decode cL_told 0 = .ok (.iconst 0, 1) := by decide +kernel
theorem dL_told_1 : decode cL_told 1 = .ok (.istore_n 1, 1) := by decide +kernel
theorem dL_told_2 : decode cL_told 2 = .ok (.iload_n 1, 1) := by decide +kernel
theorem dL_told_3 : decode cL_told 3 = .ok (.aload_n 0, 1) := by decide +kernel
theorem dL_told_4 : decode cL_told 4 = .ok (.iconst 0, 1) := by decide +kernel
theorem dL_told_5 : decode cL_told 5 = .ok (.invokevirtual 128, 3) := by decide +kernel
theorem dL_told_8 : decode cL_told 8 = .ok (.if_icmp .ge 253, 3) := by decide +kernel
theorem dL_told_11 : decode cL_told 11 = .ok (.new 211, 3) := by decide +kernel
theorem dL_told_14 : decode cL_told 14 = .ok (.dup, 1) := by decide +kernel
theorem dL_told_15 : decode cL_told 15 = .ok (.invokespecial 213, 3) := by decide +kernel
theorem dL_told_18 : decode cL_told 18 = .ok (.ldc 214, 2) := by decide +kernel
theorem dL_told_20 : decode cL_told 20 = .ok (.invokevirtual 216, 3) := by decide +kernel
theorem dL_told_23 : decode cL_told 23 = .ok (.iload_n 1, 1) := by decide +kernel
theorem dL_told_24 : decode cL_told 24 = .ok (.invokevirtual 219, 3) := by decide +kernel
theorem dL_told_27 : decode cL_told 27 = .ok (.aload_n 0, 1) := by decide +kernel
theorem dL_told_28 : decode cL_told 28 = .ok (.iload_n 1, 1) := by decide +kernel
theorem dL_told_29 : decode cL_told 29 = .ok (.iconst 0, 1) := by decide +kernel
theorem dL_told_30 : decode cL_told 30 = .ok (.invokestatic 151, 3) := by decide +kernel
theorem dL_told_33 : decode cL_told 33 = .ok (.ifCond .ge 8, 3) := by decide +kernel
theorem dL_told_36 : decode cL_told 36 = .ok (.ldc 222, 2) := by decide +kernel
theorem dL_told_38 : decode cL_told 38 = .ok (.goto 27, 3) := by decide +kernel
theorem dL_told_41 : decode cL_told 41 = .ok (.new 211, 3) := by decide +kernel
theorem dL_told_44 : decode cL_told 44 = .ok (.dup, 1) := by decide +kernel
theorem dL_told_45 : decode cL_told 45 = .ok (.invokespecial 213, 3) := by decide +kernel
theorem dL_told_48 : decode cL_told 48 = .ok (.ldc 224, 2) := by decide +kernel
theorem dL_told_50 : decode cL_told 50 = .ok (.invokevirtual 216, 3) := by decide +kernel
theorem dL_told_53 : decode cL_told 53 = .ok (.aload_n 0, 1) := by decide +kernel
theorem dL_told_54 : decode cL_told 54 = .ok (.iload_n 1, 1) := by decide +kernel
theorem dL_told_55 : decode cL_told 55 = .ok (.iconst 0, 1) := by decide +kernel
theorem dL_told_56 : decode cL_told 56 = .ok (.invokestatic 151, 3) := by decide +kernel
theorem dL_told_59 : decode cL_told 59 = .ok (.invokevirtual 219, 3) := by decide +kernel
theorem dL_told_62 : decode cL_told 62 = .ok (.invokevirtual 226, 3) := by decide +kernel
theorem dL_told_65 : decode cL_told 65 = .ok (.invokevirtual 216, 3) := by decide +kernel
theorem dL_told_68 : decode cL_told 68 = .ok (.aload_n 0, 1) := by decide +kernel
theorem dL_told_69 : decode cL_told 69 = .ok (.iload_n 1, 1) := by decide +kernel
theorem dL_told_70 : decode cL_told 70 = .ok (.iconst 4, 1) := by decide +kernel
theorem dL_told_71 : decode cL_told 71 = .ok (.invokestatic 151, 3) := by decide +kernel
theorem dL_told_74 : decode cL_told 74 = .ok (.ifCond .ge 8, 3) := by decide +kernel
theorem dL_told_77 : decode cL_told 77 = .ok (.ldc 222, 2) := by decide +kernel
theorem dL_told_79 : decode cL_told 79 = .ok (.goto 27, 3) := by decide +kernel
theorem dL_told_82 : decode cL_told 82 = .ok (.new 211, 3) := by decide +kernel
theorem dL_told_85 : decode cL_told 85 = .ok (.dup, 1) := by decide +kernel
theorem dL_told_86 : decode cL_told 86 = .ok (.invokespecial 213, 3) := by decide +kernel
theorem dL_told_89 : decode cL_told 89 = .ok (.ldc 230, 2) := by decide +kernel
theorem dL_told_91 : decode cL_told 91 = .ok (.invokevirtual 216, 3) := by decide +kernel
theorem dL_told_94 : decode cL_told 94 = .ok (.aload_n 0, 1) := by decide +kernel
theorem dL_told_95 : decode cL_told 95 = .ok (.iload_n 1, 1) := by decide +kernel
theorem dL_told_96 : decode cL_told 96 = .ok (.iconst 4, 1) := by decide +kernel
theorem dL_told_97 : decode cL_told 97 = .ok (.invokestatic 151, 3) := by decide +kernel
theorem dL_told_100 : decode cL_told 100 = .ok (.invokevirtual 219, 3) := by decide +kernel
theorem dL_told_103 : decode cL_told 103 = .ok (.invokevirtual 226, 3) := by decide +kernel
theorem dL_told_106 : decode cL_told 106 = .ok (.invokevirtual 216, 3) := by decide +kernel
theorem dL_told_109 : decode cL_told 109 = .ok (.aload_n 0, 1) := by decide +kernel
theorem dL_told_110 : decode cL_told 110 = .ok (.iload_n 1, 1) := by decide +kernel
theorem dL_told_111 : decode cL_told 111 = .ok (.iconst 5, 1) := by decide +kernel
theorem dL_told_112 : decode cL_told 112 = .ok (.invokestatic 151, 3) := by decide +kernel
theorem dL_told_115 : decode cL_told 115 = .ok (.ifCond .ne 8, 3) := by decide +kernel
theorem dL_told_118 : decode cL_told 118 = .ok (.ldc 222, 2) := by decide +kernel
theorem dL_told_120 : decode cL_told 120 = .ok (.goto 27, 3) := by decide +kernel
theorem dL_told_123 : decode cL_told 123 = .ok (.new 211, 3) := by decide +kernel
theorem dL_told_126 : decode cL_told 126 = .ok (.dup, 1) := by decide +kernel
theorem dL_told_127 : decode cL_told 127 = .ok (.invokespecial 213, 3) := by decide +kernel
theorem dL_told_130 : decode cL_told 130 = .ok (.ldc 232, 2) := by decide +kernel
theorem dL_told_132 : decode cL_told 132 = .ok (.invokevirtual 216, 3) := by decide +kernel
theorem dL_told_135 : decode cL_told 135 = .ok (.aload_n 0, 1) := by decide +kernel
theorem dL_told_136 : decode cL_told 136 = .ok (.iload_n 1, 1) := by decide +kernel
theorem dL_told_137 : decode cL_told 137 = .ok (.iconst 5, 1) := by decide +kernel
theorem dL_told_138 : decode cL_told 138 = .ok (.invokestatic 151, 3) := by decide +kernel
theorem dL_told_141 : decode cL_told 141 = .ok (.invokevirtual 219, 3) := by decide +kernel
theorem dL_told_144 : decode cL_told 144 = .ok (.invokevirtual 226, 3) := by decide +kernel
theorem dL_told_147 : decode cL_told 147 = .ok (.invokevirtual 216, 3) := by decide +kernel
theorem dL_told_150 : decode cL_told 150 = .ok (.aload_n 0, 1) := by decide +kernel
theorem dL_told_151 : decode cL_told 151 = .ok (.iload_n 1, 1) := by decide +kernel
theorem dL_told_152 : decode cL_told 152 = .ok (.bipush 6, 2) := by decide +kernel
theorem dL_told_154 : decode cL_told 154 = .ok (.invokestatic 151, 3) := by decide +kernel
theorem dL_told_157 : decode cL_told 157 = .ok (.iconst 1, 1) := by decide +kernel
theorem dL_told_158 : decode cL_told 158 = .ok (.if_icmp .ne 8, 3) := by decide +kernel
theorem dL_told_161 : decode cL_told 161 = .ok (.ldc 222, 2) := by decide +kernel
theorem dL_told_163 : decode cL_told 163 = .ok (.goto 5, 3) := by decide +kernel
theorem dL_told_166 : decode cL_told 166 = .ok (.ldc 234, 2) := by decide +kernel
theorem dL_told_168 : decode cL_told 168 = .ok (.invokevirtual 216, 3) := by decide +kernel
theorem dL_told_171 : decode cL_told 171 = .ok (.invokevirtual 226, 3) := by decide +kernel
theorem dL_told_174 : decode cL_told 174 = .ok (.astore_n 2, 1) := by decide +kernel
theorem dL_told_175 : decode cL_told 175 = .ok (.aload_n 0, 1) := by decide +kernel
theorem dL_told_176 : decode cL_told 176 = .ok (.iload_n 1, 1) := by decide +kernel
theorem dL_told_177 : decode cL_told 177 = .ok (.invokestatic 236, 3) := by decide +kernel
theorem dL_told_180 : decode cL_told 180 = .ok (.aload_n 2, 1) := by decide +kernel
theorem dL_told_181 : decode cL_told 181 = .ok (.invokevirtual 99, 3) := by decide +kernel
theorem dL_told_184 : decode cL_told 184 = .ok (.if_icmp .ne 7, 3) := by decide +kernel
theorem dL_told_187 : decode cL_told 187 = .ok (.iconst 1, 1) := by decide +kernel
theorem dL_told_188 : decode cL_told 188 = .ok (.goto 4, 3) := by decide +kernel
theorem dL_told_191 : decode cL_told 191 = .ok (.iconst 0, 1) := by decide +kernel
theorem dL_told_192 : decode cL_told 192 = .ok (.istore_n 3, 1) := by decide +kernel
theorem dL_told_193 : decode cL_told 193 = .ok (.iconst 0, 1) := by decide +kernel
theorem dL_told_194 : decode cL_told 194 = .ok (.istore 4, 2) := by decide +kernel
theorem dL_told_196 : decode cL_told 196 = .ok (.iload 4, 2) := by decide +kernel
theorem dL_told_198 : decode cL_told 198 = .ok (.aload_n 2, 1) := by decide +kernel
theorem dL_told_199 : decode cL_told 199 = .ok (.invokevirtual 99, 3) := by decide +kernel
theorem dL_told_202 : decode cL_told 202 = .ok (.if_icmp .ge 34, 3) := by decide +kernel
theorem dL_told_205 : decode cL_told 205 = .ok (.iload_n 3, 1) := by decide +kernel
theorem dL_told_206 : decode cL_told 206 = .ok (.ifCond .eq 30, 3) := by decide +kernel
theorem dL_told_209 : decode cL_told 209 = .ok (.aload_n 0, 1) := by decide +kernel
theorem dL_told_210 : decode cL_told 210 = .ok (.iload 4, 2) := by decide +kernel
theorem dL_told_212 : decode cL_told 212 = .ok (.invokestatic 238, 3) := by decide +kernel
theorem dL_told_215 : decode cL_told 215 = .ok (.aload_n 2, 1) := by decide +kernel
theorem dL_told_216 : decode cL_told 216 = .ok (.iload 4, 2) := by decide +kernel
theorem dL_told_218 : decode cL_told 218 = .ok (.invokevirtual 104, 3) := by decide +kernel
theorem dL_told_221 : decode cL_told 221 = .ok (.if_icmp .ne 7, 3) := by decide +kernel
theorem dL_told_224 : decode cL_told 224 = .ok (.iconst 1, 1) := by decide +kernel
theorem dL_told_225 : decode cL_told 225 = .ok (.goto 4, 3) := by decide +kernel
theorem dL_told_228 : decode cL_told 228 = .ok (.iconst 0, 1) := by decide +kernel
theorem dL_told_229 : decode cL_told 229 = .ok (.istore_n 3, 1) := by decide +kernel
theorem dL_told_230 : decode cL_told 230 = .ok (.iinc 4 1, 3) := by decide +kernel
theorem dL_told_233 : decode cL_told 233 = .ok (.goto (-37), 3) := by decide +kernel
theorem dL_told_236 : decode cL_told 236 = .ok (.iload_n 3, 1) := by decide +kernel
theorem dL_told_237 : decode cL_told 237 = .ok (.ifCond .eq 16, 3) := by decide +kernel
theorem dL_told_240 : decode cL_told 240 = .ok (.aload_n 0, 1) := by decide +kernel
theorem dL_told_241 : decode cL_told 241 = .ok (.aload_n 2, 1) := by decide +kernel
theorem dL_told_242 : decode cL_told 242 = .ok (.invokevirtual 99, 3) := by decide +kernel
theorem dL_told_245 : decode cL_told 245 = .ok (.invokestatic 238, 3) := by decide +kernel
theorem dL_told_248 : decode cL_told 248 = .ok (.bipush (-11), 2) := by decide +kernel
theorem dL_told_250 : decode cL_told 250 = .ok (.if_icmp .eq 5, 3) := by decide +kernel
theorem dL_told_253 : decode cL_told 253 = .ok (.iconst 0, 1) := by decide +kernel
theorem dL_told_254 : decode cL_told 254 = .ok (.ireturn, 1) := by decide +kernel
theorem dL_told_255 : decode cL_told 255 = .ok (.iinc 1 1, 3) := by decide +kernel
theorem dL_told_258 : decode cL_told 258 = .ok (.goto (-256), 3) := by decide +kernel
theorem dL_told_261 : decode cL_told 261 = .ok (.aload_n 0, 1) := by decide +kernel
theorem dL_told_262 : decode cL_told 262 = .ok (.aload_n 0, 1) := by decide +kernel
theorem dL_told_263 : decode cL_told 263 = .ok (.iconst 0, 1) := by decide +kernel
theorem dL_told_264 : decode cL_told 264 = .ok (.invokevirtual 128, 3) := by decide +kernel
theorem dL_told_267 : decode cL_told 267 = .ok (.invokestatic 236, 3) := by decide +kernel
theorem dL_told_270 : decode cL_told 270 = .ok (.bipush (-11), 2) := by decide +kernel
theorem dL_told_272 : decode cL_told 272 = .ok (.if_icmp .ne 7, 3) := by decide +kernel
theorem dL_told_275 : decode cL_told 275 = .ok (.iconst 1, 1) := by decide +kernel
theorem dL_told_276 : decode cL_told 276 = .ok (.goto 4, 3) := by decide +kernel
theorem dL_told_279 : decode cL_told 279 = .ok (.iconst 0, 1) := by decide +kernel
theorem dL_told_280 : decode cL_told 280 = .ok (.ireturn, 1) := by decide +kernel
theorem dL_accounts_0 : decode cL_accounts 0 = .ok (.aload_n 0, 1) := by decide +kernel
theorem dL_accounts_1 : decode cL_accounts 1 = .ok (.iconst 0, 1) := by decide +kernel
theorem dL_accounts_2 : decode cL_accounts 2 = .ok (.invokevirtual 128, 3) := by decide +kernel
theorem dL_accounts_5 : decode cL_accounts 5 = .ok (.istore_n 1, 1) := by decide +kernel
theorem dL_accounts_6 : decode cL_accounts 6 = .ok (.aload_n 0, 1) := by decide +kernel
theorem dL_accounts_7 : decode cL_accounts 7 = .ok (.invokestatic 178, 3) := by decide +kernel
theorem dL_accounts_10 : decode cL_accounts 10 = .ok (.astore_n 2, 1) := by decide +kernel
theorem dL_accounts_11 : decode cL_accounts 11 = .ok (.iconst 0, 1) := by decide +kernel
theorem dL_accounts_12 : decode cL_accounts 12 = .ok (.istore_n 3, 1) := by decide +kernel
theorem dL_accounts_13 : decode cL_accounts 13 = .ok (.iconst 0, 1) := by decide +kernel
theorem dL_accounts_14 : decode cL_accounts 14 = .ok (.istore 4, 2) := by decide +kernel
theorem dL_accounts_16 : decode cL_accounts 16 = .ok (.iconst 0, 1) := by decide +kernel
theorem dL_accounts_17 : decode cL_accounts 17 = .ok (.istore 5, 2) := by decide +kernel
theorem dL_accounts_19 : decode cL_accounts 19 = .ok (.iconst 0, 1) := by decide +kernel
theorem dL_accounts_20 : decode cL_accounts 20 = .ok (.istore 6, 2) := by decide +kernel
theorem dL_accounts_22 : decode cL_accounts 22 = .ok (.iconst 0, 1) := by decide +kernel
theorem dL_accounts_23 : decode cL_accounts 23 = .ok (.istore 7, 2) := by decide +kernel
theorem dL_accounts_25 : decode cL_accounts 25 = .ok (.iconst 0, 1) := by decide +kernel
theorem dL_accounts_26 : decode cL_accounts 26 = .ok (.istore 8, 2) := by decide +kernel
theorem dL_accounts_28 : decode cL_accounts 28 = .ok (.iconst 0, 1) := by decide +kernel
theorem dL_accounts_29 : decode cL_accounts 29 = .ok (.istore 9, 2) := by decide +kernel
theorem dL_accounts_31 : decode cL_accounts 31 = .ok (.iconst 0, 1) := by decide +kernel
theorem dL_accounts_32 : decode cL_accounts 32 = .ok (.istore 10, 2) := by decide +kernel
theorem dL_accounts_34 : decode cL_accounts 34 = .ok (.iload 10, 2) := by decide +kernel
theorem dL_accounts_36 : decode cL_accounts 36 = .ok (.iload_n 1, 1) := by decide +kernel
theorem dL_accounts_37 : decode cL_accounts 37 = .ok (.if_icmp .ge 119, 3) := by decide +kernel
theorem dL_accounts_40 : decode cL_accounts 40 = .ok (.iload_n 3, 1) := by decide +kernel
theorem dL_accounts_41 : decode cL_accounts 41 = .ok (.aload_n 0, 1) := by decide +kernel
theorem dL_accounts_42 : decode cL_accounts 42 = .ok (.iload 10, 2) := by decide +kernel
theorem dL_accounts_44 : decode cL_accounts 44 = .ok (.bipush 6, 2) := by decide +kernel
theorem dL_accounts_46 : decode cL_accounts 46 = .ok (.invokestatic 151, 3) := by decide +kernel
theorem dL_accounts_49 : decode cL_accounts 49 = .ok (.iadd, 1) := by decide +kernel
theorem dL_accounts_50 : decode cL_accounts 50 = .ok (.istore_n 3, 1) := by decide +kernel
theorem dL_accounts_51 : decode cL_accounts 51 = .ok (.iload 4, 2) := by decide +kernel
theorem dL_accounts_53 : decode cL_accounts 53 = .ok (.aload_n 0, 1) := by decide +kernel
theorem dL_accounts_54 : decode cL_accounts 54 = .ok (.iload 10, 2) := by decide +kernel
theorem dL_accounts_56 : decode cL_accounts 56 = .ok (.iconst 0, 1) := by decide +kernel
theorem dL_accounts_57 : decode cL_accounts 57 = .ok (.invokestatic 151, 3) := by decide +kernel
theorem dL_accounts_60 : decode cL_accounts 60 = .ok (.ifCond .ge 7, 3) := by decide +kernel
theorem dL_accounts_63 : decode cL_accounts 63 = .ok (.iconst 1, 1) := by decide +kernel
theorem dL_accounts_64 : decode cL_accounts 64 = .ok (.goto 4, 3) := by decide +kernel
theorem dL_accounts_67 : decode cL_accounts 67 = .ok (.iconst 0, 1) := by decide +kernel
theorem dL_accounts_68 : decode cL_accounts 68 = .ok (.iadd, 1) := by decide +kernel
theorem dL_accounts_69 : decode cL_accounts 69 = .ok (.istore 4, 2) := by decide +kernel
theorem dL_accounts_71 : decode cL_accounts 71 = .ok (.iload 5, 2) := by decide +kernel
theorem dL_accounts_73 : decode cL_accounts 73 = .ok (.aload_n 0, 1) := by decide +kernel
theorem dL_accounts_74 : decode cL_accounts 74 = .ok (.iload 10, 2) := by decide +kernel
theorem dL_accounts_76 : decode cL_accounts 76 = .ok (.iconst 4, 1) := by decide +kernel
theorem dL_accounts_77 : decode cL_accounts 77 = .ok (.invokestatic 151, 3) := by decide +kernel
theorem dL_accounts_80 : decode cL_accounts 80 = .ok (.iload 10, 2) := by decide +kernel
theorem dL_accounts_82 : decode cL_accounts 82 = .ok (.if_icmp .le 7, 3) := by decide +kernel
theorem dL_accounts_85 : decode cL_accounts 85 = .ok (.iconst 1, 1) := by decide +kernel
theorem dL_accounts_86 : decode cL_accounts 86 = .ok (.goto 4, 3) := by decide +kernel
theorem dL_accounts_89 : decode cL_accounts 89 = .ok (.iconst 0, 1) := by decide +kernel
theorem dL_accounts_90 : decode cL_accounts 90 = .ok (.iadd, 1) := by decide +kernel
theorem dL_accounts_91 : decode cL_accounts 91 = .ok (.istore 5, 2) := by decide +kernel
theorem dL_accounts_93 : decode cL_accounts 93 = .ok (.iload 6, 2) := by decide +kernel
theorem dL_accounts_95 : decode cL_accounts 95 = .ok (.aload_n 0, 1) := by decide +kernel
theorem dL_accounts_96 : decode cL_accounts 96 = .ok (.iload 10, 2) := by decide +kernel
theorem dL_accounts_98 : decode cL_accounts 98 = .ok (.iconst 1, 1) := by decide +kernel
theorem dL_accounts_99 : decode cL_accounts 99 = .ok (.invokestatic 151, 3) := by decide +kernel
theorem dL_accounts_102 : decode cL_accounts 102 = .ok (.invokestatic 202, 3) := by decide +kernel
theorem dL_accounts_105 : decode cL_accounts 105 = .ok (.istore 6, 2) := by decide +kernel
theorem dL_accounts_107 : decode cL_accounts 107 = .ok (.iload 7, 2) := by decide +kernel
theorem dL_accounts_109 : decode cL_accounts 109 = .ok (.aload_n 0, 1) := by decide +kernel
theorem dL_accounts_110 : decode cL_accounts 110 = .ok (.iload 10, 2) := by decide +kernel
theorem dL_accounts_112 : decode cL_accounts 112 = .ok (.iconst 5, 1) := by decide +kernel
theorem dL_accounts_113 : decode cL_accounts 113 = .ok (.invokestatic 151, 3) := by decide +kernel
theorem dL_accounts_116 : decode cL_accounts 116 = .ok (.iadd, 1) := by decide +kernel
theorem dL_accounts_117 : decode cL_accounts 117 = .ok (.istore 7, 2) := by decide +kernel
theorem dL_accounts_119 : decode cL_accounts 119 = .ok (.iload 8, 2) := by decide +kernel
theorem dL_accounts_121 : decode cL_accounts 121 = .ok (.aload_n 2, 1) := by decide +kernel
theorem dL_accounts_122 : decode cL_accounts 122 = .ok (.iload 10, 2) := by decide +kernel
theorem dL_accounts_124 : decode cL_accounts 124 = .ok (.iaload, 1) := by decide +kernel
theorem dL_accounts_125 : decode cL_accounts 125 = .ok (.iload 10, 2) := by decide +kernel
theorem dL_accounts_127 : decode cL_accounts 127 = .ok (.if_icmp .ne 7, 3) := by decide +kernel
theorem dL_accounts_130 : decode cL_accounts 130 = .ok (.iconst 1, 1) := by decide +kernel
theorem dL_accounts_131 : decode cL_accounts 131 = .ok (.goto 4, 3) := by decide +kernel
theorem dL_accounts_134 : decode cL_accounts 134 = .ok (.iconst 0, 1) := by decide +kernel
theorem dL_accounts_135 : decode cL_accounts 135 = .ok (.iadd, 1) := by decide +kernel
theorem dL_accounts_136 : decode cL_accounts 136 = .ok (.istore 8, 2) := by decide +kernel
theorem dL_accounts_138 : decode cL_accounts 138 = .ok (.iload 9, 2) := by decide +kernel
theorem dL_accounts_140 : decode cL_accounts 140 = .ok (.aload_n 0, 1) := by decide +kernel
theorem dL_accounts_141 : decode cL_accounts 141 = .ok (.iload 10, 2) := by decide +kernel
theorem dL_accounts_143 : decode cL_accounts 143 = .ok (.iconst 1, 1) := by decide +kernel
theorem dL_accounts_144 : decode cL_accounts 144 = .ok (.invokestatic 151, 3) := by decide +kernel
theorem dL_accounts_147 : decode cL_accounts 147 = .ok (.iadd, 1) := by decide +kernel
theorem dL_accounts_148 : decode cL_accounts 148 = .ok (.istore 9, 2) := by decide +kernel
theorem dL_accounts_150 : decode cL_accounts 150 = .ok (.iinc 10 1, 3) := by decide +kernel
theorem dL_accounts_153 : decode cL_accounts 153 = .ok (.goto (-119), 3) := by decide +kernel
theorem dL_accounts_156 : decode cL_accounts 156 = .ok (.iconst 1, 1) := by decide +kernel
theorem dL_accounts_157 : decode cL_accounts 157 = .ok (.istore 10, 2) := by decide +kernel
theorem dL_accounts_159 : decode cL_accounts 159 = .ok (.iconst 0, 1) := by decide +kernel
theorem dL_accounts_160 : decode cL_accounts 160 = .ok (.istore 11, 2) := by decide +kernel
theorem dL_accounts_162 : decode cL_accounts 162 = .ok (.iload 11, 2) := by decide +kernel
theorem dL_accounts_164 : decode cL_accounts 164 = .ok (.aload_n 0, 1) := by decide +kernel
theorem dL_accounts_165 : decode cL_accounts 165 = .ok (.iconst 4, 1) := by decide +kernel
theorem dL_accounts_166 : decode cL_accounts 166 = .ok (.invokevirtual 128, 3) := by decide +kernel
theorem dL_accounts_169 : decode cL_accounts 169 = .ok (.if_icmp .ge 42, 3) := by decide +kernel
theorem dL_accounts_172 : decode cL_accounts 172 = .ok (.iload 10, 2) := by decide +kernel
theorem dL_accounts_174 : decode cL_accounts 174 = .ok (.ifCond .eq 28, 3) := by decide +kernel
theorem dL_accounts_177 : decode cL_accounts 177 = .ok (.aload_n 2, 1) := by decide +kernel
theorem dL_accounts_178 : decode cL_accounts 178 = .ok (.aload_n 0, 1) := by decide +kernel
theorem dL_accounts_179 : decode cL_accounts 179 = .ok (.iload 11, 2) := by decide +kernel
theorem dL_accounts_181 : decode cL_accounts 181 = .ok (.iconst 0, 1) := by decide +kernel
theorem dL_accounts_182 : decode cL_accounts 182 = .ok (.invokestatic 185, 3) := by decide +kernel
theorem dL_accounts_185 : decode cL_accounts 185 = .ok (.iaload, 1) := by decide +kernel
theorem dL_accounts_186 : decode cL_accounts 186 = .ok (.aload_n 2, 1) := by decide +kernel
theorem dL_accounts_187 : decode cL_accounts 187 = .ok (.aload_n 0, 1) := by decide +kernel
theorem dL_accounts_188 : decode cL_accounts 188 = .ok (.iload 11, 2) := by decide +kernel
theorem dL_accounts_190 : decode cL_accounts 190 = .ok (.iconst 1, 1) := by decide +kernel
theorem dL_accounts_191 : decode cL_accounts 191 = .ok (.invokestatic 185, 3) := by decide +kernel
theorem dL_accounts_194 : decode cL_accounts 194 = .ok (.iaload, 1) := by decide +kernel
theorem dL_accounts_195 : decode cL_accounts 195 = .ok (.if_icmp .eq 7, 3) := by decide +kernel
theorem dL_accounts_198 : decode cL_accounts 198 = .ok (.iconst 1, 1) := by decide +kernel
theorem dL_accounts_199 : decode cL_accounts 199 = .ok (.goto 4, 3) := by decide +kernel
theorem dL_accounts_202 : decode cL_accounts 202 = .ok (.iconst 0, 1) := by decide +kernel
theorem dL_accounts_203 : decode cL_accounts 203 = .ok (.istore 10, 2) := by decide +kernel
theorem dL_accounts_205 : decode cL_accounts 205 = .ok (.iinc 11 1, 3) := by decide +kernel
theorem dL_accounts_208 : decode cL_accounts 208 = .ok (.goto (-46), 3) := by decide +kernel
theorem dL_accounts_211 : decode cL_accounts 211 = .ok (.aload_n 0, 1) := by decide +kernel
theorem dL_accounts_212 : decode cL_accounts 212 = .ok (.iconst 1, 1) := by decide +kernel
theorem dL_accounts_213 : decode cL_accounts 213 = .ok (.invokevirtual 128, 3) := by decide +kernel
theorem dL_accounts_216 : decode cL_accounts 216 = .ok (.iload_n 3, 1) := by decide +kernel
theorem dL_accounts_217 : decode cL_accounts 217 = .ok (.if_icmp .ne 85, 3) := by decide +kernel
theorem dL_accounts_220 : decode cL_accounts 220 = .ok (.aload_n 0, 1) := by decide +kernel
theorem dL_accounts_221 : decode cL_accounts 221 = .ok (.iconst 2, 1) := by decide +kernel
theorem dL_accounts_222 : decode cL_accounts 222 = .ok (.invokevirtual 128, 3) := by decide +kernel
theorem dL_accounts_225 : decode cL_accounts 225 = .ok (.iload 4, 2) := by decide +kernel
theorem dL_accounts_227 : decode cL_accounts 227 = .ok (.if_icmp .ne 75, 3) := by decide +kernel
theorem dL_accounts_230 : decode cL_accounts 230 = .ok (.aload_n 0, 1) := by decide +kernel
theorem dL_accounts_231 : decode cL_accounts 231 = .ok (.iconst 3, 1) := by decide +kernel
theorem dL_accounts_232 : decode cL_accounts 232 = .ok (.invokevirtual 128, 3) := by decide +kernel
theorem dL_accounts_235 : decode cL_accounts 235 = .ok (.iload 5, 2) := by decide +kernel
theorem dL_accounts_237 : decode cL_accounts 237 = .ok (.if_icmp .ne 65, 3) := by decide +kernel
theorem dL_accounts_240 : decode cL_accounts 240 = .ok (.aload_n 0, 1) := by decide +kernel
theorem dL_accounts_241 : decode cL_accounts 241 = .ok (.bipush 6, 2) := by decide +kernel
theorem dL_accounts_243 : decode cL_accounts 243 = .ok (.invokevirtual 128, 3) := by decide +kernel
theorem dL_accounts_246 : decode cL_accounts 246 = .ok (.iload 6, 2) := by decide +kernel
theorem dL_accounts_248 : decode cL_accounts 248 = .ok (.if_icmp .ne 54, 3) := by decide +kernel
theorem dL_accounts_251 : decode cL_accounts 251 = .ok (.aload_n 0, 1) := by decide +kernel
theorem dL_accounts_252 : decode cL_accounts 252 = .ok (.bipush 7, 2) := by decide +kernel
theorem dL_accounts_254 : decode cL_accounts 254 = .ok (.invokevirtual 128, 3) := by decide +kernel
theorem dL_accounts_257 : decode cL_accounts 257 = .ok (.iload 7, 2) := by decide +kernel
theorem dL_accounts_259 : decode cL_accounts 259 = .ok (.if_icmp .ne 43, 3) := by decide +kernel
theorem dL_accounts_262 : decode cL_accounts 262 = .ok (.aload_n 0, 1) := by decide +kernel
theorem dL_accounts_263 : decode cL_accounts 263 = .ok (.bipush 8, 2) := by decide +kernel
theorem dL_accounts_265 : decode cL_accounts 265 = .ok (.invokevirtual 128, 3) := by decide +kernel
theorem dL_accounts_268 : decode cL_accounts 268 = .ok (.iload 7, 2) := by decide +kernel
theorem dL_accounts_270 : decode cL_accounts 270 = .ok (.aload_n 0, 1) := by decide +kernel
theorem dL_accounts_271 : decode cL_accounts 271 = .ok (.bipush 9, 2) := by decide +kernel
theorem dL_accounts_273 : decode cL_accounts 273 = .ok (.invokevirtual 128, 3) := by decide +kernel
theorem dL_accounts_276 : decode cL_accounts 276 = .ok (.iadd, 1) := by decide +kernel
theorem dL_accounts_277 : decode cL_accounts 277 = .ok (.if_icmp .ne 25, 3) := by decide +kernel
theorem dL_accounts_280 : decode cL_accounts 280 = .ok (.aload_n 0, 1) := by decide +kernel
theorem dL_accounts_281 : decode cL_accounts 281 = .ok (.invokevirtual 240, 3) := by decide +kernel
theorem dL_accounts_284 : decode cL_accounts 284 = .ok (.iload 8, 2) := by decide +kernel
theorem dL_accounts_286 : decode cL_accounts 286 = .ok (.if_icmp .ne 16, 3) := by decide +kernel
theorem dL_accounts_289 : decode cL_accounts 289 = .ok (.aload_n 0, 1) := by decide +kernel
theorem dL_accounts_290 : decode cL_accounts 290 = .ok (.invokevirtual 242, 3) := by decide +kernel
theorem dL_accounts_293 : decode cL_accounts 293 = .ok (.iload 8, 2) := by decide +kernel
theorem dL_accounts_295 : decode cL_accounts 295 = .ok (.if_icmp .ne 7, 3) := by decide +kernel
theorem dL_accounts_298 : decode cL_accounts 298 = .ok (.iconst 1, 1) := by decide +kernel
theorem dL_accounts_299 : decode cL_accounts 299 = .ok (.goto 4, 3) := by decide +kernel
theorem dL_accounts_302 : decode cL_accounts 302 = .ok (.iconst 0, 1) := by decide +kernel
theorem dL_accounts_303 : decode cL_accounts 303 = .ok (.istore 11, 2) := by decide +kernel
theorem dL_accounts_305 : decode cL_accounts 305 = .ok (.iload 11, 2) := by decide +kernel
theorem dL_accounts_307 : decode cL_accounts 307 = .ok (.ifCond .eq 61, 3) := by decide +kernel
theorem dL_accounts_310 : decode cL_accounts 310 = .ok (.iload 10, 2) := by decide +kernel
theorem dL_accounts_312 : decode cL_accounts 312 = .ok (.ifCond .eq 56, 3) := by decide +kernel
theorem dL_accounts_315 : decode cL_accounts 315 = .ok (.aload_n 0, 1) := by decide +kernel
theorem dL_accounts_316 : decode cL_accounts 316 = .ok (.aload_n 0, 1) := by decide +kernel
theorem dL_accounts_317 : decode cL_accounts 317 = .ok (.iconst 4, 1) := by decide +kernel
theorem dL_accounts_318 : decode cL_accounts 318 = .ok (.invokevirtual 128, 3) := by decide +kernel
theorem dL_accounts_321 : decode cL_accounts 321 = .ok (.iconst 0, 1) := by decide +kernel
theorem dL_accounts_322 : decode cL_accounts 322 = .ok (.invokestatic 185, 3) := by decide +kernel
theorem dL_accounts_325 : decode cL_accounts 325 = .ok (.bipush (-13), 2) := by decide +kernel
theorem dL_accounts_327 : decode cL_accounts 327 = .ok (.if_icmp .ne 41, 3) := by decide +kernel
theorem dL_accounts_330 : decode cL_accounts 330 = .ok (.aload_n 0, 1) := by decide +kernel
theorem dL_accounts_331 : decode cL_accounts 331 = .ok (.invokevirtual 245, 3) := by decide +kernel
theorem dL_accounts_334 : decode cL_accounts 334 = .ok (.ifCond .eq 34, 3) := by decide +kernel
theorem dL_accounts_337 : decode cL_accounts 337 = .ok (.aload_n 0, 1) := by decide +kernel
theorem dL_accounts_338 : decode cL_accounts 338 = .ok (.invokevirtual 249, 3) := by decide +kernel
theorem dL_accounts_341 : decode cL_accounts 341 = .ok (.iload 9, 2) := by decide +kernel
theorem dL_accounts_343 : decode cL_accounts 343 = .ok (.i2d, 1) := by decide +kernel
theorem dL_accounts_344 : decode cL_accounts 344 = .ok (.iload_n 1, 1) := by decide +kernel
theorem dL_accounts_345 : decode cL_accounts 345 = .ok (.i2d, 1) := by decide +kernel
theorem dL_accounts_346 : decode cL_accounts 346 = .ok (.ddiv, 1) := by decide +kernel
theorem dL_accounts_347 : decode cL_accounts 347 = .ok (.dcmp .l, 1) := by decide +kernel
theorem dL_accounts_348 : decode cL_accounts 348 = .ok (.ifCond .ne 20, 3) := by decide +kernel
theorem dL_accounts_351 : decode cL_accounts 351 = .ok (.aload_n 0, 1) := by decide +kernel
theorem dL_accounts_352 : decode cL_accounts 352 = .ok (.invokevirtual 253, 3) := by decide +kernel
theorem dL_accounts_355 : decode cL_accounts 355 = .ok (.iload_n 3, 1) := by decide +kernel
theorem dL_accounts_356 : decode cL_accounts 356 = .ok (.i2f, 1) := by decide +kernel
theorem dL_accounts_357 : decode cL_accounts 357 = .ok (.iload_n 1, 1) := by decide +kernel
theorem dL_accounts_358 : decode cL_accounts 358 = .ok (.i2f, 1) := by decide +kernel
theorem dL_accounts_359 : decode cL_accounts 359 = .ok (.fdiv, 1) := by decide +kernel
theorem dL_accounts_360 : decode cL_accounts 360 = .ok (.fcmp .l, 1) := by decide +kernel
theorem dL_accounts_361 : decode cL_accounts 361 = .ok (.ifCond .ne 7, 3) := by decide +kernel
theorem dL_accounts_364 : decode cL_accounts 364 = .ok (.iconst 1, 1) := by decide +kernel
theorem dL_accounts_365 : decode cL_accounts 365 = .ok (.goto 4, 3) := by decide +kernel
theorem dL_accounts_368 : decode cL_accounts 368 = .ok (.iconst 0, 1) := by decide +kernel
theorem dL_accounts_369 : decode cL_accounts 369 = .ok (.ireturn, 1) := by decide +kernel
theorem dL_sum_0 : decode cL_sum 0 = .ok (.ldc2_w 257, 3) := by decide +kernel
theorem dL_sum_3 : decode cL_sum 3 = .ok (.lstore_n 1, 1) := by decide +kernel
theorem dL_sum_4 : decode cL_sum 4 = .ok (.iconst 0, 1) := by decide +kernel
theorem dL_sum_5 : decode cL_sum 5 = .ok (.istore_n 3, 1) := by decide +kernel
theorem dL_sum_6 : decode cL_sum 6 = .ok (.iload_n 3, 1) := by decide +kernel
theorem dL_sum_7 : decode cL_sum 7 = .ok (.bipush 10, 2) := by decide +kernel
theorem dL_sum_9 : decode cL_sum 9 = .ok (.if_icmp .ge 22, 3) := by decide +kernel
theorem dL_sum_12 : decode cL_sum 12 = .ok (.ldc2_w 259, 3) := by decide +kernel
theorem dL_sum_15 : decode cL_sum 15 = .ok (.lload_n 1, 1) := by decide +kernel
theorem dL_sum_16 : decode cL_sum 16 = .ok (.lmul, 1) := by decide +kernel
theorem dL_sum_17 : decode cL_sum 17 = .ok (.aload_n 0, 1) := by decide +kernel
theorem dL_sum_18 : decode cL_sum 18 = .ok (.iload_n 3, 1) := by decide +kernel
theorem dL_sum_19 : decode cL_sum 19 = .ok (.invokevirtual 128, 3) := by decide +kernel
theorem dL_sum_22 : decode cL_sum 22 = .ok (.i2l, 1) := by decide +kernel
theorem dL_sum_23 : decode cL_sum 23 = .ok (.ladd, 1) := by decide +kernel
theorem dL_sum_24 : decode cL_sum 24 = .ok (.lstore_n 1, 1) := by decide +kernel
theorem dL_sum_25 : decode cL_sum 25 = .ok (.iinc 3 1, 3) := by decide +kernel
theorem dL_sum_28 : decode cL_sum 28 = .ok (.goto (-22), 3) := by decide +kernel
theorem dL_sum_31 : decode cL_sum 31 = .ok (.iconst 0, 1) := by decide +kernel
theorem dL_sum_32 : decode cL_sum 32 = .ok (.istore_n 3, 1) := by decide +kernel
theorem dL_sum_33 : decode cL_sum 33 = .ok (.iload_n 3, 1) := by decide +kernel
theorem dL_sum_34 : decode cL_sum 34 = .ok (.aload_n 0, 1) := by decide +kernel
theorem dL_sum_35 : decode cL_sum 35 = .ok (.iconst 0, 1) := by decide +kernel
theorem dL_sum_36 : decode cL_sum 36 = .ok (.invokevirtual 128, 3) := by decide +kernel
theorem dL_sum_39 : decode cL_sum 39 = .ok (.if_icmp .ge 40, 3) := by decide +kernel
theorem dL_sum_42 : decode cL_sum 42 = .ok (.iconst 0, 1) := by decide +kernel
theorem dL_sum_43 : decode cL_sum 43 = .ok (.istore 4, 2) := by decide +kernel
theorem dL_sum_45 : decode cL_sum 45 = .ok (.iload 4, 2) := by decide +kernel
theorem dL_sum_47 : decode cL_sum 47 = .ok (.bipush 10, 2) := by decide +kernel
theorem dL_sum_49 : decode cL_sum 49 = .ok (.if_icmp .ge 24, 3) := by decide +kernel
theorem dL_sum_52 : decode cL_sum 52 = .ok (.ldc2_w 261, 3) := by decide +kernel
theorem dL_sum_55 : decode cL_sum 55 = .ok (.lload_n 1, 1) := by decide +kernel
theorem dL_sum_56 : decode cL_sum 56 = .ok (.lmul, 1) := by decide +kernel
theorem dL_sum_57 : decode cL_sum 57 = .ok (.aload_n 0, 1) := by decide +kernel
theorem dL_sum_58 : decode cL_sum 58 = .ok (.iload_n 3, 1) := by decide +kernel
theorem dL_sum_59 : decode cL_sum 59 = .ok (.iload 4, 2) := by decide +kernel
theorem dL_sum_61 : decode cL_sum 61 = .ok (.invokestatic 151, 3) := by decide +kernel
theorem dL_sum_64 : decode cL_sum 64 = .ok (.i2l, 1) := by decide +kernel
theorem dL_sum_65 : decode cL_sum 65 = .ok (.ladd, 1) := by decide +kernel
theorem dL_sum_66 : decode cL_sum 66 = .ok (.lstore_n 1, 1) := by decide +kernel
theorem dL_sum_67 : decode cL_sum 67 = .ok (.iinc 4 1, 3) := by decide +kernel
theorem dL_sum_70 : decode cL_sum 70 = .ok (.goto (-25), 3) := by decide +kernel
theorem dL_sum_73 : decode cL_sum 73 = .ok (.iinc 3 1, 3) := by decide +kernel
theorem dL_sum_76 : decode cL_sum 76 = .ok (.goto (-43), 3) := by decide +kernel
theorem dL_sum_79 : decode cL_sum 79 = .ok (.iconst 0, 1) := by decide +kernel
theorem dL_sum_80 : decode cL_sum 80 = .ok (.istore_n 3, 1) := by decide +kernel
theorem dL_sum_81 : decode cL_sum 81 = .ok (.iload_n 3, 1) := by decide +kernel
theorem dL_sum_82 : decode cL_sum 82 = .ok (.aload_n 0, 1) := by decide +kernel
theorem dL_sum_83 : decode cL_sum 83 = .ok (.iconst 4, 1) := by decide +kernel
theorem dL_sum_84 : decode cL_sum 84 = .ok (.invokevirtual 128, 3) := by decide +kernel
theorem dL_sum_87 : decode cL_sum 87 = .ok (.if_icmp .ge 35, 3) := by decide +kernel
theorem dL_sum_90 : decode cL_sum 90 = .ok (.ldc2_w 263, 3) := by decide +kernel
theorem dL_sum_93 : decode cL_sum 93 = .ok (.lload_n 1, 1) := by decide +kernel
theorem dL_sum_94 : decode cL_sum 94 = .ok (.lmul, 1) := by decide +kernel
theorem dL_sum_95 : decode cL_sum 95 = .ok (.ldc2_w 265, 3) := by decide +kernel
theorem dL_sum_98 : decode cL_sum 98 = .ok (.aload_n 0, 1) := by decide +kernel
theorem dL_sum_99 : decode cL_sum 99 = .ok (.iload_n 3, 1) := by decide +kernel
theorem dL_sum_100 : decode cL_sum 100 = .ok (.iconst 0, 1) := by decide +kernel
theorem dL_sum_101 : decode cL_sum 101 = .ok (.invokestatic 185, 3) := by decide +kernel
theorem dL_sum_104 : decode cL_sum 104 = .ok (.i2l, 1) := by decide +kernel
theorem dL_sum_105 : decode cL_sum 105 = .ok (.lmul, 1) := by decide +kernel
theorem dL_sum_106 : decode cL_sum 106 = .ok (.ladd, 1) := by decide +kernel
theorem dL_sum_107 : decode cL_sum 107 = .ok (.aload_n 0, 1) := by decide +kernel
theorem dL_sum_108 : decode cL_sum 108 = .ok (.iload_n 3, 1) := by decide +kernel
theorem dL_sum_109 : decode cL_sum 109 = .ok (.iconst 1, 1) := by decide +kernel
theorem dL_sum_110 : decode cL_sum 110 = .ok (.invokestatic 185, 3) := by decide +kernel
theorem dL_sum_113 : decode cL_sum 113 = .ok (.i2l, 1) := by decide +kernel
theorem dL_sum_114 : decode cL_sum 114 = .ok (.ladd, 1) := by decide +kernel
theorem dL_sum_115 : decode cL_sum 115 = .ok (.lstore_n 1, 1) := by decide +kernel
theorem dL_sum_116 : decode cL_sum 116 = .ok (.iinc 3 1, 3) := by decide +kernel
theorem dL_sum_119 : decode cL_sum 119 = .ok (.goto (-38), 3) := by decide +kernel
theorem dL_sum_122 : decode cL_sum 122 = .ok (.lload_n 1, 1) := by decide +kernel
theorem dL_sum_123 : decode cL_sum 123 = .ok (.lreturn, 1) := by decide +kernel
theorem dL_undone_0 : decode cL_undone 0 = .ok (.bipush 9, 2) := by decide +kernel
theorem dL_undone_2 : decode cL_undone 2 = .ok (.newarray .long, 2) := by decide +kernel
theorem dL_undone_4 : decode cL_undone 4 = .ok (.astore_n 2, 1) := by decide +kernel
theorem dL_undone_5 : decode cL_undone 5 = .ok (.iconst 0, 1) := by decide +kernel
theorem dL_undone_6 : decode cL_undone 6 = .ok (.istore_n 3, 1) := by decide +kernel
theorem dL_undone_7 : decode cL_undone 7 = .ok (.iconst 0, 1) := by decide +kernel
theorem dL_undone_8 : decode cL_undone 8 = .ok (.istore 4, 2) := by decide +kernel
theorem dL_undone_10 : decode cL_undone 10 = .ok (.iload 4, 2) := by decide +kernel
theorem dL_undone_12 : decode cL_undone 12 = .ok (.bipush 7, 2) := by decide +kernel
theorem dL_undone_14 : decode cL_undone 14 = .ok (.if_icmp .ge 455, 3) := by decide +kernel
theorem dL_undone_17 : decode cL_undone 17 = .ok (.aload_n 0, 1) := by decide +kernel
theorem dL_undone_18 : decode cL_undone 18 = .ok (.bipush 66, 2) := by decide +kernel
theorem dL_undone_20 : decode cL_undone 20 = .ok (.iload 4, 2) := by decide +kernel
theorem dL_undone_22 : decode cL_undone 22 = .ok (.iadd, 1) := by decide +kernel
theorem dL_undone_23 : decode cL_undone 23 = .ok (.invokestatic 124, 3) := by decide +kernel
theorem dL_undone_26 : decode cL_undone 26 = .ok (.iconst 1, 1) := by decide +kernel
theorem dL_undone_27 : decode cL_undone 27 = .ok (.iushr, 1) := by decide +kernel
theorem dL_undone_28 : decode cL_undone 28 = .ok (.istore 5, 2) := by decide +kernel
theorem dL_undone_30 : decode cL_undone 30 = .ok (.iload 5, 2) := by decide +kernel
theorem dL_undone_32 : decode cL_undone 32 = .ok (.iconst 4, 1) := by decide +kernel
theorem dL_undone_33 : decode cL_undone 33 = .ok (.iushr, 1) := by decide +kernel
theorem dL_undone_34 : decode cL_undone 34 = .ok (.istore 6, 2) := by decide +kernel
theorem dL_undone_36 : decode cL_undone 36 = .ok (.aload_n 1, 1) := by decide +kernel
theorem dL_undone_37 : decode cL_undone 37 = .ok (.iconst 0, 1) := by decide +kernel
theorem dL_undone_38 : decode cL_undone 38 = .ok (.invokevirtual 128, 3) := by decide +kernel
theorem dL_undone_41 : decode cL_undone 41 = .ok (.iconst 1, 1) := by decide +kernel
theorem dL_undone_42 : decode cL_undone 42 = .ok (.iadd, 1) := by decide +kernel
theorem dL_undone_43 : decode cL_undone 43 = .ok (.istore 7, 2) := by decide +kernel
theorem dL_undone_45 : decode cL_undone 45 = .ok (.iload 6, 2) := by decide +kernel
theorem dL_undone_47 : decode cL_undone 47 = .ok (.iload 7, 2) := by decide +kernel
theorem dL_undone_49 : decode cL_undone 49 = .ok (.irem, 1) := by decide +kernel
theorem dL_undone_50 : decode cL_undone 50 = .ok (.istore 8, 2) := by decide +kernel
theorem dL_undone_52 : decode cL_undone 52 = .ok (.iload 6, 2) := by decide +kernel
theorem dL_undone_54 : decode cL_undone 54 = .ok (.iconst 5, 1) := by decide +kernel
theorem dL_undone_55 : decode cL_undone 55 = .ok (.iushr, 1) := by decide +kernel
theorem dL_undone_56 : decode cL_undone 56 = .ok (.iload 7, 2) := by decide +kernel
theorem dL_undone_58 : decode cL_undone 58 = .ok (.irem, 1) := by decide +kernel
theorem dL_undone_59 : decode cL_undone 59 = .ok (.istore 9, 2) := by decide +kernel
theorem dL_undone_61 : decode cL_undone 61 = .ok (.aload_n 2, 1) := by decide +kernel
theorem dL_undone_62 : decode cL_undone 62 = .ok (.iload_n 3, 1) := by decide +kernel
theorem dL_undone_63 : decode cL_undone 63 = .ok (.aload_n 1, 1) := by decide +kernel
theorem dL_undone_64 : decode cL_undone 64 = .ok (.invokestatic 267, 3) := by decide +kernel
theorem dL_undone_67 : decode cL_undone 67 = .ok (.lastore, 1) := by decide +kernel
theorem dL_undone_68 : decode cL_undone 68 = .ok (.iload 5, 2) := by decide +kernel
theorem dL_undone_70 : decode cL_undone 70 = .ok (.bipush 11, 2) := by decide +kernel
theorem dL_undone_72 : decode cL_undone 72 = .ok (.irem, 1) := by decide +kernel
theorem dL_undone_73 : decode cL_undone 73 = .ok (.tableswitch 236 0 8 #[51, 68, 87, 108, 127, 148, 167, 188, 216], 51) := by decide +kernel
theorem dL_undone_124 : decode cL_undone 124 = .ok (.aload_n 1, 1) := by decide +kernel
theorem dL_undone_125 : decode cL_undone 125 = .ok (.invokestatic 131, 3) := by decide +kernel
theorem dL_undone_128 : decode cL_undone 128 = .ok (.ifCond .lt 7, 3) := by decide +kernel
theorem dL_undone_131 : decode cL_undone 131 = .ok (.iconst 1, 1) := by decide +kernel
theorem dL_undone_132 : decode cL_undone 132 = .ok (.goto 4, 3) := by decide +kernel
theorem dL_undone_135 : decode cL_undone 135 = .ok (.iconst 0, 1) := by decide +kernel
theorem dL_undone_136 : decode cL_undone 136 = .ok (.istore 10, 2) := by decide +kernel
theorem dL_undone_138 : decode cL_undone 138 = .ok (.goto 294, 3) := by decide +kernel
theorem dL_undone_141 : decode cL_undone 141 = .ok (.aload_n 1, 1) := by decide +kernel
theorem dL_undone_142 : decode cL_undone 142 = .ok (.iload 8, 2) := by decide +kernel
theorem dL_undone_144 : decode cL_undone 144 = .ok (.invokestatic 133, 3) := by decide +kernel
theorem dL_undone_147 : decode cL_undone 147 = .ok (.ifCond .lt 7, 3) := by decide +kernel
theorem dL_undone_150 : decode cL_undone 150 = .ok (.iconst 1, 1) := by decide +kernel
theorem dL_undone_151 : decode cL_undone 151 = .ok (.goto 4, 3) := by decide +kernel
theorem dL_undone_154 : decode cL_undone 154 = .ok (.iconst 0, 1) := by decide +kernel
theorem dL_undone_155 : decode cL_undone 155 = .ok (.istore 10, 2) := by decide +kernel
theorem dL_undone_157 : decode cL_undone 157 = .ok (.goto 275, 3) := by decide +kernel
theorem dL_undone_160 : decode cL_undone 160 = .ok (.aload_n 1, 1) := by decide +kernel
theorem dL_undone_161 : decode cL_undone 161 = .ok (.iload 8, 2) := by decide +kernel
theorem dL_undone_163 : decode cL_undone 163 = .ok (.iload 9, 2) := by decide +kernel
theorem dL_undone_165 : decode cL_undone 165 = .ok (.invokestatic 136, 3) := by decide +kernel
theorem dL_undone_168 : decode cL_undone 168 = .ok (.ifCond .lt 7, 3) := by decide +kernel
theorem dL_undone_171 : decode cL_undone 171 = .ok (.iconst 1, 1) := by decide +kernel
theorem dL_undone_172 : decode cL_undone 172 = .ok (.goto 4, 3) := by decide +kernel
theorem dL_undone_175 : decode cL_undone 175 = .ok (.iconst 0, 1) := by decide +kernel
theorem dL_undone_176 : decode cL_undone 176 = .ok (.istore 10, 2) := by decide +kernel
theorem dL_undone_178 : decode cL_undone 178 = .ok (.goto 254, 3) := by decide +kernel
theorem dL_undone_181 : decode cL_undone 181 = .ok (.aload_n 1, 1) := by decide +kernel
theorem dL_undone_182 : decode cL_undone 182 = .ok (.iload 8, 2) := by decide +kernel
theorem dL_undone_184 : decode cL_undone 184 = .ok (.invokestatic 139, 3) := by decide +kernel
theorem dL_undone_187 : decode cL_undone 187 = .ok (.ifCond .lt 7, 3) := by decide +kernel
theorem dL_undone_190 : decode cL_undone 190 = .ok (.iconst 1, 1) := by decide +kernel
theorem dL_undone_191 : decode cL_undone 191 = .ok (.goto 4, 3) := by decide +kernel
theorem dL_undone_194 : decode cL_undone 194 = .ok (.iconst 0, 1) := by decide +kernel
theorem dL_undone_195 : decode cL_undone 195 = .ok (.istore 10, 2) := by decide +kernel
theorem dL_undone_197 : decode cL_undone 197 = .ok (.goto 235, 3) := by decide +kernel
theorem dL_undone_200 : decode cL_undone 200 = .ok (.aload_n 1, 1) := by decide +kernel
theorem dL_undone_201 : decode cL_undone 201 = .ok (.iload 8, 2) := by decide +kernel
theorem dL_undone_203 : decode cL_undone 203 = .ok (.iload 9, 2) := by decide +kernel
theorem dL_undone_205 : decode cL_undone 205 = .ok (.invokestatic 141, 3) := by decide +kernel
theorem dL_undone_208 : decode cL_undone 208 = .ok (.ifCond .lt 7, 3) := by decide +kernel
theorem dL_undone_211 : decode cL_undone 211 = .ok (.iconst 1, 1) := by decide +kernel
theorem dL_undone_212 : decode cL_undone 212 = .ok (.goto 4, 3) := by decide +kernel
theorem dL_undone_215 : decode cL_undone 215 = .ok (.iconst 0, 1) := by decide +kernel
theorem dL_undone_216 : decode cL_undone 216 = .ok (.istore 10, 2) := by decide +kernel
theorem dL_undone_218 : decode cL_undone 218 = .ok (.goto 214, 3) := by decide +kernel
theorem dL_undone_221 : decode cL_undone 221 = .ok (.aload_n 1, 1) := by decide +kernel
theorem dL_undone_222 : decode cL_undone 222 = .ok (.iload 8, 2) := by decide +kernel
theorem dL_undone_224 : decode cL_undone 224 = .ok (.invokestatic 143, 3) := by decide +kernel
theorem dL_undone_227 : decode cL_undone 227 = .ok (.ifCond .lt 7, 3) := by decide +kernel
theorem dL_undone_230 : decode cL_undone 230 = .ok (.iconst 1, 1) := by decide +kernel
theorem dL_undone_231 : decode cL_undone 231 = .ok (.goto 4, 3) := by decide +kernel
theorem dL_undone_234 : decode cL_undone 234 = .ok (.iconst 0, 1) := by decide +kernel
theorem dL_undone_235 : decode cL_undone 235 = .ok (.istore 10, 2) := by decide +kernel
theorem dL_undone_237 : decode cL_undone 237 = .ok (.goto 195, 3) := by decide +kernel
theorem dL_undone_240 : decode cL_undone 240 = .ok (.aload_n 1, 1) := by decide +kernel
theorem dL_undone_241 : decode cL_undone 241 = .ok (.iload 8, 2) := by decide +kernel
theorem dL_undone_243 : decode cL_undone 243 = .ok (.iload 9, 2) := by decide +kernel
theorem dL_undone_245 : decode cL_undone 245 = .ok (.invokestatic 145, 3) := by decide +kernel
theorem dL_undone_248 : decode cL_undone 248 = .ok (.ifCond .lt 7, 3) := by decide +kernel
theorem dL_undone_251 : decode cL_undone 251 = .ok (.iconst 1, 1) := by decide +kernel
theorem dL_undone_252 : decode cL_undone 252 = .ok (.goto 4, 3) := by decide +kernel
theorem dL_undone_255 : decode cL_undone 255 = .ok (.iconst 0, 1) := by decide +kernel
theorem dL_undone_256 : decode cL_undone 256 = .ok (.istore 10, 2) := by decide +kernel
theorem dL_undone_258 : decode cL_undone 258 = .ok (.goto 174, 3) := by decide +kernel
theorem dL_undone_261 : decode cL_undone 261 = .ok (.aload_n 1, 1) := by decide +kernel
theorem dL_undone_262 : decode cL_undone 262 = .ok (.iload 8, 2) := by decide +kernel
theorem dL_undone_264 : decode cL_undone 264 = .ok (.iload 6, 2) := by decide +kernel
theorem dL_undone_266 : decode cL_undone 266 = .ok (.bipush 10, 2) := by decide +kernel
theorem dL_undone_268 : decode cL_undone 268 = .ok (.iushr, 1) := by decide +kernel
theorem dL_undone_269 : decode cL_undone 269 = .ok (.sipush 1001, 3) := by decide +kernel
theorem dL_undone_272 : decode cL_undone 272 = .ok (.irem, 1) := by decide +kernel
theorem dL_undone_273 : decode cL_undone 273 = .ok (.invokestatic 147, 3) := by decide +kernel
theorem dL_undone_276 : decode cL_undone 276 = .ok (.ifCond .lt 7, 3) := by decide +kernel
theorem dL_undone_279 : decode cL_undone 279 = .ok (.iconst 1, 1) := by decide +kernel
theorem dL_undone_280 : decode cL_undone 280 = .ok (.goto 4, 3) := by decide +kernel
theorem dL_undone_283 : decode cL_undone 283 = .ok (.iconst 0, 1) := by decide +kernel
theorem dL_undone_284 : decode cL_undone 284 = .ok (.istore 10, 2) := by decide +kernel
theorem dL_undone_286 : decode cL_undone 286 = .ok (.goto 146, 3) := by decide +kernel
theorem dL_undone_289 : decode cL_undone 289 = .ok (.aload_n 1, 1) := by decide +kernel
theorem dL_undone_290 : decode cL_undone 290 = .ok (.iload 8, 2) := by decide +kernel
theorem dL_undone_292 : decode cL_undone 292 = .ok (.invokestatic 149, 3) := by decide +kernel
theorem dL_undone_295 : decode cL_undone 295 = .ok (.iconst (-1), 1) := by decide +kernel
theorem dL_undone_296 : decode cL_undone 296 = .ok (.if_icmp .lt 7, 3) := by decide +kernel
theorem dL_undone_299 : decode cL_undone 299 = .ok (.iconst 1, 1) := by decide +kernel
theorem dL_undone_300 : decode cL_undone 300 = .ok (.goto 4, 3) := by decide +kernel
theorem dL_undone_303 : decode cL_undone 303 = .ok (.iconst 0, 1) := by decide +kernel
theorem dL_undone_304 : decode cL_undone 304 = .ok (.istore 10, 2) := by decide +kernel
theorem dL_undone_306 : decode cL_undone 306 = .ok (.goto 126, 3) := by decide +kernel
theorem dL_undone_309 : decode cL_undone 309 = .ok (.aload_n 1, 1) := by decide +kernel
theorem dL_undone_310 : decode cL_undone 310 = .ok (.new 211, 3) := by decide +kernel
theorem dL_undone_313 : decode cL_undone 313 = .ok (.dup, 1) := by decide +kernel
theorem dL_undone_314 : decode cL_undone 314 = .ok (.invokespecial 213, 3) := by decide +kernel
theorem dL_undone_317 : decode cL_undone 317 = .ok (.ldc_w 271, 3) := by decide +kernel
theorem dL_undone_320 : decode cL_undone 320 = .ok (.invokevirtual 216, 3) := by decide +kernel
theorem dL_undone_323 : decode cL_undone 323 = .ok (.iload 8, 2) := by decide +kernel
theorem dL_undone_325 : decode cL_undone 325 = .ok (.invokevirtual 219, 3) := by decide +kernel
theorem dL_undone_328 : decode cL_undone 328 = .ok (.ldc_w 273, 3) := by decide +kernel
theorem dL_undone_331 : decode cL_undone 331 = .ok (.invokevirtual 216, 3) := by decide +kernel
theorem dL_undone_334 : decode cL_undone 334 = .ok (.iload 9, 2) := by decide +kernel
theorem dL_undone_336 : decode cL_undone 336 = .ok (.invokevirtual 219, 3) := by decide +kernel
theorem dL_undone_339 : decode cL_undone 339 = .ok (.ldc 232, 2) := by decide +kernel
theorem dL_undone_341 : decode cL_undone 341 = .ok (.invokevirtual 216, 3) := by decide +kernel
theorem dL_undone_344 : decode cL_undone 344 = .ok (.iload 6, 2) := by decide +kernel
theorem dL_undone_346 : decode cL_undone 346 = .ok (.bipush 10, 2) := by decide +kernel
theorem dL_undone_348 : decode cL_undone 348 = .ok (.iushr, 1) := by decide +kernel
theorem dL_undone_349 : decode cL_undone 349 = .ok (.sipush 1000, 3) := by decide +kernel
theorem dL_undone_352 : decode cL_undone 352 = .ok (.irem, 1) := by decide +kernel
theorem dL_undone_353 : decode cL_undone 353 = .ok (.invokevirtual 219, 3) := by decide +kernel
theorem dL_undone_356 : decode cL_undone 356 = .ok (.iload 5, 2) := by decide +kernel
theorem dL_undone_358 : decode cL_undone 358 = .ok (.bipush 22, 2) := by decide +kernel
theorem dL_undone_360 : decode cL_undone 360 = .ok (.irem, 1) := by decide +kernel
theorem dL_undone_361 : decode cL_undone 361 = .ok (.bipush 11, 2) := by decide +kernel
theorem dL_undone_363 : decode cL_undone 363 = .ok (.if_icmp .ge 8, 3) := by decide +kernel
theorem dL_undone_366 : decode cL_undone 366 = .ok (.ldc 222, 2) := by decide +kernel
theorem dL_undone_368 : decode cL_undone 368 = .ok (.goto 34, 3) := by decide +kernel
theorem dL_undone_371 : decode cL_undone 371 = .ok (.new 211, 3) := by decide +kernel
theorem dL_undone_374 : decode cL_undone 374 = .ok (.dup, 1) := by decide +kernel
theorem dL_undone_375 : decode cL_undone 375 = .ok (.invokespecial 213, 3) := by decide +kernel
theorem dL_undone_378 : decode cL_undone 378 = .ok (.ldc_w 275, 3) := by decide +kernel
theorem dL_undone_381 : decode cL_undone 381 = .ok (.invokevirtual 216, 3) := by decide +kernel
theorem dL_undone_384 : decode cL_undone 384 = .ok (.iload 8, 2) := by decide +kernel
theorem dL_undone_386 : decode cL_undone 386 = .ok (.invokevirtual 219, 3) := by decide +kernel
theorem dL_undone_389 : decode cL_undone 389 = .ok (.ldc 230, 2) := by decide +kernel
theorem dL_undone_391 : decode cL_undone 391 = .ok (.invokevirtual 216, 3) := by decide +kernel
theorem dL_undone_394 : decode cL_undone 394 = .ok (.iload 9, 2) := by decide +kernel
theorem dL_undone_396 : decode cL_undone 396 = .ok (.invokevirtual 219, 3) := by decide +kernel
theorem dL_undone_399 : decode cL_undone 399 = .ok (.invokevirtual 226, 3) := by decide +kernel
theorem dL_undone_402 : decode cL_undone 402 = .ok (.invokevirtual 216, 3) := by decide +kernel
theorem dL_undone_405 : decode cL_undone 405 = .ok (.ldc_w 277, 3) := by decide +kernel
theorem dL_undone_408 : decode cL_undone 408 = .ok (.invokevirtual 216, 3) := by decide +kernel
theorem dL_undone_411 : decode cL_undone 411 = .ok (.iload 9, 2) := by decide +kernel
theorem dL_undone_413 : decode cL_undone 413 = .ok (.invokevirtual 219, 3) := by decide +kernel
theorem dL_undone_416 : decode cL_undone 416 = .ok (.invokevirtual 226, 3) := by decide +kernel
theorem dL_undone_419 : decode cL_undone 419 = .ok (.invokestatic 279, 3) := by decide +kernel
theorem dL_undone_422 : decode cL_undone 422 = .ok (.ifCond .lt 7, 3) := by decide +kernel
theorem dL_undone_425 : decode cL_undone 425 = .ok (.iconst 1, 1) := by decide +kernel
theorem dL_undone_426 : decode cL_undone 426 = .ok (.goto 4, 3) := by decide +kernel
theorem dL_undone_429 : decode cL_undone 429 = .ok (.iconst 0, 1) := by decide +kernel
theorem dL_undone_430 : decode cL_undone 430 = .ok (.istore 10, 2) := by decide +kernel
theorem dL_undone_432 : decode cL_undone 432 = .ok (.iload 10, 2) := by decide +kernel
theorem dL_undone_434 : decode cL_undone 434 = .ok (.ifCond .ne 16, 3) := by decide +kernel
theorem dL_undone_437 : decode cL_undone 437 = .ok (.aload_n 1, 1) := by decide +kernel
theorem dL_undone_438 : decode cL_undone 438 = .ok (.invokestatic 267, 3) := by decide +kernel
theorem dL_undone_441 : decode cL_undone 441 = .ok (.aload_n 2, 1) := by decide +kernel
theorem dL_undone_442 : decode cL_undone 442 = .ok (.iload_n 3, 1) := by decide +kernel
theorem dL_undone_443 : decode cL_undone 443 = .ok (.laload, 1) := by decide +kernel
theorem dL_undone_444 : decode cL_undone 444 = .ok (.lcmp, 1) := by decide +kernel
theorem dL_undone_445 : decode cL_undone 445 = .ok (.ifCond .eq 5, 3) := by decide +kernel
theorem dL_undone_448 : decode cL_undone 448 = .ok (.iconst 0, 1) := by decide +kernel
theorem dL_undone_449 : decode cL_undone 449 = .ok (.ireturn, 1) := by decide +kernel
theorem dL_undone_450 : decode cL_undone 450 = .ok (.iload_n 3, 1) := by decide +kernel
theorem dL_undone_451 : decode cL_undone 451 = .ok (.iload 10, 2) := by decide +kernel
theorem dL_undone_453 : decode cL_undone 453 = .ok (.ifCond .eq 7, 3) := by decide +kernel
theorem dL_undone_456 : decode cL_undone 456 = .ok (.iconst 1, 1) := by decide +kernel
theorem dL_undone_457 : decode cL_undone 457 = .ok (.goto 4, 3) := by decide +kernel
theorem dL_undone_460 : decode cL_undone 460 = .ok (.iconst 0, 1) := by decide +kernel
theorem dL_undone_461 : decode cL_undone 461 = .ok (.iadd, 1) := by decide +kernel
theorem dL_undone_462 : decode cL_undone 462 = .ok (.istore_n 3, 1) := by decide +kernel
theorem dL_undone_463 : decode cL_undone 463 = .ok (.iinc 4 1, 3) := by decide +kernel
theorem dL_undone_466 : decode cL_undone 466 = .ok (.goto (-456), 3) := by decide +kernel
theorem dL_undone_469 : decode cL_undone 469 = .ok (.iload_n 3, 1) := by decide +kernel
theorem dL_undone_470 : decode cL_undone 470 = .ok (.iconst 1, 1) := by decide +kernel
theorem dL_undone_471 : decode cL_undone 471 = .ok (.isub, 1) := by decide +kernel
theorem dL_undone_472 : decode cL_undone 472 = .ok (.istore 4, 2) := by decide +kernel
theorem dL_undone_474 : decode cL_undone 474 = .ok (.iload 4, 2) := by decide +kernel
theorem dL_undone_476 : decode cL_undone 476 = .ok (.ifCond .lt 30, 3) := by decide +kernel
theorem dL_undone_479 : decode cL_undone 479 = .ok (.aload_n 1, 1) := by decide +kernel
theorem dL_undone_480 : decode cL_undone 480 = .ok (.invokestatic 282, 3) := by decide +kernel
theorem dL_undone_483 : decode cL_undone 483 = .ok (.ifCond .lt 15, 3) := by decide +kernel
theorem dL_undone_486 : decode cL_undone 486 = .ok (.aload_n 1, 1) := by decide +kernel
theorem dL_undone_487 : decode cL_undone 487 = .ok (.invokestatic 267, 3) := by decide +kernel
theorem dL_undone_490 : decode cL_undone 490 = .ok (.aload_n 2, 1) := by decide +kernel
theorem dL_undone_491 : decode cL_undone 491 = .ok (.iload 4, 2) := by decide +kernel
theorem dL_undone_493 : decode cL_undone 493 = .ok (.laload, 1) := by decide +kernel
theorem dL_undone_494 : decode cL_undone 494 = .ok (.lcmp, 1) := by decide +kernel
theorem dL_undone_495 : decode cL_undone 495 = .ok (.ifCond .eq 5, 3) := by decide +kernel
theorem dL_undone_498 : decode cL_undone 498 = .ok (.iconst 0, 1) := by decide +kernel
theorem dL_undone_499 : decode cL_undone 499 = .ok (.ireturn, 1) := by decide +kernel
theorem dL_undone_500 : decode cL_undone 500 = .ok (.iinc 4 (-1), 3) := by decide +kernel
theorem dL_undone_503 : decode cL_undone 503 = .ok (.goto (-29), 3) := by decide +kernel
theorem dL_undone_506 : decode cL_undone 506 = .ok (.iconst 1, 1) := by decide +kernel
theorem dL_undone_507 : decode cL_undone 507 = .ok (.ireturn, 1) := by decide +kernel
