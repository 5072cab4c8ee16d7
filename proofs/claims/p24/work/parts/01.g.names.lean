theorem dL_lends_67 : decode cL_lends 67 = .ok (.if_icmp .ne 10, 3) := by decide +kernel
theorem dL_lends_70 : decode cL_lends 70 = .ok (.bipush 16, 2) := by decide +kernel
theorem dL_lends_72 : decode cL_lends 72 = .ok (.iload_n 2, 1) := by decide +kernel
theorem dL_lends_73 : decode cL_lends 73 = .ok (.imul, 1) := by decide +kernel
theorem dL_lends_74 : decode cL_lends 74 = .ok (.iload_n 3, 1) := by decide +kernel
theorem dL_lends_75 : decode cL_lends 75 = .ok (.iadd, 1) := by decide +kernel
theorem dL_lends_76 : decode cL_lends 76 = .ok (.ireturn, 1) := by decide +kernel
theorem dL_lends_77 : decode cL_lends 77 = .ok (.iinc 3 1, 3) := by decide +kernel
theorem dL_lends_80 : decode cL_lends 80 = .ok (.goto (-31), 3) := by decide +kernel
theorem dL_lends_83 : decode cL_lends 83 = .ok (.bipush (-5), 2) := by decide +kernel
theorem dL_lends_85 : decode cL_lends 85 = .ok (.ireturn, 1) := by decide +kernel
theorem dL_addresses_0 : decode cL_addresses 0 = .ok (.iconst 0, 1) := by decide +kernel
theorem dL_addresses_1 : decode cL_addresses 1 = .ok (.istore_n 1, 1) := by decide +kernel
theorem dL_addresses_2 : decode cL_addresses 2 = .ok (.iconst 0, 1) := by decide +kernel
theorem dL_addresses_3 : decode cL_addresses 3 = .ok (.istore_n 2, 1) := by decide +kernel
theorem dL_addresses_4 : decode cL_addresses 4 = .ok (.iconst 0, 1) := by decide +kernel
theorem dL_addresses_5 : decode cL_addresses 5 = .ok (.istore_n 3, 1) := by decide +kernel
theorem dL_addresses_6 : decode cL_addresses 6 = .ok (.iconst 0, 1) := by decide +kernel
theorem dL_addresses_7 : decode cL_addresses 7 = .ok (.istore 4, 2) := by decide +kernel
theorem dL_addresses_9 : decode cL_addresses 9 = .ok (.iload 4, 2) := by decide +kernel
theorem dL_addresses_11 : decode cL_addresses 11 = .ok (.iconst 4, 1) := by decide +kernel
theorem dL_addresses_12 : decode cL_addresses 12 = .ok (.if_icmp .ge 408, 3) := by decide +kernel
theorem dL_addresses_15 : decode cL_addresses 15 = .ok (.aload_n 0, 1) := by decide +kernel
theorem dL_addresses_16 : decode cL_addresses 16 = .ok (.iload 4, 2) := by decide +kernel
theorem dL_addresses_18 : decode cL_addresses 18 = .ok (.invokestatic 33, 3) := by decide +kernel
theorem dL_addresses_21 : decode cL_addresses 21 = .ok (.istore 5, 2) := by decide +kernel
theorem dL_addresses_23 : decode cL_addresses 23 = .ok (.iconst 0, 1) := by decide +kernel
theorem dL_addresses_24 : decode cL_addresses 24 = .ok (.istore 6, 2) := by decide +kernel
theorem dL_addresses_26 : decode cL_addresses 26 = .ok (.iconst 0, 1) := by decide +kernel
theorem dL_addresses_27 : decode cL_addresses 27 = .ok (.istore 7, 2) := by decide +kernel
theorem dL_addresses_29 : decode cL_addresses 29 = .ok (.iconst 0, 1) := by decide +kernel
theorem dL_addresses_30 : decode cL_addresses 30 = .ok (.istore 8, 2) := by decide +kernel
theorem dL_addresses_32 : decode cL_addresses 32 = .ok (.iconst 0, 1) := by decide +kernel
theorem dL_addresses_33 : decode cL_addresses 33 = .ok (.istore 9, 2) := by decide +kernel
theorem dL_addresses_35 : decode cL_addresses 35 = .ok (.iconst 0, 1) := by decide +kernel
theorem dL_addresses_36 : decode cL_addresses 36 = .ok (.istore 10, 2) := by decide +kernel
theorem dL_addresses_38 : decode cL_addresses 38 = .ok (.iconst 0, 1) := by decide +kernel
theorem dL_addresses_39 : decode cL_addresses 39 = .ok (.istore 11, 2) := by decide +kernel
theorem dL_addresses_41 : decode cL_addresses 41 = .ok (.iload 11, 2) := by decide +kernel
theorem dL_addresses_43 : decode cL_addresses 43 = .ok (.bipush 16, 2) := by decide +kernel
theorem dL_addresses_45 : decode cL_addresses 45 = .ok (.if_icmp .ge 298, 3) := by decide +kernel
theorem dL_addresses_48 : decode cL_addresses 48 = .ok (.bipush 16, 2) := by decide +kernel
theorem dL_addresses_50 : decode cL_addresses 50 = .ok (.iload 4, 2) := by decide +kernel
theorem dL_addresses_52 : decode cL_addresses 52 = .ok (.imul, 1) := by decide +kernel
theorem dL_addresses_53 : decode cL_addresses 53 = .ok (.iload 11, 2) := by decide +kernel
theorem dL_addresses_55 : decode cL_addresses 55 = .ok (.iadd, 1) := by decide +kernel
theorem dL_addresses_56 : decode cL_addresses 56 = .ok (.istore 12, 2) := by decide +kernel
theorem dL_addresses_58 : decode cL_addresses 58 = .ok (.iload 8, 2) := by decide +kernel
theorem dL_addresses_60 : decode cL_addresses 60 = .ok (.aload_n 0, 1) := by decide +kernel
theorem dL_addresses_61 : decode cL_addresses 61 = .ok (.iload 12, 2) := by decide +kernel
theorem dL_addresses_63 : decode cL_addresses 63 = .ok (.iconst 0, 1) := by decide +kernel
theorem dL_addresses_64 : decode cL_addresses 64 = .ok (.invokevirtual 21, 3) := by decide +kernel
theorem dL_addresses_67 : decode cL_addresses 67 = .ok (.iadd, 1) := by decide +kernel
theorem dL_addresses_68 : decode cL_addresses 68 = .ok (.istore 8, 2) := by decide +kernel
theorem dL_addresses_70 : decode cL_addresses 70 = .ok (.iload 9, 2) := by decide +kernel
theorem dL_addresses_72 : decode cL_addresses 72 = .ok (.aload_n 0, 1) := by decide +kernel
theorem dL_addresses_73 : decode cL_addresses 73 = .ok (.iload 12, 2) := by decide +kernel
theorem dL_addresses_75 : decode cL_addresses 75 = .ok (.iconst 1, 1) := by decide +kernel
theorem dL_addresses_76 : decode cL_addresses 76 = .ok (.invokevirtual 21, 3) := by decide +kernel
theorem dL_addresses_79 : decode cL_addresses 79 = .ok (.iconst 1, 1) := by decide +kernel
theorem dL_addresses_80 : decode cL_addresses 80 = .ok (.if_icmp .ne 7, 3) := by decide +kernel
theorem dL_addresses_83 : decode cL_addresses 83 = .ok (.iconst 1, 1) := by decide +kernel
theorem dL_addresses_84 : decode cL_addresses 84 = .ok (.goto 4, 3) := by decide +kernel
theorem dL_addresses_87 : decode cL_addresses 87 = .ok (.iconst 0, 1) := by decide +kernel
theorem dL_addresses_88 : decode cL_addresses 88 = .ok (.iadd, 1) := by decide +kernel
theorem dL_addresses_89 : decode cL_addresses 89 = .ok (.istore 9, 2) := by decide +kernel
theorem dL_addresses_91 : decode cL_addresses 91 = .ok (.iload 10, 2) := by decide +kernel
theorem dL_addresses_93 : decode cL_addresses 93 = .ok (.aload_n 0, 1) := by decide +kernel
theorem dL_addresses_94 : decode cL_addresses 94 = .ok (.iload 12, 2) := by decide +kernel
theorem dL_addresses_96 : decode cL_addresses 96 = .ok (.iconst 1, 1) := by decide +kernel
theorem dL_addresses_97 : decode cL_addresses 97 = .ok (.invokevirtual 21, 3) := by decide +kernel
theorem dL_addresses_100 : decode cL_addresses 100 = .ok (.iconst 2, 1) := by decide +kernel
theorem dL_addresses_101 : decode cL_addresses 101 = .ok (.if_icmp .ne 7, 3) := by decide +kernel
theorem dL_addresses_104 : decode cL_addresses 104 = .ok (.iconst 1, 1) := by decide +kernel
theorem dL_addresses_105 : decode cL_addresses 105 = .ok (.goto 4, 3) := by decide +kernel
theorem dL_addresses_108 : decode cL_addresses 108 = .ok (.iconst 0, 1) := by decide +kernel
theorem dL_addresses_109 : decode cL_addresses 109 = .ok (.iadd, 1) := by decide +kernel
theorem dL_addresses_110 : decode cL_addresses 110 = .ok (.istore 10, 2) := by decide +kernel
theorem dL_addresses_112 : decode cL_addresses 112 = .ok (.aload_n 0, 1) := by decide +kernel
theorem dL_addresses_113 : decode cL_addresses 113 = .ok (.iload 12, 2) := by decide +kernel
theorem dL_addresses_115 : decode cL_addresses 115 = .ok (.iconst 2, 1) := by decide +kernel
theorem dL_addresses_116 : decode cL_addresses 116 = .ok (.invokevirtual 21, 3) := by decide +kernel
theorem dL_addresses_119 : decode cL_addresses 119 = .ok (.iconst 1, 1) := by decide +kernel
theorem dL_addresses_120 : decode cL_addresses 120 = .ok (.if_icmp .ne 16, 3) := by decide +kernel
theorem dL_addresses_123 : decode cL_addresses 123 = .ok (.aload_n 0, 1) := by decide +kernel
theorem dL_addresses_124 : decode cL_addresses 124 = .ok (.iload 12, 2) := by decide +kernel
theorem dL_addresses_126 : decode cL_addresses 126 = .ok (.iconst 0, 1) := by decide +kernel
theorem dL_addresses_127 : decode cL_addresses 127 = .ok (.invokevirtual 27, 3) := by decide +kernel
theorem dL_addresses_130 : decode cL_addresses 130 = .ok (.iconst (-1), 1) := by decide +kernel
theorem dL_addresses_131 : decode cL_addresses 131 = .ok (.if_icmp .eq 206, 3) := by decide +kernel
theorem dL_addresses_134 : decode cL_addresses 134 = .ok (.iconst 0, 1) := by decide +kernel
theorem dL_addresses_135 : decode cL_addresses 135 = .ok (.ireturn, 1) := by decide +kernel
theorem dL_addresses_136 : decode cL_addresses 136 = .ok (.aload_n 0, 1) := by decide +kernel
theorem dL_addresses_137 : decode cL_addresses 137 = .ok (.iload 12, 2) := by decide +kernel
theorem dL_addresses_139 : decode cL_addresses 139 = .ok (.iconst 1, 1) := by decide +kernel
theorem dL_addresses_140 : decode cL_addresses 140 = .ok (.invokevirtual 27, 3) := by decide +kernel
theorem dL_addresses_143 : decode cL_addresses 143 = .ok (.istore 13, 2) := by decide +kernel
theorem dL_addresses_145 : decode cL_addresses 145 = .ok (.iinc 1 1, 3) := by decide +kernel
theorem dL_addresses_148 : decode cL_addresses 148 = .ok (.iload 6, 2) := by decide +kernel
theorem dL_addresses_150 : decode cL_addresses 150 = .ok (.iload 13, 2) := by decide +kernel
theorem dL_addresses_152 : decode cL_addresses 152 = .ok (.ifCond .ge 7, 3) := by decide +kernel
theorem dL_addresses_155 : decode cL_addresses 155 = .ok (.iconst 1, 1) := by decide +kernel
theorem dL_addresses_156 : decode cL_addresses 156 = .ok (.goto 4, 3) := by decide +kernel
theorem dL_addresses_159 : decode cL_addresses 159 = .ok (.iconst 0, 1) := by decide +kernel
theorem dL_addresses_160 : decode cL_addresses 160 = .ok (.iadd, 1) := by decide +kernel
theorem dL_addresses_161 : decode cL_addresses 161 = .ok (.istore 6, 2) := by decide +kernel
theorem dL_addresses_163 : decode cL_addresses 163 = .ok (.iload 7, 2) := by decide +kernel
theorem dL_addresses_165 : decode cL_addresses 165 = .ok (.iload 13, 2) := by decide +kernel
theorem dL_addresses_167 : decode cL_addresses 167 = .ok (.ifCond .lt 17, 3) := by decide +kernel
theorem dL_addresses_170 : decode cL_addresses 170 = .ok (.iload 13, 2) := by decide +kernel
theorem dL_addresses_172 : decode cL_addresses 172 = .ok (.bipush 16, 2) := by decide +kernel
theorem dL_addresses_174 : decode cL_addresses 174 = .ok (.idiv, 1) := by decide +kernel
theorem dL_addresses_175 : decode cL_addresses 175 = .ok (.iload 4, 2) := by decide +kernel
theorem dL_addresses_177 : decode cL_addresses 177 = .ok (.if_icmp .eq 7, 3) := by decide +kernel
theorem dL_addresses_180 : decode cL_addresses 180 = .ok (.iconst 1, 1) := by decide +kernel
theorem dL_addresses_181 : decode cL_addresses 181 = .ok (.goto 4, 3) := by decide +kernel
theorem dL_addresses_184 : decode cL_addresses 184 = .ok (.iconst 0, 1) := by decide +kernel
theorem dL_addresses_185 : decode cL_addresses 185 = .ok (.iadd, 1) := by decide +kernel
theorem dL_addresses_186 : decode cL_addresses 186 = .ok (.istore 7, 2) := by decide +kernel
theorem dL_addresses_188 : decode cL_addresses 188 = .ok (.iload_n 3, 1) := by decide +kernel
theorem dL_addresses_189 : decode cL_addresses 189 = .ok (.iload 13, 2) := by decide +kernel
theorem dL_addresses_191 : decode cL_addresses 191 = .ok (.ifCond .lt 14, 3) := by decide +kernel
theorem dL_addresses_194 : decode cL_addresses 194 = .ok (.iload 13, 2) := by decide +kernel
theorem dL_addresses_196 : decode cL_addresses 196 = .ok (.iload 12, 2) := by decide +kernel
theorem dL_addresses_198 : decode cL_addresses 198 = .ok (.if_icmp .eq 7, 3) := by decide +kernel
theorem dL_addresses_201 : decode cL_addresses 201 = .ok (.iconst 1, 1) := by decide +kernel
theorem dL_addresses_202 : decode cL_addresses 202 = .ok (.goto 4, 3) := by decide +kernel
theorem dL_addresses_205 : decode cL_addresses 205 = .ok (.iconst 0, 1) := by decide +kernel
theorem dL_addresses_206 : decode cL_addresses 206 = .ok (.iadd, 1) := by decide +kernel
theorem dL_addresses_207 : decode cL_addresses 207 = .ok (.istore_n 3, 1) := by decide +kernel
theorem dL_addresses_208 : decode cL_addresses 208 = .ok (.iload 13, 2) := by decide +kernel
theorem dL_addresses_210 : decode cL_addresses 210 = .ok (.ifCond .ge 40, 3) := by decide +kernel
theorem dL_addresses_213 : decode cL_addresses 213 = .ok (.aload_n 0, 1) := by decide +kernel
theorem dL_addresses_214 : decode cL_addresses 214 = .ok (.iload 12, 2) := by decide +kernel
theorem dL_addresses_216 : decode cL_addresses 216 = .ok (.iconst 0, 1) := by decide +kernel
theorem dL_addresses_217 : decode cL_addresses 217 = .ok (.invokevirtual 27, 3) := by decide +kernel
theorem dL_addresses_220 : decode cL_addresses 220 = .ok (.bipush (-5), 2) := by decide +kernel
theorem dL_addresses_222 : decode cL_addresses 222 = .ok (.if_icmp .ne 99, 3) := by decide +kernel
theorem dL_addresses_225 : decode cL_addresses 225 = .ok (.aload_n 0, 1) := by decide +kernel
theorem dL_addresses_226 : decode cL_addresses 226 = .ok (.iload 12, 2) := by decide +kernel
theorem dL_addresses_228 : decode cL_addresses 228 = .ok (.iconst 4, 1) := by decide +kernel
theorem dL_addresses_229 : decode cL_addresses 229 = .ok (.invokevirtual 27, 3) := by decide +kernel
theorem dL_addresses_232 : decode cL_addresses 232 = .ok (.bipush (-5), 2) := by decide +kernel
theorem dL_addresses_234 : decode cL_addresses 234 = .ok (.if_icmp .ne 87, 3) := by decide +kernel
theorem dL_addresses_237 : decode cL_addresses 237 = .ok (.aload_n 0, 1) := by decide +kernel
theorem dL_addresses_238 : decode cL_addresses 238 = .ok (.iload 12, 2) := by decide +kernel
theorem dL_addresses_240 : decode cL_addresses 240 = .ok (.iconst 2, 1) := by decide +kernel
theorem dL_addresses_241 : decode cL_addresses 241 = .ok (.invokevirtual 27, 3) := by decide +kernel
theorem dL_addresses_244 : decode cL_addresses 244 = .ok (.ifCond .eq 79, 3) := by decide +kernel
theorem dL_addresses_247 : decode cL_addresses 247 = .ok (.goto 74, 3) := by decide +kernel
theorem dL_addresses_250 : decode cL_addresses 250 = .ok (.aload_n 0, 1) := by decide +kernel
theorem dL_addresses_251 : decode cL_addresses 251 = .ok (.iload 13, 2) := by decide +kernel
theorem dL_addresses_253 : decode cL_addresses 253 = .ok (.iconst 3, 1) := by decide +kernel
theorem dL_addresses_254 : decode cL_addresses 254 = .ok (.invokevirtual 21, 3) := by decide +kernel
theorem dL_addresses_257 : decode cL_addresses 257 = .ok (.iload 12, 2) := by decide +kernel
theorem dL_addresses_259 : decode cL_addresses 259 = .ok (.if_icmp .ne 62, 3) := by decide +kernel
theorem dL_addresses_262 : decode cL_addresses 262 = .ok (.aload_n 0, 1) := by decide +kernel
theorem dL_addresses_263 : decode cL_addresses 263 = .ok (.iload 12, 2) := by decide +kernel
theorem dL_addresses_265 : decode cL_addresses 265 = .ok (.iconst 2, 1) := by decide +kernel
theorem dL_addresses_266 : decode cL_addresses 266 = .ok (.invokevirtual 27, 3) := by decide +kernel
theorem dL_addresses_269 : decode cL_addresses 269 = .ok (.iconst 1, 1) := by decide +kernel
theorem dL_addresses_270 : decode cL_addresses 270 = .ok (.if_icmp .ne 7, 3) := by decide +kernel
theorem dL_addresses_273 : decode cL_addresses 273 = .ok (.iconst 1, 1) := by decide +kernel
theorem dL_addresses_274 : decode cL_addresses 274 = .ok (.goto 4, 3) := by decide +kernel
theorem dL_addresses_277 : decode cL_addresses 277 = .ok (.iconst 0, 1) := by decide +kernel
theorem dL_addresses_278 : decode cL_addresses 278 = .ok (.iload 13, 2) := by decide +kernel
theorem dL_addresses_280 : decode cL_addresses 280 = .ok (.iload 12, 2) := by decide +kernel
theorem dL_addresses_282 : decode cL_addresses 282 = .ok (.if_icmp .eq 7, 3) := by decide +kernel
theorem dL_addresses_285 : decode cL_addresses 285 = .ok (.iconst 1, 1) := by decide +kernel
theorem dL_addresses_286 : decode cL_addresses 286 = .ok (.goto 4, 3) := by decide +kernel
theorem dL_addresses_289 : decode cL_addresses 289 = .ok (.iconst 0, 1) := by decide +kernel
theorem dL_addresses_290 : decode cL_addresses 290 = .ok (.if_icmp .ne 31, 3) := by decide +kernel
theorem dL_addresses_293 : decode cL_addresses 293 = .ok (.aload_n 0, 1) := by decide +kernel
theorem dL_addresses_294 : decode cL_addresses 294 = .ok (.iload 12, 2) := by decide +kernel
theorem dL_addresses_296 : decode cL_addresses 296 = .ok (.iconst 4, 1) := by decide +kernel
theorem dL_addresses_297 : decode cL_addresses 297 = .ok (.invokevirtual 27, 3) := by decide +kernel
theorem dL_addresses_300 : decode cL_addresses 300 = .ok (.aload_n 0, 1) := by decide +kernel
theorem dL_addresses_301 : decode cL_addresses 301 = .ok (.iload 12, 2) := by decide +kernel
theorem dL_addresses_303 : decode cL_addresses 303 = .ok (.iload 13, 2) := by decide +kernel
theorem dL_addresses_305 : decode cL_addresses 305 = .ok (.invokestatic 39, 3) := by decide +kernel
theorem dL_addresses_308 : decode cL_addresses 308 = .ok (.if_icmp .ne 13, 3) := by decide +kernel
theorem dL_addresses_311 : decode cL_addresses 311 = .ok (.aload_n 0, 1) := by decide +kernel
theorem dL_addresses_312 : decode cL_addresses 312 = .ok (.iload 12, 2) := by decide +kernel
theorem dL_addresses_314 : decode cL_addresses 314 = .ok (.iconst 0, 1) := by decide +kernel
theorem dL_addresses_315 : decode cL_addresses 315 = .ok (.invokevirtual 27, 3) := by decide +kernel
theorem dL_addresses_318 : decode cL_addresses 318 = .ok (.ifCond .ge 5, 3) := by decide +kernel
theorem dL_addresses_321 : decode cL_addresses 321 = .ok (.iconst 0, 1) := by decide +kernel
theorem dL_addresses_322 : decode cL_addresses 322 = .ok (.ireturn, 1) := by decide +kernel
theorem dL_addresses_323 : decode cL_addresses 323 = .ok (.aload_n 0, 1) := by decide +kernel
theorem dL_addresses_324 : decode cL_addresses 324 = .ok (.iload 12, 2) := by decide +kernel
theorem dL_addresses_326 : decode cL_addresses 326 = .ok (.iconst 3, 1) := by decide +kernel
theorem dL_addresses_327 : decode cL_addresses 327 = .ok (.invokevirtual 27, 3) := by decide +kernel
theorem dL_addresses_330 : decode cL_addresses 330 = .ok (.iload 5, 2) := by decide +kernel
theorem dL_addresses_332 : decode cL_addresses 332 = .ok (.if_icmp .eq 5, 3) := by decide +kernel
theorem dL_addresses_335 : decode cL_addresses 335 = .ok (.iconst 0, 1) := by decide +kernel
theorem dL_addresses_336 : decode cL_addresses 336 = .ok (.ireturn, 1) := by decide +kernel
theorem dL_addresses_337 : decode cL_addresses 337 = .ok (.iinc 11 1, 3) := by decide +kernel
theorem dL_addresses_340 : decode cL_addresses 340 = .ok (.goto (-299), 3) := by decide +kernel
theorem dL_addresses_343 : decode cL_addresses 343 = .ok (.iload_n 2, 1) := by decide +kernel
theorem dL_addresses_344 : decode cL_addresses 344 = .ok (.iload 6, 2) := by decide +kernel
theorem dL_addresses_346 : decode cL_addresses 346 = .ok (.iadd, 1) := by decide +kernel
theorem dL_addresses_347 : decode cL_addresses 347 = .ok (.istore_n 2, 1) := by decide +kernel
theorem dL_addresses_348 : decode cL_addresses 348 = .ok (.aload_n 0, 1) := by decide +kernel
theorem dL_addresses_349 : decode cL_addresses 349 = .ok (.iload 4, 2) := by decide +kernel
theorem dL_addresses_351 : decode cL_addresses 351 = .ok (.bipush 6, 2) := by decide +kernel
theorem dL_addresses_353 : decode cL_addresses 353 = .ok (.invokevirtual 30, 3) := by decide +kernel
theorem dL_addresses_356 : decode cL_addresses 356 = .ok (.iload 6, 2) := by decide +kernel
theorem dL_addresses_358 : decode cL_addresses 358 = .ok (.if_icmp .ne 54, 3) := by decide +kernel
theorem dL_addresses_361 : decode cL_addresses 361 = .ok (.aload_n 0, 1) := by decide +kernel
theorem dL_addresses_362 : decode cL_addresses 362 = .ok (.iload 4, 2) := by decide +kernel
theorem dL_addresses_364 : decode cL_addresses 364 = .ok (.iconst 5, 1) := by decide +kernel
theorem dL_addresses_365 : decode cL_addresses 365 = .ok (.invokevirtual 30, 3) := by decide +kernel
theorem dL_addresses_368 : decode cL_addresses 368 = .ok (.iload 7, 2) := by decide +kernel
theorem dL_addresses_370 : decode cL_addresses 370 = .ok (.if_icmp .ne 42, 3) := by decide +kernel
theorem dL_addresses_373 : decode cL_addresses 373 = .ok (.aload_n 0, 1) := by decide +kernel
theorem dL_addresses_374 : decode cL_addresses 374 = .ok (.iload 4, 2) := by decide +kernel
theorem dL_addresses_376 : decode cL_addresses 376 = .ok (.bipush 7, 2) := by decide +kernel
theorem dL_addresses_378 : decode cL_addresses 378 = .ok (.invokevirtual 30, 3) := by decide +kernel
theorem dL_addresses_381 : decode cL_addresses 381 = .ok (.iload 8, 2) := by decide +kernel
theorem dL_addresses_383 : decode cL_addresses 383 = .ok (.if_icmp .ne 29, 3) := by decide +kernel
theorem dL_addresses_386 : decode cL_addresses 386 = .ok (.aload_n 0, 1) := by decide +kernel
theorem dL_addresses_387 : decode cL_addresses 387 = .ok (.iload 4, 2) := by decide +kernel
theorem dL_addresses_389 : decode cL_addresses 389 = .ok (.bipush 8, 2) := by decide +kernel
theorem dL_addresses_391 : decode cL_addresses 391 = .ok (.invokevirtual 30, 3) := by decide +kernel
theorem dL_addresses_394 : decode cL_addresses 394 = .ok (.iload 9, 2) := by decide +kernel
theorem dL_addresses_396 : decode cL_addresses 396 = .ok (.if_icmp .ne 16, 3) := by decide +kernel
theorem dL_addresses_399 : decode cL_addresses 399 = .ok (.aload_n 0, 1) := by decide +kernel
theorem dL_addresses_400 : decode cL_addresses 400 = .ok (.iload 4, 2) := by decide +kernel
theorem dL_addresses_402 : decode cL_addresses 402 = .ok (.bipush 9, 2) := by decide +kernel
theorem dL_addresses_404 : decode cL_addresses 404 = .ok (.invokevirtual 30, 3) := by decide +kernel
theorem dL_addresses_407 : decode cL_addresses 407 = .ok (.iload 10, 2) := by decide +kernel
theorem dL_addresses_409 : decode cL_addresses 409 = .ok (.if_icmp .eq 5, 3) := by decide +kernel
theorem dL_addresses_412 : decode cL_addresses 412 = .ok (.iconst 0, 1) := by decide +kernel
theorem dL_addresses_413 : decode cL_addresses 413 = .ok (.ireturn, 1) := by decide +kernel
theorem dL_addresses_414 : decode cL_addresses 414 = .ok (.iinc 4 1, 3) := by decide +kernel
theorem dL_addresses_417 : decode cL_addresses 417 = .ok (.goto (-408), 3) := by decide +kernel
theorem dL_addresses_420 : decode cL_addresses 420 = .ok (.aload_n 0, 1) := by decide +kernel
theorem dL_addresses_421 : decode cL_addresses 421 = .ok (.iconst 1, 1) := by decide +kernel
theorem dL_addresses_422 : decode cL_addresses 422 = .ok (.invokevirtual 13, 3) := by decide +kernel
theorem dL_addresses_425 : decode cL_addresses 425 = .ok (.iload_n 1, 1) := by decide +kernel
theorem dL_addresses_426 : decode cL_addresses 426 = .ok (.if_icmp .ne 25, 3) := by decide +kernel
theorem dL_addresses_429 : decode cL_addresses 429 = .ok (.aload_n 0, 1) := by decide +kernel
theorem dL_addresses_430 : decode cL_addresses 430 = .ok (.iconst 2, 1) := by decide +kernel
theorem dL_addresses_431 : decode cL_addresses 431 = .ok (.invokevirtual 13, 3) := by decide +kernel
theorem dL_addresses_434 : decode cL_addresses 434 = .ok (.iload_n 2, 1) := by decide +kernel
theorem dL_addresses_435 : decode cL_addresses 435 = .ok (.if_icmp .ne 16, 3) := by decide +kernel
theorem dL_addresses_438 : decode cL_addresses 438 = .ok (.aload_n 0, 1) := by decide +kernel
theorem dL_addresses_439 : decode cL_addresses 439 = .ok (.iconst 3, 1) := by decide +kernel
theorem dL_addresses_440 : decode cL_addresses 440 = .ok (.invokevirtual 13, 3) := by decide +kernel
theorem dL_addresses_443 : decode cL_addresses 443 = .ok (.iload_n 3, 1) := by decide +kernel
theorem dL_addresses_444 : decode cL_addresses 444 = .ok (.if_icmp .ne 7, 3) := by decide +kernel
theorem dL_addresses_447 : decode cL_addresses 447 = .ok (.iconst 1, 1) := by decide +kernel
theorem dL_addresses_448 : decode cL_addresses 448 = .ok (.goto 4, 3) := by decide +kernel
theorem dL_addresses_451 : decode cL_addresses 451 = .ok (.iconst 0, 1) := by decide +kernel
theorem dL_addresses_452 : decode cL_addresses 452 = .ok (.ireturn, 1) := by decide +kernel
theorem dL_apart_0 : decode cL_apart 0 = .ok (.iload_n 0, 1) := by decide +kernel
theorem dL_apart_1 : decode cL_apart 1 = .ok (.iload_n 2, 1) := by decide +kernel
theorem dL_apart_2 : decode cL_apart 2 = .ok (.bipush 16, 2) := by decide +kernel
theorem dL_apart_4 : decode cL_apart 4 = .ok (.irem, 1) := by decide +kernel
theorem dL_apart_5 : decode cL_apart 5 = .ok (.isub, 1) := by decide +kernel
theorem dL_apart_6 : decode cL_apart 6 = .ok (.istore_n 3, 1) := by decide +kernel
theorem dL_apart_7 : decode cL_apart 7 = .ok (.iload_n 3, 1) := by decide +kernel
theorem dL_apart_8 : decode cL_apart 8 = .ok (.ifCond .ge 8, 3) := by decide +kernel
theorem dL_apart_11 : decode cL_apart 11 = .ok (.iload_n 3, 1) := by decide +kernel
theorem dL_apart_12 : decode cL_apart 12 = .ok (.ineg, 1) := by decide +kernel
theorem dL_apart_13 : decode cL_apart 13 = .ok (.goto 4, 3) := by decide +kernel
theorem dL_apart_16 : decode cL_apart 16 = .ok (.iload_n 3, 1) := by decide +kernel
theorem dL_apart_17 : decode cL_apart 17 = .ok (.iload_n 1, 1) := by decide +kernel
theorem dL_apart_18 : decode cL_apart 18 = .ok (.iload_n 2, 1) := by decide +kernel
theorem dL_apart_19 : decode cL_apart 19 = .ok (.bipush 16, 2) := by decide +kernel
theorem dL_apart_21 : decode cL_apart 21 = .ok (.idiv, 1) := by decide +kernel
theorem dL_apart_22 : decode cL_apart 22 = .ok (.if_icmp .ne 7, 3) := by decide +kernel
theorem dL_apart_25 : decode cL_apart 25 = .ok (.iconst 0, 1) := by decide +kernel
theorem dL_apart_26 : decode cL_apart 26 = .ok (.goto 4, 3) := by decide +kernel
theorem dL_apart_29 : decode cL_apart 29 = .ok (.iconst 2, 1) := by decide +kernel
theorem dL_apart_30 : decode cL_apart 30 = .ok (.iadd, 1) := by decide +kernel
theorem dL_apart_31 : decode cL_apart 31 = .ok (.ireturn, 1) := by decide +kernel
theorem dL_steps_0 : decode cL_steps 0 = .ok (.aload_n 0, 1) := by decide +kernel
theorem dL_steps_1 : decode cL_steps 1 = .ok (.iconst 5, 1) := by decide +kernel
theorem dL_steps_2 : decode cL_steps 2 = .ok (.invokevirtual 13, 3) := by decide +kernel
theorem dL_steps_5 : decode cL_steps 5 = .ok (.istore_n 3, 1) := by decide +kernel
theorem dL_steps_6 : decode cL_steps 6 = .ok (.aload_n 0, 1) := by decide +kernel
theorem dL_steps_7 : decode cL_steps 7 = .ok (.bipush 6, 2) := by decide +kernel
theorem dL_steps_9 : decode cL_steps 9 = .ok (.invokevirtual 13, 3) := by decide +kernel
theorem dL_steps_12 : decode cL_steps 12 = .ok (.istore 4, 2) := by decide +kernel
theorem dL_steps_14 : decode cL_steps 14 = .ok (.aload_n 0, 1) := by decide +kernel
theorem dL_steps_15 : decode cL_steps 15 = .ok (.iload_n 1, 1) := by decide +kernel
theorem dL_steps_16 : decode cL_steps 16 = .ok (.bipush 16, 2) := by decide +kernel
theorem dL_steps_18 : decode cL_steps 18 = .ok (.idiv, 1) := by decide +kernel
theorem dL_steps_19 : decode cL_steps 19 = .ok (.iconst 3, 1) := by decide +kernel
theorem dL_steps_20 : decode cL_steps 20 = .ok (.invokevirtual 30, 3) := by decide +kernel
theorem dL_steps_23 : decode cL_steps 23 = .ok (.iconst 1, 1) := by decide +kernel
theorem dL_steps_24 : decode cL_steps 24 = .ok (.if_icmp .ne 11, 3) := by decide +kernel
theorem dL_steps_27 : decode cL_steps 27 = .ok (.iload_n 3, 1) := by decide +kernel
theorem dL_steps_28 : decode cL_steps 28 = .ok (.iload 4, 2) := by decide +kernel
theorem dL_steps_30 : decode cL_steps 30 = .ok (.iload_n 2, 1) := by decide +kernel
theorem dL_steps_31 : decode cL_steps 31 = .ok (.invokestatic 43, 3) := by decide +kernel
theorem dL_steps_34 : decode cL_steps 34 = .ok (.ireturn, 1) := by decide +kernel
theorem dL_steps_35 : decode cL_steps 35 = .ok (.iload_n 3, 1) := by decide +kernel
theorem dL_steps_36 : decode cL_steps 36 = .ok (.iload 4, 2) := by decide +kernel
theorem dL_steps_38 : decode cL_steps 38 = .ok (.iload_n 1, 1) := by decide +kernel
theorem dL_steps_39 : decode cL_steps 39 = .ok (.invokestatic 43, 3) := by decide +kernel
theorem dL_steps_42 : decode cL_steps 42 = .ok (.iload_n 2, 1) := by decide +kernel
theorem dL_steps_43 : decode cL_steps 43 = .ok (.iload_n 1, 1) := by decide +kernel
theorem dL_steps_44 : decode cL_steps 44 = .ok (.if_icmp .ne 7, 3) := by decide +kernel
theorem dL_steps_47 : decode cL_steps 47 = .ok (.iconst 0, 1) := by decide +kernel
theorem dL_steps_48 : decode cL_steps 48 = .ok (.goto 15, 3) := by decide +kernel
theorem dL_steps_51 : decode cL_steps 51 = .ok (.iload_n 1, 1) := by decide +kernel
theorem dL_steps_52 : decode cL_steps 52 = .ok (.bipush 16, 2) := by decide +kernel
theorem dL_steps_54 : decode cL_steps 54 = .ok (.irem, 1) := by decide +kernel
theorem dL_steps_55 : decode cL_steps 55 = .ok (.iload_n 1, 1) := by decide +kernel
theorem dL_steps_56 : decode cL_steps 56 = .ok (.bipush 16, 2) := by decide +kernel
theorem dL_steps_58 : decode cL_steps 58 = .ok (.idiv, 1) := by decide +kernel
theorem dL_steps_59 : decode cL_steps 59 = .ok (.iload_n 2, 1) := by decide +kernel
theorem dL_steps_60 : decode cL_steps 60 = .ok (.invokestatic 43, 3) := by decide +kernel
theorem dL_steps_63 : decode cL_steps 63 = .ok (.iadd, 1) := by decide +kernel
theorem dL_steps_64 : decode cL_steps 64 = .ok (.ireturn, 1) := by decide +kernel
theorem dL_worst_0 : decode cL_worst 0 = .ok (.ldc 47, 2) := by decide +kernel
theorem dL_worst_2 : decode cL_worst 2 = .ok (.istore_n 2, 1) := by decide +kernel
theorem dL_worst_3 : decode cL_worst 3 = .ok (.iconst (-1), 1) := by decide +kernel
theorem dL_worst_4 : decode cL_worst 4 = .ok (.istore_n 3, 1) := by decide +kernel
theorem dL_worst_5 : decode cL_worst 5 = .ok (.iconst 0, 1) := by decide +kernel
theorem dL_worst_6 : decode cL_worst 6 = .ok (.istore 4, 2) := by decide +kernel
theorem dL_worst_8 : decode cL_worst 8 = .ok (.iload 4, 2) := by decide +kernel
theorem dL_worst_10 : decode cL_worst 10 = .ok (.iload_n 1, 1) := by decide +kernel
theorem dL_worst_11 : decode cL_worst 11 = .ok (.if_icmp .ge 84, 3) := by decide +kernel
theorem dL_worst_14 : decode cL_worst 14 = .ok (.aload_n 0, 1) := by decide +kernel
theorem dL_worst_15 : decode cL_worst 15 = .ok (.iload 4, 2) := by decide +kernel
theorem dL_worst_17 : decode cL_worst 17 = .ok (.invokevirtual 48, 3) := by decide +kernel
theorem dL_worst_20 : decode cL_worst 20 = .ok (.istore 5, 2) := by decide +kernel
theorem dL_worst_22 : decode cL_worst 22 = .ok (.iload 5, 2) := by decide +kernel
theorem dL_worst_24 : decode cL_worst 24 = .ok (.ifCond .ge 25, 3) := by decide +kernel
theorem dL_worst_27 : decode cL_worst 27 = .ok (.aload_n 0, 1) := by decide +kernel
theorem dL_worst_28 : decode cL_worst 28 = .ok (.iconst 1, 1) := by decide +kernel
theorem dL_worst_29 : decode cL_worst 29 = .ok (.invokevirtual 13, 3) := by decide +kernel
theorem dL_worst_32 : decode cL_worst 32 = .ok (.aload_n 0, 1) := by decide +kernel
theorem dL_worst_33 : decode cL_worst 33 = .ok (.iconst 2, 1) := by decide +kernel
theorem dL_worst_34 : decode cL_worst 34 = .ok (.invokevirtual 13, 3) := by decide +kernel
theorem dL_worst_37 : decode cL_worst 37 = .ok (.isub, 1) := by decide +kernel
theorem dL_worst_38 : decode cL_worst 38 = .ok (.iload 4, 2) := by decide +kernel
theorem dL_worst_40 : decode cL_worst 40 = .ok (.if_icmp .gt 7, 3) := by decide +kernel
theorem dL_worst_43 : decode cL_worst 43 = .ok (.iconst 1, 1) := by decide +kernel
theorem dL_worst_44 : decode cL_worst 44 = .ok (.goto 4, 3) := by decide +kernel
theorem dL_worst_47 : decode cL_worst 47 = .ok (.iconst 0, 1) := by decide +kernel
theorem dL_worst_48 : decode cL_worst 48 = .ok (.ireturn, 1) := by decide +kernel
theorem dL_worst_49 : decode cL_worst 49 = .ok (.aload_n 0, 1) := by decide +kernel
theorem dL_worst_50 : decode cL_worst 50 = .ok (.aload_n 0, 1) := by decide +kernel
theorem dL_worst_51 : decode cL_worst 51 = .ok (.iload 5, 2) := by decide +kernel
theorem dL_worst_53 : decode cL_worst 53 = .ok (.iconst 1, 1) := by decide +kernel
theorem dL_worst_54 : decode cL_worst 54 = .ok (.invokevirtual 27, 3) := by decide +kernel
theorem dL_worst_57 : decode cL_worst 57 = .ok (.iconst 0, 1) := by decide +kernel
theorem dL_worst_58 : decode cL_worst 58 = .ok (.invokevirtual 21, 3) := by decide +kernel
theorem dL_worst_61 : decode cL_worst 61 = .ok (.istore 6, 2) := by decide +kernel
theorem dL_worst_63 : decode cL_worst 63 = .ok (.iload 6, 2) := by decide +kernel
theorem dL_worst_65 : decode cL_worst 65 = .ok (.iload_n 2, 1) := by decide +kernel
theorem dL_worst_66 : decode cL_worst 66 = .ok (.if_icmp .gt 15, 3) := by decide +kernel
theorem dL_worst_69 : decode cL_worst 69 = .ok (.iload 6, 2) := by decide +kernel
theorem dL_worst_71 : decode cL_worst 71 = .ok (.iload_n 2, 1) := by decide +kernel
theorem dL_worst_72 : decode cL_worst 72 = .ok (.if_icmp .ne 11, 3) := by decide +kernel
theorem dL_worst_75 : decode cL_worst 75 = .ok (.iload 5, 2) := by decide +kernel
theorem dL_worst_77 : decode cL_worst 77 = .ok (.iload_n 3, 1) := by decide +kernel
theorem dL_worst_78 : decode cL_worst 78 = .ok (.if_icmp .gt 5, 3) := by decide +kernel
theorem dL_worst_81 : decode cL_worst 81 = .ok (.iconst 0, 1) := by decide +kernel
theorem dL_worst_82 : decode cL_worst 82 = .ok (.ireturn, 1) := by decide +kernel
theorem dL_worst_83 : decode cL_worst 83 = .ok (.iload 6, 2) := by decide +kernel
theorem dL_worst_85 : decode cL_worst 85 = .ok (.istore_n 2, 1) := by decide +kernel
theorem dL_worst_86 : decode cL_worst 86 = .ok (.iload 5, 2) := by decide +kernel
theorem dL_worst_88 : decode cL_worst 88 = .ok (.istore_n 3, 1) := by decide +kernel
theorem dL_worst_89 : decode cL_worst 89 = .ok (.iinc 4 1, 3) := by decide +kernel
theorem dL_worst_92 : decode cL_worst 92 = .ok (.goto (-84), 3) := by decide +kernel
theorem dL_worst_95 : decode cL_worst 95 = .ok (.iconst 1, 1) := by decide +kernel
theorem dL_worst_96 : decode cL_worst 96 = .ok (.ireturn, 1) := by decide +kernel
theorem dL_reads_0 : decode cL_reads 0 = .ok (.aload_n 0, 1) := by decide +kernel
theorem dL_reads_1 : decode cL_reads 1 = .ok (.iload_n 1, 1) := by decide +kernel
theorem dL_reads_2 : decode cL_reads 2 = .ok (.iconst 1, 1) := by decide +kernel
theorem dL_reads_3 : decode cL_reads 3 = .ok (.invokevirtual 27, 3) := by decide +kernel
theorem dL_reads_6 : decode cL_reads 6 = .ok (.istore_n 3, 1) := by decide +kernel
theorem dL_reads_7 : decode cL_reads 7 = .ok (.aload_n 0, 1) := by decide +kernel
theorem dL_reads_8 : decode cL_reads 8 = .ok (.iload_n 1, 1) := by decide +kernel
theorem dL_reads_9 : decode cL_reads 9 = .ok (.iconst 0, 1) := by decide +kernel
theorem dL_reads_10 : decode cL_reads 10 = .ok (.invokevirtual 27, 3) := by decide +kernel
theorem dL_reads_13 : decode cL_reads 13 = .ok (.istore 4, 2) := by decide +kernel
theorem dL_reads_15 : decode cL_reads 15 = .ok (.aload_n 0, 1) := by decide +kernel
theorem dL_reads_16 : decode cL_reads 16 = .ok (.iload_n 1, 1) := by decide +kernel
theorem dL_reads_17 : decode cL_reads 17 = .ok (.iconst 4, 1) := by decide +kernel
theorem dL_reads_18 : decode cL_reads 18 = .ok (.invokevirtual 27, 3) := by decide +kernel
theorem dL_reads_21 : decode cL_reads 21 = .ok (.istore 5, 2) := by decide +kernel
theorem dL_reads_23 : decode cL_reads 23 = .ok (.aload_n 0, 1) := by decide +kernel
theorem dL_reads_24 : decode cL_reads 24 = .ok (.bipush 7, 2) := by decide +kernel
theorem dL_reads_26 : decode cL_reads 26 = .ok (.invokevirtual 13, 3) := by decide +kernel
theorem dL_reads_29 : decode cL_reads 29 = .ok (.istore 6, 2) := by decide +kernel
theorem dL_reads_31 : decode cL_reads 31 = .ok (.aload_n 0, 1) := by decide +kernel
theorem dL_reads_32 : decode cL_reads 32 = .ok (.iload_n 1, 1) := by decide +kernel
theorem dL_reads_33 : decode cL_reads 33 = .ok (.iconst 3, 1) := by decide +kernel
theorem dL_reads_34 : decode cL_reads 34 = .ok (.invokevirtual 27, 3) := by decide +kernel
theorem dL_reads_37 : decode cL_reads 37 = .ok (.istore 7, 2) := by decide +kernel
theorem dL_reads_39 : decode cL_reads 39 = .ok (.aload_n 0, 1) := by decide +kernel
theorem dL_reads_40 : decode cL_reads 40 = .ok (.bipush 8, 2) := by decide +kernel
theorem dL_reads_42 : decode cL_reads 42 = .ok (.invokevirtual 13, 3) := by decide +kernel
theorem dL_reads_45 : decode cL_reads 45 = .ok (.istore 8, 2) := by decide +kernel
theorem dL_reads_47 : decode cL_reads 47 = .ok (.iload_n 2, 1) := by decide +kernel
theorem dL_reads_48 : decode cL_reads 48 = .ok (.bipush 7, 2) := by decide +kernel
theorem dL_reads_50 : decode cL_reads 50 = .ok (.invokestatic 51, 3) := by decide +kernel
theorem dL_reads_53 : decode cL_reads 53 = .ok (.ifCond .ne 7, 3) := by decide +kernel
theorem dL_reads_56 : decode cL_reads 56 = .ok (.iconst 1, 1) := by decide +kernel
theorem dL_reads_57 : decode cL_reads 57 = .ok (.goto 4, 3) := by decide +kernel
theorem dL_reads_60 : decode cL_reads 60 = .ok (.iconst 0, 1) := by decide +kernel
theorem dL_reads_61 : decode cL_reads 61 = .ok (.istore 9, 2) := by decide +kernel
theorem dL_reads_63 : decode cL_reads 63 = .ok (.iload 9, 2) := by decide +kernel
theorem dL_reads_65 : decode cL_reads 65 = .ok (.ifCond .eq 11, 3) := by decide +kernel
theorem dL_reads_68 : decode cL_reads 68 = .ok (.aload_n 0, 1) := by decide +kernel
theorem dL_reads_69 : decode cL_reads 69 = .ok (.iload_n 1, 1) := by decide +kernel
theorem dL_reads_70 : decode cL_reads 70 = .ok (.invokevirtual 54, 3) := by decide +kernel
theorem dL_reads_73 : decode cL_reads 73 = .ok (.goto 4, 3) := by decide +kernel
theorem dL_reads_76 : decode cL_reads 76 = .ok (.iconst 0, 1) := by decide +kernel
theorem dL_reads_77 : decode cL_reads 77 = .ok (.istore 10, 2) := by decide +kernel
theorem dL_reads_79 : decode cL_reads 79 = .ok (.aload_n 0, 1) := by decide +kernel
theorem dL_reads_80 : decode cL_reads 80 = .ok (.iload_n 1, 1) := by decide +kernel
theorem dL_reads_81 : decode cL_reads 81 = .ok (.invokevirtual 57, 3) := by decide +kernel
theorem dL_reads_84 : decode cL_reads 84 = .ok (.istore 11, 2) := by decide +kernel
theorem dL_reads_86 : decode cL_reads 86 = .ok (.iload_n 3, 1) := by decide +kernel
theorem dL_reads_87 : decode cL_reads 87 = .ok (.iconst (-1), 1) := by decide +kernel
theorem dL_reads_88 : decode cL_reads 88 = .ok (.if_icmp .ne 15, 3) := by decide +kernel
theorem dL_reads_91 : decode cL_reads 91 = .ok (.iload 11, 2) := by decide +kernel
theorem dL_reads_93 : decode cL_reads 93 = .ok (.iconst (-1), 1) := by decide +kernel
theorem dL_reads_94 : decode cL_reads 94 = .ok (.if_icmp .ne 7, 3) := by decide +kernel
theorem dL_reads_97 : decode cL_reads 97 = .ok (.iconst 1, 1) := by decide +kernel
theorem dL_reads_98 : decode cL_reads 98 = .ok (.goto 4, 3) := by decide +kernel
theorem dL_reads_101 : decode cL_reads 101 = .ok (.iconst 0, 1) := by decide +kernel
theorem dL_reads_102 : decode cL_reads 102 = .ok (.ireturn, 1) := by decide +kernel
theorem dL_reads_103 : decode cL_reads 103 = .ok (.iload_n 3, 1) := by decide +kernel
theorem dL_reads_104 : decode cL_reads 104 = .ok (.bipush (-5), 2) := by decide +kernel
theorem dL_reads_106 : decode cL_reads 106 = .ok (.if_icmp .ne 28, 3) := by decide +kernel
theorem dL_reads_109 : decode cL_reads 109 = .ok (.iload 11, 2) := by decide +kernel
theorem dL_reads_111 : decode cL_reads 111 = .ok (.bipush (-4), 2) := by decide +kernel
theorem dL_reads_113 : decode cL_reads 113 = .ok (.if_icmp .ne 19, 3) := by decide +kernel
theorem dL_reads_116 : decode cL_reads 116 = .ok (.iload 9, 2) := by decide +kernel
theorem dL_reads_118 : decode cL_reads 118 = .ok (.ifCond .eq 10, 3) := by decide +kernel
theorem dL_reads_121 : decode cL_reads 121 = .ok (.iload 10, 2) := by decide +kernel
theorem dL_reads_123 : decode cL_reads 123 = .ok (.bipush (-4), 2) := by decide +kernel
theorem dL_reads_125 : decode cL_reads 125 = .ok (.if_icmp .ne 7, 3) := by decide +kernel
theorem dL_reads_128 : decode cL_reads 128 = .ok (.iconst 1, 1) := by decide +kernel
theorem dL_reads_129 : decode cL_reads 129 = .ok (.goto 4, 3) := by decide +kernel
theorem dL_reads_132 : decode cL_reads 132 = .ok (.iconst 0, 1) := by decide +kernel
theorem dL_reads_133 : decode cL_reads 133 = .ok (.ireturn, 1) := by decide +kernel
theorem dL_reads_134 : decode cL_reads 134 = .ok (.aload_n 0, 1) := by decide +kernel
theorem dL_reads_135 : decode cL_reads 135 = .ok (.iload_n 1, 1) := by decide +kernel
theorem dL_reads_136 : decode cL_reads 136 = .ok (.iconst 1, 1) := by decide +kernel
theorem dL_reads_137 : decode cL_reads 137 = .ok (.invokevirtual 27, 3) := by decide +kernel
theorem dL_reads_140 : decode cL_reads 140 = .ok (.istore 12, 2) := by decide +kernel
theorem dL_reads_142 : decode cL_reads 142 = .ok (.aload_n 0, 1) := by decide +kernel
theorem dL_reads_143 : decode cL_reads 143 = .ok (.bipush 8, 2) := by decide +kernel
theorem dL_reads_145 : decode cL_reads 145 = .ok (.invokevirtual 13, 3) := by decide +kernel
theorem dL_reads_148 : decode cL_reads 148 = .ok (.iload 8, 2) := by decide +kernel
theorem dL_reads_150 : decode cL_reads 150 = .ok (.iconst 1, 1) := by decide +kernel
theorem dL_reads_151 : decode cL_reads 151 = .ok (.iadd, 1) := by decide +kernel
theorem dL_reads_152 : decode cL_reads 152 = .ok (.if_icmp .ne 7, 3) := by decide +kernel
theorem dL_reads_155 : decode cL_reads 155 = .ok (.iconst 1, 1) := by decide +kernel
theorem dL_reads_156 : decode cL_reads 156 = .ok (.goto 4, 3) := by decide +kernel
theorem dL_reads_159 : decode cL_reads 159 = .ok (.iconst 0, 1) := by decide +kernel
theorem dL_reads_160 : decode cL_reads 160 = .ok (.istore 13, 2) := by decide +kernel
theorem dL_reads_162 : decode cL_reads 162 = .ok (.iload 9, 2) := by decide +kernel
theorem dL_reads_164 : decode cL_reads 164 = .ok (.ifCond .eq 30, 3) := by decide +kernel
theorem dL_reads_167 : decode cL_reads 167 = .ok (.iload 10, 2) := by decide +kernel
theorem dL_reads_169 : decode cL_reads 169 = .ok (.iconst 1, 1) := by decide +kernel
theorem dL_reads_170 : decode cL_reads 170 = .ok (.if_icmp .ne 7, 3) := by decide +kernel
theorem dL_reads_173 : decode cL_reads 173 = .ok (.iconst 1, 1) := by decide +kernel
theorem dL_reads_174 : decode cL_reads 174 = .ok (.goto 4, 3) := by decide +kernel
theorem dL_reads_177 : decode cL_reads 177 = .ok (.iconst 0, 1) := by decide +kernel
theorem dL_reads_178 : decode cL_reads 178 = .ok (.iload 12, 2) := by decide +kernel
theorem dL_reads_180 : decode cL_reads 180 = .ok (.iload_n 3, 1) := by decide +kernel
theorem dL_reads_181 : decode cL_reads 181 = .ok (.if_icmp .eq 7, 3) := by decide +kernel
theorem dL_reads_184 : decode cL_reads 184 = .ok (.iconst 1, 1) := by decide +kernel
theorem dL_reads_185 : decode cL_reads 185 = .ok (.goto 4, 3) := by decide +kernel
theorem dL_reads_188 : decode cL_reads 188 = .ok (.iconst 0, 1) := by decide +kernel
theorem dL_reads_189 : decode cL_reads 189 = .ok (.if_icmp .eq 5, 3) := by decide +kernel
theorem dL_reads_192 : decode cL_reads 192 = .ok (.iconst 0, 1) := by decide +kernel
theorem dL_reads_193 : decode cL_reads 193 = .ok (.ireturn, 1) := by decide +kernel
theorem dL_reads_194 : decode cL_reads 194 = .ok (.iload 13, 2) := by decide +kernel
theorem dL_reads_196 : decode cL_reads 196 = .ok (.ifCond .eq 40, 3) := by decide +kernel
theorem dL_reads_199 : decode cL_reads 199 = .ok (.iload 12, 2) := by decide +kernel
theorem dL_reads_201 : decode cL_reads 201 = .ok (.iload 7, 2) := by decide +kernel
theorem dL_reads_203 : decode cL_reads 203 = .ok (.if_icmp .ne 60, 3) := by decide +kernel
theorem dL_reads_206 : decode cL_reads 206 = .ok (.aload_n 0, 1) := by decide +kernel
theorem dL_reads_207 : decode cL_reads 207 = .ok (.iconst 5, 1) := by decide +kernel
theorem dL_reads_208 : decode cL_reads 208 = .ok (.invokevirtual 13, 3) := by decide +kernel
theorem dL_reads_211 : decode cL_reads 211 = .ok (.iload 12, 2) := by decide +kernel
theorem dL_reads_213 : decode cL_reads 213 = .ok (.bipush 16, 2) := by decide +kernel
theorem dL_reads_215 : decode cL_reads 215 = .ok (.irem, 1) := by decide +kernel
theorem dL_reads_216 : decode cL_reads 216 = .ok (.if_icmp .ne 47, 3) := by decide +kernel
theorem dL_reads_219 : decode cL_reads 219 = .ok (.aload_n 0, 1) := by decide +kernel
theorem dL_reads_220 : decode cL_reads 220 = .ok (.bipush 6, 2) := by decide +kernel
theorem dL_reads_222 : decode cL_reads 222 = .ok (.invokevirtual 13, 3) := by decide +kernel
theorem dL_reads_225 : decode cL_reads 225 = .ok (.iload 12, 2) := by decide +kernel
theorem dL_reads_227 : decode cL_reads 227 = .ok (.bipush 16, 2) := by decide +kernel
theorem dL_reads_229 : decode cL_reads 229 = .ok (.idiv, 1) := by decide +kernel
theorem dL_reads_230 : decode cL_reads 230 = .ok (.if_icmp .eq 35, 3) := by decide +kernel
theorem dL_reads_233 : decode cL_reads 233 = .ok (.goto 30, 3) := by decide +kernel
theorem dL_reads_236 : decode cL_reads 236 = .ok (.iload 12, 2) := by decide +kernel
theorem dL_reads_238 : decode cL_reads 238 = .ok (.iload_n 3, 1) := by decide +kernel
theorem dL_reads_239 : decode cL_reads 239 = .ok (.if_icmp .eq 10, 3) := by decide +kernel
theorem dL_reads_242 : decode cL_reads 242 = .ok (.iload 12, 2) := by decide +kernel
theorem dL_reads_244 : decode cL_reads 244 = .ok (.bipush (-5), 2) := by decide +kernel
theorem dL_reads_246 : decode cL_reads 246 = .ok (.if_icmp .ne 17, 3) := by decide +kernel
theorem dL_reads_249 : decode cL_reads 249 = .ok (.aload_n 0, 1) := by decide +kernel
theorem dL_reads_250 : decode cL_reads 250 = .ok (.bipush 7, 2) := by decide +kernel
theorem dL_reads_252 : decode cL_reads 252 = .ok (.invokevirtual 13, 3) := by decide +kernel
theorem dL_reads_255 : decode cL_reads 255 = .ok (.iload 6, 2) := by decide +kernel
theorem dL_reads_257 : decode cL_reads 257 = .ok (.iload 5, 2) := by decide +kernel
theorem dL_reads_259 : decode cL_reads 259 = .ok (.iadd, 1) := by decide +kernel
theorem dL_reads_260 : decode cL_reads 260 = .ok (.if_icmp .eq 5, 3) := by decide +kernel
theorem dL_reads_263 : decode cL_reads 263 = .ok (.iconst 0, 1) := by decide +kernel
theorem dL_reads_264 : decode cL_reads 264 = .ok (.ireturn, 1) := by decide +kernel
theorem dL_reads_265 : decode cL_reads 265 = .ok (.iload 11, 2) := by decide +kernel
theorem dL_reads_267 : decode cL_reads 267 = .ok (.iload 4, 2) := by decide +kernel
theorem dL_reads_269 : decode cL_reads 269 = .ok (.if_icmp .ne 53, 3) := by decide +kernel
theorem dL_reads_272 : decode cL_reads 272 = .ok (.iload 12, 2) := by decide +kernel
theorem dL_reads_274 : decode cL_reads 274 = .ok (.iload_n 3, 1) := by decide +kernel
theorem dL_reads_275 : decode cL_reads 275 = .ok (.if_icmp .ne 32, 3) := by decide +kernel
theorem dL_reads_278 : decode cL_reads 278 = .ok (.aload_n 0, 1) := by decide +kernel
theorem dL_reads_279 : decode cL_reads 279 = .ok (.iload_n 3, 1) := by decide +kernel
theorem dL_reads_280 : decode cL_reads 280 = .ok (.iconst 1, 1) := by decide +kernel
theorem dL_reads_281 : decode cL_reads 281 = .ok (.invokevirtual 21, 3) := by decide +kernel
theorem dL_reads_284 : decode cL_reads 284 = .ok (.ifCond .eq 34, 3) := by decide +kernel
theorem dL_reads_287 : decode cL_reads 287 = .ok (.iload 7, 2) := by decide +kernel
theorem dL_reads_289 : decode cL_reads 289 = .ok (.bipush (-5), 2) := by decide +kernel
theorem dL_reads_291 : decode cL_reads 291 = .ok (.if_icmp .ne 31, 3) := by decide +kernel
theorem dL_reads_294 : decode cL_reads 294 = .ok (.aload_n 0, 1) := by decide +kernel
theorem dL_reads_295 : decode cL_reads 295 = .ok (.iload_n 3, 1) := by decide +kernel
theorem dL_reads_296 : decode cL_reads 296 = .ok (.iconst 1, 1) := by decide +kernel
theorem dL_reads_297 : decode cL_reads 297 = .ok (.invokevirtual 21, 3) := by decide +kernel
theorem dL_reads_300 : decode cL_reads 300 = .ok (.iconst 1, 1) := by decide +kernel
theorem dL_reads_301 : decode cL_reads 301 = .ok (.if_icmp .ne 21, 3) := by decide +kernel
theorem dL_reads_304 : decode cL_reads 304 = .ok (.goto 14, 3) := by decide +kernel
theorem dL_reads_307 : decode cL_reads 307 = .ok (.aload_n 0, 1) := by decide +kernel
theorem dL_reads_308 : decode cL_reads 308 = .ok (.iload_n 3, 1) := by decide +kernel
theorem dL_reads_309 : decode cL_reads 309 = .ok (.iconst 3, 1) := by decide +kernel
theorem dL_reads_310 : decode cL_reads 310 = .ok (.invokevirtual 21, 3) := by decide +kernel
theorem dL_reads_313 : decode cL_reads 313 = .ok (.bipush (-5), 2) := by decide +kernel
theorem dL_reads_315 : decode cL_reads 315 = .ok (.if_icmp .ne 7, 3) := by decide +kernel
theorem dL_reads_318 : decode cL_reads 318 = .ok (.iconst 1, 1) := by decide +kernel
theorem dL_reads_319 : decode cL_reads 319 = .ok (.goto 4, 3) := by decide +kernel
theorem dL_reads_322 : decode cL_reads 322 = .ok (.iconst 0, 1) := by decide +kernel
theorem dL_reads_323 : decode cL_reads 323 = .ok (.ireturn, 1) := by decide +kernel
theorem dL_writes_0 : decode cL_writes 0 = .ok (.aload_n 0, 1) := by decide +kernel
theorem dL_writes_1 : decode cL_writes 1 = .ok (.iload_n 1, 1) := by decide +kernel
theorem dL_writes_2 : decode cL_writes 2 = .ok (.iconst 1, 1) := by decide +kernel
theorem dL_writes_3 : decode cL_writes 3 = .ok (.invokevirtual 27, 3) := by decide +kernel
theorem dL_writes_6 : decode cL_writes 6 = .ok (.istore_n 3, 1) := by decide +kernel
theorem dL_writes_7 : decode cL_writes 7 = .ok (.aload_n 0, 1) := by decide +kernel
theorem dL_writes_8 : decode cL_writes 8 = .ok (.iload_n 1, 1) := by decide +kernel
theorem dL_writes_9 : decode cL_writes 9 = .ok (.iconst 3, 1) := by decide +kernel
theorem dL_writes_10 : decode cL_writes 10 = .ok (.invokevirtual 27, 3) := by decide +kernel
theorem dL_writes_13 : decode cL_writes 13 = .ok (.istore 4, 2) := by decide +kernel
theorem dL_writes_15 : decode cL_writes 15 = .ok (.aload_n 0, 1) := by decide +kernel
theorem dL_writes_16 : decode cL_writes 16 = .ok (.bipush 11, 2) := by decide +kernel
theorem dL_writes_18 : decode cL_writes 18 = .ok (.invokevirtual 13, 3) := by decide +kernel
theorem dL_writes_21 : decode cL_writes 21 = .ok (.istore 5, 2) := by decide +kernel
theorem dL_writes_23 : decode cL_writes 23 = .ok (.aload_n 0, 1) := by decide +kernel
theorem dL_writes_24 : decode cL_writes 24 = .ok (.iload_n 1, 1) := by decide +kernel
theorem dL_writes_25 : decode cL_writes 25 = .ok (.iload_n 2, 1) := by decide +kernel
theorem dL_writes_26 : decode cL_writes 26 = .ok (.invokevirtual 60, 3) := by decide +kernel
theorem dL_writes_29 : decode cL_writes 29 = .ok (.istore 6, 2) := by decide +kernel
theorem dL_writes_31 : decode cL_writes 31 = .ok (.iload_n 3, 1) := by decide +kernel
theorem dL_writes_32 : decode cL_writes 32 = .ok (.iconst (-1), 1) := by decide +kernel
theorem dL_writes_33 : decode cL_writes 33 = .ok (.if_icmp .ne 15, 3) := by decide +kernel
theorem dL_writes_36 : decode cL_writes 36 = .ok (.iload 6, 2) := by decide +kernel
theorem dL_writes_38 : decode cL_writes 38 = .ok (.iconst (-1), 1) := by decide +kernel
theorem dL_writes_39 : decode cL_writes 39 = .ok (.if_icmp .ne 7, 3) := by decide +kernel
theorem dL_writes_42 : decode cL_writes 42 = .ok (.iconst 1, 1) := by decide +kernel
theorem dL_writes_43 : decode cL_writes 43 = .ok (.goto 4, 3) := by decide +kernel
theorem dL_writes_46 : decode cL_writes 46 = .ok (.iconst 0, 1) := by decide +kernel
theorem dL_writes_47 : decode cL_writes 47 = .ok (.ireturn, 1) := by decide +kernel
theorem dL_writes_48 : decode cL_writes 48 = .ok (.iload_n 3, 1) := by decide +kernel
theorem dL_writes_49 : decode cL_writes 49 = .ok (.bipush (-5), 2) := by decide +kernel
theorem dL_writes_51 : decode cL_writes 51 = .ok (.if_icmp .ne 34, 3) := by decide +kernel
theorem dL_writes_54 : decode cL_writes 54 = .ok (.iload 4, 2) := by decide +kernel
theorem dL_writes_56 : decode cL_writes 56 = .ok (.bipush (-5), 2) := by decide +kernel
theorem dL_writes_58 : decode cL_writes 58 = .ok (.if_icmp .ne 27, 3) := by decide +kernel
theorem dL_writes_61 : decode cL_writes 61 = .ok (.iload 6, 2) := by decide +kernel
theorem dL_writes_63 : decode cL_writes 63 = .ok (.bipush (-4), 2) := by decide +kernel
theorem dL_writes_65 : decode cL_writes 65 = .ok (.if_icmp .ne 18, 3) := by decide +kernel
theorem dL_writes_68 : decode cL_writes 68 = .ok (.aload_n 0, 1) := by decide +kernel
theorem dL_writes_69 : decode cL_writes 69 = .ok (.bipush 11, 2) := by decide +kernel
theorem dL_writes_71 : decode cL_writes 71 = .ok (.invokevirtual 13, 3) := by decide +kernel
theorem dL_writes_74 : decode cL_writes 74 = .ok (.iload 5, 2) := by decide +kernel
theorem dL_writes_76 : decode cL_writes 76 = .ok (.if_icmp .ne 7, 3) := by decide +kernel
theorem dL_writes_79 : decode cL_writes 79 = .ok (.iconst 1, 1) := by decide +kernel
theorem dL_writes_80 : decode cL_writes 80 = .ok (.goto 4, 3) := by decide +kernel
theorem dL_writes_83 : decode cL_writes 83 = .ok (.iconst 0, 1) := by decide +kernel
theorem dL_writes_84 : decode cL_writes 84 = .ok (.ireturn, 1) := by decide +kernel
theorem dL_writes_85 : decode cL_writes 85 = .ok (.aload_n 0, 1) := by decide +kernel
theorem dL_writes_86 : decode cL_writes 86 = .ok (.iload_n 1, 1) := by decide +kernel
theorem dL_writes_87 : decode cL_writes 87 = .ok (.iconst 1, 1) := by decide +kernel
theorem dL_writes_88 : decode cL_writes 88 = .ok (.invokevirtual 27, 3) := by decide +kernel
theorem dL_writes_91 : decode cL_writes 91 = .ok (.istore 7, 2) := by decide +kernel
theorem dL_writes_93 : decode cL_writes 93 = .ok (.aload_n 0, 1) := by decide +kernel
theorem dL_writes_94 : decode cL_writes 94 = .ok (.bipush 11, 2) := by decide +kernel
theorem dL_writes_96 : decode cL_writes 96 = .ok (.invokevirtual 13, 3) := by decide +kernel
theorem dL_writes_99 : decode cL_writes 99 = .ok (.iload 5, 2) := by decide +kernel
theorem dL_writes_101 : decode cL_writes 101 = .ok (.iconst 1, 1) := by decide +kernel
theorem dL_writes_102 : decode cL_writes 102 = .ok (.iadd, 1) := by decide +kernel
theorem dL_writes_103 : decode cL_writes 103 = .ok (.if_icmp .ne 39, 3) := by decide +kernel
theorem dL_writes_106 : decode cL_writes 106 = .ok (.iload 7, 2) := by decide +kernel
theorem dL_writes_108 : decode cL_writes 108 = .ok (.ifCond .ge 13, 3) := by decide +kernel
theorem dL_writes_111 : decode cL_writes 111 = .ok (.iload 6, 2) := by decide +kernel
theorem dL_writes_113 : decode cL_writes 113 = .ok (.bipush 100, 2) := by decide +kernel
theorem dL_writes_115 : decode cL_writes 115 = .ok (.if_icmp .ne 27, 3) := by decide +kernel
theorem dL_writes_118 : decode cL_writes 118 = .ok (.goto 20, 3) := by decide +kernel
theorem dL_writes_121 : decode cL_writes 121 = .ok (.iload 6, 2) := by decide +kernel
theorem dL_writes_123 : decode cL_writes 123 = .ok (.iload 7, 2) := by decide +kernel
theorem dL_writes_125 : decode cL_writes 125 = .ok (.if_icmp .ne 17, 3) := by decide +kernel
theorem dL_writes_128 : decode cL_writes 128 = .ok (.aload_n 0, 1) := by decide +kernel
theorem dL_writes_129 : decode cL_writes 129 = .ok (.iload_n 1, 1) := by decide +kernel
theorem dL_writes_130 : decode cL_writes 130 = .ok (.iconst 0, 1) := by decide +kernel
theorem dL_writes_131 : decode cL_writes 131 = .ok (.invokevirtual 27, 3) := by decide +kernel
theorem dL_writes_134 : decode cL_writes 134 = .ok (.iload_n 2, 1) := by decide +kernel
theorem dL_writes_135 : decode cL_writes 135 = .ok (.if_icmp .ne 7, 3) := by decide +kernel
theorem dL_writes_138 : decode cL_writes 138 = .ok (.iconst 1, 1) := by decide +kernel
theorem dL_writes_139 : decode cL_writes 139 = .ok (.goto 4, 3) := by decide +kernel
theorem dL_writes_142 : decode cL_writes 142 = .ok (.iconst 0, 1) := by decide +kernel
theorem dL_writes_143 : decode cL_writes 143 = .ok (.ireturn, 1) := by decide +kernel
theorem dL_gives_0 : decode cL_gives 0 = .ok (.aload_n 0, 1) := by decide +kernel
theorem dL_gives_1 : decode cL_gives 1 = .ok (.iload_n 1, 1) := by decide +kernel
theorem dL_gives_2 : decode cL_gives 2 = .ok (.iconst 1, 1) := by decide +kernel
theorem dL_gives_3 : decode cL_gives 3 = .ok (.invokevirtual 27, 3) := by decide +kernel
theorem dL_gives_6 : decode cL_gives 6 = .ok (.istore_n 2, 1) := by decide +kernel
theorem dL_gives_7 : decode cL_gives 7 = .ok (.aload_n 0, 1) := by decide +kernel
theorem dL_gives_8 : decode cL_gives 8 = .ok (.iload_n 1, 1) := by decide +kernel
theorem dL_gives_9 : decode cL_gives 9 = .ok (.invokevirtual 63, 3) := by decide +kernel
theorem dL_gives_12 : decode cL_gives 12 = .ok (.istore_n 3, 1) := by decide +kernel
theorem dL_gives_13 : decode cL_gives 13 = .ok (.iload_n 2, 1) := by decide +kernel
theorem dL_gives_14 : decode cL_gives 14 = .ok (.ifCond .ge 24, 3) := by decide +kernel
theorem dL_gives_17 : decode cL_gives 17 = .ok (.iload_n 3, 1) := by decide +kernel
theorem dL_gives_18 : decode cL_gives 18 = .ok (.iload_n 2, 1) := by decide +kernel
theorem dL_gives_19 : decode cL_gives 19 = .ok (.iconst (-1), 1) := by decide +kernel
theorem dL_gives_20 : decode cL_gives 20 = .ok (.if_icmp .ne 7, 3) := by decide +kernel
theorem dL_gives_23 : decode cL_gives 23 = .ok (.iconst (-1), 1) := by decide +kernel
theorem dL_gives_24 : decode cL_gives 24 = .ok (.goto 5, 3) := by decide +kernel
theorem dL_gives_27 : decode cL_gives 27 = .ok (.bipush (-5), 2) := by decide +kernel
theorem dL_gives_29 : decode cL_gives 29 = .ok (.if_icmp .ne 7, 3) := by decide +kernel
theorem dL_gives_32 : decode cL_gives 32 = .ok (.iconst 1, 1) := by decide +kernel
theorem dL_gives_33 : decode cL_gives 33 = .ok (.goto 4, 3) := by decide +kernel
theorem dL_gives_36 : decode cL_gives 36 = .ok (.iconst 0, 1) := by decide +kernel
theorem dL_gives_37 : decode cL_gives 37 = .ok (.ireturn, 1) := by decide +kernel
theorem dL_gives_38 : decode cL_gives 38 = .ok (.iload_n 2, 1) := by decide +kernel
theorem dL_gives_39 : decode cL_gives 39 = .ok (.iload_n 1, 1) := by decide +kernel
theorem dL_gives_40 : decode cL_gives 40 = .ok (.if_icmp .ne 15, 3) := by decide +kernel
theorem dL_gives_43 : decode cL_gives 43 = .ok (.iload_n 3, 1) := by decide +kernel
theorem dL_gives_44 : decode cL_gives 44 = .ok (.bipush (-5), 2) := by decide +kernel
theorem dL_gives_46 : decode cL_gives 46 = .ok (.if_icmp .ne 7, 3) := by decide +kernel
theorem dL_gives_49 : decode cL_gives 49 = .ok (.iconst 1, 1) := by decide +kernel
theorem dL_gives_50 : decode cL_gives 50 = .ok (.goto 4, 3) := by decide +kernel
theorem dL_gives_53 : decode cL_gives 53 = .ok (.iconst 0, 1) := by decide +kernel
theorem dL_gives_54 : decode cL_gives 54 = .ok (.ireturn, 1) := by decide +kernel
theorem dL_gives_55 : decode cL_gives 55 = .ok (.iload_n 3, 1) := by decide +kernel
theorem dL_gives_56 : decode cL_gives 56 = .ok (.iload_n 2, 1) := by decide +kernel
theorem dL_gives_57 : decode cL_gives 57 = .ok (.if_icmp .ne 57, 3) := by decide +kernel
theorem dL_gives_60 : decode cL_gives 60 = .ok (.aload_n 0, 1) := by decide +kernel
theorem dL_gives_61 : decode cL_gives 61 = .ok (.iload_n 1, 1) := by decide +kernel
theorem dL_gives_62 : decode cL_gives 62 = .ok (.iconst 1, 1) := by decide +kernel
theorem dL_gives_63 : decode cL_gives 63 = .ok (.invokevirtual 27, 3) := by decide +kernel
theorem dL_gives_66 : decode cL_gives 66 = .ok (.iload_n 1, 1) := by decide +kernel
theorem dL_gives_67 : decode cL_gives 67 = .ok (.if_icmp .ne 43, 3) := by decide +kernel
theorem dL_gives_70 : decode cL_gives 70 = .ok (.aload_n 0, 1) := by decide +kernel
theorem dL_gives_71 : decode cL_gives 71 = .ok (.iload_n 2, 1) := by decide +kernel
theorem dL_gives_72 : decode cL_gives 72 = .ok (.iconst 3, 1) := by decide +kernel
theorem dL_gives_73 : decode cL_gives 73 = .ok (.invokevirtual 21, 3) := by decide +kernel
theorem dL_gives_76 : decode cL_gives 76 = .ok (.bipush (-5), 2) := by decide +kernel
theorem dL_gives_78 : decode cL_gives 78 = .ok (.if_icmp .ne 32, 3) := by decide +kernel
theorem dL_gives_81 : decode cL_gives 81 = .ok (.aload_n 0, 1) := by decide +kernel
theorem dL_gives_82 : decode cL_gives 82 = .ok (.iconst 5, 1) := by decide +kernel
theorem dL_gives_83 : decode cL_gives 83 = .ok (.invokevirtual 13, 3) := by decide +kernel
theorem dL_gives_86 : decode cL_gives 86 = .ok (.iload_n 1, 1) := by decide +kernel
theorem dL_gives_87 : decode cL_gives 87 = .ok (.bipush 16, 2) := by decide +kernel
theorem dL_gives_89 : decode cL_gives 89 = .ok (.irem, 1) := by decide +kernel
theorem dL_gives_90 : decode cL_gives 90 = .ok (.if_icmp .ne 20, 3) := by decide +kernel
theorem dL_gives_93 : decode cL_gives 93 = .ok (.aload_n 0, 1) := by decide +kernel
theorem dL_gives_94 : decode cL_gives 94 = .ok (.bipush 6, 2) := by decide +kernel
theorem dL_gives_96 : decode cL_gives 96 = .ok (.invokevirtual 13, 3) := by decide +kernel
theorem dL_gives_99 : decode cL_gives 99 = .ok (.iload_n 1, 1) := by decide +kernel
theorem dL_gives_100 : decode cL_gives 100 = .ok (.bipush 16, 2) := by decide +kernel
theorem dL_gives_102 : decode cL_gives 102 = .ok (.idiv, 1) := by decide +kernel
theorem dL_gives_103 : decode cL_gives 103 = .ok (.if_icmp .ne 7, 3) := by decide +kernel
theorem dL_gives_106 : decode cL_gives 106 = .ok (.iconst 1, 1) := by decide +kernel
theorem dL_gives_107 : decode cL_gives 107 = .ok (.goto 40, 3) := by decide +kernel
theorem dL_gives_110 : decode cL_gives 110 = .ok (.iconst 0, 1) := by decide +kernel
theorem dL_gives_111 : decode cL_gives 111 = .ok (.goto 36, 3) := by decide +kernel
theorem dL_gives_114 : decode cL_gives 114 = .ok (.iload_n 3, 1) := by decide +kernel
theorem dL_gives_115 : decode cL_gives 115 = .ok (.bipush (-4), 2) := by decide +kernel
theorem dL_gives_117 : decode cL_gives 117 = .ok (.if_icmp .ne 29, 3) := by decide +kernel
theorem dL_gives_120 : decode cL_gives 120 = .ok (.aload_n 0, 1) := by decide +kernel
theorem dL_gives_121 : decode cL_gives 121 = .ok (.iload_n 1, 1) := by decide +kernel
theorem dL_gives_122 : decode cL_gives 122 = .ok (.iconst 1, 1) := by decide +kernel
theorem dL_gives_123 : decode cL_gives 123 = .ok (.invokevirtual 21, 3) := by decide +kernel
theorem dL_gives_126 : decode cL_gives 126 = .ok (.ifCond .gt 16, 3) := by decide +kernel
theorem dL_gives_129 : decode cL_gives 129 = .ok (.aload_n 0, 1) := by decide +kernel
theorem dL_gives_130 : decode cL_gives 130 = .ok (.iload_n 1, 1) := by decide +kernel
theorem dL_gives_131 : decode cL_gives 131 = .ok (.bipush 16, 2) := by decide +kernel
theorem dL_gives_133 : decode cL_gives 133 = .ok (.idiv, 1) := by decide +kernel
theorem dL_gives_134 : decode cL_gives 134 = .ok (.iconst 3, 1) := by decide +kernel
theorem dL_gives_135 : decode cL_gives 135 = .ok (.invokevirtual 30, 3) := by decide +kernel
theorem dL_gives_138 : decode cL_gives 138 = .ok (.iconst 1, 1) := by decide +kernel
theorem dL_gives_139 : decode cL_gives 139 = .ok (.if_icmp .ne 7, 3) := by decide +kernel
theorem dL_gives_142 : decode cL_gives 142 = .ok (.iconst 1, 1) := by decide +kernel
theorem dL_gives_143 : decode cL_gives 143 = .ok (.goto 4, 3) := by decide +kernel
theorem dL_gives_146 : decode cL_gives 146 = .ok (.iconst 0, 1) := by decide +kernel
theorem dL_gives_147 : decode cL_gives 147 = .ok (.ireturn, 1) := by decide +kernel
theorem dL_drops_0 : decode cL_drops 0 = .ok (.aload_n 0, 1) := by decide +kernel
theorem dL_drops_1 : decode cL_drops 1 = .ok (.iload_n 1, 1) := by decide +kernel
theorem dL_drops_2 : decode cL_drops 2 = .ok (.invokevirtual 66, 3) := by decide +kernel
theorem dL_drops_5 : decode cL_drops 5 = .ok (.istore_n 2, 1) := by decide +kernel
theorem dL_drops_6 : decode cL_drops 6 = .ok (.aload_n 0, 1) := by decide +kernel
theorem dL_drops_7 : decode cL_drops 7 = .ok (.iconst 2, 1) := by decide +kernel
theorem dL_drops_8 : decode cL_drops 8 = .ok (.invokevirtual 13, 3) := by decide +kernel
theorem dL_drops_11 : decode cL_drops 11 = .ok (.istore_n 3, 1) := by decide +kernel
theorem dL_drops_12 : decode cL_drops 12 = .ok (.aload_n 0, 1) := by decide +kernel
theorem dL_drops_13 : decode cL_drops 13 = .ok (.bipush 7, 2) := by decide +kernel
theorem dL_drops_15 : decode cL_drops 15 = .ok (.invokevirtual 13, 3) := by decide +kernel
theorem dL_drops_18 : decode cL_drops 18 = .ok (.istore 4, 2) := by decide +kernel
theorem dL_drops_20 : decode cL_drops 20 = .ok (.aload_n 0, 1) := by decide +kernel
theorem dL_drops_21 : decode cL_drops 21 = .ok (.iconst 0, 1) := by decide +kernel
theorem dL_drops_22 : decode cL_drops 22 = .ok (.iconst 3, 1) := by decide +kernel
theorem dL_drops_23 : decode cL_drops 23 = .ok (.invokevirtual 30, 3) := by decide +kernel
theorem dL_drops_26 : decode cL_drops 26 = .ok (.aload_n 0, 1) := by decide +kernel
theorem dL_drops_27 : decode cL_drops 27 = .ok (.iconst 1, 1) := by decide +kernel
theorem dL_drops_28 : decode cL_drops 28 = .ok (.iconst 3, 1) := by decide +kernel
theorem dL_drops_29 : decode cL_drops 29 = .ok (.invokevirtual 30, 3) := by decide +kernel
theorem dL_drops_32 : decode cL_drops 32 = .ok (.iadd, 1) := by decide +kernel
theorem dL_drops_33 : decode cL_drops 33 = .ok (.aload_n 0, 1) := by decide +kernel
theorem dL_drops_34 : decode cL_drops 34 = .ok (.iconst 2, 1) := by decide +kernel
theorem dL_drops_35 : decode cL_drops 35 = .ok (.iconst 3, 1) := by decide +kernel
theorem dL_drops_36 : decode cL_drops 36 = .ok (.invokevirtual 30, 3) := by decide +kernel
theorem dL_drops_39 : decode cL_drops 39 = .ok (.iadd, 1) := by decide +kernel
theorem dL_drops_40 : decode cL_drops 40 = .ok (.aload_n 0, 1) := by decide +kernel
theorem dL_drops_41 : decode cL_drops 41 = .ok (.iconst 3, 1) := by decide +kernel
theorem dL_drops_42 : decode cL_drops 42 = .ok (.iconst 3, 1) := by decide +kernel
theorem dL_drops_43 : decode cL_drops 43 = .ok (.invokevirtual 30, 3) := by decide +kernel
theorem dL_drops_46 : decode cL_drops 46 = .ok (.iadd, 1) := by decide +kernel
theorem dL_drops_47 : decode cL_drops 47 = .ok (.istore 5, 2) := by decide +kernel
theorem dL_drops_49 : decode cL_drops 49 = .ok (.aload_n 0, 1) := by decide +kernel
theorem dL_drops_50 : decode cL_drops 50 = .ok (.iload_n 1, 1) := by decide +kernel
theorem dL_drops_51 : decode cL_drops 51 = .ok (.iconst 3, 1) := by decide +kernel
theorem dL_drops_52 : decode cL_drops 52 = .ok (.invokevirtual 30, 3) := by decide +kernel
theorem dL_drops_55 : decode cL_drops 55 = .ok (.iconst 1, 1) := by decide +kernel
theorem dL_drops_56 : decode cL_drops 56 = .ok (.if_icmp .ne 7, 3) := by decide +kernel
theorem dL_drops_59 : decode cL_drops 59 = .ok (.iconst 1, 1) := by decide +kernel
theorem dL_drops_60 : decode cL_drops 60 = .ok (.goto 4, 3) := by decide +kernel
theorem dL_drops_63 : decode cL_drops 63 = .ok (.iconst 0, 1) := by decide +kernel
theorem dL_drops_64 : decode cL_drops 64 = .ok (.istore 6, 2) := by decide +kernel
theorem dL_drops_66 : decode cL_drops 66 = .ok (.aload_n 0, 1) := by decide +kernel
theorem dL_drops_67 : decode cL_drops 67 = .ok (.iload_n 1, 1) := by decide +kernel
theorem dL_drops_68 : decode cL_drops 68 = .ok (.invokevirtual 69, 3) := by decide +kernel
theorem dL_drops_71 : decode cL_drops 71 = .ok (.istore 7, 2) := by decide +kernel
theorem dL_drops_73 : decode cL_drops 73 = .ok (.iload 6, 2) := by decide +kernel
theorem dL_drops_75 : decode cL_drops 75 = .ok (.ifCond .eq 22, 3) := by decide +kernel
theorem dL_drops_78 : decode cL_drops 78 = .ok (.iload 7, 2) := by decide +kernel
theorem dL_drops_80 : decode cL_drops 80 = .ok (.bipush (-5), 2) := by decide +kernel
theorem dL_drops_82 : decode cL_drops 82 = .ok (.if_icmp .ne 13, 3) := by decide +kernel
theorem dL_drops_85 : decode cL_drops 85 = .ok (.iload_n 2, 1) := by decide +kernel
theorem dL_drops_86 : decode cL_drops 86 = .ok (.bipush (-5), 2) := by decide +kernel
theorem dL_drops_88 : decode cL_drops 88 = .ok (.if_icmp .ne 7, 3) := by decide +kernel
theorem dL_drops_91 : decode cL_drops 91 = .ok (.iconst 1, 1) := by decide +kernel
theorem dL_drops_92 : decode cL_drops 92 = .ok (.goto 4, 3) := by decide +kernel
theorem dL_drops_95 : decode cL_drops 95 = .ok (.iconst 0, 1) := by decide +kernel
theorem dL_drops_96 : decode cL_drops 96 = .ok (.ireturn, 1) := by decide +kernel
theorem dL_drops_97 : decode cL_drops 97 = .ok (.iload 5, 2) := by decide +kernel
theorem dL_drops_99 : decode cL_drops 99 = .ok (.iconst 3, 1) := by decide +kernel
theorem dL_drops_100 : decode cL_drops 100 = .ok (.if_icmp .ne 27, 3) := by decide +kernel
theorem dL_drops_103 : decode cL_drops 103 = .ok (.iload 7, 2) := by decide +kernel
theorem dL_drops_105 : decode cL_drops 105 = .ok (.bipush (-4), 2) := by decide +kernel
theorem dL_drops_107 : decode cL_drops 107 = .ok (.if_icmp .ne 16, 3) := by decide +kernel
theorem dL_drops_110 : decode cL_drops 110 = .ok (.aload_n 0, 1) := by decide +kernel
theorem dL_drops_111 : decode cL_drops 111 = .ok (.iload_n 1, 1) := by decide +kernel
theorem dL_drops_112 : decode cL_drops 112 = .ok (.iconst 3, 1) := by decide +kernel
theorem dL_drops_113 : decode cL_drops 113 = .ok (.invokevirtual 30, 3) := by decide +kernel
theorem dL_drops_116 : decode cL_drops 116 = .ok (.ifCond .ne 7, 3) := by decide +kernel
theorem dL_drops_119 : decode cL_drops 119 = .ok (.iconst 1, 1) := by decide +kernel
theorem dL_drops_120 : decode cL_drops 120 = .ok (.goto 60, 3) := by decide +kernel
theorem dL_drops_123 : decode cL_drops 123 = .ok (.iconst 0, 1) := by decide +kernel
theorem dL_drops_124 : decode cL_drops 124 = .ok (.goto 56, 3) := by decide +kernel
theorem dL_drops_127 : decode cL_drops 127 = .ok (.iload 7, 2) := by decide +kernel
theorem dL_drops_129 : decode cL_drops 129 = .ok (.iload_n 2, 1) := by decide +kernel
theorem dL_drops_130 : decode cL_drops 130 = .ok (.if_icmp .ne 49, 3) := by decide +kernel
theorem dL_drops_133 : decode cL_drops 133 = .ok (.aload_n 0, 1) := by decide +kernel
theorem dL_drops_134 : decode cL_drops 134 = .ok (.iload_n 1, 1) := by decide +kernel
theorem dL_drops_135 : decode cL_drops 135 = .ok (.iconst 3, 1) := by decide +kernel
theorem dL_drops_136 : decode cL_drops 136 = .ok (.invokevirtual 30, 3) := by decide +kernel
theorem dL_drops_139 : decode cL_drops 139 = .ok (.iconst 1, 1) := by decide +kernel
theorem dL_drops_140 : decode cL_drops 140 = .ok (.if_icmp .ne 39, 3) := by decide +kernel
theorem dL_drops_143 : decode cL_drops 143 = .ok (.aload_n 0, 1) := by decide +kernel
theorem dL_drops_144 : decode cL_drops 144 = .ok (.iload_n 1, 1) := by decide +kernel
theorem dL_drops_145 : decode cL_drops 145 = .ok (.iconst 2, 1) := by decide +kernel
theorem dL_drops_146 : decode cL_drops 146 = .ok (.invokevirtual 30, 3) := by decide +kernel
theorem dL_drops_149 : decode cL_drops 149 = .ok (.ifCond .ne 30, 3) := by decide +kernel
theorem dL_drops_152 : decode cL_drops 152 = .ok (.aload_n 0, 1) := by decide +kernel
theorem dL_drops_153 : decode cL_drops 153 = .ok (.iconst 2, 1) := by decide +kernel
theorem dL_drops_154 : decode cL_drops 154 = .ok (.invokevirtual 13, 3) := by decide +kernel
theorem dL_drops_157 : decode cL_drops 157 = .ok (.iload_n 3, 1) := by decide +kernel
theorem dL_drops_158 : decode cL_drops 158 = .ok (.iload 7, 2) := by decide +kernel
theorem dL_drops_160 : decode cL_drops 160 = .ok (.iadd, 1) := by decide +kernel
theorem dL_drops_161 : decode cL_drops 161 = .ok (.if_icmp .ne 18, 3) := by decide +kernel
theorem dL_drops_164 : decode cL_drops 164 = .ok (.aload_n 0, 1) := by decide +kernel
theorem dL_drops_165 : decode cL_drops 165 = .ok (.bipush 7, 2) := by decide +kernel
theorem dL_drops_167 : decode cL_drops 167 = .ok (.invokevirtual 13, 3) := by decide +kernel
theorem dL_drops_170 : decode cL_drops 170 = .ok (.iload 4, 2) := by decide +kernel
theorem dL_drops_172 : decode cL_drops 172 = .ok (.if_icmp .ne 7, 3) := by decide +kernel
theorem dL_drops_175 : decode cL_drops 175 = .ok (.iconst 1, 1) := by decide +kernel
theorem dL_drops_176 : decode cL_drops 176 = .ok (.goto 4, 3) := by decide +kernel
theorem dL_drops_179 : decode cL_drops 179 = .ok (.iconst 0, 1) := by decide +kernel
theorem dL_drops_180 : decode cL_drops 180 = .ok (.ireturn, 1) := by decide +kernel
theorem dL_does_0 : decode cL_does 0 = .ok (.iload_n 2, 1) := by decide +kernel
theorem dL_does_1 : decode cL_does 1 = .ok (.bipush 64, 2) := by decide +kernel
theorem dL_does_3 : decode cL_does 3 = .ok (.invokestatic 51, 3) := by decide +kernel
theorem dL_does_6 : decode cL_does 6 = .ok (.istore 4, 2) := by decide +kernel
theorem dL_does_8 : decode cL_does 8 = .ok (.iload_n 1, 1) := by decide +kernel
theorem dL_does_9 : decode cL_does 9 = .ok (.iconst 4, 1) := by decide +kernel
theorem dL_does_10 : decode cL_does 10 = .ok (.if_icmp .ge 11, 3) := by decide +kernel
theorem dL_does_13 : decode cL_does 13 = .ok (.aload_n 0, 1) := by decide +kernel
theorem dL_does_14 : decode cL_does 14 = .ok (.iload 4, 2) := by decide +kernel
theorem dL_does_16 : decode cL_does 16 = .ok (.iload_n 3, 1) := by decide +kernel
theorem dL_does_17 : decode cL_does 17 = .ok (.invokestatic 72, 3) := by decide +kernel
theorem dL_does_20 : decode cL_does 20 = .ok (.ireturn, 1) := by decide +kernel
theorem dL_does_21 : decode cL_does 21 = .ok (.iload_n 1, 1) := by decide +kernel
theorem dL_does_22 : decode cL_does 22 = .ok (.bipush 7, 2) := by decide +kernel
theorem dL_does_24 : decode cL_does 24 = .ok (.if_icmp .ge 17, 3) := by decide +kernel
theorem dL_does_27 : decode cL_does 27 = .ok (.aload_n 0, 1) := by decide +kernel
theorem dL_does_28 : decode cL_does 28 = .ok (.iload 4, 2) := by decide +kernel
theorem dL_does_30 : decode cL_does 30 = .ok (.iload_n 3, 1) := by decide +kernel
theorem dL_does_31 : decode cL_does 31 = .ok (.sipush 1000, 3) := by decide +kernel
theorem dL_does_34 : decode cL_does 34 = .ok (.invokestatic 51, 3) := by decide +kernel
theorem dL_does_37 : decode cL_does 37 = .ok (.invokestatic 76, 3) := by decide +kernel
theorem dL_does_40 : decode cL_does 40 = .ok (.ireturn, 1) := by decide +kernel
theorem dL_does_41 : decode cL_does 41 = .ok (.iload_n 1, 1) := by decide +kernel
theorem dL_does_42 : decode cL_does 42 = .ok (.bipush 7, 2) := by decide +kernel
theorem dL_does_44 : decode cL_does 44 = .ok (.if_icmp .ne 84, 3) := by decide +kernel
theorem dL_does_47 : decode cL_does 47 = .ok (.iload_n 2, 1) := by decide +kernel
theorem dL_does_48 : decode cL_does 48 = .ok (.iconst 4, 1) := by decide +kernel
theorem dL_does_49 : decode cL_does 49 = .ok (.invokestatic 51, 3) := by decide +kernel
theorem dL_does_52 : decode cL_does 52 = .ok (.istore 5, 2) := by decide +kernel
theorem dL_does_54 : decode cL_does 54 = .ok (.aload_n 0, 1) := by decide +kernel
theorem dL_does_55 : decode cL_does 55 = .ok (.bipush 8, 2) := by decide +kernel
theorem dL_does_57 : decode cL_does 57 = .ok (.invokevirtual 13, 3) := by decide +kernel
theorem dL_does_60 : decode cL_does 60 = .ok (.istore 6, 2) := by decide +kernel
theorem dL_does_62 : decode cL_does 62 = .ok (.aload_n 0, 1) := by decide +kernel
theorem dL_does_63 : decode cL_does 63 = .ok (.iload 5, 2) := by decide +kernel
theorem dL_does_65 : decode cL_does 65 = .ok (.bipush 6, 2) := by decide +kernel
theorem dL_does_67 : decode cL_does 67 = .ok (.invokevirtual 30, 3) := by decide +kernel
theorem dL_does_70 : decode cL_does 70 = .ok (.bipush 16, 2) := by decide +kernel
theorem dL_does_72 : decode cL_does 72 = .ok (.aload_n 0, 1) := by decide +kernel
theorem dL_does_73 : decode cL_does 73 = .ok (.iload 5, 2) := by decide +kernel
theorem dL_does_75 : decode cL_does 75 = .ok (.iconst 1, 1) := by decide +kernel
theorem dL_does_76 : decode cL_does 76 = .ok (.invokevirtual 30, 3) := by decide +kernel
theorem dL_does_79 : decode cL_does 79 = .ok (.isub, 1) := by decide +kernel
theorem dL_does_80 : decode cL_does 80 = .ok (.if_icmp .ne 7, 3) := by decide +kernel
theorem dL_does_83 : decode cL_does 83 = .ok (.iconst 1, 1) := by decide +kernel
theorem dL_does_84 : decode cL_does 84 = .ok (.goto 4, 3) := by decide +kernel
theorem dL_does_87 : decode cL_does 87 = .ok (.iconst 0, 1) := by decide +kernel
theorem dL_does_88 : decode cL_does 88 = .ok (.istore 7, 2) := by decide +kernel
theorem dL_does_90 : decode cL_does 90 = .ok (.aload_n 0, 1) := by decide +kernel
theorem dL_does_91 : decode cL_does 91 = .ok (.iload 5, 2) := by decide +kernel
theorem dL_does_93 : decode cL_does 93 = .ok (.invokevirtual 79, 3) := by decide +kernel
theorem dL_does_96 : decode cL_does 96 = .ok (.istore 8, 2) := by decide +kernel
theorem dL_does_98 : decode cL_does 98 = .ok (.iload 8, 2) := by decide +kernel
theorem dL_does_100 : decode cL_does 100 = .ok (.iload 7, 2) := by decide +kernel
theorem dL_does_102 : decode cL_does 102 = .ok (.ifCond .eq 8, 3) := by decide +kernel
theorem dL_does_105 : decode cL_does 105 = .ok (.bipush (-5), 2) := by decide +kernel
theorem dL_does_107 : decode cL_does 107 = .ok (.goto 12, 3) := by decide +kernel
theorem dL_does_110 : decode cL_does 110 = .ok (.aload_n 0, 1) := by decide +kernel
theorem dL_does_111 : decode cL_does 111 = .ok (.bipush 8, 2) := by decide +kernel
theorem dL_does_113 : decode cL_does 113 = .ok (.invokevirtual 13, 3) := by decide +kernel
theorem dL_does_116 : decode cL_does 116 = .ok (.iload 6, 2) := by decide +kernel
theorem dL_does_118 : decode cL_does 118 = .ok (.isub, 1) := by decide +kernel
theorem dL_does_119 : decode cL_does 119 = .ok (.if_icmp .ne 7, 3) := by decide +kernel
theorem dL_does_122 : decode cL_does 122 = .ok (.iconst 1, 1) := by decide +kernel
theorem dL_does_123 : decode cL_does 123 = .ok (.goto 4, 3) := by decide +kernel
theorem dL_does_126 : decode cL_does 126 = .ok (.iconst 0, 1) := by decide +kernel
theorem dL_does_127 : decode cL_does 127 = .ok (.ireturn, 1) := by decide +kernel
theorem dL_does_128 : decode cL_does 128 = .ok (.iload_n 1, 1) := by decide +kernel
theorem dL_does_129 : decode cL_does 129 = .ok (.bipush 8, 2) := by decide +kernel
theorem dL_does_131 : decode cL_does 131 = .ok (.if_icmp .ne 10, 3) := by decide +kernel
theorem dL_does_134 : decode cL_does 134 = .ok (.aload_n 0, 1) := by decide +kernel
theorem dL_does_135 : decode cL_does 135 = .ok (.iload 4, 2) := by decide +kernel
theorem dL_does_137 : decode cL_does 137 = .ok (.invokestatic 82, 3) := by decide +kernel
theorem dL_does_140 : decode cL_does 140 = .ok (.ireturn, 1) := by decide +kernel
theorem dL_does_141 : decode cL_does 141 = .ok (.iload_n 1, 1) := by decide +kernel
theorem dL_does_142 : decode cL_does 142 = .ok (.bipush 9, 2) := by decide +kernel
theorem dL_does_144 : decode cL_does 144 = .ok (.if_icmp .ne 13, 3) := by decide +kernel
theorem dL_does_147 : decode cL_does 147 = .ok (.aload_n 0, 1) := by decide +kernel
theorem dL_does_148 : decode cL_does 148 = .ok (.iload_n 2, 1) := by decide +kernel
theorem dL_does_149 : decode cL_does 149 = .ok (.iconst 4, 1) := by decide +kernel
theorem dL_does_150 : decode cL_does 150 = .ok (.invokestatic 51, 3) := by decide +kernel
theorem dL_does_153 : decode cL_does 153 = .ok (.invokestatic 86, 3) := by decide +kernel
theorem dL_does_156 : decode cL_does 156 = .ok (.ireturn, 1) := by decide +kernel
theorem dL_does_157 : decode cL_does 157 = .ok (.iload_n 1, 1) := by decide +kernel
theorem dL_does_158 : decode cL_does 158 = .ok (.bipush 10, 2) := by decide +kernel
theorem dL_does_160 : decode cL_does 160 = .ok (.if_icmp .ne 59, 3) := by decide +kernel
theorem dL_does_163 : decode cL_does 163 = .ok (.iconst 1, 1) := by decide +kernel
theorem dL_does_164 : decode cL_does 164 = .ok (.iload_n 3, 1) := by decide +kernel
theorem dL_does_165 : decode cL_does 165 = .ok (.bipush 40, 2) := by decide +kernel
theorem dL_does_167 : decode cL_does 167 = .ok (.invokestatic 51, 3) := by decide +kernel
theorem dL_does_170 : decode cL_does 170 = .ok (.iadd, 1) := by decide +kernel
theorem dL_does_171 : decode cL_does 171 = .ok (.istore 5, 2) := by decide +kernel
theorem dL_does_173 : decode cL_does 173 = .ok (.aload_n 0, 1) := by decide +kernel
theorem dL_does_174 : decode cL_does 174 = .ok (.iconst 0, 1) := by decide +kernel
theorem dL_does_175 : decode cL_does 175 = .ok (.invokevirtual 13, 3) := by decide +kernel
theorem dL_does_178 : decode cL_does 178 = .ok (.istore 6, 2) := by decide +kernel
theorem dL_does_180 : decode cL_does 180 = .ok (.aload_n 0, 1) := by decide +kernel
theorem dL_does_181 : decode cL_does 181 = .ok (.iload 5, 2) := by decide +kernel
theorem dL_does_183 : decode cL_does 183 = .ok (.invokevirtual 89, 3) := by decide +kernel
theorem dL_does_186 : decode cL_does 186 = .ok (.iload 6, 2) := by decide +kernel
theorem dL_does_188 : decode cL_does 188 = .ok (.iload 5, 2) := by decide +kernel
theorem dL_does_190 : decode cL_does 190 = .ok (.if_icmp .ne 8, 3) := by decide +kernel
theorem dL_does_193 : decode cL_does 193 = .ok (.bipush (-5), 2) := by decide +kernel
theorem dL_does_195 : decode cL_does 195 = .ok (.goto 5, 3) := by decide +kernel
theorem dL_does_198 : decode cL_does 198 = .ok (.iload 6, 2) := by decide +kernel
theorem dL_does_200 : decode cL_does 200 = .ok (.if_icmp .ne 17, 3) := by decide +kernel
theorem dL_does_203 : decode cL_does 203 = .ok (.aload_n 0, 1) := by decide +kernel
theorem dL_does_204 : decode cL_does 204 = .ok (.iconst 0, 1) := by decide +kernel
theorem dL_does_205 : decode cL_does 205 = .ok (.invokevirtual 13, 3) := by decide +kernel
theorem dL_does_208 : decode cL_does 208 = .ok (.iload 5, 2) := by decide +kernel
theorem dL_does_210 : decode cL_does 210 = .ok (.if_icmp .ne 7, 3) := by decide +kernel
theorem dL_does_213 : decode cL_does 213 = .ok (.iconst 1, 1) := by decide +kernel
theorem dL_does_214 : decode cL_does 214 = .ok (.goto 4, 3) := by decide +kernel
theorem dL_does_217 : decode cL_does 217 = .ok (.iconst 0, 1) := by decide +kernel
theorem dL_does_218 : decode cL_does 218 = .ok (.ireturn, 1) := by decide +kernel
theorem dL_does_219 : decode cL_does 219 = .ok (.iconst 1, 1) := by decide +kernel
theorem dL_does_220 : decode cL_does 220 = .ok (.iload_n 3, 1) := by decide +kernel
theorem dL_does_221 : decode cL_does 221 = .ok (.bipush 6, 2) := by decide +kernel
theorem dL_does_223 : decode cL_does 223 = .ok (.ishr, 1) := by decide +kernel
theorem dL_does_224 : decode cL_does 224 = .ok (.bipush 16, 2) := by decide +kernel
theorem dL_does_226 : decode cL_does 226 = .ok (.invokestatic 51, 3) := by decide +kernel
theorem dL_does_229 : decode cL_does 229 = .ok (.iadd, 1) := by decide +kernel
theorem dL_does_230 : decode cL_does 230 = .ok (.istore 5, 2) := by decide +kernel
theorem dL_does_232 : decode cL_does 232 = .ok (.iload_n 3, 1) := by decide +kernel
theorem dL_does_233 : decode cL_does 233 = .ok (.bipush 64, 2) := by decide +kernel
theorem dL_does_235 : decode cL_does 235 = .ok (.invokestatic 51, 3) := by decide +kernel
theorem dL_does_238 : decode cL_does 238 = .ok (.istore 6, 2) := by decide +kernel
theorem dL_does_240 : decode cL_does 240 = .ok (.aload_n 0, 1) := by decide +kernel
theorem dL_does_241 : decode cL_does 241 = .ok (.iload 4, 2) := by decide +kernel
theorem dL_does_243 : decode cL_does 243 = .ok (.iconst 2, 1) := by decide +kernel
theorem dL_does_244 : decode cL_does 244 = .ok (.invokevirtual 21, 3) := by decide +kernel
theorem dL_does_247 : decode cL_does 247 = .ok (.ifCond .ne 17, 3) := by decide +kernel
theorem dL_does_250 : decode cL_does 250 = .ok (.aload_n 0, 1) := by decide +kernel
theorem dL_does_251 : decode cL_does 251 = .ok (.iload 6, 2) := by decide +kernel
theorem dL_does_253 : decode cL_does 253 = .ok (.iconst 2, 1) := by decide +kernel
theorem dL_does_254 : decode cL_does 254 = .ok (.invokevirtual 21, 3) := by decide +kernel
theorem dL_does_257 : decode cL_does 257 = .ok (.ifCond .ne 7, 3) := by decide +kernel
theorem dL_does_260 : decode cL_does 260 = .ok (.iconst 1, 1) := by decide +kernel
theorem dL_does_261 : decode cL_does 261 = .ok (.goto 4, 3) := by decide +kernel
theorem dL_does_264 : decode cL_does 264 = .ok (.iconst 0, 1) := by decide +kernel
theorem dL_does_265 : decode cL_does 265 = .ok (.istore 7, 2) := by decide +kernel
theorem dL_does_267 : decode cL_does 267 = .ok (.aload_n 0, 1) := by decide +kernel
theorem dL_does_268 : decode cL_does 268 = .ok (.bipush 11, 2) := by decide +kernel
theorem dL_does_270 : decode cL_does 270 = .ok (.invokevirtual 13, 3) := by decide +kernel
theorem dL_does_273 : decode cL_does 273 = .ok (.istore 8, 2) := by decide +kernel
theorem dL_does_275 : decode cL_does 275 = .ok (.aload_n 0, 1) := by decide +kernel
theorem dL_does_276 : decode cL_does 276 = .ok (.bipush 10, 2) := by decide +kernel
theorem dL_does_278 : decode cL_does 278 = .ok (.invokevirtual 13, 3) := by decide +kernel
theorem dL_does_281 : decode cL_does 281 = .ok (.istore 9, 2) := by decide +kernel
theorem dL_does_283 : decode cL_does 283 = .ok (.aload_n 0, 1) := by decide +kernel
theorem dL_does_284 : decode cL_does 284 = .ok (.iload 4, 2) := by decide +kernel
theorem dL_does_286 : decode cL_does 286 = .ok (.iload 6, 2) := by decide +kernel
theorem dL_does_288 : decode cL_does 288 = .ok (.iload 5, 2) := by decide +kernel
theorem dL_does_290 : decode cL_does 290 = .ok (.invokevirtual 92, 3) := by decide +kernel
theorem dL_does_293 : decode cL_does 293 = .ok (.istore 10, 2) := by decide +kernel
theorem dL_does_295 : decode cL_does 295 = .ok (.iload 7, 2) := by decide +kernel
theorem dL_does_297 : decode cL_does 297 = .ok (.ifCond .ne 17, 3) := by decide +kernel
theorem dL_does_300 : decode cL_does 300 = .ok (.iload 10, 2) := by decide +kernel
theorem dL_does_302 : decode cL_does 302 = .ok (.iconst (-1), 1) := by decide +kernel
theorem dL_does_303 : decode cL_does 303 = .ok (.if_icmp .ne 7, 3) := by decide +kernel
theorem dL_does_306 : decode cL_does 306 = .ok (.iconst 1, 1) := by decide +kernel
theorem dL_does_307 : decode cL_does 307 = .ok (.goto 78, 3) := by decide +kernel
theorem dL_does_310 : decode cL_does 310 = .ok (.iconst 0, 1) := by decide +kernel
theorem dL_does_311 : decode cL_does 311 = .ok (.goto 74, 3) := by decide +kernel
theorem dL_does_314 : decode cL_does 314 = .ok (.iload 10, 2) := by decide +kernel
theorem dL_does_316 : decode cL_does 316 = .ok (.bipush (-5), 2) := by decide +kernel
theorem dL_does_318 : decode cL_does 318 = .ok (.if_icmp .ne 22, 3) := by decide +kernel
theorem dL_does_321 : decode cL_does 321 = .ok (.aload_n 0, 1) := by decide +kernel
theorem dL_does_322 : decode cL_does 322 = .ok (.bipush 11, 2) := by decide +kernel
theorem dL_does_324 : decode cL_does 324 = .ok (.invokevirtual 13, 3) := by decide +kernel
theorem dL_does_327 : decode cL_does 327 = .ok (.iload 8, 2) := by decide +kernel
theorem dL_does_329 : decode cL_does 329 = .ok (.if_icmp .ne 7, 3) := by decide +kernel
theorem dL_does_332 : decode cL_does 332 = .ok (.iconst 1, 1) := by decide +kernel
theorem dL_does_333 : decode cL_does 333 = .ok (.goto 52, 3) := by decide +kernel
theorem dL_does_336 : decode cL_does 336 = .ok (.iconst 0, 1) := by decide +kernel
theorem dL_does_337 : decode cL_does 337 = .ok (.goto 48, 3) := by decide +kernel
theorem dL_does_340 : decode cL_does 340 = .ok (.iload 10, 2) := by decide +kernel
theorem dL_does_342 : decode cL_does 342 = .ok (.ifCond .le 42, 3) := by decide +kernel
theorem dL_does_345 : decode cL_does 345 = .ok (.iload 10, 2) := by decide +kernel
theorem dL_does_347 : decode cL_does 347 = .ok (.iload 5, 2) := by decide +kernel
theorem dL_does_349 : decode cL_does 349 = .ok (.if_icmp .gt 35, 3) := by decide +kernel
theorem dL_does_352 : decode cL_does 352 = .ok (.aload_n 0, 1) := by decide +kernel
theorem dL_does_353 : decode cL_does 353 = .ok (.bipush 11, 2) := by decide +kernel
theorem dL_does_355 : decode cL_does 355 = .ok (.invokevirtual 13, 3) := by decide +kernel
theorem dL_does_358 : decode cL_does 358 = .ok (.iload 8, 2) := by decide +kernel
theorem dL_does_360 : decode cL_does 360 = .ok (.iload 10, 2) := by decide +kernel
theorem dL_does_362 : decode cL_does 362 = .ok (.iadd, 1) := by decide +kernel
theorem dL_does_363 : decode cL_does 363 = .ok (.if_icmp .ne 21, 3) := by decide +kernel
theorem dL_does_366 : decode cL_does 366 = .ok (.aload_n 0, 1) := by decide +kernel
theorem dL_does_367 : decode cL_does 367 = .ok (.bipush 10, 2) := by decide +kernel
theorem dL_does_369 : decode cL_does 369 = .ok (.invokevirtual 13, 3) := by decide +kernel
theorem dL_does_372 : decode cL_does 372 = .ok (.iload 9, 2) := by decide +kernel
theorem dL_does_374 : decode cL_does 374 = .ok (.iload 10, 2) := by decide +kernel
theorem dL_does_376 : decode cL_does 376 = .ok (.iadd, 1) := by decide +kernel
theorem dL_does_377 : decode cL_does 377 = .ok (.if_icmp .ne 7, 3) := by decide +kernel
theorem dL_does_380 : decode cL_does 380 = .ok (.iconst 1, 1) := by decide +kernel
theorem dL_does_381 : decode cL_does 381 = .ok (.goto 4, 3) := by decide +kernel
theorem dL_does_384 : decode cL_does 384 = .ok (.iconst 0, 1) := by decide +kernel
theorem dL_does_385 : decode cL_does 385 = .ok (.ireturn, 1) := by decide +kernel
theorem dL_law_0 : decode cL_law 0 = .ok (.new 14, 3) := by decide +kernel
theorem dL_law_3 : decode cL_law 3 = .ok (.dup, 1) := by decide +kernel
theorem dL_law_4 : decode cL_law 4 = .ok (.invokespecial 95, 3) := by decide +kernel
theorem dL_law_7 : decode cL_law 7 = .ok (.astore_n 1, 1) := by decide +kernel
theorem dL_law_8 : decode cL_law 8 = .ok (.aload_n 1, 1) := by decide +kernel
theorem dL_law_9 : decode cL_law 9 = .ok (.invokevirtual 96, 3) := by decide +kernel
theorem dL_law_12 : decode cL_law 12 = .ok (.bipush (-5), 2) := by decide +kernel
theorem dL_law_14 : decode cL_law 14 = .ok (.if_icmp .ne 94, 3) := by decide +kernel
theorem dL_law_17 : decode cL_law 17 = .ok (.aload_n 1, 1) := by decide +kernel
theorem dL_law_18 : decode cL_law 18 = .ok (.invokevirtual 100, 3) := by decide +kernel
theorem dL_law_21 : decode cL_law 21 = .ok (.bipush (-5), 2) := by decide +kernel
theorem dL_law_23 : decode cL_law 23 = .ok (.if_icmp .ne 85, 3) := by decide +kernel
theorem dL_law_26 : decode cL_law 26 = .ok (.aload_n 1, 1) := by decide +kernel
theorem dL_law_27 : decode cL_law 27 = .ok (.invokevirtual 103, 3) := by decide +kernel
theorem dL_law_30 : decode cL_law 30 = .ok (.bipush (-100), 2) := by decide +kernel
theorem dL_law_32 : decode cL_law 32 = .ok (.if_icmp .ne 76, 3) := by decide +kernel
theorem dL_law_35 : decode cL_law 35 = .ok (.aload_n 1, 1) := by decide +kernel
theorem dL_law_36 : decode cL_law 36 = .ok (.iconst 4, 1) := by decide +kernel
theorem dL_law_37 : decode cL_law 37 = .ok (.invokevirtual 13, 3) := by decide +kernel
theorem dL_law_40 : decode cL_law 40 = .ok (.bipush 16, 2) := by decide +kernel
theorem dL_law_42 : decode cL_law 42 = .ok (.if_icmp .ne 66, 3) := by decide +kernel
theorem dL_law_45 : decode cL_law 45 = .ok (.aload_n 1, 1) := by decide +kernel
theorem dL_law_46 : decode cL_law 46 = .ok (.bipush 12, 2) := by decide +kernel
theorem dL_law_48 : decode cL_law 48 = .ok (.iconst 0, 1) := by decide +kernel
theorem dL_law_49 : decode cL_law 49 = .ok (.invokevirtual 27, 3) := by decide +kernel
theorem dL_law_52 : decode cL_law 52 = .ok (.iconst (-1), 1) := by decide +kernel
theorem dL_law_53 : decode cL_law 53 = .ok (.if_icmp .ne 55, 3) := by decide +kernel
theorem dL_law_56 : decode cL_law 56 = .ok (.aload_n 1, 1) := by decide +kernel
theorem dL_law_57 : decode cL_law 57 = .ok (.iconst (-1), 1) := by decide +kernel
theorem dL_law_58 : decode cL_law 58 = .ok (.invokevirtual 48, 3) := by decide +kernel
theorem dL_law_61 : decode cL_law 61 = .ok (.bipush (-2), 2) := by decide +kernel
theorem dL_law_63 : decode cL_law 63 = .ok (.if_icmp .ne 45, 3) := by decide +kernel
theorem dL_law_66 : decode cL_law 66 = .ok (.aload_n 1, 1) := by decide +kernel
theorem dL_law_67 : decode cL_law 67 = .ok (.bipush 48, 2) := by decide +kernel
theorem dL_law_69 : decode cL_law 69 = .ok (.invokevirtual 48, 3) := by decide +kernel
theorem dL_law_72 : decode cL_law 72 = .ok (.bipush (-5), 2) := by decide +kernel
theorem dL_law_74 : decode cL_law 74 = .ok (.if_icmp .ne 34, 3) := by decide +kernel
theorem dL_law_77 : decode cL_law 77 = .ok (.aload_n 1, 1) := by decide +kernel
theorem dL_law_78 : decode cL_law 78 = .ok (.iconst 4, 1) := by decide +kernel
theorem dL_law_79 : decode cL_law 79 = .ok (.iconst 0, 1) := by decide +kernel
theorem dL_law_80 : decode cL_law 80 = .ok (.invokevirtual 30, 3) := by decide +kernel
theorem dL_law_83 : decode cL_law 83 = .ok (.iconst (-1), 1) := by decide +kernel
theorem dL_law_84 : decode cL_law 84 = .ok (.if_icmp .ne 24, 3) := by decide +kernel
theorem dL_law_87 : decode cL_law 87 = .ok (.aload_n 1, 1) := by decide +kernel
theorem dL_law_88 : decode cL_law 88 = .ok (.iconst 3, 1) := by decide +kernel
theorem dL_law_89 : decode cL_law 89 = .ok (.aload_n 0, 1) := by decide +kernel
theorem dL_law_90 : decode cL_law 90 = .ok (.iconst 0, 1) := by decide +kernel
theorem dL_law_91 : decode cL_law 91 = .ok (.invokestatic 106, 3) := by decide +kernel
theorem dL_law_94 : decode cL_law 94 = .ok (.bipush 9, 2) := by decide +kernel
theorem dL_law_96 : decode cL_law 96 = .ok (.invokestatic 51, 3) := by decide +kernel
theorem dL_law_99 : decode cL_law 99 = .ok (.iadd, 1) := by decide +kernel
theorem dL_law_100 : decode cL_law 100 = .ok (.invokevirtual 89, 3) := by decide +kernel
theorem dL_law_103 : decode cL_law 103 = .ok (.bipush 30, 2) := by decide +kernel
theorem dL_law_105 : decode cL_law 105 = .ok (.if_icmp .eq 5, 3) := by decide +kernel
theorem dL_law_108 : decode cL_law 108 = .ok (.iconst 0, 1) := by decide +kernel
theorem dL_law_109 : decode cL_law 109 = .ok (.ireturn, 1) := by decide +kernel
theorem dL_law_110 : decode cL_law 110 = .ok (.iconst 1, 1) := by decide +kernel
theorem dL_law_111 : decode cL_law 111 = .ok (.istore_n 2, 1) := by decide +kernel
theorem dL_law_112 : decode cL_law 112 = .ok (.iload_n 2, 1) := by decide +kernel
theorem dL_law_113 : decode cL_law 113 = .ok (.bipush 22, 2) := by decide +kernel
theorem dL_law_115 : decode cL_law 115 = .ok (.if_icmp .ge 156, 3) := by decide +kernel
theorem dL_law_118 : decode cL_law 118 = .ok (.aload_n 0, 1) := by decide +kernel
theorem dL_law_119 : decode cL_law 119 = .ok (.iconst 2, 1) := by decide +kernel
theorem dL_law_120 : decode cL_law 120 = .ok (.iload_n 2, 1) := by decide +kernel
theorem dL_law_121 : decode cL_law 121 = .ok (.imul, 1) := by decide +kernel
theorem dL_law_122 : decode cL_law 122 = .ok (.iconst 1, 1) := by decide +kernel
theorem dL_law_123 : decode cL_law 123 = .ok (.isub, 1) := by decide +kernel
theorem dL_law_124 : decode cL_law 124 = .ok (.invokestatic 106, 3) := by decide +kernel
theorem dL_law_127 : decode cL_law 127 = .ok (.istore_n 3, 1) := by decide +kernel
theorem dL_law_128 : decode cL_law 128 = .ok (.aload_n 0, 1) := by decide +kernel
theorem dL_law_129 : decode cL_law 129 = .ok (.iconst 2, 1) := by decide +kernel
theorem dL_law_130 : decode cL_law 130 = .ok (.iload_n 2, 1) := by decide +kernel
theorem dL_law_131 : decode cL_law 131 = .ok (.imul, 1) := by decide +kernel
theorem dL_law_132 : decode cL_law 132 = .ok (.invokestatic 106, 3) := by decide +kernel
theorem dL_law_135 : decode cL_law 135 = .ok (.istore 4, 2) := by decide +kernel
theorem dL_law_137 : decode cL_law 137 = .ok (.iload_n 3, 1) := by decide +kernel
theorem dL_law_138 : decode cL_law 138 = .ok (.bipush 12, 2) := by decide +kernel
theorem dL_law_140 : decode cL_law 140 = .ok (.ishr, 1) := by decide +kernel
theorem dL_law_141 : decode cL_law 141 = .ok (.bipush 12, 2) := by decide +kernel
theorem dL_law_143 : decode cL_law 143 = .ok (.invokestatic 51, 3) := by decide +kernel
theorem dL_law_146 : decode cL_law 146 = .ok (.istore 5, 2) := by decide +kernel
theorem dL_law_148 : decode cL_law 148 = .ok (.aload_n 1, 1) := by decide +kernel
theorem dL_law_149 : decode cL_law 149 = .ok (.bipush 12, 2) := by decide +kernel
theorem dL_law_151 : decode cL_law 151 = .ok (.invokevirtual 13, 3) := by decide +kernel
theorem dL_law_154 : decode cL_law 154 = .ok (.istore 6, 2) := by decide +kernel
theorem dL_law_156 : decode cL_law 156 = .ok (.iload 4, 2) := by decide +kernel
theorem dL_law_158 : decode cL_law 158 = .ok (.ldc 110, 2) := by decide +kernel
theorem dL_law_160 : decode cL_law 160 = .ok (.iand, 1) := by decide +kernel
theorem dL_law_161 : decode cL_law 161 = .ok (.ifCond .ne 13, 3) := by decide +kernel
theorem dL_law_164 : decode cL_law 164 = .ok (.iload 6, 2) := by decide +kernel
theorem dL_law_166 : decode cL_law 166 = .ok (.iconst 4, 1) := by decide +kernel
theorem dL_law_167 : decode cL_law 167 = .ok (.if_icmp .ge 7, 3) := by decide +kernel
theorem dL_law_170 : decode cL_law 170 = .ok (.iconst 1, 1) := by decide +kernel
theorem dL_law_171 : decode cL_law 171 = .ok (.goto 4, 3) := by decide +kernel
theorem dL_law_174 : decode cL_law 174 = .ok (.iconst 0, 1) := by decide +kernel
theorem dL_law_175 : decode cL_law 175 = .ok (.istore 7, 2) := by decide +kernel
theorem dL_law_177 : decode cL_law 177 = .ok (.iload 7, 2) := by decide +kernel
theorem dL_law_179 : decode cL_law 179 = .ok (.ifCond .eq 10, 3) := by decide +kernel
theorem dL_law_182 : decode cL_law 182 = .ok (.aload_n 1, 1) := by decide +kernel
theorem dL_law_183 : decode cL_law 183 = .ok (.invokestatic 111, 3) := by decide +kernel
theorem dL_law_186 : decode cL_law 186 = .ok (.goto 4, 3) := by decide +kernel
theorem dL_law_189 : decode cL_law 189 = .ok (.lconst 0, 1) := by decide +kernel
theorem dL_law_190 : decode cL_law 190 = .ok (.lstore 8, 2) := by decide +kernel
theorem dL_law_192 : decode cL_law 192 = .ok (.aload_n 1, 1) := by decide +kernel
theorem dL_law_193 : decode cL_law 193 = .ok (.iload 5, 2) := by decide +kernel
theorem dL_law_195 : decode cL_law 195 = .ok (.iload_n 3, 1) := by decide +kernel
theorem dL_law_196 : decode cL_law 196 = .ok (.iload 4, 2) := by decide +kernel
theorem dL_law_198 : decode cL_law 198 = .ok (.invokestatic 115, 3) := by decide +kernel
theorem dL_law_201 : decode cL_law 201 = .ok (.ifCond .eq 25, 3) := by decide +kernel
theorem dL_law_204 : decode cL_law 204 = .ok (.aload_n 1, 1) := by decide +kernel
theorem dL_law_205 : decode cL_law 205 = .ok (.invokestatic 119, 3) := by decide +kernel
theorem dL_law_208 : decode cL_law 208 = .ok (.ifCond .eq 18, 3) := by decide +kernel
theorem dL_law_211 : decode cL_law 211 = .ok (.aload_n 1, 1) := by decide +kernel
theorem dL_law_212 : decode cL_law 212 = .ok (.invokestatic 123, 3) := by decide +kernel
theorem dL_law_215 : decode cL_law 215 = .ok (.ifCond .eq 11, 3) := by decide +kernel
theorem dL_law_218 : decode cL_law 218 = .ok (.aload_n 1, 1) := by decide +kernel
theorem dL_law_219 : decode cL_law 219 = .ok (.iconst 3, 1) := by decide +kernel
theorem dL_law_220 : decode cL_law 220 = .ok (.invokestatic 126, 3) := by decide +kernel
theorem dL_law_223 : decode cL_law 223 = .ok (.ifCond .ne 5, 3) := by decide +kernel
theorem dL_law_226 : decode cL_law 226 = .ok (.iconst 0, 1) := by decide +kernel
theorem dL_law_227 : decode cL_law 227 = .ok (.ireturn, 1) := by decide +kernel
theorem dL_law_228 : decode cL_law 228 = .ok (.iload 7, 2) := by decide +kernel
theorem dL_law_230 : decode cL_law 230 = .ok (.ifCond .eq 35, 3) := by decide +kernel
theorem dL_law_233 : decode cL_law 233 = .ok (.aload_n 1, 1) := by decide +kernel
theorem dL_law_234 : decode cL_law 234 = .ok (.bipush 12, 2) := by decide +kernel
theorem dL_law_236 : decode cL_law 236 = .ok (.invokevirtual 13, 3) := by decide +kernel
theorem dL_law_239 : decode cL_law 239 = .ok (.iload 6, 2) := by decide +kernel
theorem dL_law_241 : decode cL_law 241 = .ok (.if_icmp .eq 24, 3) := by decide +kernel
theorem dL_law_244 : decode cL_law 244 = .ok (.aload_n 1, 1) := by decide +kernel
theorem dL_law_245 : decode cL_law 245 = .ok (.invokevirtual 96, 3) := by decide +kernel
theorem dL_law_248 : decode cL_law 248 = .ok (.iload 6, 2) := by decide +kernel
theorem dL_law_250 : decode cL_law 250 = .ok (.if_icmp .ne 13, 3) := by decide +kernel
theorem dL_law_253 : decode cL_law 253 = .ok (.aload_n 1, 1) := by decide +kernel
theorem dL_law_254 : decode cL_law 254 = .ok (.invokestatic 111, 3) := by decide +kernel
theorem dL_law_257 : decode cL_law 257 = .ok (.lload 8, 2) := by decide +kernel
theorem dL_law_259 : decode cL_law 259 = .ok (.lcmp, 1) := by decide +kernel
theorem dL_law_260 : decode cL_law 260 = .ok (.ifCond .eq 5, 3) := by decide +kernel
theorem dL_law_263 : decode cL_law 263 = .ok (.iconst 0, 1) := by decide +kernel
theorem dL_law_264 : decode cL_law 264 = .ok (.ireturn, 1) := by decide +kernel
theorem dL_law_265 : decode cL_law 265 = .ok (.iinc 2 1, 3) := by decide +kernel
theorem dL_law_268 : decode cL_law 268 = .ok (.goto (-156), 3) := by decide +kernel
theorem dL_law_271 : decode cL_law 271 = .ok (.iconst 1, 1) := by decide +kernel
theorem dL_law_272 : decode cL_law 272 = .ok (.ireturn, 1) := by decide +kernel
