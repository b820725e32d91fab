theorem dL_papers_0 : decode cL_papers 0 = .ok (.bipush 12, 2) := by decide +kernel
theorem dL_papers_2 : decode cL_papers 2 = .ok (.newarray .int, 2) := by decide +kernel
theorem dL_papers_4 : decode cL_papers 4 = .ok (.astore_n 1, 1) := by decide +kernel
theorem dL_papers_5 : decode cL_papers 5 = .ok (.bipush 12, 2) := by decide +kernel
theorem dL_papers_7 : decode cL_papers 7 = .ok (.newarray .int, 2) := by decide +kernel
theorem dL_papers_9 : decode cL_papers 9 = .ok (.astore_n 2, 1) := by decide +kernel
theorem dL_papers_10 : decode cL_papers 10 = .ok (.bipush 12, 2) := by decide +kernel
theorem dL_papers_12 : decode cL_papers 12 = .ok (.newarray .int, 2) := by decide +kernel
theorem dL_papers_14 : decode cL_papers 14 = .ok (.astore_n 3, 1) := by decide +kernel
theorem dL_papers_15 : decode cL_papers 15 = .ok (.iconst 4, 1) := by decide +kernel
theorem dL_papers_16 : decode cL_papers 16 = .ok (.newarray .int, 2) := by decide +kernel
theorem dL_papers_18 : decode cL_papers 18 = .ok (.astore 4, 2) := by decide +kernel
theorem dL_papers_20 : decode cL_papers 20 = .ok (.iconst 0, 1) := by decide +kernel
theorem dL_papers_21 : decode cL_papers 21 = .ok (.istore 5, 2) := by decide +kernel
theorem dL_papers_23 : decode cL_papers 23 = .ok (.iconst 0, 1) := by decide +kernel
theorem dL_papers_24 : decode cL_papers 24 = .ok (.istore 6, 2) := by decide +kernel
theorem dL_papers_26 : decode cL_papers 26 = .ok (.iload 6, 2) := by decide +kernel
theorem dL_papers_28 : decode cL_papers 28 = .ok (.aload_n 0, 1) := by decide +kernel
theorem dL_papers_29 : decode cL_papers 29 = .ok (.iconst 2, 1) := by decide +kernel
theorem dL_papers_30 : decode cL_papers 30 = .ok (.invokevirtual 13, 3) := by decide +kernel
theorem dL_papers_33 : decode cL_papers 33 = .ok (.if_icmp .ge 259, 3) := by decide +kernel
theorem dL_papers_36 : decode cL_papers 36 = .ok (.aload_n 0, 1) := by decide +kernel
theorem dL_papers_37 : decode cL_papers 37 = .ok (.iload 6, 2) := by decide +kernel
theorem dL_papers_39 : decode cL_papers 39 = .ok (.iconst 0, 1) := by decide +kernel
theorem dL_papers_40 : decode cL_papers 40 = .ok (.invokevirtual 26, 3) := by decide +kernel
theorem dL_papers_43 : decode cL_papers 43 = .ok (.istore 7, 2) := by decide +kernel
theorem dL_papers_45 : decode cL_papers 45 = .ok (.aload_n 0, 1) := by decide +kernel
theorem dL_papers_46 : decode cL_papers 46 = .ok (.iload 6, 2) := by decide +kernel
theorem dL_papers_48 : decode cL_papers 48 = .ok (.iconst 1, 1) := by decide +kernel
theorem dL_papers_49 : decode cL_papers 49 = .ok (.invokevirtual 26, 3) := by decide +kernel
theorem dL_papers_52 : decode cL_papers 52 = .ok (.istore 8, 2) := by decide +kernel
theorem dL_papers_54 : decode cL_papers 54 = .ok (.aload_n 0, 1) := by decide +kernel
theorem dL_papers_55 : decode cL_papers 55 = .ok (.iload 6, 2) := by decide +kernel
theorem dL_papers_57 : decode cL_papers 57 = .ok (.iconst 4, 1) := by decide +kernel
theorem dL_papers_58 : decode cL_papers 58 = .ok (.invokevirtual 26, 3) := by decide +kernel
theorem dL_papers_61 : decode cL_papers 61 = .ok (.istore 9, 2) := by decide +kernel
theorem dL_papers_63 : decode cL_papers 63 = .ok (.aload_n 0, 1) := by decide +kernel
theorem dL_papers_64 : decode cL_papers 64 = .ok (.iload 6, 2) := by decide +kernel
theorem dL_papers_66 : decode cL_papers 66 = .ok (.iconst 5, 1) := by decide +kernel
theorem dL_papers_67 : decode cL_papers 67 = .ok (.invokevirtual 26, 3) := by decide +kernel
theorem dL_papers_70 : decode cL_papers 70 = .ok (.istore 10, 2) := by decide +kernel
theorem dL_papers_72 : decode cL_papers 72 = .ok (.aload_n 0, 1) := by decide +kernel
theorem dL_papers_73 : decode cL_papers 73 = .ok (.iload 8, 2) := by decide +kernel
theorem dL_papers_75 : decode cL_papers 75 = .ok (.aload_n 0, 1) := by decide +kernel
theorem dL_papers_76 : decode cL_papers 76 = .ok (.iload 6, 2) := by decide +kernel
theorem dL_papers_78 : decode cL_papers 78 = .ok (.iconst 2, 1) := by decide +kernel
theorem dL_papers_79 : decode cL_papers 79 = .ok (.invokevirtual 26, 3) := by decide +kernel
theorem dL_papers_82 : decode cL_papers 82 = .ok (.aload_n 0, 1) := by decide +kernel
theorem dL_papers_83 : decode cL_papers 83 = .ok (.iload 6, 2) := by decide +kernel
theorem dL_papers_85 : decode cL_papers 85 = .ok (.iconst 3, 1) := by decide +kernel
theorem dL_papers_86 : decode cL_papers 86 = .ok (.invokevirtual 26, 3) := by decide +kernel
theorem dL_papers_89 : decode cL_papers 89 = .ok (.invokestatic 42, 3) := by decide +kernel
theorem dL_papers_92 : decode cL_papers 92 = .ok (.istore 11, 2) := by decide +kernel
theorem dL_papers_94 : decode cL_papers 94 = .ok (.aload_n 1, 1) := by decide +kernel
theorem dL_papers_95 : decode cL_papers 95 = .ok (.iload 7, 2) := by decide +kernel
theorem dL_papers_97 : decode cL_papers 97 = .ok (.dup2, 1) := by decide +kernel
theorem dL_papers_98 : decode cL_papers 98 = .ok (.iaload, 1) := by decide +kernel
theorem dL_papers_99 : decode cL_papers 99 = .ok (.iconst 1, 1) := by decide +kernel
theorem dL_papers_100 : decode cL_papers 100 = .ok (.iadd, 1) := by decide +kernel
theorem dL_papers_101 : decode cL_papers 101 = .ok (.iastore, 1) := by decide +kernel
theorem dL_papers_102 : decode cL_papers 102 = .ok (.aload_n 2, 1) := by decide +kernel
theorem dL_papers_103 : decode cL_papers 103 = .ok (.iload 7, 2) := by decide +kernel
theorem dL_papers_105 : decode cL_papers 105 = .ok (.dup2, 1) := by decide +kernel
theorem dL_papers_106 : decode cL_papers 106 = .ok (.iaload, 1) := by decide +kernel
theorem dL_papers_107 : decode cL_papers 107 = .ok (.iload 9, 2) := by decide +kernel
theorem dL_papers_109 : decode cL_papers 109 = .ok (.iadd, 1) := by decide +kernel
theorem dL_papers_110 : decode cL_papers 110 = .ok (.iastore, 1) := by decide +kernel
theorem dL_papers_111 : decode cL_papers 111 = .ok (.aload_n 3, 1) := by decide +kernel
theorem dL_papers_112 : decode cL_papers 112 = .ok (.iload 7, 2) := by decide +kernel
theorem dL_papers_114 : decode cL_papers 114 = .ok (.aload_n 1, 1) := by decide +kernel
theorem dL_papers_115 : decode cL_papers 115 = .ok (.iload 7, 2) := by decide +kernel
theorem dL_papers_117 : decode cL_papers 117 = .ok (.iaload, 1) := by decide +kernel
theorem dL_papers_118 : decode cL_papers 118 = .ok (.iconst 1, 1) := by decide +kernel
theorem dL_papers_119 : decode cL_papers 119 = .ok (.if_icmp .eq 12, 3) := by decide +kernel
theorem dL_papers_122 : decode cL_papers 122 = .ok (.iload 9, 2) := by decide +kernel
theorem dL_papers_124 : decode cL_papers 124 = .ok (.aload_n 3, 1) := by decide +kernel
theorem dL_papers_125 : decode cL_papers 125 = .ok (.iload 7, 2) := by decide +kernel
theorem dL_papers_127 : decode cL_papers 127 = .ok (.iaload, 1) := by decide +kernel
theorem dL_papers_128 : decode cL_papers 128 = .ok (.if_icmp .ge 8, 3) := by decide +kernel
theorem dL_papers_131 : decode cL_papers 131 = .ok (.iload 9, 2) := by decide +kernel
theorem dL_papers_133 : decode cL_papers 133 = .ok (.goto 7, 3) := by decide +kernel
theorem dL_papers_136 : decode cL_papers 136 = .ok (.aload_n 3, 1) := by decide +kernel
theorem dL_papers_137 : decode cL_papers 137 = .ok (.iload 7, 2) := by decide +kernel
theorem dL_papers_139 : decode cL_papers 139 = .ok (.iaload, 1) := by decide +kernel
theorem dL_papers_140 : decode cL_papers 140 = .ok (.iastore, 1) := by decide +kernel
theorem dL_papers_141 : decode cL_papers 141 = .ok (.aload 4, 2) := by decide +kernel
theorem dL_papers_143 : decode cL_papers 143 = .ok (.iload 10, 2) := by decide +kernel
theorem dL_papers_145 : decode cL_papers 145 = .ok (.dup2, 1) := by decide +kernel
theorem dL_papers_146 : decode cL_papers 146 = .ok (.iaload, 1) := by decide +kernel
theorem dL_papers_147 : decode cL_papers 147 = .ok (.iconst 1, 1) := by decide +kernel
theorem dL_papers_148 : decode cL_papers 148 = .ok (.iadd, 1) := by decide +kernel
theorem dL_papers_149 : decode cL_papers 149 = .ok (.iastore, 1) := by decide +kernel
theorem dL_papers_150 : decode cL_papers 150 = .ok (.iload 5, 2) := by decide +kernel
theorem dL_papers_152 : decode cL_papers 152 = .ok (.iload 9, 2) := by decide +kernel
theorem dL_papers_154 : decode cL_papers 154 = .ok (.iadd, 1) := by decide +kernel
theorem dL_papers_155 : decode cL_papers 155 = .ok (.istore 5, 2) := by decide +kernel
theorem dL_papers_157 : decode cL_papers 157 = .ok (.iload 10, 2) := by decide +kernel
theorem dL_papers_159 : decode cL_papers 159 = .ok (.iconst 2, 1) := by decide +kernel
theorem dL_papers_160 : decode cL_papers 160 = .ok (.if_icmp .ge 8, 3) := by decide +kernel
theorem dL_papers_163 : decode cL_papers 163 = .ok (.iload 11, 2) := by decide +kernel
theorem dL_papers_165 : decode cL_papers 165 = .ok (.goto 36, 3) := by decide +kernel
theorem dL_papers_168 : decode cL_papers 168 = .ok (.iload 10, 2) := by decide +kernel
theorem dL_papers_170 : decode cL_papers 170 = .ok (.iconst 2, 1) := by decide +kernel
theorem dL_papers_171 : decode cL_papers 171 = .ok (.if_icmp .ne 17, 3) := by decide +kernel
theorem dL_papers_174 : decode cL_papers 174 = .ok (.iload 11, 2) := by decide +kernel
theorem dL_papers_176 : decode cL_papers 176 = .ok (.aload_n 0, 1) := by decide +kernel
theorem dL_papers_177 : decode cL_papers 177 = .ok (.iload 6, 2) := by decide +kernel
theorem dL_papers_179 : decode cL_papers 179 = .ok (.bipush 7, 2) := by decide +kernel
theorem dL_papers_181 : decode cL_papers 181 = .ok (.invokevirtual 26, 3) := by decide +kernel
theorem dL_papers_184 : decode cL_papers 184 = .ok (.iadd, 1) := by decide +kernel
theorem dL_papers_185 : decode cL_papers 185 = .ok (.goto 16, 3) := by decide +kernel
theorem dL_papers_188 : decode cL_papers 188 = .ok (.iload 11, 2) := by decide +kernel
theorem dL_papers_190 : decode cL_papers 190 = .ok (.ifCond .le 10, 3) := by decide +kernel
theorem dL_papers_193 : decode cL_papers 193 = .ok (.iload 11, 2) := by decide +kernel
theorem dL_papers_195 : decode cL_papers 195 = .ok (.iconst 1, 1) := by decide +kernel
theorem dL_papers_196 : decode cL_papers 196 = .ok (.isub, 1) := by decide +kernel
theorem dL_papers_197 : decode cL_papers 197 = .ok (.goto 4, 3) := by decide +kernel
theorem dL_papers_200 : decode cL_papers 200 = .ok (.iconst 0, 1) := by decide +kernel
theorem dL_papers_201 : decode cL_papers 201 = .ok (.istore 12, 2) := by decide +kernel
theorem dL_papers_203 : decode cL_papers 203 = .ok (.iload 9, 2) := by decide +kernel
theorem dL_papers_205 : decode cL_papers 205 = .ok (.iload 12, 2) := by decide +kernel
theorem dL_papers_207 : decode cL_papers 207 = .ok (.if_icmp .ne 77, 3) := by decide +kernel
theorem dL_papers_210 : decode cL_papers 210 = .ok (.iload 9, 2) := by decide +kernel
theorem dL_papers_212 : decode cL_papers 212 = .ok (.ifCond .lt 72, 3) := by decide +kernel
theorem dL_papers_215 : decode cL_papers 215 = .ok (.iload 9, 2) := by decide +kernel
theorem dL_papers_217 : decode cL_papers 217 = .ok (.bipush 10, 2) := by decide +kernel
theorem dL_papers_219 : decode cL_papers 219 = .ok (.if_icmp .gt 65, 3) := by decide +kernel
theorem dL_papers_222 : decode cL_papers 222 = .ok (.aload_n 0, 1) := by decide +kernel
theorem dL_papers_223 : decode cL_papers 223 = .ok (.iload 6, 2) := by decide +kernel
theorem dL_papers_225 : decode cL_papers 225 = .ok (.bipush 6, 2) := by decide +kernel
theorem dL_papers_227 : decode cL_papers 227 = .ok (.invokevirtual 26, 3) := by decide +kernel
theorem dL_papers_230 : decode cL_papers 230 = .ok (.ldc 37, 2) := by decide +kernel
theorem dL_papers_232 : decode cL_papers 232 = .ok (.if_icmp .ne 7, 3) := by decide +kernel
theorem dL_papers_235 : decode cL_papers 235 = .ok (.iconst 1, 1) := by decide +kernel
theorem dL_papers_236 : decode cL_papers 236 = .ok (.goto 4, 3) := by decide +kernel
theorem dL_papers_239 : decode cL_papers 239 = .ok (.iconst 0, 1) := by decide +kernel
theorem dL_papers_240 : decode cL_papers 240 = .ok (.iload 10, 2) := by decide +kernel
theorem dL_papers_242 : decode cL_papers 242 = .ok (.ifCond .ne 7, 3) := by decide +kernel
theorem dL_papers_245 : decode cL_papers 245 = .ok (.iconst 1, 1) := by decide +kernel
theorem dL_papers_246 : decode cL_papers 246 = .ok (.goto 4, 3) := by decide +kernel
theorem dL_papers_249 : decode cL_papers 249 = .ok (.iconst 0, 1) := by decide +kernel
theorem dL_papers_250 : decode cL_papers 250 = .ok (.if_icmp .ne 34, 3) := by decide +kernel
theorem dL_papers_253 : decode cL_papers 253 = .ok (.aload_n 0, 1) := by decide +kernel
theorem dL_papers_254 : decode cL_papers 254 = .ok (.iload 6, 2) := by decide +kernel
theorem dL_papers_256 : decode cL_papers 256 = .ok (.bipush 7, 2) := by decide +kernel
theorem dL_papers_258 : decode cL_papers 258 = .ok (.invokevirtual 26, 3) := by decide +kernel
theorem dL_papers_261 : decode cL_papers 261 = .ok (.ldc 37, 2) := by decide +kernel
theorem dL_papers_263 : decode cL_papers 263 = .ok (.if_icmp .ne 7, 3) := by decide +kernel
theorem dL_papers_266 : decode cL_papers 266 = .ok (.iconst 1, 1) := by decide +kernel
theorem dL_papers_267 : decode cL_papers 267 = .ok (.goto 4, 3) := by decide +kernel
theorem dL_papers_270 : decode cL_papers 270 = .ok (.iconst 0, 1) := by decide +kernel
theorem dL_papers_271 : decode cL_papers 271 = .ok (.iload 10, 2) := by decide +kernel
theorem dL_papers_273 : decode cL_papers 273 = .ok (.ifCond .ne 7, 3) := by decide +kernel
theorem dL_papers_276 : decode cL_papers 276 = .ok (.iconst 1, 1) := by decide +kernel
theorem dL_papers_277 : decode cL_papers 277 = .ok (.goto 4, 3) := by decide +kernel
theorem dL_papers_280 : decode cL_papers 280 = .ok (.iconst 0, 1) := by decide +kernel
theorem dL_papers_281 : decode cL_papers 281 = .ok (.if_icmp .eq 5, 3) := by decide +kernel
theorem dL_papers_284 : decode cL_papers 284 = .ok (.iconst 0, 1) := by decide +kernel
theorem dL_papers_285 : decode cL_papers 285 = .ok (.ireturn, 1) := by decide +kernel
theorem dL_papers_286 : decode cL_papers 286 = .ok (.iinc 6 1, 3) := by decide +kernel
theorem dL_papers_289 : decode cL_papers 289 = .ok (.goto (-263), 3) := by decide +kernel
theorem dL_papers_292 : decode cL_papers 292 = .ok (.iconst 0, 1) := by decide +kernel
theorem dL_papers_293 : decode cL_papers 293 = .ok (.istore 6, 2) := by decide +kernel
theorem dL_papers_295 : decode cL_papers 295 = .ok (.iload 6, 2) := by decide +kernel
theorem dL_papers_297 : decode cL_papers 297 = .ok (.aload_n 0, 1) := by decide +kernel
theorem dL_papers_298 : decode cL_papers 298 = .ok (.iconst 1, 1) := by decide +kernel
theorem dL_papers_299 : decode cL_papers 299 = .ok (.invokevirtual 13, 3) := by decide +kernel
theorem dL_papers_302 : decode cL_papers 302 = .ok (.if_icmp .ge 66, 3) := by decide +kernel
theorem dL_papers_305 : decode cL_papers 305 = .ok (.aload_n 0, 1) := by decide +kernel
theorem dL_papers_306 : decode cL_papers 306 = .ok (.iload 6, 2) := by decide +kernel
theorem dL_papers_308 : decode cL_papers 308 = .ok (.iconst 3, 1) := by decide +kernel
theorem dL_papers_309 : decode cL_papers 309 = .ok (.invokevirtual 23, 3) := by decide +kernel
theorem dL_papers_312 : decode cL_papers 312 = .ok (.aload_n 1, 1) := by decide +kernel
theorem dL_papers_313 : decode cL_papers 313 = .ok (.iload 6, 2) := by decide +kernel
theorem dL_papers_315 : decode cL_papers 315 = .ok (.iaload, 1) := by decide +kernel
theorem dL_papers_316 : decode cL_papers 316 = .ok (.if_icmp .ne 44, 3) := by decide +kernel
theorem dL_papers_319 : decode cL_papers 319 = .ok (.aload_n 0, 1) := by decide +kernel
theorem dL_papers_320 : decode cL_papers 320 = .ok (.iload 6, 2) := by decide +kernel
theorem dL_papers_322 : decode cL_papers 322 = .ok (.iconst 4, 1) := by decide +kernel
theorem dL_papers_323 : decode cL_papers 323 = .ok (.invokevirtual 23, 3) := by decide +kernel
theorem dL_papers_326 : decode cL_papers 326 = .ok (.aload_n 2, 1) := by decide +kernel
theorem dL_papers_327 : decode cL_papers 327 = .ok (.iload 6, 2) := by decide +kernel
theorem dL_papers_329 : decode cL_papers 329 = .ok (.iaload, 1) := by decide +kernel
theorem dL_papers_330 : decode cL_papers 330 = .ok (.if_icmp .ne 30, 3) := by decide +kernel
theorem dL_papers_333 : decode cL_papers 333 = .ok (.aload_n 0, 1) := by decide +kernel
theorem dL_papers_334 : decode cL_papers 334 = .ok (.iload 6, 2) := by decide +kernel
theorem dL_papers_336 : decode cL_papers 336 = .ok (.bipush 8, 2) := by decide +kernel
theorem dL_papers_338 : decode cL_papers 338 = .ok (.invokevirtual 23, 3) := by decide +kernel
theorem dL_papers_341 : decode cL_papers 341 = .ok (.aload_n 1, 1) := by decide +kernel
theorem dL_papers_342 : decode cL_papers 342 = .ok (.iload 6, 2) := by decide +kernel
theorem dL_papers_344 : decode cL_papers 344 = .ok (.iaload, 1) := by decide +kernel
theorem dL_papers_345 : decode cL_papers 345 = .ok (.ifCond .ne 8, 3) := by decide +kernel
theorem dL_papers_348 : decode cL_papers 348 = .ok (.ldc 37, 2) := by decide +kernel
theorem dL_papers_350 : decode cL_papers 350 = .ok (.goto 7, 3) := by decide +kernel
theorem dL_papers_353 : decode cL_papers 353 = .ok (.aload_n 3, 1) := by decide +kernel
theorem dL_papers_354 : decode cL_papers 354 = .ok (.iload 6, 2) := by decide +kernel
theorem dL_papers_356 : decode cL_papers 356 = .ok (.iaload, 1) := by decide +kernel
theorem dL_papers_357 : decode cL_papers 357 = .ok (.if_icmp .eq 5, 3) := by decide +kernel
theorem dL_papers_360 : decode cL_papers 360 = .ok (.iconst 0, 1) := by decide +kernel
theorem dL_papers_361 : decode cL_papers 361 = .ok (.ireturn, 1) := by decide +kernel
theorem dL_papers_362 : decode cL_papers 362 = .ok (.iinc 6 1, 3) := by decide +kernel
theorem dL_papers_365 : decode cL_papers 365 = .ok (.goto (-70), 3) := by decide +kernel
theorem dL_papers_368 : decode cL_papers 368 = .ok (.aload_n 0, 1) := by decide +kernel
theorem dL_papers_369 : decode cL_papers 369 = .ok (.iconst 3, 1) := by decide +kernel
theorem dL_papers_370 : decode cL_papers 370 = .ok (.invokevirtual 13, 3) := by decide +kernel
theorem dL_papers_373 : decode cL_papers 373 = .ok (.aload 4, 2) := by decide +kernel
theorem dL_papers_375 : decode cL_papers 375 = .ok (.iconst 1, 1) := by decide +kernel
theorem dL_papers_376 : decode cL_papers 376 = .ok (.iaload, 1) := by decide +kernel
theorem dL_papers_377 : decode cL_papers 377 = .ok (.if_icmp .ne 57, 3) := by decide +kernel
theorem dL_papers_380 : decode cL_papers 380 = .ok (.aload_n 0, 1) := by decide +kernel
theorem dL_papers_381 : decode cL_papers 381 = .ok (.iconst 4, 1) := by decide +kernel
theorem dL_papers_382 : decode cL_papers 382 = .ok (.invokevirtual 13, 3) := by decide +kernel
theorem dL_papers_385 : decode cL_papers 385 = .ok (.aload 4, 2) := by decide +kernel
theorem dL_papers_387 : decode cL_papers 387 = .ok (.iconst 2, 1) := by decide +kernel
theorem dL_papers_388 : decode cL_papers 388 = .ok (.iaload, 1) := by decide +kernel
theorem dL_papers_389 : decode cL_papers 389 = .ok (.if_icmp .ne 45, 3) := by decide +kernel
theorem dL_papers_392 : decode cL_papers 392 = .ok (.aload_n 0, 1) := by decide +kernel
theorem dL_papers_393 : decode cL_papers 393 = .ok (.iconst 5, 1) := by decide +kernel
theorem dL_papers_394 : decode cL_papers 394 = .ok (.invokevirtual 13, 3) := by decide +kernel
theorem dL_papers_397 : decode cL_papers 397 = .ok (.aload 4, 2) := by decide +kernel
theorem dL_papers_399 : decode cL_papers 399 = .ok (.iconst 3, 1) := by decide +kernel
theorem dL_papers_400 : decode cL_papers 400 = .ok (.iaload, 1) := by decide +kernel
theorem dL_papers_401 : decode cL_papers 401 = .ok (.if_icmp .ne 33, 3) := by decide +kernel
theorem dL_papers_404 : decode cL_papers 404 = .ok (.aload_n 0, 1) := by decide +kernel
theorem dL_papers_405 : decode cL_papers 405 = .ok (.bipush 6, 2) := by decide +kernel
theorem dL_papers_407 : decode cL_papers 407 = .ok (.invokevirtual 13, 3) := by decide +kernel
theorem dL_papers_410 : decode cL_papers 410 = .ok (.iload 5, 2) := by decide +kernel
theorem dL_papers_412 : decode cL_papers 412 = .ok (.if_icmp .ne 22, 3) := by decide +kernel
theorem dL_papers_415 : decode cL_papers 415 = .ok (.aload_n 0, 1) := by decide +kernel
theorem dL_papers_416 : decode cL_papers 416 = .ok (.aload_n 0, 1) := by decide +kernel
theorem dL_papers_417 : decode cL_papers 417 = .ok (.iconst 2, 1) := by decide +kernel
theorem dL_papers_418 : decode cL_papers 418 = .ok (.invokevirtual 13, 3) := by decide +kernel
theorem dL_papers_421 : decode cL_papers 421 = .ok (.iconst 0, 1) := by decide +kernel
theorem dL_papers_422 : decode cL_papers 422 = .ok (.invokevirtual 26, 3) := by decide +kernel
theorem dL_papers_425 : decode cL_papers 425 = .ok (.ldc 46, 2) := by decide +kernel
theorem dL_papers_427 : decode cL_papers 427 = .ok (.if_icmp .ne 7, 3) := by decide +kernel
theorem dL_papers_430 : decode cL_papers 430 = .ok (.iconst 1, 1) := by decide +kernel
theorem dL_papers_431 : decode cL_papers 431 = .ok (.goto 4, 3) := by decide +kernel
theorem dL_papers_434 : decode cL_papers 434 = .ok (.iconst 0, 1) := by decide +kernel
theorem dL_papers_435 : decode cL_papers 435 = .ok (.ireturn, 1) := by decide +kernel
def f_L_papers_b357 (K295 : Sg × Sg → Int32 → Int32 → Option (Int32 × Sg)) (σ : Sg × Sg) (v5 : Int32) (v6 : Int32) (w0 : Int32) (w1 : Int32) : Option (Int32 × Sg) := if w1 = w0 then (lt (v6 + (1 : Int32)) fun x23 => K295 σ v5 x23) else none
def f_L_papers_b295  : Nat → Sg × Sg → Int32 → Int32 → Option (Int32 × Sg)
  | 0, _, _, _ => none
  | n + 1, σ, v5, v6 => (f_X4_count σ.1 (1 : Int32)).bind fun r3 => if r3 ≤ v6 then ((f_X4_count σ.1 (3 : Int32)).bind fun r5 => gd (inb (1 : Int32) 4) (if r5 = (σ.2.2 3 (ix (1 : Int32))) then ((f_X4_count σ.1 (4 : Int32)).bind fun r7 => gd (inb (2 : Int32) 4) (if r7 = (σ.2.2 3 (ix (2 : Int32))) then ((f_X4_count σ.1 (5 : Int32)).bind fun r9 => gd (inb (3 : Int32) 4) (if r9 = (σ.2.2 3 (ix (3 : Int32))) then ((f_X4_count σ.1 (6 : Int32)).bind fun r11 => if r11 = v5 then ((f_X4_count σ.1 (2 : Int32)).bind fun r13 => (f_X4_paper σ.1 r13 (0 : Int32)).bind fun r14 => if r14 = (-10000001 : Int32) then (some ((1 : Int32), σ.1)) else none) else none) else none)) else none)) else none)) else ((f_X4_pupil σ.1 v6 (3 : Int32)).bind fun r16 => gd (inb v6 12) (if r16 = (σ.2.2 0 (ix v6)) then ((f_X4_pupil σ.1 v6 (4 : Int32)).bind fun r18 => gd (inb v6 12) (if r18 = (σ.2.2 1 (ix v6)) then ((f_X4_pupil σ.1 v6 (8 : Int32)).bind fun r20 => gd (inb v6 12) (if (σ.2.2 0 (ix v6)) = 0 then (f_L_papers_b357 (f_L_papers_b295   n) σ v5 v6 (-10000005 : Int32) r20) else (gd (inb v6 12) (f_L_papers_b357 (f_L_papers_b295   n) σ v5 v6 (σ.2.2 2 (ix v6)) r20)))) else none)) else none))
def f_L_papers_b281 (K26 : Sg × Sg → Int32 → Int32 → Option (Int32 × Sg)) (σ : Sg × Sg) (v5 : Int32) (v6 : Int32) (w0 : Int32) (w1 : Int32) : Option (Int32 × Sg) := if w1 = w0 then (lt (v6 + (1 : Int32)) fun x51 => K26 σ v5 x51) else none
def f_L_papers_b271 (K26 : Sg × Sg → Int32 → Int32 → Option (Int32 × Sg)) (σ : Sg × Sg) (v5 : Int32) (v6 : Int32) (v10 : Int32) (w0 : Int32) : Option (Int32 × Sg) := if v10 = 0 then (f_L_papers_b281 K26 σ v5 v6 (1 : Int32) w0) else (f_L_papers_b281 K26 σ v5 v6 (0 : Int32) w0)
def f_L_papers_b250 (K26 : Sg × Sg → Int32 → Int32 → Option (Int32 × Sg)) (σ : Sg × Sg) (v5 : Int32) (v6 : Int32) (v10 : Int32) (w0 : Int32) (w1 : Int32) : Option (Int32 × Sg) := if w1 = w0 then ((f_X4_paper σ.1 v6 (7 : Int32)).bind fun r47 => if r47 = (-10000005 : Int32) then (f_L_papers_b271 K26 σ v5 v6 v10 (1 : Int32)) else (f_L_papers_b271 K26 σ v5 v6 v10 (0 : Int32))) else none
def f_L_papers_b240 (K26 : Sg × Sg → Int32 → Int32 → Option (Int32 × Sg)) (σ : Sg × Sg) (v5 : Int32) (v6 : Int32) (v10 : Int32) (w0 : Int32) : Option (Int32 × Sg) := if v10 = 0 then (f_L_papers_b250 K26 σ v5 v6 v10 (1 : Int32) w0) else (f_L_papers_b250 K26 σ v5 v6 v10 (0 : Int32) w0)
def f_L_papers_b201 (K26 : Sg × Sg → Int32 → Int32 → Option (Int32 × Sg)) (σ : Sg × Sg) (v5 : Int32) (v6 : Int32) (v9 : Int32) (v10 : Int32) (w0 : Int32) : Option (Int32 × Sg) := if v9 = w0 then (if v9 < 0 then none else (if (10 : Int32) < v9 then none else ((f_X4_paper σ.1 v6 (6 : Int32)).bind fun r43 => if r43 = (-10000005 : Int32) then (f_L_papers_b240 K26 σ v5 v6 v10 (1 : Int32)) else (f_L_papers_b240 K26 σ v5 v6 v10 (0 : Int32))))) else none
def f_L_papers_b140 (K26 : Sg × Sg → Int32 → Int32 → Option (Int32 × Sg)) (σ : Sg × Sg) (v5 : Int32) (v6 : Int32) (v9 : Int32) (v10 : Int32) (v11 : Int32) (w0 : Int32) (w1 : Int32) : Option (Int32 × Sg) := gd (inb w1 12) (lts (σ.1, s2 σ.2 2 (upd (σ.2.2 2) (ix w1) w0)) fun σ34 => gd (inb v10 4) (gd (inb v10 4) (lts (σ34.1, s2 σ34.2 3 (upd (σ34.2.2 3) (ix v10) ((σ34.2.2 3 (ix v10)) + (1 : Int32)))) fun σ35 => lt (v5 + v9) fun x36 => if (2 : Int32) ≤ v10 then (if v10 = (2 : Int32) then ((f_X4_paper σ35.1 v6 (7 : Int32)).bind fun r52 => f_L_papers_b201 K26 σ35 x36 v6 v9 v10 (v11 + r52)) else (if v11 ≤ 0 then (f_L_papers_b201 K26 σ35 x36 v6 v9 v10 (0 : Int32)) else (f_L_papers_b201 K26 σ35 x36 v6 v9 v10 (v11 - (1 : Int32))))) else (f_L_papers_b201 K26 σ35 x36 v6 v9 v10 v11))))
def f_L_papers_b131 (K26 : Sg × Sg → Int32 → Int32 → Option (Int32 × Sg)) (σ : Sg × Sg) (v5 : Int32) (v6 : Int32) (v9 : Int32) (v10 : Int32) (v11 : Int32) (w0 : Int32) : Option (Int32 × Sg) := f_L_papers_b140 K26 σ v5 v6 v9 v10 v11 v9 w0
def f_L_papers_b26  : Nat → Sg × Sg → Int32 → Int32 → Option (Int32 × Sg)
  | 0, _, _, _ => none
  | n + 1, σ, v5, v6 => (f_X4_count σ.1 (2 : Int32)).bind fun r1 => if r1 ≤ v6 then (f_L_papers_b295 fuel σ v5 (0 : Int32)) else ((f_X4_paper σ.1 v6 (0 : Int32)).bind fun r24 => (f_X4_paper σ.1 v6 (1 : Int32)).bind fun r25 => (f_X4_paper σ.1 v6 (4 : Int32)).bind fun r26 => (f_X4_paper σ.1 v6 (5 : Int32)).bind fun r27 => (f_X4_paper σ.1 v6 (2 : Int32)).bind fun r28 => (f_X4_paper σ.1 v6 (3 : Int32)).bind fun r29 => (f_L_mark σ.1 r25 r28 r29).bind fun r30 => gd (inb r24 12) (gd (inb r24 12) (lts (σ.1, s2 σ.2 0 (upd (σ.2.2 0) (ix r24) ((σ.2.2 0 (ix r24)) + (1 : Int32)))) fun σ31 => gd (inb r24 12) (gd (inb r24 12) (lts (σ31.1, s2 σ31.2 1 (upd (σ31.2.2 1) (ix r24) ((σ31.2.2 1 (ix r24)) + r26))) fun σ32 => gd (inb r24 12) (if (σ32.2.2 0 (ix r24)) = (1 : Int32) then (f_L_papers_b131 (f_L_papers_b26   n) σ32 v5 v6 r26 r27 r30 r24) else (gd (inb r24 12) (if (σ32.2.2 2 (ix r24)) ≤ r26 then (gd (inb r24 12) (f_L_papers_b140 (f_L_papers_b26   n) σ32 v5 v6 r26 r27 r30 (σ32.2.2 2 (ix r24)) r24)) else (f_L_papers_b131 (f_L_papers_b26   n) σ32 v5 v6 r26 r27 r30 r24)))))))))
def g_L_papers (σ : Sg × Sg) : Option (Int32 × Sg) := f_L_papers_b26 fuel σ (0 : Int32) (0 : Int32)
set_option maxHeartbeats 4000000 in
set_option maxRecDepth 100000 in
theorem L_L_papers_b357 {Γ : Cx} (G : va_G) (cls : Cls) (ax am : Nat → Nat) (A : Nat → Prop) (hix : inj 49 ax) (hC : CX Γ (YL G cls ax 4 am A) cL_papers RL 13 (some .boolean) 5 115) {q : Int32 × Sg → State → Prop} (hend : ∀ (pc : Nat) (ls : List (Nat × Value)) (σ : Sg × Sg), decode cL_papers pc = .ok (.ireturn, 1) → WX Γ (YL G cls ax 4 am A) q 13 pc ls [.int 1] σ (some (1, σ.1)))  (K295 : Sg × Sg → Int32 → Int32 → Option (Int32 × Sg)) (hK295 : ∀ (σ : Sg × Sg) (v5 : Int32) (v6 : Int32), WX Γ (YL G cls ax 4 am A) q 13 295 [(0, .ref (ax 25)), (1, .ref (am 0)), (2, .ref (am 1)), (3, .ref (am 2)), (4, .ref (am 3)), (5, .int v5), (6, .int v6)] [] σ (K295 σ v5 v6)) (σ : Sg × Sg) (v5 : Int32) (v6 : Int32) (w0 : Int32) (w1 : Int32) : WX Γ (YL G cls ax 4 am A) q 13 357 [(0, .ref (ax 25)), (1, .ref (am 0)), (2, .ref (am 1)), (3, .ref (am 2)), (4, .ref (am 3)), (5, .int v5), (6, .int v6)] [.int w0, .int w1] σ (f_L_papers_b357  K295 σ v5 v6 w0 w1) := by
  unfold f_L_papers_b357
  refine X_icmp_eq hC 362 dL_papers_357 (by decide) (fun h22 => ?_) (fun h22 => ?_)
  · refine X_iinc (ls' := fun x23 => [(6, .int x23), (0, .ref (ax 25)), (1, .ref (am 0)), (2, .ref (am 1)), (3, .ref (am 2)), (4, .ref (am 3)), (5, .int v5)]) hC 6 dL_papers_362 rfl (by decide) (by decide) (fun _ => rfl) (fun x23 => ?_)
    refine X_goto hC 295 dL_papers_365 (by decide) ?_
    exact X_sub [1, 2, 3, 4, 5, 6, 0] rfl (hK295 σ v5 x23)
  · refine X_iconst (v := 0) hC (by decide) dL_papers_360 ?_
    exact X_none
set_option maxHeartbeats 4000000 in
set_option maxRecDepth 100000 in
theorem L_L_papers_b295 {Γ : Cx} (G : va_G) (cls : Cls) (ax am : Nat → Nat) (A : Nat → Prop) (hix : inj 49 ax) (hC : CX Γ (YL G cls ax 4 am A) cL_papers RL 13 (some .boolean) 5 115) {q : Int32 × Sg → State → Prop} (hend : ∀ (pc : Nat) (ls : List (Nat × Value)) (σ : Sg × Sg), decode cL_papers pc = .ok (.ireturn, 1) → WX Γ (YL G cls ax 4 am A) q 13 pc ls [.int 1] σ (some (1, σ.1)))  : ∀ (n : Nat) (σ : Sg × Sg) (v5 : Int32) (v6 : Int32), WX Γ (YL G cls ax 4 am A) q 13 295 [(0, .ref (ax 25)), (1, .ref (am 0)), (2, .ref (am 1)), (3, .ref (am 2)), (4, .ref (am 3)), (5, .int v5), (6, .int v6)] [] σ (f_L_papers_b295   n σ v5 v6) := by
  intro n
  induction n with
  | zero => intro σ v5 v6; exact X_none
  | succ n ih =>
    intro σ v5 v6
    rw [f_L_papers_b295.eq_2]
    refine X_iload hC 6 rfl dL_papers_295 ?_
    refine X_aload_n hC 0 rfl dL_papers_297 ?_
    refine X_iconst (v := 1) hC (by decide) dL_papers_298 ?_
    refine L_XP (rest := [.int v6]) hC (c_X4_count _ G cls ax hix σ.1 (1 : Int32)) (gV tw_338 tw_339 tw_340 tw_1 tw_341) rfl rfl okm_X4_count (by decide) dL_papers_299 rfl (Nat.le_of_ble_eq_true rfl) (fun r3 => ?_)
    refine X_icmp_ge hC 368 dL_papers_302 (by decide) (fun h4 => ?_) (fun h4 => ?_)
    · refine X_aload_n hC 0 rfl dL_papers_368 ?_
      refine X_iconst (v := 3) hC (by decide) dL_papers_369 ?_
      refine L_XP (rest := []) hC (c_X4_count _ G cls ax hix σ.1 (3 : Int32)) (gV tw_338 tw_339 tw_340 tw_1 tw_341) rfl rfl okm_X4_count (by decide) dL_papers_370 rfl (Nat.le_of_ble_eq_true rfl) (fun r5 => ?_)
      refine X_aload hC 4 rfl dL_papers_373 ?_
      refine X_iconst (v := 1) hC (by decide) dL_papers_375 ?_
      refine X_iald hC (wR3 (by decide)) (t0 := 0) rfl dL_papers_376 ?_
      refine X_icmp_ne hC 434 dL_papers_377 (by decide) (fun h6 => ?_) (fun h6 => ?_)
      · refine X_iconst (v := 0) hC (by decide) dL_papers_434 ?_
        exact X_none
      · refine X_aload_n hC 0 rfl dL_papers_380 ?_
        refine X_iconst (v := 4) hC (by decide) dL_papers_381 ?_
        refine L_XP (rest := []) hC (c_X4_count _ G cls ax hix σ.1 (4 : Int32)) (gV tw_338 tw_339 tw_340 tw_1 tw_341) rfl rfl okm_X4_count (by decide) dL_papers_382 rfl (Nat.le_of_ble_eq_true rfl) (fun r7 => ?_)
        refine X_aload hC 4 rfl dL_papers_385 ?_
        refine X_iconst (v := 2) hC (by decide) dL_papers_387 ?_
        refine X_iald hC (wR3 (by decide)) (t0 := 0) rfl dL_papers_388 ?_
        refine X_icmp_ne hC 434 dL_papers_389 (by decide) (fun h8 => ?_) (fun h8 => ?_)
        · refine X_iconst (v := 0) hC (by decide) dL_papers_434 ?_
          exact X_none
        · refine X_aload_n hC 0 rfl dL_papers_392 ?_
          refine X_iconst (v := 5) hC (by decide) dL_papers_393 ?_
          refine L_XP (rest := []) hC (c_X4_count _ G cls ax hix σ.1 (5 : Int32)) (gV tw_338 tw_339 tw_340 tw_1 tw_341) rfl rfl okm_X4_count (by decide) dL_papers_394 rfl (Nat.le_of_ble_eq_true rfl) (fun r9 => ?_)
          refine X_aload hC 4 rfl dL_papers_397 ?_
          refine X_iconst (v := 3) hC (by decide) dL_papers_399 ?_
          refine X_iald hC (wR3 (by decide)) (t0 := 0) rfl dL_papers_400 ?_
          refine X_icmp_ne hC 434 dL_papers_401 (by decide) (fun h10 => ?_) (fun h10 => ?_)
          · refine X_iconst (v := 0) hC (by decide) dL_papers_434 ?_
            exact X_none
          · refine X_aload_n hC 0 rfl dL_papers_404 ?_
            refine X_bipush (v := 6) hC (by decide) dL_papers_405 ?_
            refine L_XP (rest := []) hC (c_X4_count _ G cls ax hix σ.1 (6 : Int32)) (gV tw_338 tw_339 tw_340 tw_1 tw_341) rfl rfl okm_X4_count (by decide) dL_papers_407 rfl (Nat.le_of_ble_eq_true rfl) (fun r11 => ?_)
            refine X_iload hC 5 rfl dL_papers_410 ?_
            refine X_icmp_ne hC 434 dL_papers_412 (by decide) (fun h12 => ?_) (fun h12 => ?_)
            · refine X_iconst (v := 0) hC (by decide) dL_papers_434 ?_
              exact X_none
            · refine X_aload_n hC 0 rfl dL_papers_415 ?_
              refine X_aload_n hC 0 rfl dL_papers_416 ?_
              refine X_iconst (v := 2) hC (by decide) dL_papers_417 ?_
              refine L_XP (rest := [.ref (ax 25)]) hC (c_X4_count _ G cls ax hix σ.1 (2 : Int32)) (gV tw_338 tw_339 tw_340 tw_1 tw_341) rfl rfl okm_X4_count (by decide) dL_papers_418 rfl (Nat.le_of_ble_eq_true rfl) (fun r13 => ?_)
              refine X_iconst (v := 0) hC (by decide) dL_papers_421 ?_
              refine L_XP (rest := []) hC (c_X4_paper _ G cls ax hix σ.1 r13 (0 : Int32)) (gV tw_380 tw_381 tw_382 tw_1 tw_383) rfl rfl okm_X4_paper (by decide) dL_papers_422 rfl (Nat.le_of_ble_eq_true rfl) (fun r14 => ?_)
              refine X_ldc (v := -10000001) hC tw_405 dL_papers_425 ?_
              refine X_icmp_ne hC 434 dL_papers_427 (by decide) (fun h15 => ?_) (fun h15 => ?_)
              · refine X_iconst (v := 0) hC (by decide) dL_papers_434 ?_
                exact X_none
              · refine X_iconst (v := 1) hC (by decide) dL_papers_430 ?_
                refine X_goto hC 435 dL_papers_431 (by decide) ?_
                exact hend _ _ _ dL_papers_435
    · refine X_aload_n hC 0 rfl dL_papers_305 ?_
      refine X_iload hC 6 rfl dL_papers_306 ?_
      refine X_iconst (v := 3) hC (by decide) dL_papers_308 ?_
      refine L_XP (rest := []) hC (c_X4_pupil _ G cls ax hix σ.1 v6 (3 : Int32)) (gV tw_371 tw_372 tw_373 tw_1 tw_374) rfl rfl okm_X4_pupil (by decide) dL_papers_309 rfl (Nat.le_of_ble_eq_true rfl) (fun r16 => ?_)
      refine X_aload_n hC 1 rfl dL_papers_312 ?_
      refine X_iload hC 6 rfl dL_papers_313 ?_
      refine X_iald hC (wR0 (by decide)) (t0 := 0) rfl dL_papers_315 ?_
      refine X_icmp_ne hC 360 dL_papers_316 (by decide) (fun h17 => ?_) (fun h17 => ?_)
      · refine X_iconst (v := 0) hC (by decide) dL_papers_360 ?_
        exact X_none
      · refine X_aload_n hC 0 rfl dL_papers_319 ?_
        refine X_iload hC 6 rfl dL_papers_320 ?_
        refine X_iconst (v := 4) hC (by decide) dL_papers_322 ?_
        refine L_XP (rest := []) hC (c_X4_pupil _ G cls ax hix σ.1 v6 (4 : Int32)) (gV tw_371 tw_372 tw_373 tw_1 tw_374) rfl rfl okm_X4_pupil (by decide) dL_papers_323 rfl (Nat.le_of_ble_eq_true rfl) (fun r18 => ?_)
        refine X_aload_n hC 2 rfl dL_papers_326 ?_
        refine X_iload hC 6 rfl dL_papers_327 ?_
        refine X_iald hC (wR1 (by decide)) (t0 := 0) rfl dL_papers_329 ?_
        refine X_icmp_ne hC 360 dL_papers_330 (by decide) (fun h19 => ?_) (fun h19 => ?_)
        · refine X_iconst (v := 0) hC (by decide) dL_papers_360 ?_
          exact X_none
        · refine X_aload_n hC 0 rfl dL_papers_333 ?_
          refine X_iload hC 6 rfl dL_papers_334 ?_
          refine X_bipush (v := 8) hC (by decide) dL_papers_336 ?_
          refine L_XP (rest := []) hC (c_X4_pupil _ G cls ax hix σ.1 v6 (8 : Int32)) (gV tw_371 tw_372 tw_373 tw_1 tw_374) rfl rfl okm_X4_pupil (by decide) dL_papers_338 rfl (Nat.le_of_ble_eq_true rfl) (fun r20 => ?_)
          refine X_aload_n hC 1 rfl dL_papers_341 ?_
          refine X_iload hC 6 rfl dL_papers_342 ?_
          refine X_iald hC (wR0 (by decide)) (t0 := 0) rfl dL_papers_344 ?_
          refine X_if_ne hC 353 dL_papers_345 (by decide) (fun h21 => ?_) (fun h21 => ?_)
          · refine X_aload_n hC 3 rfl dL_papers_353 ?_
            refine X_iload hC 6 rfl dL_papers_354 ?_
            refine X_iald hC (wR2 (by decide)) (t0 := 0) rfl dL_papers_356 ?_
            exact (L_L_papers_b357 G cls ax am A hix hC hend (f_L_papers_b295   n) ih σ v5 v6 (σ.2.2 2 (ix v6)) r20)
          · refine X_ldc (v := -10000005) hC tw_387 dL_papers_348 ?_
            refine X_goto hC 357 dL_papers_350 (by decide) ?_
            exact (L_L_papers_b357 G cls ax am A hix hC hend (f_L_papers_b295   n) ih σ v5 v6 (-10000005 : Int32) r20)
set_option maxHeartbeats 4000000 in
set_option maxRecDepth 100000 in
theorem L_L_papers_b281 {Γ : Cx} (G : va_G) (cls : Cls) (ax am : Nat → Nat) (A : Nat → Prop) (hix : inj 49 ax) (hC : CX Γ (YL G cls ax 4 am A) cL_papers RL 13 (some .boolean) 5 115) {q : Int32 × Sg → State → Prop} (hend : ∀ (pc : Nat) (ls : List (Nat × Value)) (σ : Sg × Sg), decode cL_papers pc = .ok (.ireturn, 1) → WX Γ (YL G cls ax 4 am A) q 13 pc ls [.int 1] σ (some (1, σ.1)))  (K26 : Sg × Sg → Int32 → Int32 → Option (Int32 × Sg)) (hK26 : ∀ (σ : Sg × Sg) (v5 : Int32) (v6 : Int32), WX Γ (YL G cls ax 4 am A) q 13 26 [(0, .ref (ax 25)), (1, .ref (am 0)), (2, .ref (am 1)), (3, .ref (am 2)), (4, .ref (am 3)), (5, .int v5), (6, .int v6)] [] σ (K26 σ v5 v6)) (σ : Sg × Sg) (v5 : Int32) (v6 : Int32) (w0 : Int32) (w1 : Int32) : WX Γ (YL G cls ax 4 am A) q 13 281 [(0, .ref (ax 25)), (1, .ref (am 0)), (2, .ref (am 1)), (3, .ref (am 2)), (4, .ref (am 3)), (5, .int v5), (6, .int v6)] [.int w0, .int w1] σ (f_L_papers_b281  K26 σ v5 v6 w0 w1) := by
  unfold f_L_papers_b281
  refine X_icmp_eq hC 286 dL_papers_281 (by decide) (fun h50 => ?_) (fun h50 => ?_)
  · refine X_iinc (ls' := fun x51 => [(6, .int x51), (0, .ref (ax 25)), (1, .ref (am 0)), (2, .ref (am 1)), (3, .ref (am 2)), (4, .ref (am 3)), (5, .int v5)]) hC 6 dL_papers_286 rfl (by decide) (by decide) (fun _ => rfl) (fun x51 => ?_)
    refine X_goto hC 26 dL_papers_289 (by decide) ?_
    exact X_sub [1, 2, 3, 4, 5, 6, 0] rfl (hK26 σ v5 x51)
  · refine X_iconst (v := 0) hC (by decide) dL_papers_284 ?_
    exact X_none
set_option maxHeartbeats 4000000 in
set_option maxRecDepth 100000 in
theorem L_L_papers_b271 {Γ : Cx} (G : va_G) (cls : Cls) (ax am : Nat → Nat) (A : Nat → Prop) (hix : inj 49 ax) (hC : CX Γ (YL G cls ax 4 am A) cL_papers RL 13 (some .boolean) 5 115) {q : Int32 × Sg → State → Prop} (hend : ∀ (pc : Nat) (ls : List (Nat × Value)) (σ : Sg × Sg), decode cL_papers pc = .ok (.ireturn, 1) → WX Γ (YL G cls ax 4 am A) q 13 pc ls [.int 1] σ (some (1, σ.1)))  (K26 : Sg × Sg → Int32 → Int32 → Option (Int32 × Sg)) (hK26 : ∀ (σ : Sg × Sg) (v5 : Int32) (v6 : Int32), WX Γ (YL G cls ax 4 am A) q 13 26 [(0, .ref (ax 25)), (1, .ref (am 0)), (2, .ref (am 1)), (3, .ref (am 2)), (4, .ref (am 3)), (5, .int v5), (6, .int v6)] [] σ (K26 σ v5 v6)) (σ : Sg × Sg) (v5 : Int32) (v6 : Int32) (v10 : Int32) (w0 : Int32) : WX Γ (YL G cls ax 4 am A) q 13 271 [(0, .ref (ax 25)), (1, .ref (am 0)), (2, .ref (am 1)), (3, .ref (am 2)), (4, .ref (am 3)), (5, .int v5), (6, .int v6), (10, .int v10)] [.int w0] σ (f_L_papers_b271  K26 σ v5 v6 v10 w0) := by
  unfold f_L_papers_b271
  refine X_iload hC 7 rfl dL_papers_271 ?_
  refine X_if_ne hC 280 dL_papers_273 (by decide) (fun h49 => ?_) (fun h49 => ?_)
  · refine X_iconst (v := 0) hC (by decide) dL_papers_280 ?_
    exact X_sub [0, 1, 2, 3, 4, 5, 6] rfl (L_L_papers_b281 G cls ax am A hix hC hend K26 hK26 σ v5 v6 (0 : Int32) w0)
  · refine X_iconst (v := 1) hC (by decide) dL_papers_276 ?_
    refine X_goto hC 281 dL_papers_277 (by decide) ?_
    exact X_sub [0, 1, 2, 3, 4, 5, 6] rfl (L_L_papers_b281 G cls ax am A hix hC hend K26 hK26 σ v5 v6 (1 : Int32) w0)
set_option maxHeartbeats 4000000 in
set_option maxRecDepth 100000 in
theorem L_L_papers_b250 {Γ : Cx} (G : va_G) (cls : Cls) (ax am : Nat → Nat) (A : Nat → Prop) (hix : inj 49 ax) (hC : CX Γ (YL G cls ax 4 am A) cL_papers RL 13 (some .boolean) 5 115) {q : Int32 × Sg → State → Prop} (hend : ∀ (pc : Nat) (ls : List (Nat × Value)) (σ : Sg × Sg), decode cL_papers pc = .ok (.ireturn, 1) → WX Γ (YL G cls ax 4 am A) q 13 pc ls [.int 1] σ (some (1, σ.1)))  (K26 : Sg × Sg → Int32 → Int32 → Option (Int32 × Sg)) (hK26 : ∀ (σ : Sg × Sg) (v5 : Int32) (v6 : Int32), WX Γ (YL G cls ax 4 am A) q 13 26 [(0, .ref (ax 25)), (1, .ref (am 0)), (2, .ref (am 1)), (3, .ref (am 2)), (4, .ref (am 3)), (5, .int v5), (6, .int v6)] [] σ (K26 σ v5 v6)) (σ : Sg × Sg) (v5 : Int32) (v6 : Int32) (v10 : Int32) (w0 : Int32) (w1 : Int32) : WX Γ (YL G cls ax 4 am A) q 13 250 [(0, .ref (ax 25)), (1, .ref (am 0)), (2, .ref (am 1)), (3, .ref (am 2)), (4, .ref (am 3)), (5, .int v5), (6, .int v6), (10, .int v10)] [.int w0, .int w1] σ (f_L_papers_b250  K26 σ v5 v6 v10 w0 w1) := by
  unfold f_L_papers_b250
  refine X_icmp_ne hC 284 dL_papers_250 (by decide) (fun h46 => ?_) (fun h46 => ?_)
  · refine X_iconst (v := 0) hC (by decide) dL_papers_284 ?_
    exact X_none
  · refine X_aload_n hC 0 rfl dL_papers_253 ?_
    refine X_iload hC 6 rfl dL_papers_254 ?_
    refine X_bipush (v := 7) hC (by decide) dL_papers_256 ?_
    refine L_XP (rest := []) hC (c_X4_paper _ G cls ax hix σ.1 v6 (7 : Int32)) (gV tw_380 tw_381 tw_382 tw_1 tw_383) rfl rfl okm_X4_paper (by decide) dL_papers_258 rfl (Nat.le_of_ble_eq_true rfl) (fun r47 => ?_)
    refine X_ldc (v := -10000005) hC tw_387 dL_papers_261 ?_
    refine X_icmp_ne hC 270 dL_papers_263 (by decide) (fun h48 => ?_) (fun h48 => ?_)
    · refine X_iconst (v := 0) hC (by decide) dL_papers_270 ?_
      exact (L_L_papers_b271 G cls ax am A hix hC hend K26 hK26 σ v5 v6 v10 (0 : Int32))
    · refine X_iconst (v := 1) hC (by decide) dL_papers_266 ?_
      refine X_goto hC 271 dL_papers_267 (by decide) ?_
      exact (L_L_papers_b271 G cls ax am A hix hC hend K26 hK26 σ v5 v6 v10 (1 : Int32))
set_option maxHeartbeats 4000000 in
set_option maxRecDepth 100000 in
theorem L_L_papers_b240 {Γ : Cx} (G : va_G) (cls : Cls) (ax am : Nat → Nat) (A : Nat → Prop) (hix : inj 49 ax) (hC : CX Γ (YL G cls ax 4 am A) cL_papers RL 13 (some .boolean) 5 115) {q : Int32 × Sg → State → Prop} (hend : ∀ (pc : Nat) (ls : List (Nat × Value)) (σ : Sg × Sg), decode cL_papers pc = .ok (.ireturn, 1) → WX Γ (YL G cls ax 4 am A) q 13 pc ls [.int 1] σ (some (1, σ.1)))  (K26 : Sg × Sg → Int32 → Int32 → Option (Int32 × Sg)) (hK26 : ∀ (σ : Sg × Sg) (v5 : Int32) (v6 : Int32), WX Γ (YL G cls ax 4 am A) q 13 26 [(0, .ref (ax 25)), (1, .ref (am 0)), (2, .ref (am 1)), (3, .ref (am 2)), (4, .ref (am 3)), (5, .int v5), (6, .int v6)] [] σ (K26 σ v5 v6)) (σ : Sg × Sg) (v5 : Int32) (v6 : Int32) (v10 : Int32) (w0 : Int32) : WX Γ (YL G cls ax 4 am A) q 13 240 [(0, .ref (ax 25)), (1, .ref (am 0)), (2, .ref (am 1)), (3, .ref (am 2)), (4, .ref (am 3)), (5, .int v5), (6, .int v6), (10, .int v10)] [.int w0] σ (f_L_papers_b240  K26 σ v5 v6 v10 w0) := by
  unfold f_L_papers_b240
  refine X_iload hC 7 rfl dL_papers_240 ?_
  refine X_if_ne hC 249 dL_papers_242 (by decide) (fun h45 => ?_) (fun h45 => ?_)
  · refine X_iconst (v := 0) hC (by decide) dL_papers_249 ?_
    exact (L_L_papers_b250 G cls ax am A hix hC hend K26 hK26 σ v5 v6 v10 (0 : Int32) w0)
  · refine X_iconst (v := 1) hC (by decide) dL_papers_245 ?_
    refine X_goto hC 250 dL_papers_246 (by decide) ?_
    exact (L_L_papers_b250 G cls ax am A hix hC hend K26 hK26 σ v5 v6 v10 (1 : Int32) w0)
set_option maxHeartbeats 4000000 in
set_option maxRecDepth 100000 in
theorem L_L_papers_b201 {Γ : Cx} (G : va_G) (cls : Cls) (ax am : Nat → Nat) (A : Nat → Prop) (hix : inj 49 ax) (hC : CX Γ (YL G cls ax 4 am A) cL_papers RL 13 (some .boolean) 5 115) {q : Int32 × Sg → State → Prop} (hend : ∀ (pc : Nat) (ls : List (Nat × Value)) (σ : Sg × Sg), decode cL_papers pc = .ok (.ireturn, 1) → WX Γ (YL G cls ax 4 am A) q 13 pc ls [.int 1] σ (some (1, σ.1)))  (K26 : Sg × Sg → Int32 → Int32 → Option (Int32 × Sg)) (hK26 : ∀ (σ : Sg × Sg) (v5 : Int32) (v6 : Int32), WX Γ (YL G cls ax 4 am A) q 13 26 [(0, .ref (ax 25)), (1, .ref (am 0)), (2, .ref (am 1)), (3, .ref (am 2)), (4, .ref (am 3)), (5, .int v5), (6, .int v6)] [] σ (K26 σ v5 v6)) (σ : Sg × Sg) (v5 : Int32) (v6 : Int32) (v9 : Int32) (v10 : Int32) (w0 : Int32) : WX Γ (YL G cls ax 4 am A) q 13 201 [(0, .ref (ax 25)), (1, .ref (am 0)), (2, .ref (am 1)), (3, .ref (am 2)), (4, .ref (am 3)), (5, .int v5), (6, .int v6), (9, .int v9), (10, .int v10)] [.int w0] σ (f_L_papers_b201  K26 σ v5 v6 v9 v10 w0) := by
  unfold f_L_papers_b201
  refine X_istore (ls' := [(12, .int w0), (0, .ref (ax 25)), (1, .ref (am 0)), (2, .ref (am 1)), (3, .ref (am 2)), (4, .ref (am 3)), (5, .int v5), (6, .int v6), (9, .int v9), (10, .int v10)]) hC dL_papers_201 (by decide) rfl ?_
  refine X_iload hC 8 rfl dL_papers_203 ?_
  refine X_iload hC 0 rfl dL_papers_205 ?_
  refine X_icmp_ne hC 284 dL_papers_207 (by decide) (fun h40 => ?_) (fun h40 => ?_)
  · refine X_iconst (v := 0) hC (by decide) dL_papers_284 ?_
    exact X_none
  · refine X_iload hC 8 rfl dL_papers_210 ?_
    refine X_if_lt hC 284 dL_papers_212 (by decide) (fun h41 => ?_) (fun h41 => ?_)
    · refine X_iconst (v := 0) hC (by decide) dL_papers_284 ?_
      exact X_none
    · refine X_iload hC 8 rfl dL_papers_215 ?_
      refine X_bipush (v := 10) hC (by decide) dL_papers_217 ?_
      refine X_icmp_gt hC 284 dL_papers_219 (by decide) (fun h42 => ?_) (fun h42 => ?_)
      · refine X_iconst (v := 0) hC (by decide) dL_papers_284 ?_
        exact X_none
      · refine X_aload_n hC 1 rfl dL_papers_222 ?_
        refine X_iload hC 7 rfl dL_papers_223 ?_
        refine X_bipush (v := 6) hC (by decide) dL_papers_225 ?_
        refine L_XP (rest := []) hC (c_X4_paper _ G cls ax hix σ.1 v6 (6 : Int32)) (gV tw_380 tw_381 tw_382 tw_1 tw_383) rfl rfl okm_X4_paper (by decide) dL_papers_227 rfl (Nat.le_of_ble_eq_true rfl) (fun r43 => ?_)
        refine X_ldc (v := -10000005) hC tw_387 dL_papers_230 ?_
        refine X_icmp_ne hC 239 dL_papers_232 (by decide) (fun h44 => ?_) (fun h44 => ?_)
        · refine X_iconst (v := 0) hC (by decide) dL_papers_239 ?_
          exact X_sub [1, 2, 3, 4, 5, 6, 7, 9] rfl (L_L_papers_b240 G cls ax am A hix hC hend K26 hK26 σ v5 v6 v10 (0 : Int32))
        · refine X_iconst (v := 1) hC (by decide) dL_papers_235 ?_
          refine X_goto hC 240 dL_papers_236 (by decide) ?_
          exact X_sub [1, 2, 3, 4, 5, 6, 7, 9] rfl (L_L_papers_b240 G cls ax am A hix hC hend K26 hK26 σ v5 v6 v10 (1 : Int32))
set_option maxHeartbeats 4000000 in
set_option maxRecDepth 100000 in
theorem L_L_papers_b140 {Γ : Cx} (G : va_G) (cls : Cls) (ax am : Nat → Nat) (A : Nat → Prop) (hix : inj 49 ax) (hC : CX Γ (YL G cls ax 4 am A) cL_papers RL 13 (some .boolean) 5 115) {q : Int32 × Sg → State → Prop} (hend : ∀ (pc : Nat) (ls : List (Nat × Value)) (σ : Sg × Sg), decode cL_papers pc = .ok (.ireturn, 1) → WX Γ (YL G cls ax 4 am A) q 13 pc ls [.int 1] σ (some (1, σ.1)))  (K26 : Sg × Sg → Int32 → Int32 → Option (Int32 × Sg)) (hK26 : ∀ (σ : Sg × Sg) (v5 : Int32) (v6 : Int32), WX Γ (YL G cls ax 4 am A) q 13 26 [(0, .ref (ax 25)), (1, .ref (am 0)), (2, .ref (am 1)), (3, .ref (am 2)), (4, .ref (am 3)), (5, .int v5), (6, .int v6)] [] σ (K26 σ v5 v6)) (σ : Sg × Sg) (v5 : Int32) (v6 : Int32) (v9 : Int32) (v10 : Int32) (v11 : Int32) (w0 : Int32) (w1 : Int32) : WX Γ (YL G cls ax 4 am A) q 13 140 [(0, .ref (ax 25)), (1, .ref (am 0)), (2, .ref (am 1)), (3, .ref (am 2)), (4, .ref (am 3)), (5, .int v5), (6, .int v6), (9, .int v9), (10, .int v10), (11, .int v11)] [.int w0, .int w1, .ref (am 2)] σ (f_L_papers_b140  K26 σ v5 v6 v9 v10 v11 w0 w1) := by
  unfold f_L_papers_b140
  refine X_iast hC (wR2 (by decide)) (t0 := 0) rfl (sR2 (by decide) _) dL_papers_140 (X_lts fun σ34 => ?_)
  refine X_aload hC 4 rfl dL_papers_141 ?_
  refine X_iload hC 8 rfl dL_papers_143 ?_
  refine X_dup2 hC rfl rfl dL_papers_145 ?_
  refine X_iald hC (wR3 (by decide)) (t0 := 0) rfl dL_papers_146 ?_
  refine X_iconst (v := 1) hC (by decide) dL_papers_147 ?_
  refine X_iadd hC dL_papers_148 ?_
  refine X_iast hC (wR3 (by decide)) (t0 := 0) rfl (sR3 (by decide) _) dL_papers_149 (X_lts fun σ35 => ?_)
  refine X_iload hC 5 rfl dL_papers_150 ?_
  refine X_iload hC 7 rfl dL_papers_152 ?_
  refine X_iadd hC dL_papers_154 ?_
  refine X_lt (fun x36 => ?_)
  refine X_istore (ls' := [(5, .int x36), (0, .ref (ax 25)), (1, .ref (am 0)), (2, .ref (am 1)), (3, .ref (am 2)), (4, .ref (am 3)), (6, .int v6), (9, .int v9), (10, .int v10), (11, .int v11)]) hC dL_papers_155 (by decide) rfl ?_
  refine X_iload hC 8 rfl dL_papers_157 ?_
  refine X_iconst (v := 2) hC (by decide) dL_papers_159 ?_
  refine X_icmp_ge hC 168 dL_papers_160 (by decide) (fun h37 => ?_) (fun h37 => ?_)
  · refine X_iload hC 8 rfl dL_papers_168 ?_
    refine X_iconst (v := 2) hC (by decide) dL_papers_170 ?_
    refine X_icmp_ne hC 188 dL_papers_171 (by decide) (fun h38 => ?_) (fun h38 => ?_)
    · refine X_iload hC 9 rfl dL_papers_188 ?_
      refine X_if_le hC 200 dL_papers_190 (by decide) (fun h39 => ?_) (fun h39 => ?_)
      · refine X_iconst (v := 0) hC (by decide) dL_papers_200 ?_
        exact X_sub [1, 2, 3, 4, 5, 0, 6, 7, 8] rfl (L_L_papers_b201 G cls ax am A hix hC hend K26 hK26 σ35 x36 v6 v9 v10 (0 : Int32))
      · refine X_iload hC 9 rfl dL_papers_193 ?_
        refine X_iconst (v := 1) hC (by decide) dL_papers_195 ?_
        refine X_isub hC dL_papers_196 ?_
        refine X_goto hC 201 dL_papers_197 (by decide) ?_
        exact X_sub [1, 2, 3, 4, 5, 0, 6, 7, 8] rfl (L_L_papers_b201 G cls ax am A hix hC hend K26 hK26 σ35 x36 v6 v9 v10 (v11 - (1 : Int32)))
    · refine X_iload hC 9 rfl dL_papers_174 ?_
      refine X_aload_n hC 1 rfl dL_papers_176 ?_
      refine X_iload hC 6 rfl dL_papers_177 ?_
      refine X_bipush (v := 7) hC (by decide) dL_papers_179 ?_
      refine L_XP (rest := [.int v11]) hC (c_X4_paper _ G cls ax hix σ35.1 v6 (7 : Int32)) (gV tw_380 tw_381 tw_382 tw_1 tw_383) rfl rfl okm_X4_paper (by decide) dL_papers_181 rfl (Nat.le_of_ble_eq_true rfl) (fun r52 => ?_)
      refine X_iadd hC dL_papers_184 ?_
      refine X_goto hC 201 dL_papers_185 (by decide) ?_
      exact X_sub [1, 2, 3, 4, 5, 0, 6, 7, 8] rfl (L_L_papers_b201 G cls ax am A hix hC hend K26 hK26 σ35 x36 v6 v9 v10 (v11 + r52))
  · refine X_iload hC 9 rfl dL_papers_163 ?_
    refine X_goto hC 201 dL_papers_165 (by decide) ?_
    exact X_sub [1, 2, 3, 4, 5, 0, 6, 7, 8] rfl (L_L_papers_b201 G cls ax am A hix hC hend K26 hK26 σ35 x36 v6 v9 v10 v11)
set_option maxHeartbeats 4000000 in
set_option maxRecDepth 100000 in
theorem L_L_papers_b131 {Γ : Cx} (G : va_G) (cls : Cls) (ax am : Nat → Nat) (A : Nat → Prop) (hix : inj 49 ax) (hC : CX Γ (YL G cls ax 4 am A) cL_papers RL 13 (some .boolean) 5 115) {q : Int32 × Sg → State → Prop} (hend : ∀ (pc : Nat) (ls : List (Nat × Value)) (σ : Sg × Sg), decode cL_papers pc = .ok (.ireturn, 1) → WX Γ (YL G cls ax 4 am A) q 13 pc ls [.int 1] σ (some (1, σ.1)))  (K26 : Sg × Sg → Int32 → Int32 → Option (Int32 × Sg)) (hK26 : ∀ (σ : Sg × Sg) (v5 : Int32) (v6 : Int32), WX Γ (YL G cls ax 4 am A) q 13 26 [(0, .ref (ax 25)), (1, .ref (am 0)), (2, .ref (am 1)), (3, .ref (am 2)), (4, .ref (am 3)), (5, .int v5), (6, .int v6)] [] σ (K26 σ v5 v6)) (σ : Sg × Sg) (v5 : Int32) (v6 : Int32) (v9 : Int32) (v10 : Int32) (v11 : Int32) (w0 : Int32) : WX Γ (YL G cls ax 4 am A) q 13 131 [(0, .ref (ax 25)), (1, .ref (am 0)), (2, .ref (am 1)), (3, .ref (am 2)), (4, .ref (am 3)), (5, .int v5), (6, .int v6), (9, .int v9), (10, .int v10), (11, .int v11)] [.int w0, .ref (am 2)] σ (f_L_papers_b131  K26 σ v5 v6 v9 v10 v11 w0) := by
  unfold f_L_papers_b131
  refine X_iload hC 7 rfl dL_papers_131 ?_
  refine X_goto hC 140 dL_papers_133 (by decide) ?_
  exact (L_L_papers_b140 G cls ax am A hix hC hend K26 hK26 σ v5 v6 v9 v10 v11 v9 w0)
set_option maxHeartbeats 4000000 in
set_option maxRecDepth 100000 in
theorem L_L_papers_b26 {Γ : Cx} (G : va_G) (cls : Cls) (ax am : Nat → Nat) (A : Nat → Prop) (hix : inj 49 ax) (hC : CX Γ (YL G cls ax 4 am A) cL_papers RL 13 (some .boolean) 5 115) {q : Int32 × Sg → State → Prop} (hend : ∀ (pc : Nat) (ls : List (Nat × Value)) (σ : Sg × Sg), decode cL_papers pc = .ok (.ireturn, 1) → WX Γ (YL G cls ax 4 am A) q 13 pc ls [.int 1] σ (some (1, σ.1)))  : ∀ (n : Nat) (σ : Sg × Sg) (v5 : Int32) (v6 : Int32), WX Γ (YL G cls ax 4 am A) q 13 26 [(0, .ref (ax 25)), (1, .ref (am 0)), (2, .ref (am 1)), (3, .ref (am 2)), (4, .ref (am 3)), (5, .int v5), (6, .int v6)] [] σ (f_L_papers_b26   n σ v5 v6) := by
  intro n
  induction n with
  | zero => intro σ v5 v6; exact X_none
  | succ n ih =>
    intro σ v5 v6
    rw [f_L_papers_b26.eq_2]
    refine X_iload hC 6 rfl dL_papers_26 ?_
    refine X_aload_n hC 0 rfl dL_papers_28 ?_
    refine X_iconst (v := 2) hC (by decide) dL_papers_29 ?_
    refine L_XP (rest := [.int v6]) hC (c_X4_count _ G cls ax hix σ.1 (2 : Int32)) (gV tw_338 tw_339 tw_340 tw_1 tw_341) rfl rfl okm_X4_count (by decide) dL_papers_30 rfl (Nat.le_of_ble_eq_true rfl) (fun r1 => ?_)
    refine X_icmp_ge hC 292 dL_papers_33 (by decide) (fun h2 => ?_) (fun h2 => ?_)
    · refine X_iconst (v := 0) hC (by decide) dL_papers_292 ?_
      refine X_istore (ls' := [(6, .int (0 : Int32)), (0, .ref (ax 25)), (1, .ref (am 0)), (2, .ref (am 1)), (3, .ref (am 2)), (4, .ref (am 3)), (5, .int v5)]) hC dL_papers_293 (by decide) rfl ?_
      exact X_sub [1, 2, 3, 4, 5, 6, 0] rfl (L_L_papers_b295 G cls ax am A hix hC hend fuel σ v5 (0 : Int32))
    · refine X_aload_n hC 0 rfl dL_papers_36 ?_
      refine X_iload hC 6 rfl dL_papers_37 ?_
      refine X_iconst (v := 0) hC (by decide) dL_papers_39 ?_
      refine L_XP (rest := []) hC (c_X4_paper _ G cls ax hix σ.1 v6 (0 : Int32)) (gV tw_380 tw_381 tw_382 tw_1 tw_383) rfl rfl okm_X4_paper (by decide) dL_papers_40 rfl (Nat.le_of_ble_eq_true rfl) (fun r24 => ?_)
      refine X_istore (ls' := [(7, .int r24), (0, .ref (ax 25)), (1, .ref (am 0)), (2, .ref (am 1)), (3, .ref (am 2)), (4, .ref (am 3)), (5, .int v5), (6, .int v6)]) hC dL_papers_43 (by decide) rfl ?_
      refine X_aload_n hC 1 rfl dL_papers_45 ?_
      refine X_iload hC 7 rfl dL_papers_46 ?_
      refine X_iconst (v := 1) hC (by decide) dL_papers_48 ?_
      refine L_XP (rest := []) hC (c_X4_paper _ G cls ax hix σ.1 v6 (1 : Int32)) (gV tw_380 tw_381 tw_382 tw_1 tw_383) rfl rfl okm_X4_paper (by decide) dL_papers_49 rfl (Nat.le_of_ble_eq_true rfl) (fun r25 => ?_)
      refine X_istore (ls' := [(8, .int r25), (7, .int r24), (0, .ref (ax 25)), (1, .ref (am 0)), (2, .ref (am 1)), (3, .ref (am 2)), (4, .ref (am 3)), (5, .int v5), (6, .int v6)]) hC dL_papers_52 (by decide) rfl ?_
      refine X_aload_n hC 2 rfl dL_papers_54 ?_
      refine X_iload hC 8 rfl dL_papers_55 ?_
      refine X_iconst (v := 4) hC (by decide) dL_papers_57 ?_
      refine L_XP (rest := []) hC (c_X4_paper _ G cls ax hix σ.1 v6 (4 : Int32)) (gV tw_380 tw_381 tw_382 tw_1 tw_383) rfl rfl okm_X4_paper (by decide) dL_papers_58 rfl (Nat.le_of_ble_eq_true rfl) (fun r26 => ?_)
      refine X_istore (ls' := [(9, .int r26), (8, .int r25), (7, .int r24), (0, .ref (ax 25)), (1, .ref (am 0)), (2, .ref (am 1)), (3, .ref (am 2)), (4, .ref (am 3)), (5, .int v5), (6, .int v6)]) hC dL_papers_61 (by decide) rfl ?_
      refine X_aload_n hC 3 rfl dL_papers_63 ?_
      refine X_iload hC 9 rfl dL_papers_64 ?_
      refine X_iconst (v := 5) hC (by decide) dL_papers_66 ?_
      refine L_XP (rest := []) hC (c_X4_paper _ G cls ax hix σ.1 v6 (5 : Int32)) (gV tw_380 tw_381 tw_382 tw_1 tw_383) rfl rfl okm_X4_paper (by decide) dL_papers_67 rfl (Nat.le_of_ble_eq_true rfl) (fun r27 => ?_)
      refine X_istore (ls' := [(10, .int r27), (9, .int r26), (8, .int r25), (7, .int r24), (0, .ref (ax 25)), (1, .ref (am 0)), (2, .ref (am 1)), (3, .ref (am 2)), (4, .ref (am 3)), (5, .int v5), (6, .int v6)]) hC dL_papers_70 (by decide) rfl ?_
      refine X_aload_n hC 4 rfl dL_papers_72 ?_
      refine X_iload hC 2 rfl dL_papers_73 ?_
      refine X_aload_n hC 4 rfl dL_papers_75 ?_
      refine X_iload hC 10 rfl dL_papers_76 ?_
      refine X_iconst (v := 2) hC (by decide) dL_papers_78 ?_
      refine L_XP (rest := [.int r25, .ref (ax 25)]) hC (c_X4_paper _ G cls ax hix σ.1 v6 (2 : Int32)) (gV tw_380 tw_381 tw_382 tw_1 tw_383) rfl rfl okm_X4_paper (by decide) dL_papers_79 rfl (Nat.le_of_ble_eq_true rfl) (fun r28 => ?_)
      refine X_aload_n hC 4 rfl dL_papers_82 ?_
      refine X_iload hC 10 rfl dL_papers_83 ?_
      refine X_iconst (v := 3) hC (by decide) dL_papers_85 ?_
      refine L_XP (rest := [.int r28, .int r25, .ref (ax 25)]) hC (c_X4_paper _ G cls ax hix σ.1 v6 (3 : Int32)) (gV tw_380 tw_381 tw_382 tw_1 tw_383) rfl rfl okm_X4_paper (by decide) dL_papers_86 rfl (Nat.le_of_ble_eq_true rfl) (fun r29 => ?_)
      refine L_TP (rest := []) hC (c_L_mark _ G cls ax hix σ.1 r25 r28 r29) (gSt tw_399 tw_400 tw_0 tw_401) rfl okm_L_mark (by decide) dL_papers_89 rfl (Nat.le_of_ble_eq_true rfl) (fun r30 => ?_)
      refine X_istore (ls' := [(11, .int r30), (10, .int r27), (9, .int r26), (8, .int r25), (7, .int r24), (0, .ref (ax 25)), (1, .ref (am 0)), (2, .ref (am 1)), (3, .ref (am 2)), (4, .ref (am 3)), (5, .int v5), (6, .int v6)]) hC dL_papers_92 (by decide) rfl ?_
      refine X_aload_n hC 6 rfl dL_papers_94 ?_
      refine X_iload hC 4 rfl dL_papers_95 ?_
      refine X_dup2 hC rfl rfl dL_papers_97 ?_
      refine X_iald hC (wR0 (by decide)) (t0 := 0) rfl dL_papers_98 ?_
      refine X_iconst (v := 1) hC (by decide) dL_papers_99 ?_
      refine X_iadd hC dL_papers_100 ?_
      refine X_iast hC (wR0 (by decide)) (t0 := 0) rfl (sR0 (by decide) _) dL_papers_101 (X_lts fun σ31 => ?_)
      refine X_aload_n hC 7 rfl dL_papers_102 ?_
      refine X_iload hC 4 rfl dL_papers_103 ?_
      refine X_dup2 hC rfl rfl dL_papers_105 ?_
      refine X_iald hC (wR1 (by decide)) (t0 := 0) rfl dL_papers_106 ?_
      refine X_iload hC 2 rfl dL_papers_107 ?_
      refine X_iadd hC dL_papers_109 ?_
      refine X_iast hC (wR1 (by decide)) (t0 := 0) rfl (sR1 (by decide) _) dL_papers_110 (X_lts fun σ32 => ?_)
      refine X_aload_n hC 8 rfl dL_papers_111 ?_
      refine X_iload hC 4 rfl dL_papers_112 ?_
      refine X_aload_n hC 6 rfl dL_papers_114 ?_
      refine X_iload hC 4 rfl dL_papers_115 ?_
      refine X_iald hC (wR0 (by decide)) (t0 := 0) rfl dL_papers_117 ?_
      refine X_iconst (v := 1) hC (by decide) dL_papers_118 ?_
      refine X_icmp_eq hC 131 dL_papers_119 (by decide) (fun h33 => ?_) (fun h33 => ?_)
      · exact X_sub [5, 6, 7, 8, 9, 10, 11, 2, 1, 0] rfl (L_L_papers_b131 G cls ax am A hix hC hend (f_L_papers_b26   n) ih σ32 v5 v6 r26 r27 r30 r24)
      · refine X_iload hC 2 rfl dL_papers_122 ?_
        refine X_aload_n hC 8 rfl dL_papers_124 ?_
        refine X_iload hC 4 rfl dL_papers_125 ?_
        refine X_iald hC (wR2 (by decide)) (t0 := 0) rfl dL_papers_127 ?_
        refine X_icmp_ge hC 136 dL_papers_128 (by decide) (fun h53 => ?_) (fun h53 => ?_)
        · refine X_aload_n hC 8 rfl dL_papers_136 ?_
          refine X_iload hC 4 rfl dL_papers_137 ?_
          refine X_iald hC (wR2 (by decide)) (t0 := 0) rfl dL_papers_139 ?_
          exact X_sub [5, 6, 7, 8, 9, 10, 11, 2, 1, 0] rfl (L_L_papers_b140 G cls ax am A hix hC hend (f_L_papers_b26   n) ih σ32 v5 v6 r26 r27 r30 (σ32.2.2 2 (ix r24)) r24)
        · exact X_sub [5, 6, 7, 8, 9, 10, 11, 2, 1, 0] rfl (L_L_papers_b131 G cls ax am A hix hC hend (f_L_papers_b26   n) ih σ32 v5 v6 r26 r27 r30 r24)
set_option maxHeartbeats 4000000 in
set_option maxRecDepth 100000 in
theorem L_L_papers {Γ : Cx} (G : va_G) (cls : Cls) (ax am : Nat → Nat) (A : Nat → Prop) (hix : inj 49 ax) (hC : CX Γ (YL G cls ax 4 am A) cL_papers RL 13 (some .boolean) 5 115) {q : Int32 × Sg → State → Prop} (hend : ∀ (pc : Nat) (ls : List (Nat × Value)) (σ : Sg × Sg), decode cL_papers pc = .ok (.ireturn, 1) → WX Γ (YL G cls ax 4 am A) q 13 pc ls [.int 1] σ (some (1, σ.1)))  (σ : Sg × Sg) : WX Γ (YL G cls ax 4 am A) q 13 20 [(0, .ref (ax 25)), (1, .ref (am 0)), (2, .ref (am 1)), (3, .ref (am 2)), (4, .ref (am 3))] [] σ (g_L_papers  σ) := by
  unfold g_L_papers
  refine X_iconst (v := 0) hC (by decide) dL_papers_20 ?_
  refine X_istore (ls' := [(5, .int (0 : Int32)), (0, .ref (ax 25)), (1, .ref (am 0)), (2, .ref (am 1)), (3, .ref (am 2)), (4, .ref (am 3))]) hC dL_papers_21 (by decide) rfl ?_
  refine X_iconst (v := 0) hC (by decide) dL_papers_23 ?_
  refine X_istore (ls' := [(6, .int (0 : Int32)), (5, .int (0 : Int32)), (0, .ref (ax 25)), (1, .ref (am 0)), (2, .ref (am 1)), (3, .ref (am 2)), (4, .ref (am 3))]) hC dL_papers_24 (by decide) rfl ?_
  exact X_sub [2, 3, 4, 5, 6, 1, 0] rfl (L_L_papers_b26 G cls ax am A hix hC hend fuel σ (0 : Int32) (0 : Int32))
