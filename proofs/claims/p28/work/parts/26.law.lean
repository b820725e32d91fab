theorem tw_190 : Cond.methodLink RL 101 yX4_readPapers ∈ gw := gw_tab (i := 190) (by decide +kernel) (by rfl)
theorem tw_191 : Cond.instanceMethod yX4_readPapers ∈ gw := gw_tab (i := 191) (by decide +kernel) (by rfl)
theorem tw_192 : Cond.selects RX4 yX4_readPapers yX4_readPapers ∈ gw := gw_tab (i := 192) (by decide +kernel) (by rfl)
theorem tw_193 : Cond.code yX4_readPapers cX4_readPapers 6 (some .int) ∈ gw := gw_tab (i := 193) (by decide +kernel) (by rfl)
theorem tw_297 : Cond.methodLink RL 95 yX4_undo ∈ gw := gw_tab (i := 297) (by decide +kernel) (by rfl)
theorem tw_298 : Cond.instanceMethod yX4_undo ∈ gw := gw_tab (i := 298) (by decide +kernel) (by rfl)
theorem tw_299 : Cond.selects RX4 yX4_undo yX4_undo ∈ gw := gw_tab (i := 299) (by decide +kernel) (by rfl)
theorem tw_300 : Cond.code yX4_undo cX4_undo 1 (some .int) ∈ gw := gw_tab (i := 300) (by decide +kernel) (by rfl)
theorem tw_309 : Cond.methodLink RL 98 yX4_restore ∈ gw := gw_tab (i := 309) (by decide +kernel) (by rfl)
theorem tw_310 : Cond.instanceMethod yX4_restore ∈ gw := gw_tab (i := 310) (by decide +kernel) (by rfl)
theorem tw_311 : Cond.selects RX4 yX4_restore yX4_restore ∈ gw := gw_tab (i := 311) (by decide +kernel) (by rfl)
theorem tw_312 : Cond.code yX4_restore cX4_restore 1 (some .int) ∈ gw := gw_tab (i := 312) (by decide +kernel) (by rfl)
theorem tw_354 : Cond.methodLink RL 104 yL_cell ∈ gw := gw_tab (i := 354) (by decide +kernel) (by rfl)
theorem tw_355 : Cond.static yL_cell ∈ gw := gw_tab (i := 355) (by decide +kernel) (by rfl)
theorem tw_356 : Cond.code yL_cell cL_cell 2 (some .int) ∈ gw := gw_tab (i := 356) (by decide +kernel) (by rfl)
theorem tw_362 : Cond.methodLink RL 108 yL_digest ∈ gw := gw_tab (i := 362) (by decide +kernel) (by rfl)
theorem tw_363 : Cond.static yL_digest ∈ gw := gw_tab (i := 363) (by decide +kernel) (by rfl)
theorem tw_364 : Cond.code yL_digest cL_digest 5 (some .long) ∈ gw := gw_tab (i := 364) (by decide +kernel) (by rfl)
theorem tw_384 : Cond.methodLink RL 126 yL_ranks ∈ gw := gw_tab (i := 384) (by decide +kernel) (by rfl)
theorem tw_385 : Cond.static yL_ranks ∈ gw := gw_tab (i := 385) (by decide +kernel) (by rfl)
theorem tw_386 : Cond.code yL_ranks cL_ranks 9 (some .boolean) ∈ gw := gw_tab (i := 386) (by decide +kernel) (by rfl)
theorem tw_389 : Cond.methodLink RL 130 yL_waits ∈ gw := gw_tab (i := 389) (by decide +kernel) (by rfl)
theorem tw_390 : Cond.static yL_waits ∈ gw := gw_tab (i := 390) (by decide +kernel) (by rfl)
theorem tw_391 : Cond.code yL_waits cL_waits 7 (some .boolean) ∈ gw := gw_tab (i := 391) (by decide +kernel) (by rfl)
theorem tw_396 : Cond.methodLink RL 133 yL_papers ∈ gw := gw_tab (i := 396) (by decide +kernel) (by rfl)
theorem tw_397 : Cond.static yL_papers ∈ gw := gw_tab (i := 397) (by decide +kernel) (by rfl)
theorem tw_398 : Cond.code yL_papers cL_papers 13 (some .boolean) ∈ gw := gw_tab (i := 398) (by decide +kernel) (by rfl)
theorem tw_406 : Cond.methodLink RL 136 yL_coincides ∈ gw := gw_tab (i := 406) (by decide +kernel) (by rfl)
theorem tw_407 : Cond.static yL_coincides ∈ gw := gw_tab (i := 407) (by decide +kernel) (by rfl)
theorem tw_408 : Cond.code yL_coincides cL_coincides 17 (some .boolean) ∈ gw := gw_tab (i := 408) (by decide +kernel) (by rfl)
theorem tw_409 : Cond.methodLink RL 139 yL_would ∈ gw := gw_tab (i := 409) (by decide +kernel) (by rfl)
theorem tw_410 : Cond.static yL_would ∈ gw := gw_tab (i := 410) (by decide +kernel) (by rfl)
theorem tw_411 : Cond.code yL_would cL_would 5 (some .boolean) ∈ gw := gw_tab (i := 411) (by decide +kernel) (by rfl)
theorem tw_430 : Cond.methodLink RL 112 yL_tools ∈ gw := gw_tab (i := 430) (by decide +kernel) (by rfl)
theorem tw_431 : Cond.static yL_tools ∈ gw := gw_tab (i := 431) (by decide +kernel) (by rfl)
theorem tw_432 : Cond.code yL_tools cL_tools 11 (some .boolean) ∈ gw := gw_tab (i := 432) (by decide +kernel) (by rfl)
theorem tw_463 : Cond.methodLink RL 116 yL_pupils ∈ gw := gw_tab (i := 463) (by decide +kernel) (by rfl)
theorem tw_464 : Cond.static yL_pupils ∈ gw := gw_tab (i := 464) (by decide +kernel) (by rfl)
theorem tw_465 : Cond.code yL_pupils cL_pupils 11 (some .boolean) ∈ gw := gw_tab (i := 465) (by decide +kernel) (by rfl)
theorem tw_487 : Cond.methodLink RL 119 yL_writes ∈ gw := gw_tab (i := 487) (by decide +kernel) (by rfl)
theorem tw_488 : Cond.static yL_writes ∈ gw := gw_tab (i := 488) (by decide +kernel) (by rfl)
theorem tw_489 : Cond.code yL_writes cL_writes 9 (some .boolean) ∈ gw := gw_tab (i := 489) (by decide +kernel) (by rfl)
theorem tw_494 : Cond.methodLink RL 123 yL_appeals ∈ gw := gw_tab (i := 494) (by decide +kernel) (by rfl)
theorem tw_495 : Cond.static yL_appeals ∈ gw := gw_tab (i := 495) (by decide +kernel) (by rfl)
theorem tw_496 : Cond.code yL_appeals cL_appeals 9 (some .boolean) ∈ gw := gw_tab (i := 496) (by decide +kernel) (by rfl)
theorem dL_law_0 : decode cL_law 0 = .ok (.new 14, 3) := by decide +kernel
theorem dL_law_3 : decode cL_law 3 = .ok (.dup, 1) := by decide +kernel
theorem dL_law_4 : decode cL_law 4 = .ok (.invokespecial 94, 3) := by decide +kernel
theorem dL_law_7 : decode cL_law 7 = .ok (.astore_n 1, 1) := by decide +kernel
theorem dL_law_8 : decode cL_law 8 = .ok (.aload_n 1, 1) := by decide +kernel
theorem dL_law_9 : decode cL_law 9 = .ok (.invokevirtual 95, 3) := by decide +kernel
theorem dL_law_12 : decode cL_law 12 = .ok (.ldc 37, 2) := by decide +kernel
theorem dL_law_14 : decode cL_law 14 = .ok (.if_icmp .ne 52, 3) := by decide +kernel
theorem dL_law_17 : decode cL_law 17 = .ok (.aload_n 1, 1) := by decide +kernel
theorem dL_law_18 : decode cL_law 18 = .ok (.invokevirtual 98, 3) := by decide +kernel
theorem dL_law_21 : decode cL_law 21 = .ok (.ldc 37, 2) := by decide +kernel
theorem dL_law_23 : decode cL_law 23 = .ok (.if_icmp .ne 43, 3) := by decide +kernel
theorem dL_law_26 : decode cL_law 26 = .ok (.aload_n 1, 1) := by decide +kernel
theorem dL_law_27 : decode cL_law 27 = .ok (.invokevirtual 90, 3) := by decide +kernel
theorem dL_law_30 : decode cL_law 30 = .ok (.ldc 37, 2) := by decide +kernel
theorem dL_law_32 : decode cL_law 32 = .ok (.if_icmp .ne 34, 3) := by decide +kernel
theorem dL_law_35 : decode cL_law 35 = .ok (.aload_n 1, 1) := by decide +kernel
theorem dL_law_36 : decode cL_law 36 = .ok (.invokevirtual 101, 3) := by decide +kernel
theorem dL_law_39 : decode cL_law 39 = .ok (.bipush (-100), 2) := by decide +kernel
theorem dL_law_41 : decode cL_law 41 = .ok (.if_icmp .ne 25, 3) := by decide +kernel
theorem dL_law_44 : decode cL_law 44 = .ok (.aload_n 1, 1) := by decide +kernel
theorem dL_law_45 : decode cL_law 45 = .ok (.iconst 0, 1) := by decide +kernel
theorem dL_law_46 : decode cL_law 46 = .ok (.invokevirtual 34, 3) := by decide +kernel
theorem dL_law_49 : decode cL_law 49 = .ok (.ldc 37, 2) := by decide +kernel
theorem dL_law_51 : decode cL_law 51 = .ok (.if_icmp .ne 15, 3) := by decide +kernel
theorem dL_law_54 : decode cL_law 54 = .ok (.aload_n 1, 1) := by decide +kernel
theorem dL_law_55 : decode cL_law 55 = .ok (.iconst 0, 1) := by decide +kernel
theorem dL_law_56 : decode cL_law 56 = .ok (.iconst 0, 1) := by decide +kernel
theorem dL_law_57 : decode cL_law 57 = .ok (.iconst 0, 1) := by decide +kernel
theorem dL_law_58 : decode cL_law 58 = .ok (.invokevirtual 47, 3) := by decide +kernel
theorem dL_law_61 : decode cL_law 61 = .ok (.ldc 46, 2) := by decide +kernel
theorem dL_law_63 : decode cL_law 63 = .ok (.if_icmp .eq 5, 3) := by decide +kernel
theorem dL_law_66 : decode cL_law 66 = .ok (.iconst 0, 1) := by decide +kernel
theorem dL_law_67 : decode cL_law 67 = .ok (.ireturn, 1) := by decide +kernel
theorem dL_law_68 : decode cL_law 68 = .ok (.iconst 0, 1) := by decide +kernel
theorem dL_law_69 : decode cL_law 69 = .ok (.istore_n 2, 1) := by decide +kernel
theorem dL_law_70 : decode cL_law 70 = .ok (.iload_n 2, 1) := by decide +kernel
theorem dL_law_71 : decode cL_law 71 = .ok (.bipush 24, 2) := by decide +kernel
theorem dL_law_73 : decode cL_law 73 = .ok (.if_icmp .ge 316, 3) := by decide +kernel
theorem dL_law_76 : decode cL_law 76 = .ok (.aload_n 0, 1) := by decide +kernel
theorem dL_law_77 : decode cL_law 77 = .ok (.iconst 2, 1) := by decide +kernel
theorem dL_law_78 : decode cL_law 78 = .ok (.iload_n 2, 1) := by decide +kernel
theorem dL_law_79 : decode cL_law 79 = .ok (.imul, 1) := by decide +kernel
theorem dL_law_80 : decode cL_law 80 = .ok (.invokestatic 104, 3) := by decide +kernel
theorem dL_law_83 : decode cL_law 83 = .ok (.istore_n 3, 1) := by decide +kernel
theorem dL_law_84 : decode cL_law 84 = .ok (.aload_n 0, 1) := by decide +kernel
theorem dL_law_85 : decode cL_law 85 = .ok (.iconst 2, 1) := by decide +kernel
theorem dL_law_86 : decode cL_law 86 = .ok (.iload_n 2, 1) := by decide +kernel
theorem dL_law_87 : decode cL_law 87 = .ok (.imul, 1) := by decide +kernel
theorem dL_law_88 : decode cL_law 88 = .ok (.iconst 1, 1) := by decide +kernel
theorem dL_law_89 : decode cL_law 89 = .ok (.iadd, 1) := by decide +kernel
theorem dL_law_90 : decode cL_law 90 = .ok (.invokestatic 104, 3) := by decide +kernel
theorem dL_law_93 : decode cL_law 93 = .ok (.istore 4, 2) := by decide +kernel
theorem dL_law_95 : decode cL_law 95 = .ok (.iload_n 3, 1) := by decide +kernel
theorem dL_law_96 : decode cL_law 96 = .ok (.bipush 9, 2) := by decide +kernel
theorem dL_law_98 : decode cL_law 98 = .ok (.ishr, 1) := by decide +kernel
theorem dL_law_99 : decode cL_law 99 = .ok (.bipush 16, 2) := by decide +kernel
theorem dL_law_101 : decode cL_law 101 = .ok (.invokestatic 57, 3) := by decide +kernel
theorem dL_law_104 : decode cL_law 104 = .ok (.istore 5, 2) := by decide +kernel
theorem dL_law_106 : decode cL_law 106 = .ok (.aload_n 1, 1) := by decide +kernel
theorem dL_law_107 : decode cL_law 107 = .ok (.bipush 7, 2) := by decide +kernel
theorem dL_law_109 : decode cL_law 109 = .ok (.invokevirtual 13, 3) := by decide +kernel
theorem dL_law_112 : decode cL_law 112 = .ok (.istore 6, 2) := by decide +kernel
theorem dL_law_114 : decode cL_law 114 = .ok (.aload_n 1, 1) := by decide +kernel
theorem dL_law_115 : decode cL_law 115 = .ok (.invokestatic 108, 3) := by decide +kernel
theorem dL_law_118 : decode cL_law 118 = .ok (.lstore 7, 2) := by decide +kernel
theorem dL_law_120 : decode cL_law 120 = .ok (.iconst 1, 1) := by decide +kernel
theorem dL_law_121 : decode cL_law 121 = .ok (.istore 9, 2) := by decide +kernel
theorem dL_law_123 : decode cL_law 123 = .ok (.iload 5, 2) := by decide +kernel
theorem dL_law_125 : decode cL_law 125 = .ok (.iconst 4, 1) := by decide +kernel
theorem dL_law_126 : decode cL_law 126 = .ok (.if_icmp .ge 17, 3) := by decide +kernel
theorem dL_law_129 : decode cL_law 129 = .ok (.aload_n 1, 1) := by decide +kernel
theorem dL_law_130 : decode cL_law 130 = .ok (.iload 5, 2) := by decide +kernel
theorem dL_law_132 : decode cL_law 132 = .ok (.iload_n 3, 1) := by decide +kernel
theorem dL_law_133 : decode cL_law 133 = .ok (.iload 4, 2) := by decide +kernel
theorem dL_law_135 : decode cL_law 135 = .ok (.invokestatic 112, 3) := by decide +kernel
theorem dL_law_138 : decode cL_law 138 = .ok (.istore 9, 2) := by decide +kernel
theorem dL_law_140 : decode cL_law 140 = .ok (.goto 54, 3) := by decide +kernel
theorem dL_law_143 : decode cL_law 143 = .ok (.iload 5, 2) := by decide +kernel
theorem dL_law_145 : decode cL_law 145 = .ok (.bipush 7, 2) := by decide +kernel
theorem dL_law_147 : decode cL_law 147 = .ok (.if_icmp .ge 17, 3) := by decide +kernel
theorem dL_law_150 : decode cL_law 150 = .ok (.aload_n 1, 1) := by decide +kernel
theorem dL_law_151 : decode cL_law 151 = .ok (.iload 5, 2) := by decide +kernel
theorem dL_law_153 : decode cL_law 153 = .ok (.iload_n 3, 1) := by decide +kernel
theorem dL_law_154 : decode cL_law 154 = .ok (.iload 4, 2) := by decide +kernel
theorem dL_law_156 : decode cL_law 156 = .ok (.invokestatic 116, 3) := by decide +kernel
theorem dL_law_159 : decode cL_law 159 = .ok (.istore 9, 2) := by decide +kernel
theorem dL_law_161 : decode cL_law 161 = .ok (.goto 33, 3) := by decide +kernel
theorem dL_law_164 : decode cL_law 164 = .ok (.iload 5, 2) := by decide +kernel
theorem dL_law_166 : decode cL_law 166 = .ok (.bipush 11, 2) := by decide +kernel
theorem dL_law_168 : decode cL_law 168 = .ok (.if_icmp .ge 15, 3) := by decide +kernel
theorem dL_law_171 : decode cL_law 171 = .ok (.aload_n 1, 1) := by decide +kernel
theorem dL_law_172 : decode cL_law 172 = .ok (.iload_n 3, 1) := by decide +kernel
theorem dL_law_173 : decode cL_law 173 = .ok (.iload 4, 2) := by decide +kernel
theorem dL_law_175 : decode cL_law 175 = .ok (.invokestatic 119, 3) := by decide +kernel
theorem dL_law_178 : decode cL_law 178 = .ok (.istore 9, 2) := by decide +kernel
theorem dL_law_180 : decode cL_law 180 = .ok (.goto 14, 3) := by decide +kernel
theorem dL_law_183 : decode cL_law 183 = .ok (.aload_n 1, 1) := by decide +kernel
theorem dL_law_184 : decode cL_law 184 = .ok (.iload 5, 2) := by decide +kernel
theorem dL_law_186 : decode cL_law 186 = .ok (.iload_n 3, 1) := by decide +kernel
theorem dL_law_187 : decode cL_law 187 = .ok (.iload 4, 2) := by decide +kernel
theorem dL_law_189 : decode cL_law 189 = .ok (.invokestatic 123, 3) := by decide +kernel
theorem dL_law_192 : decode cL_law 192 = .ok (.istore 9, 2) := by decide +kernel
theorem dL_law_194 : decode cL_law 194 = .ok (.iload 6, 2) := by decide +kernel
theorem dL_law_196 : decode cL_law 196 = .ok (.iconst 4, 1) := by decide +kernel
theorem dL_law_197 : decode cL_law 197 = .ok (.if_icmp .ne 7, 3) := by decide +kernel
theorem dL_law_200 : decode cL_law 200 = .ok (.iconst 3, 1) := by decide +kernel
theorem dL_law_201 : decode cL_law 201 = .ok (.goto 5, 3) := by decide +kernel
theorem dL_law_204 : decode cL_law 204 = .ok (.iload 6, 2) := by decide +kernel
theorem dL_law_206 : decode cL_law 206 = .ok (.istore 10, 2) := by decide +kernel
theorem dL_law_208 : decode cL_law 208 = .ok (.iload 9, 2) := by decide +kernel
theorem dL_law_210 : decode cL_law 210 = .ok (.ifCond .eq 65, 3) := by decide +kernel
theorem dL_law_213 : decode cL_law 213 = .ok (.iload 4, 2) := by decide +kernel
theorem dL_law_215 : decode cL_law 215 = .ok (.sipush 3072, 3) := by decide +kernel
theorem dL_law_218 : decode cL_law 218 = .ok (.iand, 1) := by decide +kernel
theorem dL_law_219 : decode cL_law 219 = .ok (.ifCond .ne 56, 3) := by decide +kernel
theorem dL_law_222 : decode cL_law 222 = .ok (.aload_n 1, 1) := by decide +kernel
theorem dL_law_223 : decode cL_law 223 = .ok (.bipush 7, 2) := by decide +kernel
theorem dL_law_225 : decode cL_law 225 = .ok (.invokevirtual 13, 3) := by decide +kernel
theorem dL_law_228 : decode cL_law 228 = .ok (.iload 6, 2) := by decide +kernel
theorem dL_law_230 : decode cL_law 230 = .ok (.if_icmp .ne 19, 3) := by decide +kernel
theorem dL_law_233 : decode cL_law 233 = .ok (.iload 6, 2) := by decide +kernel
theorem dL_law_235 : decode cL_law 235 = .ok (.iconst 4, 1) := by decide +kernel
theorem dL_law_236 : decode cL_law 236 = .ok (.if_icmp .ne 39, 3) := by decide +kernel
theorem dL_law_239 : decode cL_law 239 = .ok (.aload_n 1, 1) := by decide +kernel
theorem dL_law_240 : decode cL_law 240 = .ok (.invokestatic 108, 3) := by decide +kernel
theorem dL_law_243 : decode cL_law 243 = .ok (.lload 7, 2) := by decide +kernel
theorem dL_law_245 : decode cL_law 245 = .ok (.lcmp, 1) := by decide +kernel
theorem dL_law_246 : decode cL_law 246 = .ok (.ifCond .eq 29, 3) := by decide +kernel
theorem dL_law_249 : decode cL_law 249 = .ok (.aload_n 1, 1) := by decide +kernel
theorem dL_law_250 : decode cL_law 250 = .ok (.invokevirtual 95, 3) := by decide +kernel
theorem dL_law_253 : decode cL_law 253 = .ok (.iload 10, 2) := by decide +kernel
theorem dL_law_255 : decode cL_law 255 = .ok (.if_icmp .ne 17, 3) := by decide +kernel
theorem dL_law_258 : decode cL_law 258 = .ok (.aload_n 1, 1) := by decide +kernel
theorem dL_law_259 : decode cL_law 259 = .ok (.invokestatic 108, 3) := by decide +kernel
theorem dL_law_262 : decode cL_law 262 = .ok (.lload 7, 2) := by decide +kernel
theorem dL_law_264 : decode cL_law 264 = .ok (.lcmp, 1) := by decide +kernel
theorem dL_law_265 : decode cL_law 265 = .ok (.ifCond .ne 7, 3) := by decide +kernel
theorem dL_law_268 : decode cL_law 268 = .ok (.iconst 1, 1) := by decide +kernel
theorem dL_law_269 : decode cL_law 269 = .ok (.goto 4, 3) := by decide +kernel
theorem dL_law_272 : decode cL_law 272 = .ok (.iconst 0, 1) := by decide +kernel
theorem dL_law_273 : decode cL_law 273 = .ok (.istore 9, 2) := by decide +kernel
theorem dL_law_275 : decode cL_law 275 = .ok (.iload 9, 2) := by decide +kernel
theorem dL_law_277 : decode cL_law 277 = .ok (.ifCond .eq 35, 3) := by decide +kernel
theorem dL_law_280 : decode cL_law 280 = .ok (.aload_n 1, 1) := by decide +kernel
theorem dL_law_281 : decode cL_law 281 = .ok (.invokestatic 126, 3) := by decide +kernel
theorem dL_law_284 : decode cL_law 284 = .ok (.ifCond .eq 28, 3) := by decide +kernel
theorem dL_law_287 : decode cL_law 287 = .ok (.aload_n 1, 1) := by decide +kernel
theorem dL_law_288 : decode cL_law 288 = .ok (.invokestatic 130, 3) := by decide +kernel
theorem dL_law_291 : decode cL_law 291 = .ok (.ifCond .eq 21, 3) := by decide +kernel
theorem dL_law_294 : decode cL_law 294 = .ok (.aload_n 1, 1) := by decide +kernel
theorem dL_law_295 : decode cL_law 295 = .ok (.invokestatic 133, 3) := by decide +kernel
theorem dL_law_298 : decode cL_law 298 = .ok (.ifCond .eq 14, 3) := by decide +kernel
theorem dL_law_301 : decode cL_law 301 = .ok (.aload_n 1, 1) := by decide +kernel
theorem dL_law_302 : decode cL_law 302 = .ok (.bipush 9, 2) := by decide +kernel
theorem dL_law_304 : decode cL_law 304 = .ok (.invokevirtual 13, 3) := by decide +kernel
theorem dL_law_307 : decode cL_law 307 = .ok (.ldc 38, 2) := by decide +kernel
theorem dL_law_309 : decode cL_law 309 = .ok (.if_icmp .eq 5, 3) := by decide +kernel
theorem dL_law_312 : decode cL_law 312 = .ok (.iconst 0, 1) := by decide +kernel
theorem dL_law_313 : decode cL_law 313 = .ok (.ireturn, 1) := by decide +kernel
theorem dL_law_314 : decode cL_law 314 = .ok (.aload_n 1, 1) := by decide +kernel
theorem dL_law_315 : decode cL_law 315 = .ok (.iconst 0, 1) := by decide +kernel
theorem dL_law_316 : decode cL_law 316 = .ok (.invokevirtual 13, 3) := by decide +kernel
theorem dL_law_319 : decode cL_law 319 = .ok (.ifCond .le 35, 3) := by decide +kernel
theorem dL_law_322 : decode cL_law 322 = .ok (.aload_n 1, 1) := by decide +kernel
theorem dL_law_323 : decode cL_law 323 = .ok (.iload 4, 2) := by decide +kernel
theorem dL_law_325 : decode cL_law 325 = .ok (.iconst 3, 1) := by decide +kernel
theorem dL_law_326 : decode cL_law 326 = .ok (.ishr, 1) := by decide +kernel
theorem dL_law_327 : decode cL_law 327 = .ok (.aload_n 1, 1) := by decide +kernel
theorem dL_law_328 : decode cL_law 328 = .ok (.iconst 0, 1) := by decide +kernel
theorem dL_law_329 : decode cL_law 329 = .ok (.invokevirtual 13, 3) := by decide +kernel
theorem dL_law_332 : decode cL_law 332 = .ok (.invokestatic 57, 3) := by decide +kernel
theorem dL_law_335 : decode cL_law 335 = .ok (.iload_n 3, 1) := by decide +kernel
theorem dL_law_336 : decode cL_law 336 = .ok (.iconst 2, 1) := by decide +kernel
theorem dL_law_337 : decode cL_law 337 = .ok (.ishr, 1) := by decide +kernel
theorem dL_law_338 : decode cL_law 338 = .ok (.sipush 9000, 3) := by decide +kernel
theorem dL_law_341 : decode cL_law 341 = .ok (.invokestatic 57, 3) := by decide +kernel
theorem dL_law_344 : decode cL_law 344 = .ok (.sipush 1000, 3) := by decide +kernel
theorem dL_law_347 : decode cL_law 347 = .ok (.isub, 1) := by decide +kernel
theorem dL_law_348 : decode cL_law 348 = .ok (.invokestatic 136, 3) := by decide +kernel
theorem dL_law_351 : decode cL_law 351 = .ok (.ifCond .eq 30, 3) := by decide +kernel
theorem dL_law_354 : decode cL_law 354 = .ok (.aload_n 1, 1) := by decide +kernel
theorem dL_law_355 : decode cL_law 355 = .ok (.iconst 1, 1) := by decide +kernel
theorem dL_law_356 : decode cL_law 356 = .ok (.invokevirtual 13, 3) := by decide +kernel
theorem dL_law_359 : decode cL_law 359 = .ok (.ifCond .le 24, 3) := by decide +kernel
theorem dL_law_362 : decode cL_law 362 = .ok (.aload_n 1, 1) := by decide +kernel
theorem dL_law_363 : decode cL_law 363 = .ok (.iload 4, 2) := by decide +kernel
theorem dL_law_365 : decode cL_law 365 = .ok (.iconst 5, 1) := by decide +kernel
theorem dL_law_366 : decode cL_law 366 = .ok (.ishr, 1) := by decide +kernel
theorem dL_law_367 : decode cL_law 367 = .ok (.aload_n 1, 1) := by decide +kernel
theorem dL_law_368 : decode cL_law 368 = .ok (.iconst 1, 1) := by decide +kernel
theorem dL_law_369 : decode cL_law 369 = .ok (.invokevirtual 13, 3) := by decide +kernel
theorem dL_law_372 : decode cL_law 372 = .ok (.invokestatic 57, 3) := by decide +kernel
theorem dL_law_375 : decode cL_law 375 = .ok (.invokestatic 139, 3) := by decide +kernel
theorem dL_law_378 : decode cL_law 378 = .ok (.ifCond .ne 5, 3) := by decide +kernel
theorem dL_law_381 : decode cL_law 381 = .ok (.iconst 0, 1) := by decide +kernel
theorem dL_law_382 : decode cL_law 382 = .ok (.ireturn, 1) := by decide +kernel
theorem dL_law_383 : decode cL_law 383 = .ok (.iinc 2 1, 3) := by decide +kernel
theorem dL_law_386 : decode cL_law 386 = .ok (.goto (-316), 3) := by decide +kernel
theorem dL_law_389 : decode cL_law 389 = .ok (.iconst 1, 1) := by decide +kernel
theorem dL_law_390 : decode cL_law 390 = .ok (.ireturn, 1) := by decide +kernel
def f_L_law_b383 (xs : Nat → Int32) (L : Nat) (K70 : Sg × Sg → Int32 → Option (Int32)) (σ : Sg × Sg) (v2 : Int32) : Option (Int32) := lt (v2 + (1 : Int32)) fun x50 => K70 σ x50
def f_L_law_b354 (xs : Nat → Int32) (L : Nat) (K70 : Sg × Sg → Int32 → Option (Int32)) (σ : Sg × Sg) (v2 : Int32) (v4 : Int32) : Option (Int32) := (f_X4_count σ.1 (1 : Int32)).bind fun r48 => if r48 ≤ 0 then (f_L_law_b383 xs L K70 σ v2) else ((f_X4_count σ.1 (1 : Int32)).bind fun r51 => (f_L_low σ.1 (v4 >>> ((5 : Int32) &&& 31)) r51).bind fun r52 => (f_L_would σ.1 r52).bind fun r53 => if r53 = 0 then none else (f_L_law_b383 xs L K70 σ v2))
def f_L_law_b275 (xs : Nat → Int32) (L : Nat) (K70 : Sg × Sg → Int32 → Option (Int32)) (σ : Sg × Sg) (v2 : Int32) (v3 : Int32) (v4 : Int32) (v9 : Int32) : Option (Int32) := if v9 = 0 then none else ((f_L_ranks σ.1 ).bind fun r36 => if r36 = 0 then none else ((f_L_waits σ.1 ).bind fun r38 => if r38 = 0 then none else ((f_L_papers σ.1 ).bind fun q40 => lts (q40.2, σ.2) fun σ41 => lt q40.1 fun r42 => if r42 = 0 then none else ((f_X4_count σ41.1 (9 : Int32)).bind fun r44 => if r44 = (-10000002 : Int32) then ((f_X4_count σ41.1 (0 : Int32)).bind fun r46 => if r46 ≤ 0 then (f_L_law_b354 xs L K70 σ41 v2 v4) else ((f_X4_count σ41.1 (0 : Int32)).bind fun r55 => (f_L_low σ41.1 (v4 >>> ((3 : Int32) &&& 31)) r55).bind fun r56 => (f_L_low σ41.1 (v3 >>> ((2 : Int32) &&& 31)) (9000 : Int32)).bind fun r57 => (f_L_coincides σ41.1 r56 (r57 - (1000 : Int32))).bind fun r58 => if r58 = 0 then none else (f_L_law_b354 xs L K70 σ41 v2 v4))) else none))))
def f_L_law_b273 (xs : Nat → Int32) (L : Nat) (K70 : Sg × Sg → Int32 → Option (Int32)) (σ : Sg × Sg) (v2 : Int32) (v3 : Int32) (v4 : Int32) (w0 : Int32) : Option (Int32) := f_L_law_b275 xs L K70 σ v2 v3 v4 w0
def f_L_law_b272 (xs : Nat → Int32) (L : Nat) (K70 : Sg × Sg → Int32 → Option (Int32)) (σ : Sg × Sg) (v2 : Int32) (v3 : Int32) (v4 : Int32) : Option (Int32) := f_L_law_b273 xs L K70 σ v2 v3 v4 (0 : Int32)
def f_L_law_b249 (xs : Nat → Int32) (L : Nat) (K70 : Sg × Sg → Int32 → Option (Int32)) (σ : Sg × Sg) (v2 : Int32) (v3 : Int32) (v4 : Int32) (l7 : Int64) (v10 : Int32) : Option (Int32) := (f_X4_undo σ.1 ).bind fun q63 => lts (q63.2, σ.2) fun σ64 => lt q63.1 fun r65 => if r65 = v10 then ((f_L_digest σ64.1 ).bind fun l67 => if (lg_cmp l67 l7) = 0 then (f_L_law_b273 xs L K70 σ64 v2 v3 v4 (1 : Int32)) else (f_L_law_b272 xs L K70 σ64 v2 v3 v4)) else (f_L_law_b272 xs L K70 σ64 v2 v3 v4)
def f_L_law_b206 (xs : Nat → Int32) (L : Nat) (K70 : Sg × Sg → Int32 → Option (Int32)) (σ : Sg × Sg) (v2 : Int32) (v3 : Int32) (v4 : Int32) (v6 : Int32) (l7 : Int64) (v9 : Int32) (w0 : Int32) : Option (Int32) := if v9 = 0 then (f_L_law_b275 xs L K70 σ v2 v3 v4 v9) else (if (v4 &&& (3072 : Int32)) = 0 then ((f_X4_count σ.1 (7 : Int32)).bind fun r61 => if r61 = v6 then (if v6 = (4 : Int32) then ((f_L_digest σ.1 ).bind fun l70 => if (lg_cmp l70 l7) = 0 then (f_L_law_b275 xs L K70 σ v2 v3 v4 v9) else (f_L_law_b249 xs L K70 σ v2 v3 v4 l7 w0)) else (f_L_law_b275 xs L K70 σ v2 v3 v4 v9)) else (f_L_law_b249 xs L K70 σ v2 v3 v4 l7 w0)) else (f_L_law_b275 xs L K70 σ v2 v3 v4 v9))
def f_L_law_b194 (xs : Nat → Int32) (L : Nat) (K70 : Sg × Sg → Int32 → Option (Int32)) (σ : Sg × Sg) (v2 : Int32) (v3 : Int32) (v4 : Int32) (v6 : Int32) (l7 : Int64) (v9 : Int32) : Option (Int32) := if v6 = (4 : Int32) then (f_L_law_b206 xs L K70 σ v2 v3 v4 v6 l7 v9 (3 : Int32)) else (f_L_law_b206 xs L K70 σ v2 v3 v4 v6 l7 v9 v6)
def f_L_law_b70 (xs : Nat → Int32) (L : Nat)  : Nat → Sg × Sg → Int32 → Option (Int32)
  | 0, _, _ => none
  | n + 1, σ, v2 => if (24 : Int32) ≤ v2 then (some 1) else ((f_L_cell xs L ((2 : Int32) * v2)).bind fun r22 => (f_L_cell xs L (((2 : Int32) * v2) + (1 : Int32))).bind fun r23 => (f_L_low σ.1 (r22 >>> ((9 : Int32) &&& 31)) (16 : Int32)).bind fun r24 => (f_X4_count σ.1 (7 : Int32)).bind fun r25 => (f_L_digest σ.1 ).bind fun l26 => if (4 : Int32) ≤ r24 then (if (7 : Int32) ≤ r24 then (if (11 : Int32) ≤ r24 then ((f_L_appeals σ.1 r24 r22 r23).bind fun q30 => lts (q30.2, σ.2) fun σ31 => lt q30.1 fun r32 => f_L_law_b194 xs L (f_L_law_b70 xs L  n) σ31 v2 r22 r23 r25 l26 r32) else ((f_L_writes σ.1 r22 r23).bind fun q72 => lts (q72.2, σ.2) fun σ73 => lt q72.1 fun r74 => f_L_law_b194 xs L (f_L_law_b70 xs L  n) σ73 v2 r22 r23 r25 l26 r74)) else ((f_L_pupils σ.1 r24 r22 r23).bind fun q75 => lts (q75.2, σ.2) fun σ76 => lt q75.1 fun r77 => f_L_law_b194 xs L (f_L_law_b70 xs L  n) σ76 v2 r22 r23 r25 l26 r77)) else ((f_L_tools σ.1 r24 r22 r23).bind fun q78 => lts (q78.2, σ.2) fun σ79 => lt q78.1 fun r80 => f_L_law_b194 xs L (f_L_law_b70 xs L  n) σ79 v2 r22 r23 r25 l26 r80))
def g_L_law (xs : Nat → Int32) (L : Nat) (σ : Sg × Sg) : Option (Int32) := (f_X4_undo σ.1 ).bind fun q1 => lts (q1.2, σ.2) fun σ2 => lt q1.1 fun r3 => if r3 = (-10000005 : Int32) then ((f_X4_restore σ2.1 ).bind fun q5 => lts (q5.2, σ2.2) fun σ6 => lt q5.1 fun r7 => if r7 = (-10000005 : Int32) then ((f_X4_decide σ6.1 ).bind fun q9 => lts (q9.2, σ6.2) fun σ10 => lt q9.1 fun r11 => if r11 = (-10000005 : Int32) then ((f_X4_readPapers σ10.1 ).bind fun q13 => lts (q13.2, σ10.2) fun σ14 => lt q13.1 fun r15 => if r15 = (-100 : Int32) then ((f_X4_ranked σ14.1 (0 : Int32)).bind fun r17 => if r17 = (-10000005 : Int32) then ((f_X4_coincidence σ14.1 (0 : Int32) (0 : Int32) (0 : Int32)).bind fun r19 => if r19 = (-10000001 : Int32) then (f_L_law_b70 xs L fuel σ14 (0 : Int32)) else none) else none) else none) else none) else none) else none
set_option maxHeartbeats 4000000 in
set_option maxRecDepth 100000 in
theorem L_L_law_b383 {Γ : Cx} (G : va_G) (cls : Cls) (ax am : Nat → Nat) (A : Nat → Prop) (hix : inj 49 ax) (hC : CX Γ (YL G cls ax 0 am A) cL_law RL 11 (some .boolean) 10 410) (hR : Γ.1.2.2.2.1 = room_1) {q : Int32 → State → Prop} (hend : ∀ (C S : Nat), C ≤ 600000 → S ≤ 7302250 → ∀ (pc : Nat) (ls : List (Nat × Value)) (σ : Sg × Sg), decode cL_law pc = .ok (.ireturn, 1) → WX (setc Γ C S) (YL G cls ax 0 am A) q 11 pc ls [.int 1] σ (some 1)) {b : Nat} (xs : Nat → Int32) (L : Nat) (hX : va_X b L xs Γ.1.2.2.2.2.1 Γ.1.2.2.2.2.1.heap) (hbl : b < Γ.1.2.2.2.2.1.heap.size) (hbA : ¬ A b) (hAn : ∀ z, Γ.1.2.2.2.2.1.heap.size ≤ z → A z) (n : Nat) (hg : rmL Γ n) (K70 : Sg × Sg → Int32 → Option (Int32)) (hK70 : ∀ (C S : Nat), C + 4 * n ≤ 600000 → S + 40 * n ≤ 7302250 → ∀ (σ : Sg × Sg) (v2 : Int32), WX (setc Γ C S) (YL G cls ax 0 am A) q 11 70 [(0, .ref b), (1, .ref (ax 25)), (2, .int v2)] [] σ (K70 σ v2)) (σ : Sg × Sg) (v2 : Int32) : WX Γ (YL G cls ax 0 am A) q 11 383 [(0, .ref b), (1, .ref (ax 25)), (2, .int v2)] [] σ (f_L_law_b383 xs L K70 σ v2) := by
  unfold f_L_law_b383
  refine X_iinc (ls' := fun x50 => [(2, .int x50), (0, .ref b), (1, .ref (ax 25))]) hC 2 dL_law_383 rfl (by decide) (by decide) (fun _ => rfl) (fun x50 => ?_)
  refine X_goto hC 70 dL_law_386 (by decide) ?_
  exact X_sub [1, 2, 0] rfl (hK70 _ _ hg.1 hg.2 σ x50)
set_option maxHeartbeats 4000000 in
set_option maxRecDepth 100000 in
theorem L_L_law_b354 {Γ : Cx} (G : va_G) (cls : Cls) (ax am : Nat → Nat) (A : Nat → Prop) (hix : inj 49 ax) (hC : CX Γ (YL G cls ax 0 am A) cL_law RL 11 (some .boolean) 10 410) (hR : Γ.1.2.2.2.1 = room_1) {q : Int32 → State → Prop} (hend : ∀ (C S : Nat), C ≤ 600000 → S ≤ 7302250 → ∀ (pc : Nat) (ls : List (Nat × Value)) (σ : Sg × Sg), decode cL_law pc = .ok (.ireturn, 1) → WX (setc Γ C S) (YL G cls ax 0 am A) q 11 pc ls [.int 1] σ (some 1)) {b : Nat} (xs : Nat → Int32) (L : Nat) (hX : va_X b L xs Γ.1.2.2.2.2.1 Γ.1.2.2.2.2.1.heap) (hbl : b < Γ.1.2.2.2.2.1.heap.size) (hbA : ¬ A b) (hAn : ∀ z, Γ.1.2.2.2.2.1.heap.size ≤ z → A z) (n : Nat) (hg : rmL Γ n) (K70 : Sg × Sg → Int32 → Option (Int32)) (hK70 : ∀ (C S : Nat), C + 4 * n ≤ 600000 → S + 40 * n ≤ 7302250 → ∀ (σ : Sg × Sg) (v2 : Int32), WX (setc Γ C S) (YL G cls ax 0 am A) q 11 70 [(0, .ref b), (1, .ref (ax 25)), (2, .int v2)] [] σ (K70 σ v2)) (σ : Sg × Sg) (v2 : Int32) (v4 : Int32) : WX Γ (YL G cls ax 0 am A) q 11 354 [(0, .ref b), (1, .ref (ax 25)), (2, .int v2), (4, .int v4)] [] σ (f_L_law_b354 xs L K70 σ v2 v4) := by
  unfold f_L_law_b354
  refine X_aload_n hC 1 rfl dL_law_354 ?_
  refine X_iconst (v := 1) hC (by decide) dL_law_355 ?_
  refine L_XP (rest := []) hC (c_X4_count _ G cls ax hix σ.1 (1 : Int32)) (gV tw_338 tw_339 tw_340 tw_1 tw_341) rfl rfl okm_X4_count (by decide) dL_law_356 rfl (Nat.le_of_ble_eq_true rfl) (fun r48 => ?_)
  refine X_if_le hC 383 dL_law_359 (by decide) (fun h49 => ?_) (fun h49 => ?_)
  · exact X_sub [0, 1, 2] rfl (L_L_law_b383 G cls ax am A hix hC hR hend xs L hX hbl hbA hAn _ hg K70 hK70 σ v2)
  · refine X_aload_n hC 1 rfl dL_law_362 ?_
    refine X_iload hC 3 rfl dL_law_363 ?_
    refine X_iconst (v := 5) hC (by decide) dL_law_365 ?_
    refine X_ishr hC dL_law_366 ?_
    refine X_aload_n hC 1 rfl dL_law_367 ?_
    refine X_iconst (v := 1) hC (by decide) dL_law_368 ?_
    refine L_XP (rest := [.int (v4 >>> ((5 : Int32) &&& 31)), .ref (ax 25)]) hC (c_X4_count _ G cls ax hix σ.1 (1 : Int32)) (gV tw_338 tw_339 tw_340 tw_1 tw_341) rfl rfl okm_X4_count (by decide) dL_law_369 rfl (Nat.le_of_ble_eq_true rfl) (fun r51 => ?_)
    refine L_TP (rest := [.ref (ax 25)]) hC (c_L_low _ G cls ax hix σ.1 (v4 >>> ((5 : Int32) &&& 31)) r51) (gSt tw_358 tw_359 tw_0 tw_360) rfl okm_L_low (by decide) dL_law_372 rfl (Nat.le_of_ble_eq_true rfl) (fun r52 => ?_)
    refine L_TP (rest := []) hC (c_L_would _ G cls ax hix σ.1 r52) (gSt tw_409 tw_410 tw_0 tw_411) rfl okm_L_would (by decide) dL_law_375 rfl (Nat.le_of_ble_eq_true rfl) (fun r53 => ?_)
    refine X_if_ne hC 383 dL_law_378 (by decide) (fun h54 => ?_) (fun h54 => ?_)
    · exact X_sub [0, 1, 2] rfl (L_L_law_b383 G cls ax am A hix hC hR hend xs L hX hbl hbA hAn _ hg K70 hK70 σ v2)
    · refine X_iconst (v := 0) hC (by decide) dL_law_381 ?_
      exact X_none
set_option maxHeartbeats 4000000 in
set_option maxRecDepth 100000 in
theorem L_L_law_b275 {Γ : Cx} (G : va_G) (cls : Cls) (ax am : Nat → Nat) (A : Nat → Prop) (hix : inj 49 ax) (hC : CX Γ (YL G cls ax 0 am A) cL_law RL 11 (some .boolean) 10 410) (hR : Γ.1.2.2.2.1 = room_1) {q : Int32 → State → Prop} (hend : ∀ (C S : Nat), C ≤ 600000 → S ≤ 7302250 → ∀ (pc : Nat) (ls : List (Nat × Value)) (σ : Sg × Sg), decode cL_law pc = .ok (.ireturn, 1) → WX (setc Γ C S) (YL G cls ax 0 am A) q 11 pc ls [.int 1] σ (some 1)) {b : Nat} (xs : Nat → Int32) (L : Nat) (hX : va_X b L xs Γ.1.2.2.2.2.1 Γ.1.2.2.2.2.1.heap) (hbl : b < Γ.1.2.2.2.2.1.heap.size) (hbA : ¬ A b) (hAn : ∀ z, Γ.1.2.2.2.2.1.heap.size ≤ z → A z) (n : Nat) (hg : rmL Γ (n + 1)) (K70 : Sg × Sg → Int32 → Option (Int32)) (hK70 : ∀ (C S : Nat), C + 4 * n ≤ 600000 → S + 40 * n ≤ 7302250 → ∀ (σ : Sg × Sg) (v2 : Int32), WX (setc Γ C S) (YL G cls ax 0 am A) q 11 70 [(0, .ref b), (1, .ref (ax 25)), (2, .int v2)] [] σ (K70 σ v2)) (σ : Sg × Sg) (v2 : Int32) (v3 : Int32) (v4 : Int32) (v9 : Int32) : WX Γ (YL G cls ax 0 am A) q 11 275 [(0, .ref b), (1, .ref (ax 25)), (2, .int v2), (3, .int v3), (4, .int v4), (9, .int v9)] [] σ (f_L_law_b275 xs L K70 σ v2 v3 v4 v9) := by
  unfold f_L_law_b275
  refine X_iload hC 5 rfl dL_law_275 ?_
  refine X_if_eq hC 312 dL_law_277 (by decide) (fun h35 => ?_) (fun h35 => ?_)
  · refine X_iconst (v := 0) hC (by decide) dL_law_312 ?_
    exact X_none
  · refine X_aload_n hC 1 rfl dL_law_280 ?_
    refine L_TP (rest := []) hC (c_L_ranks _ G cls ax hix σ.1 ) (gSt tw_384 tw_385 tw_0 tw_386) rfl okm_L_ranks (by decide) dL_law_281 rfl (Nat.le_of_ble_eq_true rfl) (fun r36 => ?_)
    refine X_if_eq hC 312 dL_law_284 (by decide) (fun h37 => ?_) (fun h37 => ?_)
    · refine X_iconst (v := 0) hC (by decide) dL_law_312 ?_
      exact X_none
    · refine X_aload_n hC 1 rfl dL_law_287 ?_
      refine L_TP (rest := []) hC (c_L_waits _ G cls ax hix σ.1 ) (gSt tw_389 tw_390 tw_0 tw_391) rfl okm_L_waits (by decide) dL_law_288 rfl (Nat.le_of_ble_eq_true rfl) (fun r38 => ?_)
      refine X_if_eq hC 312 dL_law_291 (by decide) (fun h39 => ?_) (fun h39 => ?_)
      · refine X_iconst (v := 0) hC (by decide) dL_law_312 ?_
        exact X_none
      · refine X_aload_n hC 1 rfl dL_law_294 ?_
        refine L_PS (rest := []) hC (c_L_papers _ G cls ax hix σ.1 ) (gSt tw_396 tw_397 tw_0 tw_398) rfl okm_L_papers (by decide) (rmL_r hR hg) hAn dL_law_295 rfl (Nat.le_of_ble_eq_true rfl) (fun q40 => X_lts fun σ41 => X_lt fun r42 => ?_)
        have hC := hC.set (rmL_r hR hg).1 (rmL_r hR hg).2
        have hg := rmL_s hg
        refine X_if_eq hC 312 dL_law_298 (by decide) (fun h43 => ?_) (fun h43 => ?_)
        · refine X_iconst (v := 0) hC (by decide) dL_law_312 ?_
          exact X_none
        · refine X_aload_n hC 1 rfl dL_law_301 ?_
          refine X_bipush (v := 9) hC (by decide) dL_law_302 ?_
          refine L_XP (rest := []) hC (c_X4_count _ G cls ax hix σ41.1 (9 : Int32)) (gV tw_338 tw_339 tw_340 tw_1 tw_341) rfl rfl okm_X4_count (by decide) dL_law_304 rfl (Nat.le_of_ble_eq_true rfl) (fun r44 => ?_)
          refine X_ldc (v := -10000002) hC tw_388 dL_law_307 ?_
          refine X_icmp_eq hC 314 dL_law_309 (by decide) (fun h45 => ?_) (fun h45 => ?_)
          · refine X_aload_n hC 1 rfl dL_law_314 ?_
            refine X_iconst (v := 0) hC (by decide) dL_law_315 ?_
            refine L_XP (rest := []) hC (c_X4_count _ G cls ax hix σ41.1 (0 : Int32)) (gV tw_338 tw_339 tw_340 tw_1 tw_341) rfl rfl okm_X4_count (by decide) dL_law_316 rfl (Nat.le_of_ble_eq_true rfl) (fun r46 => ?_)
            refine X_if_le hC 354 dL_law_319 (by decide) (fun h47 => ?_) (fun h47 => ?_)
            · exact X_sub [0, 1, 2, 4] rfl (L_L_law_b354 G cls ax am A hix hC hR hend xs L hX hbl hbA hAn _ hg K70 hK70 σ41 v2 v4)
            · refine X_aload_n hC 1 rfl dL_law_322 ?_
              refine X_iload hC 4 rfl dL_law_323 ?_
              refine X_iconst (v := 3) hC (by decide) dL_law_325 ?_
              refine X_ishr hC dL_law_326 ?_
              refine X_aload_n hC 1 rfl dL_law_327 ?_
              refine X_iconst (v := 0) hC (by decide) dL_law_328 ?_
              refine L_XP (rest := [.int (v4 >>> ((3 : Int32) &&& 31)), .ref (ax 25)]) hC (c_X4_count _ G cls ax hix σ41.1 (0 : Int32)) (gV tw_338 tw_339 tw_340 tw_1 tw_341) rfl rfl okm_X4_count (by decide) dL_law_329 rfl (Nat.le_of_ble_eq_true rfl) (fun r55 => ?_)
              refine L_TP (rest := [.ref (ax 25)]) hC (c_L_low _ G cls ax hix σ41.1 (v4 >>> ((3 : Int32) &&& 31)) r55) (gSt tw_358 tw_359 tw_0 tw_360) rfl okm_L_low (by decide) dL_law_332 rfl (Nat.le_of_ble_eq_true rfl) (fun r56 => ?_)
              refine X_iload_n hC 3 rfl dL_law_335 ?_
              refine X_iconst (v := 2) hC (by decide) dL_law_336 ?_
              refine X_ishr hC dL_law_337 ?_
              refine X_sipush (v := 9000) hC (by decide) dL_law_338 ?_
              refine L_TP (rest := [.int r56, .ref (ax 25)]) hC (c_L_low _ G cls ax hix σ41.1 (v3 >>> ((2 : Int32) &&& 31)) (9000 : Int32)) (gSt tw_358 tw_359 tw_0 tw_360) rfl okm_L_low (by decide) dL_law_341 rfl (Nat.le_of_ble_eq_true rfl) (fun r57 => ?_)
              refine X_sipush (v := 1000) hC (by decide) dL_law_344 ?_
              refine X_isub hC dL_law_347 ?_
              refine L_TP (rest := []) hC (c_L_coincides _ G cls ax hix σ41.1 r56 (r57 - (1000 : Int32))) (gSt tw_406 tw_407 tw_0 tw_408) rfl okm_L_coincides (by decide) dL_law_348 rfl (Nat.le_of_ble_eq_true rfl) (fun r58 => ?_)
              refine X_if_eq hC 381 dL_law_351 (by decide) (fun h59 => ?_) (fun h59 => ?_)
              · refine X_iconst (v := 0) hC (by decide) dL_law_381 ?_
                exact X_none
              · exact X_sub [0, 1, 2, 4] rfl (L_L_law_b354 G cls ax am A hix hC hR hend xs L hX hbl hbA hAn _ hg K70 hK70 σ41 v2 v4)
          · refine X_iconst (v := 0) hC (by decide) dL_law_312 ?_
            exact X_none
set_option maxHeartbeats 4000000 in
set_option maxRecDepth 100000 in
theorem L_L_law_b273 {Γ : Cx} (G : va_G) (cls : Cls) (ax am : Nat → Nat) (A : Nat → Prop) (hix : inj 49 ax) (hC : CX Γ (YL G cls ax 0 am A) cL_law RL 11 (some .boolean) 10 410) (hR : Γ.1.2.2.2.1 = room_1) {q : Int32 → State → Prop} (hend : ∀ (C S : Nat), C ≤ 600000 → S ≤ 7302250 → ∀ (pc : Nat) (ls : List (Nat × Value)) (σ : Sg × Sg), decode cL_law pc = .ok (.ireturn, 1) → WX (setc Γ C S) (YL G cls ax 0 am A) q 11 pc ls [.int 1] σ (some 1)) {b : Nat} (xs : Nat → Int32) (L : Nat) (hX : va_X b L xs Γ.1.2.2.2.2.1 Γ.1.2.2.2.2.1.heap) (hbl : b < Γ.1.2.2.2.2.1.heap.size) (hbA : ¬ A b) (hAn : ∀ z, Γ.1.2.2.2.2.1.heap.size ≤ z → A z) (n : Nat) (hg : rmL Γ (n + 1)) (K70 : Sg × Sg → Int32 → Option (Int32)) (hK70 : ∀ (C S : Nat), C + 4 * n ≤ 600000 → S + 40 * n ≤ 7302250 → ∀ (σ : Sg × Sg) (v2 : Int32), WX (setc Γ C S) (YL G cls ax 0 am A) q 11 70 [(0, .ref b), (1, .ref (ax 25)), (2, .int v2)] [] σ (K70 σ v2)) (σ : Sg × Sg) (v2 : Int32) (v3 : Int32) (v4 : Int32) (w0 : Int32) : WX Γ (YL G cls ax 0 am A) q 11 273 [(0, .ref b), (1, .ref (ax 25)), (2, .int v2), (3, .int v3), (4, .int v4)] [.int w0] σ (f_L_law_b273 xs L K70 σ v2 v3 v4 w0) := by
  unfold f_L_law_b273
  refine X_istore (ls' := [(9, .int w0), (0, .ref b), (1, .ref (ax 25)), (2, .int v2), (3, .int v3), (4, .int v4)]) hC dL_law_273 (by decide) rfl ?_
  exact X_sub [1, 2, 3, 4, 5, 0] rfl (L_L_law_b275 G cls ax am A hix hC hR hend xs L hX hbl hbA hAn _ hg K70 hK70 σ v2 v3 v4 w0)
set_option maxHeartbeats 4000000 in
set_option maxRecDepth 100000 in
theorem L_L_law_b272 {Γ : Cx} (G : va_G) (cls : Cls) (ax am : Nat → Nat) (A : Nat → Prop) (hix : inj 49 ax) (hC : CX Γ (YL G cls ax 0 am A) cL_law RL 11 (some .boolean) 10 410) (hR : Γ.1.2.2.2.1 = room_1) {q : Int32 → State → Prop} (hend : ∀ (C S : Nat), C ≤ 600000 → S ≤ 7302250 → ∀ (pc : Nat) (ls : List (Nat × Value)) (σ : Sg × Sg), decode cL_law pc = .ok (.ireturn, 1) → WX (setc Γ C S) (YL G cls ax 0 am A) q 11 pc ls [.int 1] σ (some 1)) {b : Nat} (xs : Nat → Int32) (L : Nat) (hX : va_X b L xs Γ.1.2.2.2.2.1 Γ.1.2.2.2.2.1.heap) (hbl : b < Γ.1.2.2.2.2.1.heap.size) (hbA : ¬ A b) (hAn : ∀ z, Γ.1.2.2.2.2.1.heap.size ≤ z → A z) (n : Nat) (hg : rmL Γ (n + 1)) (K70 : Sg × Sg → Int32 → Option (Int32)) (hK70 : ∀ (C S : Nat), C + 4 * n ≤ 600000 → S + 40 * n ≤ 7302250 → ∀ (σ : Sg × Sg) (v2 : Int32), WX (setc Γ C S) (YL G cls ax 0 am A) q 11 70 [(0, .ref b), (1, .ref (ax 25)), (2, .int v2)] [] σ (K70 σ v2)) (σ : Sg × Sg) (v2 : Int32) (v3 : Int32) (v4 : Int32) : WX Γ (YL G cls ax 0 am A) q 11 272 [(0, .ref b), (1, .ref (ax 25)), (2, .int v2), (3, .int v3), (4, .int v4)] [] σ (f_L_law_b272 xs L K70 σ v2 v3 v4) := by
  unfold f_L_law_b272
  refine X_iconst (v := 0) hC (by decide) dL_law_272 ?_
  exact (L_L_law_b273 G cls ax am A hix hC hR hend xs L hX hbl hbA hAn _ hg K70 hK70 σ v2 v3 v4 (0 : Int32))
set_option maxHeartbeats 4000000 in
set_option maxRecDepth 100000 in
theorem L_L_law_b249 {Γ : Cx} (G : va_G) (cls : Cls) (ax am : Nat → Nat) (A : Nat → Prop) (hix : inj 49 ax) (hC : CX Γ (YL G cls ax 0 am A) cL_law RL 11 (some .boolean) 10 410) (hR : Γ.1.2.2.2.1 = room_1) {q : Int32 → State → Prop} (hend : ∀ (C S : Nat), C ≤ 600000 → S ≤ 7302250 → ∀ (pc : Nat) (ls : List (Nat × Value)) (σ : Sg × Sg), decode cL_law pc = .ok (.ireturn, 1) → WX (setc Γ C S) (YL G cls ax 0 am A) q 11 pc ls [.int 1] σ (some 1)) {b : Nat} (xs : Nat → Int32) (L : Nat) (hX : va_X b L xs Γ.1.2.2.2.2.1 Γ.1.2.2.2.2.1.heap) (hbl : b < Γ.1.2.2.2.2.1.heap.size) (hbA : ¬ A b) (hAn : ∀ z, Γ.1.2.2.2.2.1.heap.size ≤ z → A z) (n : Nat) (hg : rmL Γ (n + 1)) (K70 : Sg × Sg → Int32 → Option (Int32)) (hK70 : ∀ (C S : Nat), C + 4 * n ≤ 600000 → S + 40 * n ≤ 7302250 → ∀ (σ : Sg × Sg) (v2 : Int32), WX (setc Γ C S) (YL G cls ax 0 am A) q 11 70 [(0, .ref b), (1, .ref (ax 25)), (2, .int v2)] [] σ (K70 σ v2)) (σ : Sg × Sg) (v2 : Int32) (v3 : Int32) (v4 : Int32) (l7 : Int64) (v10 : Int32) : WX Γ (YL G cls ax 0 am A) q 11 249 [(0, .ref b), (1, .ref (ax 25)), (2, .int v2), (3, .int v3), (4, .int v4), (7, .long l7), (10, .int v10)] [] σ (f_L_law_b249 xs L K70 σ v2 v3 v4 l7 v10) := by
  unfold f_L_law_b249
  refine X_aload_n hC 1 rfl dL_law_249 ?_
  refine L_XS (rest := []) hC (c_X4_undo _ G cls ax hix σ.1 ) (gV tw_297 tw_298 tw_299 tw_1 tw_300) rfl rfl okm_X4_undo (by decide) dL_law_250 rfl (Nat.le_of_ble_eq_true rfl) (fun q63 => X_lts fun σ64 => X_lt fun r65 => ?_)
  refine X_iload hC 6 rfl dL_law_253 ?_
  refine X_icmp_ne hC 272 dL_law_255 (by decide) (fun h66 => ?_) (fun h66 => ?_)
  · exact X_sub [0, 1, 2, 3, 4] rfl (L_L_law_b272 G cls ax am A hix hC hR hend xs L hX hbl hbA hAn _ hg K70 hK70 σ64 v2 v3 v4)
  · refine X_aload_n hC 1 rfl dL_law_258 ?_
    refine L_TQ (rest := []) hC (c_L_digest _ G cls ax hix σ64.1 ) (gSt tw_362 tw_363 tw_0 tw_364) rfl okm_L_digest (by decide) dL_law_259 rfl (Nat.le_of_ble_eq_true rfl) (fun l67 => ?_)
    refine X_lload hC 5 rfl dL_law_262 ?_
    refine X_lcmp hC dL_law_264 ?_
    refine X_if_ne hC 272 dL_law_265 (by decide) (fun h68 => ?_) (fun h68 => ?_)
    · exact X_sub [0, 1, 2, 3, 4] rfl (L_L_law_b272 G cls ax am A hix hC hR hend xs L hX hbl hbA hAn _ hg K70 hK70 σ64 v2 v3 v4)
    · refine X_iconst (v := 1) hC (by decide) dL_law_268 ?_
      refine X_goto hC 273 dL_law_269 (by decide) ?_
      exact X_sub [0, 1, 2, 3, 4] rfl (L_L_law_b273 G cls ax am A hix hC hR hend xs L hX hbl hbA hAn _ hg K70 hK70 σ64 v2 v3 v4 (1 : Int32))
set_option maxHeartbeats 4000000 in
set_option maxRecDepth 100000 in
theorem L_L_law_b206 {Γ : Cx} (G : va_G) (cls : Cls) (ax am : Nat → Nat) (A : Nat → Prop) (hix : inj 49 ax) (hC : CX Γ (YL G cls ax 0 am A) cL_law RL 11 (some .boolean) 10 410) (hR : Γ.1.2.2.2.1 = room_1) {q : Int32 → State → Prop} (hend : ∀ (C S : Nat), C ≤ 600000 → S ≤ 7302250 → ∀ (pc : Nat) (ls : List (Nat × Value)) (σ : Sg × Sg), decode cL_law pc = .ok (.ireturn, 1) → WX (setc Γ C S) (YL G cls ax 0 am A) q 11 pc ls [.int 1] σ (some 1)) {b : Nat} (xs : Nat → Int32) (L : Nat) (hX : va_X b L xs Γ.1.2.2.2.2.1 Γ.1.2.2.2.2.1.heap) (hbl : b < Γ.1.2.2.2.2.1.heap.size) (hbA : ¬ A b) (hAn : ∀ z, Γ.1.2.2.2.2.1.heap.size ≤ z → A z) (n : Nat) (hg : rmL Γ (n + 1)) (K70 : Sg × Sg → Int32 → Option (Int32)) (hK70 : ∀ (C S : Nat), C + 4 * n ≤ 600000 → S + 40 * n ≤ 7302250 → ∀ (σ : Sg × Sg) (v2 : Int32), WX (setc Γ C S) (YL G cls ax 0 am A) q 11 70 [(0, .ref b), (1, .ref (ax 25)), (2, .int v2)] [] σ (K70 σ v2)) (σ : Sg × Sg) (v2 : Int32) (v3 : Int32) (v4 : Int32) (v6 : Int32) (l7 : Int64) (v9 : Int32) (w0 : Int32) : WX Γ (YL G cls ax 0 am A) q 11 206 [(0, .ref b), (1, .ref (ax 25)), (2, .int v2), (3, .int v3), (4, .int v4), (6, .int v6), (7, .long l7), (9, .int v9)] [.int w0] σ (f_L_law_b206 xs L K70 σ v2 v3 v4 v6 l7 v9 w0) := by
  unfold f_L_law_b206
  refine X_istore (ls' := [(10, .int w0), (0, .ref b), (1, .ref (ax 25)), (2, .int v2), (3, .int v3), (4, .int v4), (6, .int v6), (7, .long l7), (9, .int v9)]) hC dL_law_206 (by decide) rfl ?_
  refine X_iload hC 8 rfl dL_law_208 ?_
  refine X_if_eq hC 275 dL_law_210 (by decide) (fun h34 => ?_) (fun h34 => ?_)
  · exact X_sub [1, 2, 3, 4, 5, 8] rfl (L_L_law_b275 G cls ax am A hix hC hR hend xs L hX hbl hbA hAn _ hg K70 hK70 σ v2 v3 v4 v9)
  · refine X_iload hC 5 rfl dL_law_213 ?_
    refine X_sipush (v := 3072) hC (by decide) dL_law_215 ?_
    refine X_iand hC dL_law_218 ?_
    refine X_if_ne hC 275 dL_law_219 (by decide) (fun h60 => ?_) (fun h60 => ?_)
    · exact X_sub [1, 2, 3, 4, 5, 8] rfl (L_L_law_b275 G cls ax am A hix hC hR hend xs L hX hbl hbA hAn _ hg K70 hK70 σ v2 v3 v4 v9)
    · refine X_aload_n hC 2 rfl dL_law_222 ?_
      refine X_bipush (v := 7) hC (by decide) dL_law_223 ?_
      refine L_XP (rest := []) hC (c_X4_count _ G cls ax hix σ.1 (7 : Int32)) (gV tw_338 tw_339 tw_340 tw_1 tw_341) rfl rfl okm_X4_count (by decide) dL_law_225 rfl (Nat.le_of_ble_eq_true rfl) (fun r61 => ?_)
      refine X_iload hC 6 rfl dL_law_228 ?_
      refine X_icmp_ne hC 249 dL_law_230 (by decide) (fun h62 => ?_) (fun h62 => ?_)
      · exact X_sub [1, 2, 3, 4, 5, 7, 0] rfl (L_L_law_b249 G cls ax am A hix hC hR hend xs L hX hbl hbA hAn _ hg K70 hK70 σ v2 v3 v4 l7 w0)
      · refine X_iload hC 6 rfl dL_law_233 ?_
        refine X_iconst (v := 4) hC (by decide) dL_law_235 ?_
        refine X_icmp_ne hC 275 dL_law_236 (by decide) (fun h69 => ?_) (fun h69 => ?_)
        · exact X_sub [1, 2, 3, 4, 5, 8] rfl (L_L_law_b275 G cls ax am A hix hC hR hend xs L hX hbl hbA hAn _ hg K70 hK70 σ v2 v3 v4 v9)
        · refine X_aload_n hC 2 rfl dL_law_239 ?_
          refine L_TQ (rest := []) hC (c_L_digest _ G cls ax hix σ.1 ) (gSt tw_362 tw_363 tw_0 tw_364) rfl okm_L_digest (by decide) dL_law_240 rfl (Nat.le_of_ble_eq_true rfl) (fun l70 => ?_)
          refine X_lload hC 7 rfl dL_law_243 ?_
          refine X_lcmp hC dL_law_245 ?_
          refine X_if_eq hC 275 dL_law_246 (by decide) (fun h71 => ?_) (fun h71 => ?_)
          · exact X_sub [1, 2, 3, 4, 5, 8] rfl (L_L_law_b275 G cls ax am A hix hC hR hend xs L hX hbl hbA hAn _ hg K70 hK70 σ v2 v3 v4 v9)
          · exact X_sub [1, 2, 3, 4, 5, 7, 0] rfl (L_L_law_b249 G cls ax am A hix hC hR hend xs L hX hbl hbA hAn _ hg K70 hK70 σ v2 v3 v4 l7 w0)
set_option maxHeartbeats 4000000 in
set_option maxRecDepth 100000 in
theorem L_L_law_b194 {Γ : Cx} (G : va_G) (cls : Cls) (ax am : Nat → Nat) (A : Nat → Prop) (hix : inj 49 ax) (hC : CX Γ (YL G cls ax 0 am A) cL_law RL 11 (some .boolean) 10 410) (hR : Γ.1.2.2.2.1 = room_1) {q : Int32 → State → Prop} (hend : ∀ (C S : Nat), C ≤ 600000 → S ≤ 7302250 → ∀ (pc : Nat) (ls : List (Nat × Value)) (σ : Sg × Sg), decode cL_law pc = .ok (.ireturn, 1) → WX (setc Γ C S) (YL G cls ax 0 am A) q 11 pc ls [.int 1] σ (some 1)) {b : Nat} (xs : Nat → Int32) (L : Nat) (hX : va_X b L xs Γ.1.2.2.2.2.1 Γ.1.2.2.2.2.1.heap) (hbl : b < Γ.1.2.2.2.2.1.heap.size) (hbA : ¬ A b) (hAn : ∀ z, Γ.1.2.2.2.2.1.heap.size ≤ z → A z) (n : Nat) (hg : rmL Γ (n + 1)) (K70 : Sg × Sg → Int32 → Option (Int32)) (hK70 : ∀ (C S : Nat), C + 4 * n ≤ 600000 → S + 40 * n ≤ 7302250 → ∀ (σ : Sg × Sg) (v2 : Int32), WX (setc Γ C S) (YL G cls ax 0 am A) q 11 70 [(0, .ref b), (1, .ref (ax 25)), (2, .int v2)] [] σ (K70 σ v2)) (σ : Sg × Sg) (v2 : Int32) (v3 : Int32) (v4 : Int32) (v6 : Int32) (l7 : Int64) (v9 : Int32) : WX Γ (YL G cls ax 0 am A) q 11 194 [(0, .ref b), (1, .ref (ax 25)), (2, .int v2), (3, .int v3), (4, .int v4), (6, .int v6), (7, .long l7), (9, .int v9)] [] σ (f_L_law_b194 xs L K70 σ v2 v3 v4 v6 l7 v9) := by
  unfold f_L_law_b194
  refine X_iload hC 5 rfl dL_law_194 ?_
  refine X_iconst (v := 4) hC (by decide) dL_law_196 ?_
  refine X_icmp_ne hC 204 dL_law_197 (by decide) (fun h33 => ?_) (fun h33 => ?_)
  · refine X_iload hC 5 rfl dL_law_204 ?_
    exact (L_L_law_b206 G cls ax am A hix hC hR hend xs L hX hbl hbA hAn _ hg K70 hK70 σ v2 v3 v4 v6 l7 v9 v6)
  · refine X_iconst (v := 3) hC (by decide) dL_law_200 ?_
    refine X_goto hC 206 dL_law_201 (by decide) ?_
    exact (L_L_law_b206 G cls ax am A hix hC hR hend xs L hX hbl hbA hAn _ hg K70 hK70 σ v2 v3 v4 v6 l7 v9 (3 : Int32))
set_option maxHeartbeats 4000000 in
set_option maxRecDepth 100000 in
theorem L_L_law_b70 {Γ : Cx} (G : va_G) (cls : Cls) (ax am : Nat → Nat) (A : Nat → Prop) (hix : inj 49 ax) (hC : CX Γ (YL G cls ax 0 am A) cL_law RL 11 (some .boolean) 10 410) (hR : Γ.1.2.2.2.1 = room_1) {q : Int32 → State → Prop} (hend : ∀ (C S : Nat), C ≤ 600000 → S ≤ 7302250 → ∀ (pc : Nat) (ls : List (Nat × Value)) (σ : Sg × Sg), decode cL_law pc = .ok (.ireturn, 1) → WX (setc Γ C S) (YL G cls ax 0 am A) q 11 pc ls [.int 1] σ (some 1)) {b : Nat} (xs : Nat → Int32) (L : Nat) (hX : va_X b L xs Γ.1.2.2.2.2.1 Γ.1.2.2.2.2.1.heap) (hbl : b < Γ.1.2.2.2.2.1.heap.size) (hbA : ¬ A b) (hAn : ∀ z, Γ.1.2.2.2.2.1.heap.size ≤ z → A z) : ∀ (n C S : Nat), C + 4 * n ≤ 600000 → S + 40 * n ≤ 7302250 → ∀ (σ : Sg × Sg) (v2 : Int32), WX (setc Γ C S) (YL G cls ax 0 am A) q 11 70 [(0, .ref b), (1, .ref (ax 25)), (2, .int v2)] [] σ (f_L_law_b70 xs L  n σ v2) := by
  intro n
  induction n with
  | zero => intro C S hg1 hg2 σ v2; exact X_none
  | succ n ih =>
    intro C S hg1 hg2 σ v2
    rw [f_L_law_b70.eq_2]
    have hg : rmL (setc Γ C S) (n + 1) := ⟨hg1, hg2⟩
    have hC := hC.set (C := C) (S := S) (by rw [hR]; exact (rmL_e hg).1) (by rw [hR]; exact (rmL_e hg).2)
    have ih : ∀ (C S : Nat), C + 4 * n ≤ 600000 → S + 40 * n ≤ 7302250 → ∀ (σ : Sg × Sg) (v2 : Int32), WX (setc Γ C S) (YL G cls ax 0 am A) q 11 70 [(0, .ref b), (1, .ref (ax 25)), (2, .int v2)] [] σ (f_L_law_b70 xs L  n σ v2) := ih
    refine X_iload_n hC 2 rfl dL_law_70 ?_
    refine X_bipush (v := 24) hC (by decide) dL_law_71 ?_
    refine X_icmp_ge hC 389 dL_law_73 (by decide) (fun h21 => ?_) (fun h21 => ?_)
    · refine X_iconst (v := 1) hC (by decide) dL_law_389 ?_
      exact hend _ _ (rmL_e hg).1 (rmL_e hg).2 _ _ _ dL_law_390
    · refine X_aload_n hC 0 rfl dL_law_76 ?_
      refine X_iconst (v := 2) hC (by decide) dL_law_77 ?_
      refine X_iload_n hC 2 rfl dL_law_78 ?_
      refine X_imul hC dL_law_79 ?_
      refine L_cell (rest := []) hC hX hbl hbA (c_L_cell _ G cls b L xs σ.1 ((2 : Int32) * v2)) (gSt tw_354 tw_355 tw_0 tw_356) rfl okm_L_cell (by decide) dL_law_80 rfl (Nat.le_of_ble_eq_true rfl) (fun r22 => ?_)
      refine X_istore_n (ls' := [(3, .int r22), (0, .ref b), (1, .ref (ax 25)), (2, .int v2)]) hC dL_law_83 (by decide) rfl ?_
      refine X_aload_n hC 1 rfl dL_law_84 ?_
      refine X_iconst (v := 2) hC (by decide) dL_law_85 ?_
      refine X_iload_n hC 3 rfl dL_law_86 ?_
      refine X_imul hC dL_law_87 ?_
      refine X_iconst (v := 1) hC (by decide) dL_law_88 ?_
      refine X_iadd hC dL_law_89 ?_
      refine L_cell (rest := []) hC hX hbl hbA (c_L_cell _ G cls b L xs σ.1 (((2 : Int32) * v2) + (1 : Int32))) (gSt tw_354 tw_355 tw_0 tw_356) rfl okm_L_cell (by decide) dL_law_90 rfl (Nat.le_of_ble_eq_true rfl) (fun r23 => ?_)
      refine X_istore (ls' := [(4, .int r23), (3, .int r22), (0, .ref b), (1, .ref (ax 25)), (2, .int v2)]) hC dL_law_93 (by decide) rfl ?_
      refine X_iload_n hC 1 rfl dL_law_95 ?_
      refine X_bipush (v := 9) hC (by decide) dL_law_96 ?_
      refine X_ishr hC dL_law_98 ?_
      refine X_bipush (v := 16) hC (by decide) dL_law_99 ?_
      refine L_TP (rest := []) hC (c_L_low _ G cls ax hix σ.1 (r22 >>> ((9 : Int32) &&& 31)) (16 : Int32)) (gSt tw_358 tw_359 tw_0 tw_360) rfl okm_L_low (by decide) dL_law_101 rfl (Nat.le_of_ble_eq_true rfl) (fun r24 => ?_)
      refine X_istore (ls' := [(5, .int r24), (4, .int r23), (3, .int r22), (0, .ref b), (1, .ref (ax 25)), (2, .int v2)]) hC dL_law_104 (by decide) rfl ?_
      refine X_aload_n hC 4 rfl dL_law_106 ?_
      refine X_bipush (v := 7) hC (by decide) dL_law_107 ?_
      refine L_XP (rest := []) hC (c_X4_count _ G cls ax hix σ.1 (7 : Int32)) (gV tw_338 tw_339 tw_340 tw_1 tw_341) rfl rfl okm_X4_count (by decide) dL_law_109 rfl (Nat.le_of_ble_eq_true rfl) (fun r25 => ?_)
      refine X_istore (ls' := [(6, .int r25), (5, .int r24), (4, .int r23), (3, .int r22), (0, .ref b), (1, .ref (ax 25)), (2, .int v2)]) hC dL_law_112 (by decide) rfl ?_
      refine X_aload_n hC 5 rfl dL_law_114 ?_
      refine L_TQ (rest := []) hC (c_L_digest _ G cls ax hix σ.1 ) (gSt tw_362 tw_363 tw_0 tw_364) rfl okm_L_digest (by decide) dL_law_115 rfl (Nat.le_of_ble_eq_true rfl) (fun l26 => ?_)
      refine X_lstore (ls' := [(7, .long l26), (6, .int r25), (5, .int r24), (4, .int r23), (3, .int r22), (0, .ref b), (1, .ref (ax 25)), (2, .int v2)]) hC dL_law_118 (by decide) rfl ?_
      refine X_iconst (v := 1) hC (by decide) dL_law_120 ?_
      refine X_istore (ls' := [(9, .int (1 : Int32)), (7, .long l26), (6, .int r25), (5, .int r24), (4, .int r23), (3, .int r22), (0, .ref b), (1, .ref (ax 25)), (2, .int v2)]) hC dL_law_121 (by decide) rfl ?_
      refine X_iload hC 3 rfl dL_law_123 ?_
      refine X_iconst (v := 4) hC (by decide) dL_law_125 ?_
      refine X_icmp_ge hC 143 dL_law_126 (by decide) (fun h27 => ?_) (fun h27 => ?_)
      · refine X_iload hC 3 rfl dL_law_143 ?_
        refine X_bipush (v := 7) hC (by decide) dL_law_145 ?_
        refine X_icmp_ge hC 164 dL_law_147 (by decide) (fun h28 => ?_) (fun h28 => ?_)
        · refine X_iload hC 3 rfl dL_law_164 ?_
          refine X_bipush (v := 11) hC (by decide) dL_law_166 ?_
          refine X_icmp_ge hC 183 dL_law_168 (by decide) (fun h29 => ?_) (fun h29 => ?_)
          · refine X_aload_n hC 7 rfl dL_law_183 ?_
            refine X_iload hC 3 rfl dL_law_184 ?_
            refine X_iload_n hC 5 rfl dL_law_186 ?_
            refine X_iload hC 4 rfl dL_law_187 ?_
            refine L_TS (rest := []) hC (c_L_appeals _ G cls ax hix σ.1 r24 r22 r23) (gSt tw_494 tw_495 tw_0 tw_496) rfl okm_L_appeals (by decide) dL_law_189 rfl (Nat.le_of_ble_eq_true rfl) (fun q30 => X_lts fun σ31 => X_lt fun r32 => ?_)
            refine X_istore (ls' := [(9, .int r32), (7, .long l26), (6, .int r25), (5, .int r24), (4, .int r23), (3, .int r22), (0, .ref b), (1, .ref (ax 25)), (2, .int v2)]) hC dL_law_192 (by decide) rfl ?_
            exact X_sub [6, 7, 8, 5, 4, 2, 1, 0] rfl (L_L_law_b194 G cls ax am A hix hC hR hend xs L hX hbl hbA hAn _ hg (f_L_law_b70 xs L  n) ih σ31 v2 r22 r23 r25 l26 r32)
          · refine X_aload_n hC 7 rfl dL_law_171 ?_
            refine X_iload_n hC 5 rfl dL_law_172 ?_
            refine X_iload hC 4 rfl dL_law_173 ?_
            refine L_TS (rest := []) hC (c_L_writes _ G cls ax hix σ.1 r22 r23) (gSt tw_487 tw_488 tw_0 tw_489) rfl okm_L_writes (by decide) dL_law_175 rfl (Nat.le_of_ble_eq_true rfl) (fun q72 => X_lts fun σ73 => X_lt fun r74 => ?_)
            refine X_istore (ls' := [(9, .int r74), (7, .long l26), (6, .int r25), (5, .int r24), (4, .int r23), (3, .int r22), (0, .ref b), (1, .ref (ax 25)), (2, .int v2)]) hC dL_law_178 (by decide) rfl ?_
            refine X_goto hC 194 dL_law_180 (by decide) ?_
            exact X_sub [6, 7, 8, 5, 4, 2, 1, 0] rfl (L_L_law_b194 G cls ax am A hix hC hR hend xs L hX hbl hbA hAn _ hg (f_L_law_b70 xs L  n) ih σ73 v2 r22 r23 r25 l26 r74)
        · refine X_aload_n hC 7 rfl dL_law_150 ?_
          refine X_iload hC 3 rfl dL_law_151 ?_
          refine X_iload_n hC 5 rfl dL_law_153 ?_
          refine X_iload hC 4 rfl dL_law_154 ?_
          refine L_TS (rest := []) hC (c_L_pupils _ G cls ax hix σ.1 r24 r22 r23) (gSt tw_463 tw_464 tw_0 tw_465) rfl okm_L_pupils (by decide) dL_law_156 rfl (Nat.le_of_ble_eq_true rfl) (fun q75 => X_lts fun σ76 => X_lt fun r77 => ?_)
          refine X_istore (ls' := [(9, .int r77), (7, .long l26), (6, .int r25), (5, .int r24), (4, .int r23), (3, .int r22), (0, .ref b), (1, .ref (ax 25)), (2, .int v2)]) hC dL_law_159 (by decide) rfl ?_
          refine X_goto hC 194 dL_law_161 (by decide) ?_
          exact X_sub [6, 7, 8, 5, 4, 2, 1, 0] rfl (L_L_law_b194 G cls ax am A hix hC hR hend xs L hX hbl hbA hAn _ hg (f_L_law_b70 xs L  n) ih σ76 v2 r22 r23 r25 l26 r77)
      · refine X_aload_n hC 7 rfl dL_law_129 ?_
        refine X_iload hC 3 rfl dL_law_130 ?_
        refine X_iload_n hC 5 rfl dL_law_132 ?_
        refine X_iload hC 4 rfl dL_law_133 ?_
        refine L_TS (rest := []) hC (c_L_tools _ G cls ax hix σ.1 r24 r22 r23) (gSt tw_430 tw_431 tw_0 tw_432) rfl okm_L_tools (by decide) dL_law_135 rfl (Nat.le_of_ble_eq_true rfl) (fun q78 => X_lts fun σ79 => X_lt fun r80 => ?_)
        refine X_istore (ls' := [(9, .int r80), (7, .long l26), (6, .int r25), (5, .int r24), (4, .int r23), (3, .int r22), (0, .ref b), (1, .ref (ax 25)), (2, .int v2)]) hC dL_law_138 (by decide) rfl ?_
        refine X_goto hC 194 dL_law_140 (by decide) ?_
        exact X_sub [6, 7, 8, 5, 4, 2, 1, 0] rfl (L_L_law_b194 G cls ax am A hix hC hR hend xs L hX hbl hbA hAn _ hg (f_L_law_b70 xs L  n) ih σ79 v2 r22 r23 r25 l26 r80)
set_option maxHeartbeats 4000000 in
set_option maxRecDepth 100000 in
theorem L_L_law {Γ : Cx} (G : va_G) (cls : Cls) (ax am : Nat → Nat) (A : Nat → Prop) (hix : inj 49 ax) (hC : CX Γ (YL G cls ax 0 am A) cL_law RL 11 (some .boolean) 10 410) (hR : Γ.1.2.2.2.1 = room_1) {q : Int32 → State → Prop} (hend : ∀ (C S : Nat), C ≤ 600000 → S ≤ 7302250 → ∀ (pc : Nat) (ls : List (Nat × Value)) (σ : Sg × Sg), decode cL_law pc = .ok (.ireturn, 1) → WX (setc Γ C S) (YL G cls ax 0 am A) q 11 pc ls [.int 1] σ (some 1)) {b : Nat} (xs : Nat → Int32) (L : Nat) (hX : va_X b L xs Γ.1.2.2.2.2.1 Γ.1.2.2.2.2.1.heap) (hbl : b < Γ.1.2.2.2.2.1.heap.size) (hbA : ¬ A b) (hAn : ∀ z, Γ.1.2.2.2.2.1.heap.size ≤ z → A z) (hg : rmL Γ fuel) (σ : Sg × Sg) : WX Γ (YL G cls ax 0 am A) q 11 8 [(0, .ref b), (1, .ref (ax 25))] [] σ (g_L_law xs L σ) := by
  unfold g_L_law
  refine X_aload_n hC 1 rfl dL_law_8 ?_
  refine L_XS (rest := []) hC (c_X4_undo _ G cls ax hix σ.1 ) (gV tw_297 tw_298 tw_299 tw_1 tw_300) rfl rfl okm_X4_undo (by decide) dL_law_9 rfl (Nat.le_of_ble_eq_true rfl) (fun q1 => X_lts fun σ2 => X_lt fun r3 => ?_)
  refine X_ldc (v := -10000005) hC tw_387 dL_law_12 ?_
  refine X_icmp_ne hC 66 dL_law_14 (by decide) (fun h4 => ?_) (fun h4 => ?_)
  · refine X_iconst (v := 0) hC (by decide) dL_law_66 ?_
    exact X_none
  · refine X_aload_n hC 1 rfl dL_law_17 ?_
    refine L_XS (rest := []) hC (c_X4_restore _ G cls ax hix σ2.1 ) (gV tw_309 tw_310 tw_311 tw_1 tw_312) rfl rfl okm_X4_restore (by decide) dL_law_18 rfl (Nat.le_of_ble_eq_true rfl) (fun q5 => X_lts fun σ6 => X_lt fun r7 => ?_)
    refine X_ldc (v := -10000005) hC tw_387 dL_law_21 ?_
    refine X_icmp_ne hC 66 dL_law_23 (by decide) (fun h8 => ?_) (fun h8 => ?_)
    · refine X_iconst (v := 0) hC (by decide) dL_law_66 ?_
      exact X_none
    · refine X_aload_n hC 1 rfl dL_law_26 ?_
      refine L_XS (rest := []) hC (c_X4_decide _ G cls ax hix σ6.1 ) (gV tw_116 tw_117 tw_118 tw_1 tw_119) rfl rfl okm_X4_decide (by decide) dL_law_27 rfl (Nat.le_of_ble_eq_true rfl) (fun q9 => X_lts fun σ10 => X_lt fun r11 => ?_)
      refine X_ldc (v := -10000005) hC tw_387 dL_law_30 ?_
      refine X_icmp_ne hC 66 dL_law_32 (by decide) (fun h12 => ?_) (fun h12 => ?_)
      · refine X_iconst (v := 0) hC (by decide) dL_law_66 ?_
        exact X_none
      · refine X_aload_n hC 1 rfl dL_law_35 ?_
        refine L_XS (rest := []) hC (c_X4_readPapers _ G cls ax hix σ10.1 ) (gV tw_190 tw_191 tw_192 tw_1 tw_193) rfl rfl okm_X4_readPapers (by decide) dL_law_36 rfl (Nat.le_of_ble_eq_true rfl) (fun q13 => X_lts fun σ14 => X_lt fun r15 => ?_)
        refine X_bipush (v := -100) hC (by decide) dL_law_39 ?_
        refine X_icmp_ne hC 66 dL_law_41 (by decide) (fun h16 => ?_) (fun h16 => ?_)
        · refine X_iconst (v := 0) hC (by decide) dL_law_66 ?_
          exact X_none
        · refine X_aload_n hC 1 rfl dL_law_44 ?_
          refine X_iconst (v := 0) hC (by decide) dL_law_45 ?_
          refine L_XP (rest := []) hC (c_X4_ranked _ G cls ax hix σ14.1 (0 : Int32)) (gV tw_326 tw_327 tw_328 tw_1 tw_329) rfl rfl okm_X4_ranked (by decide) dL_law_46 rfl (Nat.le_of_ble_eq_true rfl) (fun r17 => ?_)
          refine X_ldc (v := -10000005) hC tw_387 dL_law_49 ?_
          refine X_icmp_ne hC 66 dL_law_51 (by decide) (fun h18 => ?_) (fun h18 => ?_)
          · refine X_iconst (v := 0) hC (by decide) dL_law_66 ?_
            exact X_none
          · refine X_aload_n hC 1 rfl dL_law_54 ?_
            refine X_iconst (v := 0) hC (by decide) dL_law_55 ?_
            refine X_iconst (v := 0) hC (by decide) dL_law_56 ?_
            refine X_iconst (v := 0) hC (by decide) dL_law_57 ?_
            refine L_XP (rest := []) hC (c_X4_coincidence _ G cls ax hix σ14.1 (0 : Int32) (0 : Int32) (0 : Int32)) (gV tw_314 tw_315 tw_316 tw_1 tw_317) rfl rfl okm_X4_coincidence (by decide) dL_law_58 rfl (Nat.le_of_ble_eq_true rfl) (fun r19 => ?_)
            refine X_ldc (v := -10000001) hC tw_405 dL_law_61 ?_
            refine X_icmp_eq hC 68 dL_law_63 (by decide) (fun h20 => ?_) (fun h20 => ?_)
            · refine X_iconst (v := 0) hC (by decide) dL_law_68 ?_
              refine X_istore_n (ls' := [(2, .int (0 : Int32)), (0, .ref b), (1, .ref (ax 25))]) hC dL_law_69 (by decide) rfl ?_
              exact X_sub [1, 2, 0] rfl (L_L_law_b70 G cls ax am A hix hC hR hend xs L hX hbl hbA hAn fuel _ _ hg.1 hg.2 σ14 (0 : Int32))
            · refine X_iconst (v := 0) hC (by decide) dL_law_66 ?_
              exact X_none
